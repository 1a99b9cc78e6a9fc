/-! The reference: the lines. -/
theorem wr_f {I : hI} {x : Int32} {a i : Nat} (h : ¬ (a = 110 ∧ (i = 4 ∨ i = 5))) : m_wr I x a i = I a i := by
  unfold m_wr am_u
  rw [if_neg (by omega), if_neg (by omega)]
theorem num_f {I : hI} {lo hi : Int32} {a i : Nat} (h : ¬ (a = 110 ∧ 4 ≤ i ∧ i ≤ 11 ∧ i ≠ 6)) : (m_num I lo hi).2 a i = I a i := by
  unfold m_num
  repeat' split
  · dsimp only; rw [m_tok_f (by omega)]; unfold am_u; rw [if_neg (by omega)]
  · exact wr_f (by omega)
  · exact wr_f (by omega)
theorem new_f {I : hI} {A x n a i : Nat} (h : ¬ (a = 110 ∧ 4 ≤ i ∧ i ≤ 11 ∧ i ≠ 6)) (h2 : a ≠ A) : (m_new I A x n).2 a i = I a i := by
  unfold m_new
  repeat' split
  · dsimp only; rw [m_tok_f (by omega)]; exact am_u_na h2
  · exact wr_f (by omega)
  · exact wr_f (by omega)
theorem the_f {I : hI} {A x n a i : Nat} (h : ¬ (a = 110 ∧ 4 ≤ i ∧ i ≤ 11 ∧ i ≠ 6)) : (m_the I A x n).2 a i = I a i := by
  unfold m_the
  repeat' split
  · exact wr_f (by omega)
  · show am_u (m_tok I) 110 11 _ a i = _
    unfold am_u
    rw [if_neg (by omega), m_tok_f (by omega)]
  · exact wr_f (by omega)
theorem pv_num {I : hI} {f : Nat → Int32} {st : Nat} {lo hi : Int32} (g : pv I f st) : pv (m_num I lo hi).2 f st := by
  unfold m_num
  repeat' split
  · exact pv_tok (pv_u (by omega) (by omega) g)
  · exact pv_wr g
  · exact pv_wr g
theorem pv_new {I : hI} {f : Nat → Int32} {st A x n : Nat} (hA : A ≠ 110 ∧ A ≠ 111 ∧ A ≠ 112) (g : pv I f st) : pv (m_new I A x n).2 f st := by
  unfold m_new
  repeat' split
  · exact pv_tok (pv_u (by omega) (by omega) g)
  · exact pv_wr g
  · exact pv_wr g
theorem pv_the {I : hI} {f : Nat → Int32} {st A x n : Nat} (g : pv I f st) : pv (m_the I A x n).2 f st := by
  unfold m_the
  repeat' split
  · exact pv_wr g
  · exact pv_u (by omega) (by omega) (pv_tok g)
  · exact pv_wr g
theorem m_fnd_ok (f : Nat → Int32) (x : Int32) : ∀ j r, r + j ≤ 100 → m_fnd f x j r < 0 ∨ okn (m_fnd f x j r) (r + j) := by
  intro j
  induction j with
  | zero => intro r _; exact Or.inl (show Int32.ofInt (-1) < 0 by decide)
  | succ j ih =>
    intro r h
    rw [m_fnd_s]
    split
    · exact Or.inr (okn_of (by omega) (by omega))
    · have := ih (r + 1) (by omega)
      rw [show r + (j + 1) = r + 1 + j by omega]
      exact this
theorem the_ok {I : hI} {A x n : Nat} (hn : n ≤ 100) (h : ¬ (m_the I A x n).1 = 0) : okn ((m_the I A x n).2 110 11) n := by
  unfold m_the at h ⊢
  split at h
  · rename_i c1
    rw [if_pos c1]
    split at h
    · exact absurd rfl h
    · rename_i c2
      rw [if_neg c2]
      show okn (am_u (m_tok I) 110 11 _ 110 11) n
      rw [am_u_at]
      have := (m_fnd_ok (fun i => I A (x + i)) (I 110 9) n 0 (by omega)).resolve_left c2
      rwa [Nat.zero_add] at this
  · exact absurd rfl h
def rc (I : hI) (a b c d K : Nat) : Prop := (I 110 17 = Int32.ofNat a ∧ a ≤ 6) ∧ (I 110 18 = Int32.ofNat b ∧ b ≤ 8) ∧ (I 110 19 = Int32.ofNat c ∧ c ≤ 5) ∧ (I 110 20 = Int32.ofNat d ∧ d ≤ 10) ∧ I 110 21 = Int32.ofNat K ∧ I 110 48 = Int32.ofNat K ∧ K ≤ 64
def ml1 (I : hI) (a : Nat) : Int32 × hI := m_new (m_tok I) 115 6 a
def ml2 (I : hI) (a : Nat) : Int32 × hI := m_num (ml1 I a).2 (Int32.ofNat 0) (Int32.ofNat 9)
def ml3 (I : hI) (a : Nat) : hI := am_u (ml2 I a).2 116 (6 + a) ((ml2 I a).2 110 11)
def ml4 (I : hI) (a : Nat) : Int32 × hI := m_num (ml3 I a) (Int32.ofNat 0) (Int32.ofNat 9)
def ml5 (I : hI) (a : Nat) : hI := am_u (am_u (ml4 I a).2 117 (6 + a) ((ml4 I a).2 110 11)) 110 17 (Int32.ofNat (a + 1))
def m_mkL (I : hI) (a : Nat) : Int32 × hI := if a = 6 then (0, m_wr I (Int32.ofNat 2)) else if (ml1 I a).1 = 0 then (0, (ml1 I a).2) else if (ml2 I a).1 = 0 then (0, (ml2 I a).2) else if (ml4 I a).1 = 0 then (0, (ml4 I a).2) else (1, ml5 I a)
theorem c_makerLine {k : Nat} {I : hI} {J : hJ} {R : hR} {f : Nat → Int32} {st : Nat} (g : pv I f st) {a : Nat} (ha : a ≤ 6) (h17 : I 110 17 = Int32.ofNat a) (hk : 4 ≤ k) : ct k 186 [.ref 110] I J R (some (.int (m_mkL I a).1)) ((m_mkL I a).2) J R := by
  obtain ⟨k, rfl⟩ : ∃ k', k = k' + 1 := ⟨k - 1, by omega⟩
  refine ct_of (q := am_m186) (o := 12) (rt := (some .boolean)) (co := am_c186) (L := [_, _]) rfl rfl rfl rfl rfl rfl ?_
  refine w_aload_n rfl rfl rfl ?_
  refine w_gf (t := .int 0) (v := .int _) rfl rfl rfl sp110 rfl (congrArg Value.int h17) rfl ?_
  refine w_bipush (x := Int32.ofNat 6) rfl rfl (by decide) ?_
  refine w_ic_neN (t := 15) (f := 9) rfl rfl rfl (by omega) (by omega) (fun c6 => ?_) (fun c6 => ?_)
  · refine w_aload_n rfl rfl rfl ?_
    refine w_cv (q := am_m174) (as := []) (rest := []) (st' := []) rfl rfl rfl rfl rfl rfl sp110 rfl rfl rfl rfl (c_tok g (by omega)) rfl rfl ?_
    refine w_aload_n rfl rfl rfl ?_
    refine w_aload_n rfl rfl rfl ?_
    refine w_gf (t := .ref (115)) (v := .ref (115)) rfl rfl rfl sp110 rfl rfl rfl ?_
    refine w_bipush (x := Int32.ofNat 6) rfl rfl (by decide) ?_
    refine w_aload_n rfl rfl rfl ?_
    refine w_gf (t := .int 0) (v := .int _) rfl rfl rfl sp110 rfl (congrArg Value.int ((m_tok_f (by omega)).trans h17)) rfl ?_
    refine w_cv (q := am_m184) (as := [_, _, _]) (rest := []) (st' := [_]) rfl rfl rfl rfl rfl rfl sp110 rfl rfl rfl rfl (c_newName (pv_tok g) sp115 (by decide) (by decide) (by omega) (by omega)) rfl rfl ?_
    change wz _ _ _ _ _ _ (Value.int (ml1 I a).1 :: []) (ml1 I a).2 _ _ _
    have e1 : (ml1 I a).2 110 17 = Int32.ofNat a := by unfold ml1; rw [(new_f (I := m_tok I) (A := 115) (x := 6) (n := a) (a := 110) (i := 17) (by omega) (by omega))]; exact ((m_tok_f (I := I) (a := 110) (i := 17) (by omega)).trans h17)
    have v1 : pv (ml1 I a).2 f st := pv_new (by decide) (pv_tok g)
    refine w_if_ne (t := 38) (f := 36) rfl rfl rfl (fun c33 => ?_) (fun c33 => ?_)
    · refine w_bipush (x := Int32.ofNat 6) rfl rfl (by decide) ?_
      refine w_aload_n rfl rfl rfl ?_
      refine w_gf (t := .int 0) (v := .int _) rfl rfl rfl sp110 rfl (congrArg Value.int e1) rfl ?_
      refine w_iaddN rfl rfl ?_
      refine w_istore_n (L' := [_, _]) rfl rfl rfl ?_
      refine w_aload_n rfl rfl rfl ?_
      refine w_iconst (x := Int32.ofNat 0) rfl rfl (by decide) ?_
      refine w_bipush (x := Int32.ofNat 9) rfl rfl (by decide) ?_
      refine w_cv (q := am_m179) (as := [_, _]) (rest := []) (st' := [_]) rfl rfl rfl rfl rfl rfl sp110 rfl rfl rfl rfl (c_number v1 (by omega)) rfl rfl ?_
      change wz _ _ _ _ _ _ (Value.int (ml2 I a).1 :: []) (ml2 I a).2 _ _ _
      have e2 : (ml2 I a).2 110 17 = Int32.ofNat a := by unfold ml2; rw [(num_f (I := (ml1 I a).2) (lo := Int32.ofNat 0) (hi := Int32.ofNat 9) (a := 110) (i := 17) (by omega))]; exact e1
      have v2 : pv (ml2 I a).2 f st := pv_num v1
      refine w_if_ne (t := 58) (f := 56) rfl rfl rfl (fun c53 => ?_) (fun c53 => ?_)
      · refine w_aload_n rfl rfl rfl ?_
        refine w_gf (t := .ref (116)) (v := .ref (116)) rfl rfl rfl sp110 rfl rfl rfl ?_
        refine w_iload_n rfl rfl rfl ?_
        refine w_aload_n rfl rfl rfl ?_
        refine w_gf (t := .int 0) (v := .int _) rfl rfl rfl sp110 rfl (congrArg Value.int rfl) rfl ?_
        refine w_iastore rfl rfl sp116 rfl ⟨by omega, by omega⟩ ?_
        change wz _ _ _ _ _ _ _ (ml3 I a) _ _ _
        have e3 : ml3 I a 110 17 = Int32.ofNat a := by unfold ml3; rw [(am_u_na (I := (ml2 I a).2) (a := 116) (k := 6 + a) (b := 110) (j := 17) (by decide))]; exact e2
        have v3 : pv (ml3 I a) f st := pv_u (by omega) (by omega) v2
        refine w_aload_n rfl rfl rfl ?_
        refine w_iconst (x := Int32.ofNat 0) rfl rfl (by decide) ?_
        refine w_bipush (x := Int32.ofNat 9) rfl rfl (by decide) ?_
        refine w_cv (q := am_m179) (as := [_, _]) (rest := []) (st' := [_]) rfl rfl rfl rfl rfl rfl sp110 rfl rfl rfl rfl (c_number v3 (by omega)) rfl rfl ?_
        change wz _ _ _ _ _ _ (Value.int (ml4 I a).1 :: []) (ml4 I a).2 _ _ _
        have e4 : (ml4 I a).2 110 17 = Int32.ofNat a := by unfold ml4; rw [(num_f (I := ml3 I a) (lo := Int32.ofNat 0) (hi := Int32.ofNat 9) (a := 110) (i := 17) (by omega))]; exact e3
        refine w_if_ne (t := 80) (f := 78) rfl rfl rfl (fun c75 => ?_) (fun c75 => ?_)
        · refine w_aload_n rfl rfl rfl ?_
          refine w_gf (t := .ref (117)) (v := .ref (117)) rfl rfl rfl sp110 rfl rfl rfl ?_
          refine w_iload_n rfl rfl rfl ?_
          refine w_aload_n rfl rfl rfl ?_
          refine w_gf (t := .int 0) (v := .int _) rfl rfl rfl sp110 rfl (congrArg Value.int rfl) rfl ?_
          refine w_iastore rfl rfl sp117 rfl ⟨by omega, by omega⟩ ?_
          refine w_aload_n rfl rfl rfl ?_
          refine w_dup rfl rfl rfl ?_
          refine w_gf (t := .int 0) (v := .int _) rfl rfl rfl sp110 rfl (congrArg Value.int ((am_u_na (I := (ml4 I a).2) (a := 117) (k := 6 + a) (b := 110) (j := 17) (by decide)).trans e4)) rfl ?_
          refine w_iconst (x := Int32.ofNat 1) rfl rfl (by decide) ?_
          refine w_iaddN rfl rfl ?_
          refine w_pf rfl rfl rfl sp110 rfl rfl rfl ?_
          refine w_iconst (x := Int32.ofNat 1) rfl rfl (by decide) ?_
          have hE : m_mkL I a = (1, am_u (am_u (ml4 I a).2 117 (6 + a) ((ml4 I a).2 110 11)) 110 17 (Int32.ofNat (a + 1))) := by unfold m_mkL; rw [if_neg c6, if_neg c33, if_neg c53, if_neg c75]; unfold ml5; rfl
          exact w_bret rfl (by decide) (by rw [hE] <;> rfl) (by rw [hE]) rfl rfl
        · refine w_iconst (x := Int32.ofNat 0) rfl rfl (by decide) ?_
          have hE : m_mkL I a = (0, (ml4 I a).2) := by unfold m_mkL; rw [if_neg c6, if_neg c33, if_neg c53, if_pos c75]
          exact w_bret rfl (by decide) (by rw [hE] <;> rfl) (by rw [hE]) rfl rfl
      · refine w_iconst (x := Int32.ofNat 0) rfl rfl (by decide) ?_
        have hE : m_mkL I a = (0, (ml2 I a).2) := by unfold m_mkL; rw [if_neg c6, if_neg c33, if_pos c53]
        exact w_bret rfl (by decide) (by rw [hE] <;> rfl) (by rw [hE]) rfl rfl
    · refine w_iconst (x := Int32.ofNat 0) rfl rfl (by decide) ?_
      have hE : m_mkL I a = (0, (ml1 I a).2) := by unfold m_mkL; rw [if_neg c6, if_pos c33]
      exact w_bret rfl (by decide) (by rw [hE] <;> rfl) (by rw [hE]) rfl rfl
  · refine w_aload_n rfl rfl rfl ?_
    refine w_iconst (x := Int32.ofNat 2) rfl rfl (by decide) ?_
    refine w_cv (q := am_m170) (as := [_]) (rest := []) (st' := [_]) rfl rfl rfl rfl rfl rfl sp110 rfl rfl rfl rfl (c_wrong (by omega)) rfl rfl ?_
    have hE : m_mkL I a = (0, m_wr I (Int32.ofNat 2)) := by unfold m_mkL; rw [if_pos c6]
    exact w_bret rfl (by decide) (by rw [hE] <;> rfl) (by rw [hE]) rfl rfl
def rl1 (I : hI) (b : Nat) : Int32 × hI := m_new (m_tok I) 118 8 b
def rl2 (I : hI) (a b : Nat) : Int32 × hI := m_the (rl1 I b).2 115 6 a
def rl3 (I : hI) (a b : Nat) : hI := am_u (rl2 I a b).2 119 (8 + b) ((rl2 I a b).2 110 11)
def rl4 (I : hI) (a b : Nat) : Int32 × hI := m_num (rl3 I a b) (Int32.ofNat 1) (Int32.ofNat 99)
def rl5 (I : hI) (a b : Nat) : hI := am_u (rl4 I a b).2 120 (8 + b) ((rl4 I a b).2 110 11)
def rl6 (I : hI) (a b : Nat) : Int32 × hI := m_num (rl5 I a b) (Int32.ofNat 0) (Int32.ofNat 99)
def rl7 (I : hI) (a b : Nat) : hI := am_u (am_u (rl6 I a b).2 121 (8 + b) ((rl6 I a b).2 110 11)) 110 18 (Int32.ofNat (b + 1))
def m_rpL (I : hI) (a b : Nat) : Int32 × hI := if b = 8 then (0, m_wr I (Int32.ofNat 2)) else if (rl1 I b).1 = 0 then (0, (rl1 I b).2) else if (rl2 I a b).1 = 0 then (0, (rl2 I a b).2) else if (rl4 I a b).1 = 0 then (0, (rl4 I a b).2) else if (rl6 I a b).1 = 0 then (0, (rl6 I a b).2) else (1, rl7 I a b)
theorem c_ropeLine {k : Nat} {I : hI} {J : hJ} {R : hR} {f : Nat → Int32} {st : Nat} (g : pv I f st) {a b : Nat} (ha : a ≤ 6) (h17 : I 110 17 = Int32.ofNat a) (hb : b ≤ 8) (h18 : I 110 18 = Int32.ofNat b) (hk : 4 ≤ k) : ct k 187 [.ref 110] I J R (some (.int (m_rpL I a b).1)) ((m_rpL I a b).2) J R := by
  obtain ⟨k, rfl⟩ : ∃ k', k = k' + 1 := ⟨k - 1, by omega⟩
  refine ct_of (q := am_m187) (o := 12) (rt := (some .boolean)) (co := am_c187) (L := [_, _]) rfl rfl rfl rfl rfl rfl ?_
  refine w_aload_n rfl rfl rfl ?_
  refine w_gf (t := .int 0) (v := .int _) rfl rfl rfl sp110 rfl (congrArg Value.int h18) rfl ?_
  refine w_bipush (x := Int32.ofNat 8) rfl rfl (by decide) ?_
  refine w_ic_neN (t := 15) (f := 9) rfl rfl rfl (by omega) (by omega) (fun c6 => ?_) (fun c6 => ?_)
  · refine w_aload_n rfl rfl rfl ?_
    refine w_cv (q := am_m174) (as := []) (rest := []) (st' := []) rfl rfl rfl rfl rfl rfl sp110 rfl rfl rfl rfl (c_tok g (by omega)) rfl rfl ?_
    refine w_aload_n rfl rfl rfl ?_
    refine w_aload_n rfl rfl rfl ?_
    refine w_gf (t := .ref (118)) (v := .ref (118)) rfl rfl rfl sp110 rfl rfl rfl ?_
    refine w_bipush (x := Int32.ofNat 8) rfl rfl (by decide) ?_
    refine w_aload_n rfl rfl rfl ?_
    refine w_gf (t := .int 0) (v := .int _) rfl rfl rfl sp110 rfl (congrArg Value.int ((m_tok_f (by omega)).trans h18)) rfl ?_
    refine w_cv (q := am_m184) (as := [_, _, _]) (rest := []) (st' := [_]) rfl rfl rfl rfl rfl rfl sp110 rfl rfl rfl rfl (c_newName (pv_tok g) sp118 (by decide) (by decide) (by omega) (by omega)) rfl rfl ?_
    change wz _ _ _ _ _ _ (Value.int (rl1 I b).1 :: []) (rl1 I b).2 _ _ _
    have e1 : (rl1 I b).2 110 18 = Int32.ofNat b := by unfold rl1; rw [(new_f (I := m_tok I) (A := 118) (x := 8) (n := b) (a := 110) (i := 18) (by omega) (by omega))]; exact ((m_tok_f (I := I) (a := 110) (i := 18) (by omega)).trans h18)
    have e0 : (rl1 I b).2 110 17 = Int32.ofNat a := by unfold rl1; rw [(new_f (I := m_tok I) (A := 118) (x := 8) (n := b) (a := 110) (i := 17) (by omega) (by omega))]; exact ((m_tok_f (I := I) (a := 110) (i := 17) (by omega)).trans h17)
    have v1 : pv (rl1 I b).2 f st := pv_new (by decide) (pv_tok g)
    refine w_if_ne (t := 38) (f := 36) rfl rfl rfl (fun c33 => ?_) (fun c33 => ?_)
    · refine w_bipush (x := Int32.ofNat 8) rfl rfl (by decide) ?_
      refine w_aload_n rfl rfl rfl ?_
      refine w_gf (t := .int 0) (v := .int _) rfl rfl rfl sp110 rfl (congrArg Value.int e1) rfl ?_
      refine w_iaddN rfl rfl ?_
      refine w_istore_n (L' := [_, _]) rfl rfl rfl ?_
      refine w_aload_n rfl rfl rfl ?_
      refine w_aload_n rfl rfl rfl ?_
      refine w_gf (t := .ref (115)) (v := .ref (115)) rfl rfl rfl sp110 rfl rfl rfl ?_
      refine w_bipush (x := Int32.ofNat 6) rfl rfl (by decide) ?_
      refine w_aload_n rfl rfl rfl ?_
      refine w_gf (t := .int 0) (v := .int _) rfl rfl rfl sp110 rfl (congrArg Value.int e0) rfl ?_
      refine w_cv (q := am_m185) (as := [_, _, _]) (rest := []) (st' := [_]) rfl rfl rfl rfl rfl rfl sp110 rfl rfl rfl rfl (c_thereIn v1 sp115 (by decide) (by decide) (by omega) (by omega)) rfl rfl ?_
      change wz _ _ _ _ _ _ (Value.int (rl2 I a b).1 :: []) (rl2 I a b).2 _ _ _
      have e2 : (rl2 I a b).2 110 18 = Int32.ofNat b := by unfold rl2; rw [(the_f (I := (rl1 I b).2) (A := 115) (x := 6) (n := a) (a := 110) (i := 18) (by omega))]; exact e1
      have v2 : pv (rl2 I a b).2 f st := pv_the v1
      refine w_if_ne (t := 65) (f := 63) rfl rfl rfl (fun c60 => ?_) (fun c60 => ?_)
      · refine w_aload_n rfl rfl rfl ?_
        refine w_gf (t := .ref (119)) (v := .ref (119)) rfl rfl rfl sp110 rfl rfl rfl ?_
        refine w_iload_n rfl rfl rfl ?_
        refine w_aload_n rfl rfl rfl ?_
        refine w_gf (t := .int 0) (v := .int _) rfl rfl rfl sp110 rfl (congrArg Value.int rfl) rfl ?_
        refine w_iastore rfl rfl sp119 rfl ⟨by omega, by omega⟩ ?_
        change wz _ _ _ _ _ _ _ (rl3 I a b) _ _ _
        have e3 : rl3 I a b 110 18 = Int32.ofNat b := by unfold rl3; rw [(am_u_na (I := (rl2 I a b).2) (a := 119) (k := 8 + b) (b := 110) (j := 18) (by decide))]; exact e2
        have v3 : pv (rl3 I a b) f st := pv_u (by omega) (by omega) v2
        refine w_aload_n rfl rfl rfl ?_
        refine w_iconst (x := Int32.ofNat 1) rfl rfl (by decide) ?_
        refine w_bipush (x := Int32.ofNat 99) rfl rfl (by decide) ?_
        refine w_cv (q := am_m179) (as := [_, _]) (rest := []) (st' := [_]) rfl rfl rfl rfl rfl rfl sp110 rfl rfl rfl rfl (c_number v3 (by omega)) rfl rfl ?_
        change wz _ _ _ _ _ _ (Value.int (rl4 I a b).1 :: []) (rl4 I a b).2 _ _ _
        have e4 : (rl4 I a b).2 110 18 = Int32.ofNat b := by unfold rl4; rw [(num_f (I := rl3 I a b) (lo := Int32.ofNat 1) (hi := Int32.ofNat 99) (a := 110) (i := 18) (by omega))]; exact e3
        have v4 : pv (rl4 I a b).2 f st := pv_num v3
        refine w_if_ne (t := 87) (f := 85) rfl rfl rfl (fun c82 => ?_) (fun c82 => ?_)
        · refine w_aload_n rfl rfl rfl ?_
          refine w_gf (t := .ref (120)) (v := .ref (120)) rfl rfl rfl sp110 rfl rfl rfl ?_
          refine w_iload_n rfl rfl rfl ?_
          refine w_aload_n rfl rfl rfl ?_
          refine w_gf (t := .int 0) (v := .int _) rfl rfl rfl sp110 rfl (congrArg Value.int rfl) rfl ?_
          refine w_iastore rfl rfl sp120 rfl ⟨by omega, by omega⟩ ?_
          change wz _ _ _ _ _ _ _ (rl5 I a b) _ _ _
          have e5 : rl5 I a b 110 18 = Int32.ofNat b := by unfold rl5; rw [(am_u_na (I := (rl4 I a b).2) (a := 120) (k := 8 + b) (b := 110) (j := 18) (by decide))]; exact e4
          have v5 : pv (rl5 I a b) f st := pv_u (by omega) (by omega) v4
          refine w_aload_n rfl rfl rfl ?_
          refine w_iconst (x := Int32.ofNat 0) rfl rfl (by decide) ?_
          refine w_bipush (x := Int32.ofNat 99) rfl rfl (by decide) ?_
          refine w_cv (q := am_m179) (as := [_, _]) (rest := []) (st' := [_]) rfl rfl rfl rfl rfl rfl sp110 rfl rfl rfl rfl (c_number v5 (by omega)) rfl rfl ?_
          change wz _ _ _ _ _ _ (Value.int (rl6 I a b).1 :: []) (rl6 I a b).2 _ _ _
          have e6 : (rl6 I a b).2 110 18 = Int32.ofNat b := by unfold rl6; rw [(num_f (I := rl5 I a b) (lo := Int32.ofNat 0) (hi := Int32.ofNat 99) (a := 110) (i := 18) (by omega))]; exact e5
          refine w_if_ne (t := 109) (f := 107) rfl rfl rfl (fun c104 => ?_) (fun c104 => ?_)
          · refine w_aload_n rfl rfl rfl ?_
            refine w_gf (t := .ref (121)) (v := .ref (121)) rfl rfl rfl sp110 rfl rfl rfl ?_
            refine w_iload_n rfl rfl rfl ?_
            refine w_aload_n rfl rfl rfl ?_
            refine w_gf (t := .int 0) (v := .int _) rfl rfl rfl sp110 rfl (congrArg Value.int rfl) rfl ?_
            refine w_iastore rfl rfl sp121 rfl ⟨by omega, by omega⟩ ?_
            refine w_aload_n rfl rfl rfl ?_
            refine w_dup rfl rfl rfl ?_
            refine w_gf (t := .int 0) (v := .int _) rfl rfl rfl sp110 rfl (congrArg Value.int ((am_u_na (I := (rl6 I a b).2) (a := 121) (k := 8 + b) (b := 110) (j := 18) (by decide)).trans e6)) rfl ?_
            refine w_iconst (x := Int32.ofNat 1) rfl rfl (by decide) ?_
            refine w_iaddN rfl rfl ?_
            refine w_pf rfl rfl rfl sp110 rfl rfl rfl ?_
            refine w_iconst (x := Int32.ofNat 1) rfl rfl (by decide) ?_
            have hE : m_rpL I a b = (1, am_u (am_u (rl6 I a b).2 121 (8 + b) ((rl6 I a b).2 110 11)) 110 18 (Int32.ofNat (b + 1))) := by unfold m_rpL; rw [if_neg c6, if_neg c33, if_neg c60, if_neg c82, if_neg c104]; unfold rl7; rfl
            exact w_bret rfl (by decide) (by rw [hE] <;> rfl) (by rw [hE]) rfl rfl
          · refine w_iconst (x := Int32.ofNat 0) rfl rfl (by decide) ?_
            have hE : m_rpL I a b = (0, (rl6 I a b).2) := by unfold m_rpL; rw [if_neg c6, if_neg c33, if_neg c60, if_neg c82, if_pos c104]
            exact w_bret rfl (by decide) (by rw [hE] <;> rfl) (by rw [hE]) rfl rfl
        · refine w_iconst (x := Int32.ofNat 0) rfl rfl (by decide) ?_
          have hE : m_rpL I a b = (0, (rl4 I a b).2) := by unfold m_rpL; rw [if_neg c6, if_neg c33, if_neg c60, if_pos c82]
          exact w_bret rfl (by decide) (by rw [hE] <;> rfl) (by rw [hE]) rfl rfl
      · refine w_iconst (x := Int32.ofNat 0) rfl rfl (by decide) ?_
        have hE : m_rpL I a b = (0, (rl2 I a b).2) := by unfold m_rpL; rw [if_neg c6, if_neg c33, if_pos c60]
        exact w_bret rfl (by decide) (by rw [hE] <;> rfl) (by rw [hE]) rfl rfl
    · refine w_iconst (x := Int32.ofNat 0) rfl rfl (by decide) ?_
      have hE : m_rpL I a b = (0, (rl1 I b).2) := by unfold m_rpL; rw [if_neg c6, if_pos c33]
      exact w_bret rfl (by decide) (by rw [hE] <;> rfl) (by rw [hE]) rfl rfl
  · refine w_aload_n rfl rfl rfl ?_
    refine w_iconst (x := Int32.ofNat 2) rfl rfl (by decide) ?_
    refine w_cv (q := am_m170) (as := [_]) (rest := []) (st' := [_]) rfl rfl rfl rfl rfl rfl sp110 rfl rfl rfl rfl (c_wrong (by omega)) rfl rfl ?_
    have hE : m_rpL I a b = (0, m_wr I (Int32.ofNat 2)) := by unfold m_rpL; rw [if_pos c6]
    exact w_bret rfl (by decide) (by rw [hE] <;> rfl) (by rw [hE]) rfl rfl
def sl1 (I : hI) (c : Nat) : Int32 × hI := m_new (m_tok I) 123 5 c
def sl2 (I : hI) (c : Nat) : Int32 × hI := m_num (sl1 I c).2 (Int32.ofNat 0) (Int32.ofNat 999)
def sl3 (I : hI) (c : Nat) : hI := am_u (am_u (sl2 I c).2 124 (5 + c) ((sl2 I c).2 110 11)) 110 19 (Int32.ofNat (c + 1))
def m_shL (I : hI) (c : Nat) : Int32 × hI := if c = 5 then (0, m_wr I (Int32.ofNat 2)) else if (sl1 I c).1 = 0 then (0, (sl1 I c).2) else if (sl2 I c).1 = 0 then (0, (sl2 I c).2) else (1, sl3 I c)
theorem c_shipLine {k : Nat} {I : hI} {J : hJ} {R : hR} {f : Nat → Int32} {st : Nat} (g : pv I f st) {c : Nat} (hc : c ≤ 5) (h19 : I 110 19 = Int32.ofNat c) (hk : 4 ≤ k) : ct k 188 [.ref 110] I J R (some (.int (m_shL I c).1)) ((m_shL I c).2) J R := by
  obtain ⟨k, rfl⟩ : ∃ k', k = k' + 1 := ⟨k - 1, by omega⟩
  refine ct_of (q := am_m188) (o := 12) (rt := (some .boolean)) (co := am_c188) (L := [_]) rfl rfl rfl rfl rfl rfl ?_
  refine w_aload_n rfl rfl rfl ?_
  refine w_gf (t := .int 0) (v := .int _) rfl rfl rfl sp110 rfl (congrArg Value.int h19) rfl ?_
  refine w_iconst (x := Int32.ofNat 5) rfl rfl (by decide) ?_
  refine w_ic_neN (t := 14) (f := 8) rfl rfl rfl (by omega) (by omega) (fun c5 => ?_) (fun c5 => ?_)
  · refine w_aload_n rfl rfl rfl ?_
    refine w_cv (q := am_m174) (as := []) (rest := []) (st' := []) rfl rfl rfl rfl rfl rfl sp110 rfl rfl rfl rfl (c_tok g (by omega)) rfl rfl ?_
    refine w_aload_n rfl rfl rfl ?_
    refine w_aload_n rfl rfl rfl ?_
    refine w_gf (t := .ref (123)) (v := .ref (123)) rfl rfl rfl sp110 rfl rfl rfl ?_
    refine w_iconst (x := Int32.ofNat 5) rfl rfl (by decide) ?_
    refine w_aload_n rfl rfl rfl ?_
    refine w_gf (t := .int 0) (v := .int _) rfl rfl rfl sp110 rfl (congrArg Value.int ((m_tok_f (by omega)).trans h19)) rfl ?_
    refine w_cv (q := am_m184) (as := [_, _, _]) (rest := []) (st' := [_]) rfl rfl rfl rfl rfl rfl sp110 rfl rfl rfl rfl (c_newName (pv_tok g) sp123 (by decide) (by decide) (by omega) (by omega)) rfl rfl ?_
    change wz _ _ _ _ _ _ (Value.int (sl1 I c).1 :: []) (sl1 I c).2 _ _ _
    have e1 : (sl1 I c).2 110 19 = Int32.ofNat c := by unfold sl1; rw [(new_f (I := m_tok I) (A := 123) (x := 5) (n := c) (a := 110) (i := 19) (by omega) (by omega))]; exact ((m_tok_f (I := I) (a := 110) (i := 19) (by omega)).trans h19)
    have v1 : pv (sl1 I c).2 f st := pv_new (by decide) (pv_tok g)
    refine w_if_ne (t := 36) (f := 34) rfl rfl rfl (fun c31 => ?_) (fun c31 => ?_)
    · refine w_aload_n rfl rfl rfl ?_
      refine w_iconst (x := Int32.ofNat 0) rfl rfl (by decide) ?_
      refine w_sipush (x := Int32.ofNat 999) rfl rfl (by decide) ?_
      refine w_cv (q := am_m179) (as := [_, _]) (rest := []) (st' := [_]) rfl rfl rfl rfl rfl rfl sp110 rfl rfl rfl rfl (c_number v1 (by omega)) rfl rfl ?_
      change wz _ _ _ _ _ _ (Value.int (sl2 I c).1 :: []) (sl2 I c).2 _ _ _
      have e2 : (sl2 I c).2 110 19 = Int32.ofNat c := by unfold sl2; rw [(num_f (I := (sl1 I c).2) (lo := Int32.ofNat 0) (hi := Int32.ofNat 999) (a := 110) (i := 19) (by omega))]; exact e1
      refine w_if_ne (t := 49) (f := 47) rfl rfl rfl (fun c44 => ?_) (fun c44 => ?_)
      · refine w_aload_n rfl rfl rfl ?_
        refine w_gf (t := .ref (124)) (v := .ref (124)) rfl rfl rfl sp110 rfl rfl rfl ?_
        refine w_iconst (x := Int32.ofNat 5) rfl rfl (by decide) ?_
        refine w_aload_n rfl rfl rfl ?_
        refine w_gf (t := .int 0) (v := .int _) rfl rfl rfl sp110 rfl (congrArg Value.int e2) rfl ?_
        refine w_iaddN rfl rfl ?_
        refine w_aload_n rfl rfl rfl ?_
        refine w_gf (t := .int 0) (v := .int _) rfl rfl rfl sp110 rfl (congrArg Value.int rfl) rfl ?_
        refine w_iastore rfl rfl sp124 rfl ⟨by omega, by omega⟩ ?_
        refine w_aload_n rfl rfl rfl ?_
        refine w_dup rfl rfl rfl ?_
        refine w_gf (t := .int 0) (v := .int _) rfl rfl rfl sp110 rfl (congrArg Value.int ((am_u_na (I := (sl2 I c).2) (a := 124) (k := 5 + c) (b := 110) (j := 19) (by decide)).trans e2)) rfl ?_
        refine w_iconst (x := Int32.ofNat 1) rfl rfl (by decide) ?_
        refine w_iaddN rfl rfl ?_
        refine w_pf rfl rfl rfl sp110 rfl rfl rfl ?_
        refine w_iconst (x := Int32.ofNat 1) rfl rfl (by decide) ?_
        have hE : m_shL I c = (1, am_u (am_u (sl2 I c).2 124 (5 + c) ((sl2 I c).2 110 11)) 110 19 (Int32.ofNat (c + 1))) := by unfold m_shL; rw [if_neg c5, if_neg c31, if_neg c44]; unfold sl3; rfl
        exact w_bret rfl (by decide) (by rw [hE] <;> rfl) (by rw [hE]) rfl rfl
      · refine w_iconst (x := Int32.ofNat 0) rfl rfl (by decide) ?_
        have hE : m_shL I c = (0, (sl2 I c).2) := by unfold m_shL; rw [if_neg c5, if_neg c31, if_pos c44]
        exact w_bret rfl (by decide) (by rw [hE] <;> rfl) (by rw [hE]) rfl rfl
    · refine w_iconst (x := Int32.ofNat 0) rfl rfl (by decide) ?_
      have hE : m_shL I c = (0, (sl1 I c).2) := by unfold m_shL; rw [if_neg c5, if_pos c31]
      exact w_bret rfl (by decide) (by rw [hE] <;> rfl) (by rw [hE]) rfl rfl
  · refine w_aload_n rfl rfl rfl ?_
    refine w_iconst (x := Int32.ofNat 2) rfl rfl (by decide) ?_
    refine w_cv (q := am_m170) (as := [_]) (rest := []) (st' := [_]) rfl rfl rfl rfl rfl rfl sp110 rfl rfl rfl rfl (c_wrong (by omega)) rfl rfl ?_
    have hE : m_shL I c = (0, m_wr I (Int32.ofNat 2)) := by unfold m_shL; rw [if_pos c5]
    exact w_bret rfl (by decide) (by rw [hE] <;> rfl) (by rw [hE]) rfl rfl
def gl1 (I : hI) (b : Nat) : Int32 × hI := m_the (m_tok I) 118 8 b
def gl2 (I : hI) (b c : Nat) : Int32 × hI := m_the (gl1 I b).2 123 5 c
def glr (I : hI) (b : Nat) : Nat := nn ((gl1 I b).2 110 11)
def m_rgL (I : hI) (b c : Nat) : Int32 × hI := if (gl1 I b).1 = 0 then (0, (gl1 I b).2) else if (gl1 I b).2 122 (8 + glr I b) < 0 then (if (gl2 I b c).1 = 0 then (0, (gl2 I b c).2) else (1, am_u (gl2 I b c).2 122 (8 + glr I b) ((gl2 I b c).2 110 11))) else (0, m_wr (am_u (gl1 I b).2 110 10 (m_tok I 110 10)) (Int32.ofNat 3))
theorem c_rigLine {k : Nat} {I : hI} {J : hJ} {R : hR} {f : Nat → Int32} {st : Nat} (g : pv I f st) {b c : Nat} (hb : b ≤ 8) (h18 : I 110 18 = Int32.ofNat b) (hc : c ≤ 5) (h19 : I 110 19 = Int32.ofNat c) (hk : 4 ≤ k) : ct k 189 [.ref 110] I J R (some (.int (m_rgL I b c).1)) ((m_rgL I b c).2) J R := by
  obtain ⟨k, rfl⟩ : ∃ k', k = k' + 1 := ⟨k - 1, by omega⟩
  refine ct_of (q := am_m189) (o := 12) (rt := (some .boolean)) (co := am_c189) (L := [_, _, _]) rfl rfl rfl rfl rfl rfl ?_
  refine w_aload_n rfl rfl rfl ?_
  refine w_cv (q := am_m174) (as := []) (rest := []) (st' := []) rfl rfl rfl rfl rfl rfl sp110 rfl rfl rfl rfl (c_tok g (by omega)) rfl rfl ?_
  refine w_aload_n rfl rfl rfl ?_
  refine w_gf (t := .int 0) (v := .int _) rfl rfl rfl sp110 rfl (congrArg Value.int rfl) rfl ?_
  refine w_istore_n (L' := [_, _, _]) rfl rfl rfl ?_
  refine w_aload_n rfl rfl rfl ?_
  refine w_aload_n rfl rfl rfl ?_
  refine w_gf (t := .ref (118)) (v := .ref (118)) rfl rfl rfl sp110 rfl rfl rfl ?_
  refine w_bipush (x := Int32.ofNat 8) rfl rfl (by decide) ?_
  refine w_aload_n rfl rfl rfl ?_
  refine w_gf (t := .int 0) (v := .int _) rfl rfl rfl sp110 rfl (congrArg Value.int ((m_tok_f (by omega)).trans h18)) rfl ?_
  refine w_cv (q := am_m185) (as := [_, _, _]) (rest := []) (st' := [_]) rfl rfl rfl rfl rfl rfl sp110 rfl rfl rfl rfl (c_thereIn (pv_tok g) sp118 (by decide) (by decide) (by omega) (by omega)) rfl rfl ?_
  change wz _ _ _ _ _ _ (Value.int (gl1 I b).1 :: []) (gl1 I b).2 _ _ _
  refine w_if_ne (t := 28) (f := 26) rfl rfl rfl (fun c23 => ?_) (fun c23 => ?_)
  · refine w_bipush (x := Int32.ofNat 8) rfl rfl (by decide) ?_
    refine w_aload_n rfl rfl rfl ?_
    refine w_gf (t := .int 0) (v := .int _) rfl rfl rfl sp110 rfl (congrArg Value.int (the_ok (by omega) c23).1) rfl ?_
    refine w_iaddN rfl rfl ?_
    refine w_istore_n (L' := [_, _, _]) rfl rfl rfl ?_
    refine w_aload_n rfl rfl rfl ?_
    have hr := (the_ok (by omega) c23).2
    refine w_gf (t := .ref (122)) (v := .ref (122)) rfl rfl rfl sp110 rfl rfl rfl ?_
    refine w_iload_n rfl rfl rfl ?_
    refine w_iaload rfl rfl sp122 rfl ⟨by omega, by omega⟩ rfl ?_
    refine w_if_lt (t := 56) (f := 45) rfl rfl rfl (fun c42 => ?_) (fun c42 => ?_)
    · refine w_aload_n rfl rfl rfl ?_
      refine w_aload_n rfl rfl rfl ?_
      refine w_gf (t := .ref (123)) (v := .ref (123)) rfl rfl rfl sp110 rfl rfl rfl ?_
      refine w_iconst (x := Int32.ofNat 5) rfl rfl (by decide) ?_
      refine w_aload_n rfl rfl rfl ?_
      refine w_gf (t := .int 0) (v := .int _) rfl rfl rfl sp110 rfl (congrArg Value.int ((the_f (by omega)).trans ((m_tok_f (by omega)).trans h19))) rfl ?_
      refine w_cv (q := am_m185) (as := [_, _, _]) (rest := []) (st' := [_]) rfl rfl rfl rfl rfl rfl sp110 rfl rfl rfl rfl (c_thereIn (pv_the (pv_tok g)) sp123 (by decide) (by decide) (by omega) (by omega)) rfl rfl ?_
      change wz _ _ _ _ _ _ (Value.int (gl2 I b c).1 :: []) (gl2 I b c).2 _ _ _
      refine w_if_ne (t := 74) (f := 72) rfl rfl rfl (fun c69 => ?_) (fun c69 => ?_)
      · refine w_aload_n rfl rfl rfl ?_
        refine w_gf (t := .ref (122)) (v := .ref (122)) rfl rfl rfl sp110 rfl rfl rfl ?_
        refine w_iload_n rfl rfl rfl ?_
        refine w_aload_n rfl rfl rfl ?_
        refine w_gf (t := .int 0) (v := .int _) rfl rfl rfl sp110 rfl (congrArg Value.int rfl) rfl ?_
        refine w_iastore rfl rfl sp122 rfl ⟨by omega, by omega⟩ ?_
        refine w_iconst (x := Int32.ofNat 1) rfl rfl (by decide) ?_
        exact w_bret rfl (by decide) (by unfold m_rgL; first | (rw [if_pos c23] <;> rfl) | (rw [if_neg c23]; first | (rw [if_neg (show ¬ (gl1 I b).2 122 (8 + glr I b) < 0 from c42)] <;> rfl) | (rw [if_pos (show (gl1 I b).2 122 (8 + glr I b) < 0 from c42)]; first | (rw [if_pos c69] <;> rfl) | (rw [if_neg c69] <;> rfl)))) (by unfold m_rgL; first | (rw [if_pos c23] <;> rfl) | (rw [if_neg c23]; first | (rw [if_neg (show ¬ (gl1 I b).2 122 (8 + glr I b) < 0 from c42)] <;> rfl) | (rw [if_pos (show (gl1 I b).2 122 (8 + glr I b) < 0 from c42)]; first | (rw [if_pos c69] <;> rfl) | (rw [if_neg c69] <;> rfl)))) rfl rfl
      · refine w_iconst (x := Int32.ofNat 0) rfl rfl (by decide) ?_
        exact w_bret rfl (by decide) (by unfold m_rgL; first | (rw [if_pos c23] <;> rfl) | (rw [if_neg c23]; first | (rw [if_neg (show ¬ (gl1 I b).2 122 (8 + glr I b) < 0 from c42)] <;> rfl) | (rw [if_pos (show (gl1 I b).2 122 (8 + glr I b) < 0 from c42)]; first | (rw [if_pos c69] <;> rfl) | (rw [if_neg c69] <;> rfl)))) (by unfold m_rgL; first | (rw [if_pos c23] <;> rfl) | (rw [if_neg c23]; first | (rw [if_neg (show ¬ (gl1 I b).2 122 (8 + glr I b) < 0 from c42)] <;> rfl) | (rw [if_pos (show (gl1 I b).2 122 (8 + glr I b) < 0 from c42)]; first | (rw [if_pos c69] <;> rfl) | (rw [if_neg c69] <;> rfl)))) rfl rfl
    · refine w_aload_n rfl rfl rfl ?_
      refine w_iload_n rfl rfl rfl ?_
      refine w_pf rfl rfl rfl sp110 rfl rfl rfl ?_
      refine w_aload_n rfl rfl rfl ?_
      refine w_iconst (x := Int32.ofNat 3) rfl rfl (by decide) ?_
      refine w_cv (q := am_m170) (as := [_]) (rest := []) (st' := [_]) rfl rfl rfl rfl rfl rfl sp110 rfl rfl rfl rfl (c_wrong (by omega)) rfl rfl ?_
      exact w_bret rfl (by decide) (by unfold m_rgL; first | (rw [if_pos c23] <;> rfl) | (rw [if_neg c23]; first | (rw [if_neg (show ¬ (gl1 I b).2 122 (8 + glr I b) < 0 from c42)] <;> rfl) | (rw [if_pos (show (gl1 I b).2 122 (8 + glr I b) < 0 from c42)]; first | (rw [if_pos c69] <;> rfl) | (rw [if_neg c69] <;> rfl)))) (by unfold m_rgL; first | (rw [if_pos c23] <;> rfl) | (rw [if_neg c23]; first | (rw [if_neg (show ¬ (gl1 I b).2 122 (8 + glr I b) < 0 from c42)] <;> rfl) | (rw [if_pos (show (gl1 I b).2 122 (8 + glr I b) < 0 from c42)]; first | (rw [if_pos c69] <;> rfl) | (rw [if_neg c69] <;> rfl)))) rfl rfl
  · refine w_iconst (x := Int32.ofNat 0) rfl rfl (by decide) ?_
    exact w_bret rfl (by decide) (by unfold m_rgL; first | (rw [if_pos c23] <;> rfl) | (rw [if_neg c23]; first | (rw [if_neg (show ¬ (gl1 I b).2 122 (8 + glr I b) < 0 from c42)] <;> rfl) | (rw [if_pos (show (gl1 I b).2 122 (8 + glr I b) < 0 from c42)]; first | (rw [if_pos c69] <;> rfl) | (rw [if_neg c69] <;> rfl)))) (by unfold m_rgL; first | (rw [if_pos c23] <;> rfl) | (rw [if_neg c23]; first | (rw [if_neg (show ¬ (gl1 I b).2 122 (8 + glr I b) < 0 from c42)] <;> rfl) | (rw [if_pos (show (gl1 I b).2 122 (8 + glr I b) < 0 from c42)]; first | (rw [if_pos c69] <;> rfl) | (rw [if_neg c69] <;> rfl)))) rfl rfl
def al1 (I : hI) (c : Nat) : Int32 × hI := m_the (m_tok I) 123 5 c
def al2 (I : hI) (c d : Nat) : hI := am_u (al1 I c).2 125 (10 + d) ((al1 I c).2 110 11)
def al3 (I : hI) (c d : Nat) : Int32 × hI := m_num (al2 I c d) (Int32.ofNat 0) (Int32.ofNat 99)
def al4 (I : hI) (c d : Nat) : hI := am_u (al3 I c d).2 126 (10 + d) ((al3 I c d).2 110 11)
def al5 (I : hI) (c d : Nat) : Int32 × hI := m_num (al4 I c d) (Int32.ofNat 1) (Int32.ofNat 30)
def al6 (I : hI) (c d : Nat) : hI := am_u (am_u (al5 I c d).2 127 (10 + d) ((al5 I c d).2 110 11)) 110 20 (Int32.ofNat (d + 1))
def m_saL (I : hI) (c d : Nat) : Int32 × hI := if d = 10 then (0, m_wr I (Int32.ofNat 2)) else if (al1 I c).1 = 0 then (0, (al1 I c).2) else if (al3 I c d).1 = 0 then (0, (al3 I c d).2) else if (al5 I c d).1 = 0 then (0, (al5 I c d).2) else (1, al6 I c d)
theorem c_sailLine {k : Nat} {I : hI} {J : hJ} {R : hR} {f : Nat → Int32} {st : Nat} (g : pv I f st) {c d : Nat} (hc : c ≤ 5) (h19 : I 110 19 = Int32.ofNat c) (hd : d ≤ 10) (h20 : I 110 20 = Int32.ofNat d) (hk : 4 ≤ k) : ct k 190 [.ref 110] I J R (some (.int (m_saL I c d).1)) ((m_saL I c d).2) J R := by
  obtain ⟨k, rfl⟩ : ∃ k', k = k' + 1 := ⟨k - 1, by omega⟩
  refine ct_of (q := am_m190) (o := 12) (rt := (some .boolean)) (co := am_c190) (L := [_, _]) rfl rfl rfl rfl rfl rfl ?_
  refine w_aload_n rfl rfl rfl ?_
  refine w_gf (t := .int 0) (v := .int _) rfl rfl rfl sp110 rfl (congrArg Value.int h20) rfl ?_
  refine w_bipush (x := Int32.ofNat 10) rfl rfl (by decide) ?_
  refine w_ic_neN (t := 15) (f := 9) rfl rfl rfl (by omega) (by omega) (fun c6 => ?_) (fun c6 => ?_)
  · refine w_aload_n rfl rfl rfl ?_
    refine w_cv (q := am_m174) (as := []) (rest := []) (st' := []) rfl rfl rfl rfl rfl rfl sp110 rfl rfl rfl rfl (c_tok g (by omega)) rfl rfl ?_
    refine w_bipush (x := Int32.ofNat 10) rfl rfl (by decide) ?_
    refine w_aload_n rfl rfl rfl ?_
    refine w_gf (t := .int 0) (v := .int _) rfl rfl rfl sp110 rfl (congrArg Value.int ((m_tok_f (by omega)).trans h20)) rfl ?_
    refine w_iaddN rfl rfl ?_
    refine w_istore_n (L' := [_, _]) rfl rfl rfl ?_
    refine w_aload_n rfl rfl rfl ?_
    refine w_aload_n rfl rfl rfl ?_
    refine w_gf (t := .ref (123)) (v := .ref (123)) rfl rfl rfl sp110 rfl rfl rfl ?_
    refine w_iconst (x := Int32.ofNat 5) rfl rfl (by decide) ?_
    refine w_aload_n rfl rfl rfl ?_
    refine w_gf (t := .int 0) (v := .int _) rfl rfl rfl sp110 rfl (congrArg Value.int ((m_tok_f (by omega)).trans h19)) rfl ?_
    refine w_cv (q := am_m185) (as := [_, _, _]) (rest := []) (st' := [_]) rfl rfl rfl rfl rfl rfl sp110 rfl rfl rfl rfl (c_thereIn (pv_tok g) sp123 (by decide) (by decide) (by omega) (by omega)) rfl rfl ?_
    change wz _ _ _ _ _ _ (Value.int (al1 I c).1 :: []) (al1 I c).2 _ _ _
    have e1 : (al1 I c).2 110 20 = Int32.ofNat d := by unfold al1; rw [(the_f (I := m_tok I) (A := 123) (x := 5) (n := c) (a := 110) (i := 20) (by omega))]; exact ((m_tok_f (I := I) (a := 110) (i := 20) (by omega)).trans h20)
    have v1 : pv (al1 I c).2 f st := pv_the (pv_tok g)
    refine w_if_ne (t := 45) (f := 43) rfl rfl rfl (fun c40 => ?_) (fun c40 => ?_)
    · refine w_aload_n rfl rfl rfl ?_
      refine w_gf (t := .ref (125)) (v := .ref (125)) rfl rfl rfl sp110 rfl rfl rfl ?_
      refine w_iload_n rfl rfl rfl ?_
      refine w_aload_n rfl rfl rfl ?_
      refine w_gf (t := .int 0) (v := .int _) rfl rfl rfl sp110 rfl (congrArg Value.int rfl) rfl ?_
      refine w_iastore rfl rfl sp125 rfl ⟨by omega, by omega⟩ ?_
      change wz _ _ _ _ _ _ _ (al2 I c d) _ _ _
      have e2 : al2 I c d 110 20 = Int32.ofNat d := by unfold al2; rw [(am_u_na (I := (al1 I c).2) (a := 125) (k := 10 + d) (b := 110) (j := 20) (by decide))]; exact e1
      have v2 : pv (al2 I c d) f st := pv_u (by omega) (by omega) v1
      refine w_aload_n rfl rfl rfl ?_
      refine w_iconst (x := Int32.ofNat 0) rfl rfl (by decide) ?_
      refine w_bipush (x := Int32.ofNat 99) rfl rfl (by decide) ?_
      refine w_cv (q := am_m179) (as := [_, _]) (rest := []) (st' := [_]) rfl rfl rfl rfl rfl rfl sp110 rfl rfl rfl rfl (c_number v2 (by omega)) rfl rfl ?_
      change wz _ _ _ _ _ _ (Value.int (al3 I c d).1 :: []) (al3 I c d).2 _ _ _
      have e3 : (al3 I c d).2 110 20 = Int32.ofNat d := by unfold al3; rw [(num_f (I := al2 I c d) (lo := Int32.ofNat 0) (hi := Int32.ofNat 99) (a := 110) (i := 20) (by omega))]; exact e2
      have v3 : pv (al3 I c d).2 f st := pv_num v2
      refine w_if_ne (t := 67) (f := 65) rfl rfl rfl (fun c62 => ?_) (fun c62 => ?_)
      · refine w_aload_n rfl rfl rfl ?_
        refine w_gf (t := .ref (126)) (v := .ref (126)) rfl rfl rfl sp110 rfl rfl rfl ?_
        refine w_iload_n rfl rfl rfl ?_
        refine w_aload_n rfl rfl rfl ?_
        refine w_gf (t := .int 0) (v := .int _) rfl rfl rfl sp110 rfl (congrArg Value.int rfl) rfl ?_
        refine w_iastore rfl rfl sp126 rfl ⟨by omega, by omega⟩ ?_
        change wz _ _ _ _ _ _ _ (al4 I c d) _ _ _
        have e4 : al4 I c d 110 20 = Int32.ofNat d := by unfold al4; rw [(am_u_na (I := (al3 I c d).2) (a := 126) (k := 10 + d) (b := 110) (j := 20) (by decide))]; exact e3
        have v4 : pv (al4 I c d) f st := pv_u (by omega) (by omega) v3
        refine w_aload_n rfl rfl rfl ?_
        refine w_iconst (x := Int32.ofNat 1) rfl rfl (by decide) ?_
        refine w_bipush (x := Int32.ofNat 30) rfl rfl (by decide) ?_
        refine w_cv (q := am_m179) (as := [_, _]) (rest := []) (st' := [_]) rfl rfl rfl rfl rfl rfl sp110 rfl rfl rfl rfl (c_number v4 (by omega)) rfl rfl ?_
        change wz _ _ _ _ _ _ (Value.int (al5 I c d).1 :: []) (al5 I c d).2 _ _ _
        have e5 : (al5 I c d).2 110 20 = Int32.ofNat d := by unfold al5; rw [(num_f (I := al4 I c d) (lo := Int32.ofNat 1) (hi := Int32.ofNat 30) (a := 110) (i := 20) (by omega))]; exact e4
        refine w_if_ne (t := 89) (f := 87) rfl rfl rfl (fun c84 => ?_) (fun c84 => ?_)
        · refine w_aload_n rfl rfl rfl ?_
          refine w_gf (t := .ref (127)) (v := .ref (127)) rfl rfl rfl sp110 rfl rfl rfl ?_
          refine w_iload_n rfl rfl rfl ?_
          refine w_aload_n rfl rfl rfl ?_
          refine w_gf (t := .int 0) (v := .int _) rfl rfl rfl sp110 rfl (congrArg Value.int rfl) rfl ?_
          refine w_iastore rfl rfl sp127 rfl ⟨by omega, by omega⟩ ?_
          refine w_aload_n rfl rfl rfl ?_
          refine w_dup rfl rfl rfl ?_
          refine w_gf (t := .int 0) (v := .int _) rfl rfl rfl sp110 rfl (congrArg Value.int ((am_u_na (I := (al5 I c d).2) (a := 127) (k := 10 + d) (b := 110) (j := 20) (by decide)).trans e5)) rfl ?_
          refine w_iconst (x := Int32.ofNat 1) rfl rfl (by decide) ?_
          refine w_iaddN rfl rfl ?_
          refine w_pf rfl rfl rfl sp110 rfl rfl rfl ?_
          refine w_iconst (x := Int32.ofNat 1) rfl rfl (by decide) ?_
          have hE : m_saL I c d = (1, am_u (am_u (al5 I c d).2 127 (10 + d) ((al5 I c d).2 110 11)) 110 20 (Int32.ofNat (d + 1))) := by unfold m_saL; rw [if_neg c6, if_neg c40, if_neg c62, if_neg c84]; unfold al6; rfl
          exact w_bret rfl (by decide) (by rw [hE] <;> rfl) (by rw [hE]) rfl rfl
        · refine w_iconst (x := Int32.ofNat 0) rfl rfl (by decide) ?_
          have hE : m_saL I c d = (0, (al5 I c d).2) := by unfold m_saL; rw [if_neg c6, if_neg c40, if_neg c62, if_pos c84]
          exact w_bret rfl (by decide) (by rw [hE] <;> rfl) (by rw [hE]) rfl rfl
      · refine w_iconst (x := Int32.ofNat 0) rfl rfl (by decide) ?_
        have hE : m_saL I c d = (0, (al3 I c d).2) := by unfold m_saL; rw [if_neg c6, if_neg c40, if_pos c62]
        exact w_bret rfl (by decide) (by rw [hE] <;> rfl) (by rw [hE]) rfl rfl
    · refine w_iconst (x := Int32.ofNat 0) rfl rfl (by decide) ?_
      have hE : m_saL I c d = (0, (al1 I c).2) := by unfold m_saL; rw [if_neg c6, if_pos c40]
      exact w_bret rfl (by decide) (by rw [hE] <;> rfl) (by rw [hE]) rfl rfl
  · refine w_aload_n rfl rfl rfl ?_
    refine w_iconst (x := Int32.ofNat 2) rfl rfl (by decide) ?_
    refine w_cv (q := am_m170) (as := [_]) (rest := []) (st' := [_]) rfl rfl rfl rfl rfl rfl sp110 rfl rfl rfl rfl (c_wrong (by omega)) rfl rfl ?_
    have hE : m_saL I c d = (0, m_wr I (Int32.ofNat 2)) := by unfold m_saL; rw [if_pos c6]
    exact w_bret rfl (by decide) (by rw [hE] <;> rfl) (by rw [hE]) rfl rfl
def ol1 (I : hI) (j : Nat) (m : Int32) : Int32 × hI := m_num (m_tok (am_u I 113 j (Int32.ofNat 1))) (Int32.ofNat 0) m
def m_onL (I : hI) (j : Nat) (m : Int32) : Int32 × hI := if I 113 j = 0 then (if (ol1 I j m).1 = 0 then (0, (ol1 I j m).2) else (1, am_u (ol1 I j m).2 114 (2 + j) ((ol1 I j m).2 110 11))) else (0, m_wr I (Int32.ofNat 3))
theorem c_onceLine {k : Nat} {I : hI} {J : hJ} {R : hR} {f : Nat → Int32} {st : Nat} (g : pv I f st) {j : Nat} {m : Int32} (hj : j < 2) (hk : 4 ≤ k) : ct k 191 [.ref 110, .int (Int32.ofNat j), .int m] I J R (some (.int (m_onL I j m).1)) ((m_onL I j m).2) J R := by
  obtain ⟨k, rfl⟩ : ∃ k', k = k' + 1 := ⟨k - 1, by omega⟩
  refine ct_of (q := am_m191) (o := 12) (rt := (some .boolean)) (co := am_c191) (L := [_, _, _]) rfl rfl rfl rfl rfl rfl ?_
  refine w_aload_n rfl rfl rfl ?_
  refine w_gf (t := .ref (113)) (v := .ref (113)) rfl rfl rfl sp110 rfl rfl rfl ?_
  refine w_iload_n rfl rfl rfl ?_
  refine w_baload rfl rfl sp113 rfl ⟨by omega, by omega⟩ rfl ?_
  refine w_if_eq (t := 15) (f := 9) rfl rfl rfl (fun c6 => ?_) (fun c6 => ?_)
  · refine w_aload_n rfl rfl rfl ?_
    refine w_gf (t := .ref (113)) (v := .ref (113)) rfl rfl rfl sp110 rfl rfl rfl ?_
    refine w_iload_n rfl rfl rfl ?_
    refine w_iconst (x := Int32.ofNat 1) rfl rfl (by decide) ?_
    refine w_bastore rfl rfl sp113 rfl ⟨by omega, by omega⟩ (by decide) ?_
    refine w_aload_n rfl rfl rfl ?_
    refine w_cv (q := am_m174) (as := []) (rest := []) (st' := []) rfl rfl rfl rfl rfl rfl sp110 rfl rfl rfl rfl (c_tok (pv_u (by omega) (by omega) g) (by omega)) rfl rfl ?_
    refine w_aload_n rfl rfl rfl ?_
    refine w_iconst (x := Int32.ofNat 0) rfl rfl (by decide) ?_
    refine w_iload_n rfl rfl rfl ?_
    refine w_cv (q := am_m179) (as := [_, _]) (rest := []) (st' := [_]) rfl rfl rfl rfl rfl rfl sp110 rfl rfl rfl rfl (c_number (pv_tok (pv_u (by omega) (by omega) g)) (by omega)) rfl rfl ?_
    change wz _ _ _ _ _ _ (Value.int (ol1 I j m).1 :: []) (ol1 I j m).2 _ _ _
    refine w_if_ne (t := 37) (f := 35) rfl rfl rfl (fun c32 => ?_) (fun c32 => ?_)
    · refine w_aload_n rfl rfl rfl ?_
      refine w_gf (t := .ref (114)) (v := .ref (114)) rfl rfl rfl sp110 rfl rfl rfl ?_
      refine w_iconst (x := Int32.ofNat 2) rfl rfl (by decide) ?_
      refine w_iload_n rfl rfl rfl ?_
      refine w_iaddN rfl rfl ?_
      refine w_aload_n rfl rfl rfl ?_
      refine w_gf (t := .int 0) (v := .int _) rfl rfl rfl sp110 rfl (congrArg Value.int rfl) rfl ?_
      refine w_iastore rfl rfl sp114 rfl ⟨by omega, by omega⟩ ?_
      refine w_iconst (x := Int32.ofNat 1) rfl rfl (by decide) ?_
      exact w_bret rfl (by decide) (by unfold m_onL; first | (rw [if_neg c6] <;> rfl) | (rw [if_pos c6]; first | (rw [if_pos c32] <;> rfl) | (rw [if_neg c32] <;> rfl))) (by unfold m_onL; first | (rw [if_neg c6] <;> rfl) | (rw [if_pos c6]; first | (rw [if_pos c32] <;> rfl) | (rw [if_neg c32] <;> rfl))) rfl rfl
    · refine w_iconst (x := Int32.ofNat 0) rfl rfl (by decide) ?_
      exact w_bret rfl (by decide) (by unfold m_onL; first | (rw [if_neg c6] <;> rfl) | (rw [if_pos c6]; first | (rw [if_pos c32] <;> rfl) | (rw [if_neg c32] <;> rfl))) (by unfold m_onL; first | (rw [if_neg c6] <;> rfl) | (rw [if_pos c6]; first | (rw [if_pos c32] <;> rfl) | (rw [if_neg c32] <;> rfl))) rfl rfl
  · refine w_aload_n rfl rfl rfl ?_
    refine w_iconst (x := Int32.ofNat 3) rfl rfl (by decide) ?_
    refine w_cv (q := am_m170) (as := [_]) (rest := []) (st' := [_]) rfl rfl rfl rfl rfl rfl sp110 rfl rfl rfl rfl (c_wrong (by omega)) rfl rfl ?_
    exact w_bret rfl (by decide) (by unfold m_onL; first | (rw [if_neg c6] <;> rfl) | (rw [if_pos c6]; first | (rw [if_pos c32] <;> rfl) | (rw [if_neg c32] <;> rfl))) (by unfold m_onL; first | (rw [if_neg c6] <;> rfl) | (rw [if_pos c6]; first | (rw [if_pos c32] <;> rfl) | (rw [if_neg c32] <;> rfl))) rfl rfl
