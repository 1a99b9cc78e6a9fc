/-! The reference: a trial laid, what is kept and brought back. -/
theorem tok_u {I : hI} {N : Nat → Nat} {a k : Nat} {x : Int32} (h1 : a < 114 ∨ 133 < a) (h2 : a = 110 → k < 12 ∨ 15 < k) (t : tok I N) : tok (am_u I a k x) N := tok_c (fun b i z => by unfold am_u; rw [if_neg (by omega)]) t
theorem sb_u {I : hI} {a k : Nat} {x : Int32} (h : a = 110 → k ≠ 63) (s : sb I) : sb (am_u I a k x) := by
  unfold sb am_u
  rw [if_neg (by omega)]
  exact s
def m_pt (I : hI) : hI := am_u (am_u (am_u (am_u (am_u (am_u (am_u (am_u (am_u (am_u I 110 64 (Int32.ofNat 0)) 110 65 (Int32.ofNat 0)) 110 66 (Int32.ofNat 0)) 110 67 (Int32.ofNat 0)) 110 68 (Int32.ofNat 0)) 110 69 (Int32.ofInt (-1))) 110 70 (Int32.ofInt (-1))) 110 71 (Int32.ofNat 0)) 110 72 (Int32.ofNat 0)) 110 63 (if I 114 0 < Int32.ofNat 50 then Int32.ofNat 0 else Int32.ofNat 1)
theorem tok_pt {I : hI} {N : Nat → Nat} (t : tok I N) : tok (m_pt I) N := tok_u (by omega) (by omega) (tok_u (by omega) (by omega) (tok_u (by omega) (by omega) (tok_u (by omega) (by omega) (tok_u (by omega) (by omega) (tok_u (by omega) (by omega) (tok_u (by omega) (by omega) (tok_u (by omega) (by omega) (tok_u (by omega) (by omega) (tok_u (by omega) (by omega) t)))))))))
theorem sb_pt (I : hI) : sb (m_pt I) := by
  unfold sb m_pt
  rw [am_u_at]
  split
  · exact Or.inl rfl
  · exact Or.inr rfl
theorem c_plainTried {k : Nat} {I : hI} {J : hJ} {R : hR}  (hk : 1 ≤ k) : ct k 212 [.ref 110] I J R none (m_pt I) J R := by
  obtain ⟨k, rfl⟩ : ∃ k', k = k' + 1 := ⟨k - 1, by omega⟩
  refine ct_of (q := am_m212) (L := [_]) rfl rfl rfl rfl rfl rfl ?_
  refine w_aload_n rfl rfl rfl ?_
  refine w_iconst (x := Int32.ofNat 0) rfl rfl (by decide) ?_
  refine w_pf rfl rfl rfl sp110 rfl rfl rfl ?_
  refine w_aload_n rfl rfl rfl ?_
  refine w_iconst (x := Int32.ofNat 0) rfl rfl (by decide) ?_
  refine w_pf rfl rfl rfl sp110 rfl rfl rfl ?_
  refine w_aload_n rfl rfl rfl ?_
  refine w_iconst (x := Int32.ofNat 0) rfl rfl (by decide) ?_
  refine w_pf rfl rfl rfl sp110 rfl rfl rfl ?_
  refine w_aload_n rfl rfl rfl ?_
  refine w_iconst (x := Int32.ofNat 0) rfl rfl (by decide) ?_
  refine w_pf rfl rfl rfl sp110 rfl rfl rfl ?_
  refine w_aload_n rfl rfl rfl ?_
  refine w_iconst (x := Int32.ofNat 0) rfl rfl (by decide) ?_
  refine w_pf rfl rfl rfl sp110 rfl rfl rfl ?_
  refine w_aload_n rfl rfl rfl ?_
  refine w_iconst (x := Int32.ofInt (-1)) rfl rfl (by decide) ?_
  refine w_pf rfl rfl rfl sp110 rfl rfl rfl ?_
  refine w_aload_n rfl rfl rfl ?_
  refine w_iconst (x := Int32.ofInt (-1)) rfl rfl (by decide) ?_
  refine w_pf rfl rfl rfl sp110 rfl rfl rfl ?_
  refine w_aload_n rfl rfl rfl ?_
  refine w_iconst (x := Int32.ofNat 0) rfl rfl (by decide) ?_
  refine w_pf rfl rfl rfl sp110 rfl rfl rfl ?_
  refine w_aload_n rfl rfl rfl ?_
  refine w_iconst (x := Int32.ofNat 0) rfl rfl (by decide) ?_
  refine w_pf rfl rfl rfl sp110 rfl rfl rfl ?_
  refine w_aload_n rfl rfl rfl ?_
  refine w_aload_n rfl rfl rfl ?_
  refine w_gf (t := .ref (114)) (v := .ref (114)) rfl rfl rfl sp110 rfl rfl rfl ?_
  refine w_iconst (x := Int32.ofNat 0) rfl rfl (by decide) ?_
  refine w_iaload rfl rfl sp114 rfl ⟨by omega, by omega⟩ ((congrFun (am_u_ne (by decide)) _).trans ((congrFun (am_u_ne (by decide)) _).trans ((congrFun (am_u_ne (by decide)) _).trans ((congrFun (am_u_ne (by decide)) _).trans ((congrFun (am_u_ne (by decide)) _).trans ((congrFun (am_u_ne (by decide)) _).trans ((congrFun (am_u_ne (by decide)) _).trans ((congrFun (am_u_ne (by decide)) _).trans (congrFun (am_u_ne (by decide)) _))))))))) ?_
  refine w_bipush (x := Int32.ofNat 50) rfl rfl (by decide) ?_
  refine w_ic_lt (t := 61) (f := 57) rfl rfl rfl (fun c54 => ?_) (fun c54 => ?_)
  · refine w_iconst (x := Int32.ofNat 0) rfl rfl (by decide) ?_
    refine w_pf rfl rfl rfl sp110 rfl rfl rfl ?_
    exact w_ret rfl (by simp only [m_pt, *, ite_true, ite_false, and_self, and_true, true_and, and_false, false_and, or_true, true_or, or_false, false_or, not_true, not_false_iff] <;> rfl) rfl rfl
  · refine w_iconst (x := Int32.ofNat 1) rfl rfl (by decide) ?_
    refine w_goto (pc' := 62) rfl rfl ?_
    refine w_pf rfl rfl rfl sp110 rfl rfl rfl ?_
    exact w_ret rfl (by simp only [m_pt, *, ite_true, ite_false, and_self, and_true, true_and, and_false, false_and, or_true, true_or, or_false, false_or, not_true, not_false_iff] <;> rfl) rfl rfl
def m_af1 (b n : Nat) (I : hI) : hI := s_for (fun r I => am_u (am_u (am_u I 138 (8 * b + r) (Int32.ofNat 0)) 139 (8 * b + r) (Int32.ofNat 0)) 140 (8 * b + r) (I 122 r)) n I
def m_af2 (b n : Nat) (I : hI) : hI := s_for (fun r I => am_u (am_u (am_u I 141 (5 * b + r) (Int32.ofNat 0)) 142 (5 * b + r) (Int32.ofNat 0)) 143 (5 * b + r) (Int32.ofNat 0)) n I
def m_af (b : Nat) (I : hI) : hI := am_u (am_u (m_af2 b 5 (m_af1 b 8 I)) 144 b (Int32.ofNat 0)) 145 b (Int32.ofNat 0)
theorem simF_for {f : Nat → hI → hI} (h : ∀ r I, simF I (f r I)) (n : Nat) (I : hI) : simF I (s_for f n I) := by
  induction n with
  | zero => exact simF_rf _
  | succ n ih => exact simF_tr ih (h n _)
theorem sb_for {f : Nat → hI → hI} (h : ∀ r I, sb I → sb (f r I)) (n : Nat) (I : hI) (g : sb I) : sb (s_for f n I) := by
  induction n with
  | zero => exact g
  | succ n ih => exact h n _ ih
theorem simF_af (b : Nat) (I : hI) : simF I (m_af b I) := simF_tr (simF_tr (simF_tr (simF_for (fun r I => simF_tr (simF_tr (simF_u (by omega)) (simF_u (by omega))) (simF_u (by omega))) 8 I) (simF_for (fun r I => simF_tr (simF_tr (simF_u (by omega)) (simF_u (by omega))) (simF_u (by omega))) 5 _)) (simF_u (by omega))) (simF_u (by omega))
theorem sb_af {b : Nat} {I : hI} (h : sb I) : sb (m_af b I) := sb_u (by omega) (sb_u (by omega) (sb_for (fun r I g => sb_u (by omega) (sb_u (by omega) (sb_u (by omega) g))) 5 _ (sb_for (fun r I g => sb_u (by omega) (sb_u (by omega) (sb_u (by omega) g))) 8 _ h)))
theorem l_atFirst1 {k : Nat} {R : hR} {q : Option Value × am_H} {b : Nat} {I0 : hI} {J0 : hJ} (hb : b ≤ 1) (Z : wz k 12 none am_c211 55 [.ref 110, .int (Int32.ofNat b), .int (Int32.ofNat 8)] [] (m_af1 b 8 I0) J0 R q) : ∀ (j r : Nat) , r + j = 8 → wz k 12 none am_c211 2 [.ref 110, .int (Int32.ofNat b), .int (Int32.ofNat r)] [] (m_af1 b r I0) J0 R q := by
  intro j
  induction j with
  | zero =>
    intro r e
    obtain rfl : 8 = r := by omega
    refine w_iload_n rfl rfl rfl ?_
    refine w_bipush (x := Int32.ofNat 8) rfl rfl (by decide) ?_
    refine w_ic_geN (t := 55) (f := 8) rfl rfl rfl (by omega) (by omega) (fun c5 => ?_) (fun c5 => absurd c5 (by omega))
    exact Z
  | succ j ih =>
    intro r e
    refine w_iload_n rfl rfl rfl ?_
    refine w_bipush (x := Int32.ofNat 8) rfl rfl (by decide) ?_
    refine w_ic_geN (t := 55) (f := 8) rfl rfl rfl (by omega) (by omega) (fun c5 => absurd c5 (by omega)) (fun c5 => ?_)
    refine w_aload_n rfl rfl rfl ?_
    refine w_gf (t := .ref (138)) (v := .ref (138)) rfl rfl rfl sp110 rfl rfl rfl ?_
    refine w_bipush (x := Int32.ofNat 8) rfl rfl (by decide) ?_
    refine w_iload_n rfl rfl rfl ?_
    refine w_imulN rfl rfl ?_
    refine w_iload_n rfl rfl rfl ?_
    refine w_iaddN rfl rfl ?_
    refine w_iconst (x := Int32.ofNat 0) rfl rfl (by decide) ?_
    refine w_iastore rfl rfl sp138 rfl ⟨by omega, by omega⟩ ?_
    refine w_aload_n rfl rfl rfl ?_
    refine w_gf (t := .ref (139)) (v := .ref (139)) rfl rfl rfl sp110 rfl rfl rfl ?_
    refine w_bipush (x := Int32.ofNat 8) rfl rfl (by decide) ?_
    refine w_iload_n rfl rfl rfl ?_
    refine w_imulN rfl rfl ?_
    refine w_iload_n rfl rfl rfl ?_
    refine w_iaddN rfl rfl ?_
    refine w_iconst (x := Int32.ofNat 0) rfl rfl (by decide) ?_
    refine w_iastore rfl rfl sp139 rfl ⟨by omega, by omega⟩ ?_
    refine w_aload_n rfl rfl rfl ?_
    refine w_gf (t := .ref (140)) (v := .ref (140)) rfl rfl rfl sp110 rfl rfl rfl ?_
    refine w_bipush (x := Int32.ofNat 8) rfl rfl (by decide) ?_
    refine w_iload_n rfl rfl rfl ?_
    refine w_imulN rfl rfl ?_
    refine w_iload_n rfl rfl rfl ?_
    refine w_iaddN rfl rfl ?_
    refine w_aload_n rfl rfl rfl ?_
    refine w_gf (t := .ref (122)) (v := .ref (122)) rfl rfl rfl sp110 rfl rfl rfl ?_
    refine w_iload_n rfl rfl rfl ?_
    refine w_iaload rfl rfl sp122 rfl ⟨by omega, by omega⟩ ((congrFun (am_u_ne (by decide)) _).trans (congrFun (am_u_ne (by decide)) _)) ?_
    refine w_iastore rfl rfl sp140 rfl ⟨by omega, by omega⟩ ?_
    refine w_iinc (L' := [_, _, _]) rfl rfl rfl (am_incN 1) rfl ?_
    refine w_goto (pc' := 2) rfl rfl ?_
    exact ih (r + 1) (by omega)
theorem l_atFirst2 {k : Nat} {R : hR} {q : Option Value × am_H} {b : Nat} {I0 : hI} {J0 : hJ} (hb : b ≤ 1) (Z : wz k 12 none am_c211 101 [.ref 110, .int (Int32.ofNat b), .int (Int32.ofNat 5)] [] (m_af2 b 5 I0) J0 R q) : ∀ (j r : Nat) , r + j = 5 → wz k 12 none am_c211 57 [.ref 110, .int (Int32.ofNat b), .int (Int32.ofNat r)] [] (m_af2 b r I0) J0 R q := by
  intro j
  induction j with
  | zero =>
    intro r e
    obtain rfl : 5 = r := by omega
    refine w_iload_n rfl rfl rfl ?_
    refine w_iconst (x := Int32.ofNat 5) rfl rfl (by decide) ?_
    refine w_ic_geN (t := 101) (f := 62) rfl rfl rfl (by omega) (by omega) (fun c59 => ?_) (fun c59 => absurd c59 (by omega))
    exact Z
  | succ j ih =>
    intro r e
    refine w_iload_n rfl rfl rfl ?_
    refine w_iconst (x := Int32.ofNat 5) rfl rfl (by decide) ?_
    refine w_ic_geN (t := 101) (f := 62) rfl rfl rfl (by omega) (by omega) (fun c59 => absurd c59 (by omega)) (fun c59 => ?_)
    refine w_aload_n rfl rfl rfl ?_
    refine w_gf (t := .ref (141)) (v := .ref (141)) rfl rfl rfl sp110 rfl rfl rfl ?_
    refine w_iconst (x := Int32.ofNat 5) rfl rfl (by decide) ?_
    refine w_iload_n rfl rfl rfl ?_
    refine w_imulN rfl rfl ?_
    refine w_iload_n rfl rfl rfl ?_
    refine w_iaddN rfl rfl ?_
    refine w_iconst (x := Int32.ofNat 0) rfl rfl (by decide) ?_
    refine w_iastore rfl rfl sp141 rfl ⟨by omega, by omega⟩ ?_
    refine w_aload_n rfl rfl rfl ?_
    refine w_gf (t := .ref (142)) (v := .ref (142)) rfl rfl rfl sp110 rfl rfl rfl ?_
    refine w_iconst (x := Int32.ofNat 5) rfl rfl (by decide) ?_
    refine w_iload_n rfl rfl rfl ?_
    refine w_imulN rfl rfl ?_
    refine w_iload_n rfl rfl rfl ?_
    refine w_iaddN rfl rfl ?_
    refine w_iconst (x := Int32.ofNat 0) rfl rfl (by decide) ?_
    refine w_iastore rfl rfl sp142 rfl ⟨by omega, by omega⟩ ?_
    refine w_aload_n rfl rfl rfl ?_
    refine w_gf (t := .ref (143)) (v := .ref (143)) rfl rfl rfl sp110 rfl rfl rfl ?_
    refine w_iconst (x := Int32.ofNat 5) rfl rfl (by decide) ?_
    refine w_iload_n rfl rfl rfl ?_
    refine w_imulN rfl rfl ?_
    refine w_iload_n rfl rfl rfl ?_
    refine w_iaddN rfl rfl ?_
    refine w_iconst (x := Int32.ofNat 0) rfl rfl (by decide) ?_
    refine w_iastore rfl rfl sp143 rfl ⟨by omega, by omega⟩ ?_
    refine w_iinc (L' := [_, _, _]) rfl rfl rfl (am_incN 1) rfl ?_
    refine w_goto (pc' := 57) rfl rfl ?_
    exact ih (r + 1) (by omega)
theorem c_atFirst {k : Nat} {I : hI} {J : hJ} {R : hR} {b : Nat} (hb : b ≤ 1) (hk : 1 ≤ k) : ct k 211 [.ref 110, .int (Int32.ofNat b)] I J R none (m_af b I) J R := by
  obtain ⟨k, rfl⟩ : ∃ k', k = k' + 1 := ⟨k - 1, by omega⟩
  refine ct_of (q := am_m211) (L := [_, _, _]) rfl rfl rfl rfl rfl rfl ?_
  refine w_iconst (x := Int32.ofNat 0) rfl rfl (by decide) ?_
  refine w_istore_n (L' := [_, _, _]) rfl rfl rfl ?_
  refine l_atFirst1 hb ?_ 8 0 (by omega)
  refine w_iconst (x := Int32.ofNat 0) rfl rfl (by decide) ?_
  refine w_istore_n (L' := [_, _, _]) rfl rfl rfl ?_
  refine l_atFirst2 hb ?_ 5 0 (by omega)
  refine w_aload_n rfl rfl rfl ?_
  refine w_gf (t := .ref (144)) (v := .ref (144)) rfl rfl rfl sp110 rfl rfl rfl ?_
  refine w_iload_n rfl rfl rfl ?_
  refine w_iconst (x := Int32.ofNat 0) rfl rfl (by decide) ?_
  refine w_iastore rfl rfl sp144 rfl ⟨by omega, by omega⟩ ?_
  refine w_aload_n rfl rfl rfl ?_
  refine w_gf (t := .ref (145)) (v := .ref (145)) rfl rfl rfl sp110 rfl rfl rfl ?_
  refine w_iload_n rfl rfl rfl ?_
  refine w_iconst (x := Int32.ofNat 0) rfl rfl (by decide) ?_
  refine w_iastore rfl rfl sp145 rfl ⟨by omega, by omega⟩ ?_
  exact w_ret rfl rfl rfl rfl
def m_lt1 (n : Nat) (I : hI) : hI := s_for (fun r I => am_u (am_u (am_u I 138 (8 + r) (I 138 r)) 139 (8 + r) (I 139 r)) 140 (8 + r) (I 140 r)) n I
def m_lt2 (n : Nat) (I : hI) : hI := s_for (fun r I => am_u (am_u (am_u I 141 (5 + r) (I 141 r)) 142 (5 + r) (I 142 r)) 143 (5 + r) (I 143 r)) n I
def m_lt3 (I : hI) : hI := am_u (am_u I 144 1 (I 144 0)) 145 1 (I 145 0)
def m_lt (I : hI) : hI := m_pt (m_lt3 (m_lt2 5 (m_lt1 8 I)))
theorem tok_lt {I : hI} {N : Nat → Nat} (h : tok I N) : tok (m_lt I) N := tok_pt (tok_F (simF_tr (simF_tr (simF_tr (simF_for (fun r I => simF_tr (simF_tr (simF_u (by omega)) (simF_u (by omega))) (simF_u (by omega))) 8 I) (simF_for (fun r I => simF_tr (simF_tr (simF_u (by omega)) (simF_u (by omega))) (simF_u (by omega))) 5 _)) (simF_u (by omega))) (simF_u (by omega))) h)
theorem l_layTried1 {k : Nat} {R : hR} {q : Option Value × am_H} {I0 : hI} {J0 : hJ} (Z : wz k 12 none am_c213 59 [.ref 110, .int (Int32.ofNat 8)] [] (m_lt1 8 I0) J0 R q) : ∀ (j r : Nat) , r + j = 8 → wz k 12 none am_c213 2 [.ref 110, .int (Int32.ofNat r)] [] (m_lt1 r I0) J0 R q := by
  intro j
  induction j with
  | zero =>
    intro r e
    obtain rfl : 8 = r := by omega
    refine w_iload_n rfl rfl rfl ?_
    refine w_bipush (x := Int32.ofNat 8) rfl rfl (by decide) ?_
    refine w_ic_geN (t := 59) (f := 8) rfl rfl rfl (by omega) (by omega) (fun c5 => ?_) (fun c5 => absurd c5 (by omega))
    exact Z
  | succ j ih =>
    intro r e
    refine w_iload_n rfl rfl rfl ?_
    refine w_bipush (x := Int32.ofNat 8) rfl rfl (by decide) ?_
    refine w_ic_geN (t := 59) (f := 8) rfl rfl rfl (by omega) (by omega) (fun c5 => absurd c5 (by omega)) (fun c5 => ?_)
    refine w_aload_n rfl rfl rfl ?_
    refine w_gf (t := .ref (138)) (v := .ref (138)) rfl rfl rfl sp110 rfl rfl rfl ?_
    refine w_bipush (x := Int32.ofNat 8) rfl rfl (by decide) ?_
    refine w_iload_n rfl rfl rfl ?_
    refine w_iaddN rfl rfl ?_
    refine w_aload_n rfl rfl rfl ?_
    refine w_gf (t := .ref (138)) (v := .ref (138)) rfl rfl rfl sp110 rfl rfl rfl ?_
    refine w_iload_n rfl rfl rfl ?_
    refine w_iaload rfl rfl sp138 rfl ⟨by omega, by omega⟩ rfl ?_
    refine w_iastore rfl rfl sp138 rfl ⟨by omega, by omega⟩ ?_
    refine w_aload_n rfl rfl rfl ?_
    refine w_gf (t := .ref (139)) (v := .ref (139)) rfl rfl rfl sp110 rfl rfl rfl ?_
    refine w_bipush (x := Int32.ofNat 8) rfl rfl (by decide) ?_
    refine w_iload_n rfl rfl rfl ?_
    refine w_iaddN rfl rfl ?_
    refine w_aload_n rfl rfl rfl ?_
    refine w_gf (t := .ref (139)) (v := .ref (139)) rfl rfl rfl sp110 rfl rfl rfl ?_
    refine w_iload_n rfl rfl rfl ?_
    refine w_iaload rfl rfl sp139 rfl ⟨by omega, by omega⟩ (congrFun (am_u_ne (by decide)) _) ?_
    refine w_iastore rfl rfl sp139 rfl ⟨by omega, by omega⟩ ?_
    refine w_aload_n rfl rfl rfl ?_
    refine w_gf (t := .ref (140)) (v := .ref (140)) rfl rfl rfl sp110 rfl rfl rfl ?_
    refine w_bipush (x := Int32.ofNat 8) rfl rfl (by decide) ?_
    refine w_iload_n rfl rfl rfl ?_
    refine w_iaddN rfl rfl ?_
    refine w_aload_n rfl rfl rfl ?_
    refine w_gf (t := .ref (140)) (v := .ref (140)) rfl rfl rfl sp110 rfl rfl rfl ?_
    refine w_iload_n rfl rfl rfl ?_
    refine w_iaload rfl rfl sp140 rfl ⟨by omega, by omega⟩ ((congrFun (am_u_ne (by decide)) _).trans (congrFun (am_u_ne (by decide)) _)) ?_
    refine w_iastore rfl rfl sp140 rfl ⟨by omega, by omega⟩ ?_
    refine w_iinc (L' := [_, _]) rfl rfl rfl (am_incN 1) rfl ?_
    refine w_goto (pc' := 2) rfl rfl ?_
    exact ih (r + 1) (by omega)
theorem l_layTried2 {k : Nat} {R : hR} {q : Option Value × am_H} {I0 : hI} {J0 : hJ} (Z : wz k 12 none am_c213 114 [.ref 110, .int (Int32.ofNat 5)] [] (m_lt2 5 I0) J0 R q) : ∀ (j r : Nat) , r + j = 5 → wz k 12 none am_c213 61 [.ref 110, .int (Int32.ofNat r)] [] (m_lt2 r I0) J0 R q := by
  intro j
  induction j with
  | zero =>
    intro r e
    obtain rfl : 5 = r := by omega
    refine w_iload_n rfl rfl rfl ?_
    refine w_iconst (x := Int32.ofNat 5) rfl rfl (by decide) ?_
    refine w_ic_geN (t := 114) (f := 66) rfl rfl rfl (by omega) (by omega) (fun c63 => ?_) (fun c63 => absurd c63 (by omega))
    exact Z
  | succ j ih =>
    intro r e
    refine w_iload_n rfl rfl rfl ?_
    refine w_iconst (x := Int32.ofNat 5) rfl rfl (by decide) ?_
    refine w_ic_geN (t := 114) (f := 66) rfl rfl rfl (by omega) (by omega) (fun c63 => absurd c63 (by omega)) (fun c63 => ?_)
    refine w_aload_n rfl rfl rfl ?_
    refine w_gf (t := .ref (141)) (v := .ref (141)) rfl rfl rfl sp110 rfl rfl rfl ?_
    refine w_iconst (x := Int32.ofNat 5) rfl rfl (by decide) ?_
    refine w_iload_n rfl rfl rfl ?_
    refine w_iaddN rfl rfl ?_
    refine w_aload_n rfl rfl rfl ?_
    refine w_gf (t := .ref (141)) (v := .ref (141)) rfl rfl rfl sp110 rfl rfl rfl ?_
    refine w_iload_n rfl rfl rfl ?_
    refine w_iaload rfl rfl sp141 rfl ⟨by omega, by omega⟩ rfl ?_
    refine w_iastore rfl rfl sp141 rfl ⟨by omega, by omega⟩ ?_
    refine w_aload_n rfl rfl rfl ?_
    refine w_gf (t := .ref (142)) (v := .ref (142)) rfl rfl rfl sp110 rfl rfl rfl ?_
    refine w_iconst (x := Int32.ofNat 5) rfl rfl (by decide) ?_
    refine w_iload_n rfl rfl rfl ?_
    refine w_iaddN rfl rfl ?_
    refine w_aload_n rfl rfl rfl ?_
    refine w_gf (t := .ref (142)) (v := .ref (142)) rfl rfl rfl sp110 rfl rfl rfl ?_
    refine w_iload_n rfl rfl rfl ?_
    refine w_iaload rfl rfl sp142 rfl ⟨by omega, by omega⟩ (congrFun (am_u_ne (by decide)) _) ?_
    refine w_iastore rfl rfl sp142 rfl ⟨by omega, by omega⟩ ?_
    refine w_aload_n rfl rfl rfl ?_
    refine w_gf (t := .ref (143)) (v := .ref (143)) rfl rfl rfl sp110 rfl rfl rfl ?_
    refine w_iconst (x := Int32.ofNat 5) rfl rfl (by decide) ?_
    refine w_iload_n rfl rfl rfl ?_
    refine w_iaddN rfl rfl ?_
    refine w_aload_n rfl rfl rfl ?_
    refine w_gf (t := .ref (143)) (v := .ref (143)) rfl rfl rfl sp110 rfl rfl rfl ?_
    refine w_iload_n rfl rfl rfl ?_
    refine w_iaload rfl rfl sp143 rfl ⟨by omega, by omega⟩ ((congrFun (am_u_ne (by decide)) _).trans (congrFun (am_u_ne (by decide)) _)) ?_
    refine w_iastore rfl rfl sp143 rfl ⟨by omega, by omega⟩ ?_
    refine w_iinc (L' := [_, _]) rfl rfl rfl (am_incN 1) rfl ?_
    refine w_goto (pc' := 61) rfl rfl ?_
    exact ih (r + 1) (by omega)
theorem c_layTried {k : Nat} {I : hI} {J : hJ} {R : hR}  (hk : 2 ≤ k) : ct k 213 [.ref 110] I J R none (m_lt I) J R := by
  obtain ⟨k, rfl⟩ : ∃ k', k = k' + 1 := ⟨k - 1, by omega⟩
  refine ct_of (q := am_m213) (L := [_, _]) rfl rfl rfl rfl rfl rfl ?_
  refine w_iconst (x := Int32.ofNat 0) rfl rfl (by decide) ?_
  refine w_istore_n (L' := [_, _]) rfl rfl rfl ?_
  refine l_layTried1 ?_ 8 0 (by omega)
  refine w_iconst (x := Int32.ofNat 0) rfl rfl (by decide) ?_
  refine w_istore_n (L' := [_, _]) rfl rfl rfl ?_
  refine l_layTried2 ?_ 5 0 (by omega)
  refine w_aload_n rfl rfl rfl ?_
  refine w_gf (t := .ref (144)) (v := .ref (144)) rfl rfl rfl sp110 rfl rfl rfl ?_
  refine w_iconst (x := Int32.ofNat 1) rfl rfl (by decide) ?_
  refine w_aload_n rfl rfl rfl ?_
  refine w_gf (t := .ref (144)) (v := .ref (144)) rfl rfl rfl sp110 rfl rfl rfl ?_
  refine w_iconst (x := Int32.ofNat 0) rfl rfl (by decide) ?_
  refine w_iaload rfl rfl sp144 rfl ⟨by omega, by omega⟩ rfl ?_
  refine w_iastore rfl rfl sp144 rfl ⟨by omega, by omega⟩ ?_
  refine w_aload_n rfl rfl rfl ?_
  refine w_gf (t := .ref (145)) (v := .ref (145)) rfl rfl rfl sp110 rfl rfl rfl ?_
  refine w_iconst (x := Int32.ofNat 1) rfl rfl (by decide) ?_
  refine w_aload_n rfl rfl rfl ?_
  refine w_gf (t := .ref (145)) (v := .ref (145)) rfl rfl rfl sp110 rfl rfl rfl ?_
  refine w_iconst (x := Int32.ofNat 0) rfl rfl (by decide) ?_
  refine w_iaload rfl rfl sp145 rfl ⟨by omega, by omega⟩ (congrFun (am_u_ne (by decide)) _) ?_
  refine w_iastore rfl rfl sp145 rfl ⟨by omega, by omega⟩ ?_
  refine w_aload_n rfl rfl rfl ?_
  refine w_cv (q := am_m212) (as := []) (rest := []) (st' := []) rfl rfl rfl rfl rfl rfl sp110 rfl rfl rfl rfl (c_plainTried (by omega)) rfl rfl ?_
  exact w_ret rfl rfl rfl rfl
def m_le (I : hI) (m e : Int32) : hI := am_u (am_u (m_pt (m_af 1 I)) 110 70 m) 110 71 e
theorem tok_le {I : hI} {N : Nat → Nat} {m e : Int32} (h : tok I N) : tok (m_le I m e) N := tok_u (by omega) (by omega) (tok_u (by omega) (by omega) (tok_pt (tok_F (simF_af 1 I) h)))
theorem sb_le (I : hI) (m e : Int32) : sb (m_le I m e) := sb_u (by omega) (sb_u (by omega) (sb_pt _))
def m_beI (I : hI) : hI := am_u (am_u (am_u (am_u (m_pt (m_af 0 I)) 110 79 (Int32.ofNat 0)) 110 80 (Int32.ofInt (-1))) 110 84 (Int32.ofNat 0)) 110 86 (Int32.ofNat 0)
theorem c_layEven {k : Nat} {I : hI} {J : hJ} {R : hR} {m e : Int32} (hk : 2 ≤ k) : ct k 272 [.ref 110, .int m, .int e] I J R none (m_le I m e) J R := by
  obtain ⟨k, rfl⟩ : ∃ k', k = k' + 1 := ⟨k - 1, by omega⟩
  refine ct_of (q := am_m272) (L := [_, _, _]) rfl rfl rfl rfl rfl rfl ?_
  refine w_aload_n rfl rfl rfl ?_
  refine w_iconst (x := Int32.ofNat 1) rfl rfl (by decide) ?_
  refine w_cv (q := am_m211) (as := [_]) (rest := []) (st' := []) rfl rfl rfl rfl rfl rfl sp110 rfl rfl rfl rfl (c_atFirst (b := 1) (by decide) (by omega)) rfl rfl ?_
  refine w_aload_n rfl rfl rfl ?_
  refine w_cv (q := am_m212) (as := []) (rest := []) (st' := []) rfl rfl rfl rfl rfl rfl sp110 rfl rfl rfl rfl (c_plainTried (by omega)) rfl rfl ?_
  refine w_aload_n rfl rfl rfl ?_
  refine w_iload_n rfl rfl rfl ?_
  refine w_pf rfl rfl rfl sp110 rfl rfl rfl ?_
  refine w_aload_n rfl rfl rfl ?_
  refine w_iload_n rfl rfl rfl ?_
  refine w_pf rfl rfl rfl sp110 rfl rfl rfl ?_
  exact w_ret rfl rfl rfl rfl
theorem c_begin {k : Nat} {I : hI} {J : hJ} {R : hR}  (hk : 2 ≤ k) : ct k 210 [.ref 110] I J R none (m_beI I) (am_u J 110 62 (m_af 0 I 114 1).toInt64) R := by
  obtain ⟨k, rfl⟩ : ∃ k', k = k' + 1 := ⟨k - 1, by omega⟩
  refine ct_of (q := am_m210) (L := [_]) rfl rfl rfl rfl rfl rfl ?_
  refine w_aload_n rfl rfl rfl ?_
  refine w_iconst (x := Int32.ofNat 0) rfl rfl (by decide) ?_
  refine w_cv (q := am_m211) (as := [_]) (rest := []) (st' := []) rfl rfl rfl rfl rfl rfl sp110 rfl rfl rfl rfl (c_atFirst (b := 0) (by decide) (by omega)) rfl rfl ?_
  refine w_aload_n rfl rfl rfl ?_
  refine w_aload_n rfl rfl rfl ?_
  refine w_gf (t := .ref (114)) (v := .ref (114)) rfl rfl rfl sp110 rfl rfl rfl ?_
  refine w_iconst (x := Int32.ofNat 1) rfl rfl (by decide) ?_
  refine w_iaload rfl rfl sp114 rfl ⟨by omega, by omega⟩ rfl ?_
  refine w_i2l rfl rfl ?_
  refine w_pfL rfl rfl rfl sp110 rfl rfl rfl ?_
  refine w_aload_n rfl rfl rfl ?_
  refine w_cv (q := am_m212) (as := []) (rest := []) (st' := []) rfl rfl rfl rfl rfl rfl sp110 rfl rfl rfl rfl (c_plainTried (by omega)) rfl rfl ?_
  refine w_aload_n rfl rfl rfl ?_
  refine w_iconst (x := Int32.ofNat 0) rfl rfl (by decide) ?_
  refine w_pf rfl rfl rfl sp110 rfl rfl rfl ?_
  refine w_aload_n rfl rfl rfl ?_
  refine w_iconst (x := Int32.ofInt (-1)) rfl rfl (by decide) ?_
  refine w_pf rfl rfl rfl sp110 rfl rfl rfl ?_
  refine w_aload_n rfl rfl rfl ?_
  refine w_iconst (x := Int32.ofNat 0) rfl rfl (by decide) ?_
  refine w_pf rfl rfl rfl sp110 rfl rfl rfl ?_
  refine w_aload_n rfl rfl rfl ?_
  refine w_iconst (x := Int32.ofNat 0) rfl rfl (by decide) ?_
  refine w_pf rfl rfl rfl sp110 rfl rfl rfl ?_
  exact w_ret rfl rfl rfl rfl
def m_pu1 (A i n : Nat) (I : hI) : hI := s_for (fun r I => am_u (am_u (am_u I A (i + r) (I 138 r)) A (i + 8 + r) (I 139 r)) A (i + 16 + r) (I 140 r)) n I
def m_pu2 (A i n : Nat) (I : hI) : hI := s_for (fun r I => am_u (am_u I A (i + 24 + r) (I 141 r)) A (i + 29 + r) (I 142 r)) n I
def m_put (A i : Nat) (I : hI) : hI := m_pu2 A i 5 (m_pu1 A i 8 I)
def m_bb1 (A i n : Nat) (I : hI) : hI := s_for (fun r I => am_u (am_u (am_u I 138 r (I A (i + r))) 139 r (I A (i + 8 + r))) 140 r (I A (i + 16 + r))) n I
def m_bb2 (A i n : Nat) (I : hI) : hI := s_for (fun r I => am_u (am_u I 141 r (I A (i + 24 + r))) 142 r (I A (i + 29 + r))) n I
def m_bb (A i : Nat) (I : hI) : hI := m_bb2 A i 5 (m_bb1 A i 8 I)
theorem l_put1 {k : Nat} {R : hR} {q : Option Value × am_H} {A i m : Nat} {I0 : hI} {J0 : hJ} (hA : am_shL[A]? = some (.inl (.int, false, m))) (hA1 : 145 < A) (hi : i + 34 ≤ m) (hm : m ≤ 1024) (Z : wz k 12 none am_c279 53 [.ref 110, .ref A, .int (Int32.ofNat i), .int (Int32.ofNat 8)] [] (m_pu1 A i 8 I0) J0 R q) : ∀ (j r : Nat) , r + j = 8 → wz k 12 none am_c279 2 [.ref 110, .ref A, .int (Int32.ofNat i), .int (Int32.ofNat r)] [] (m_pu1 A i r I0) J0 R q := by
  intro j
  induction j with
  | zero =>
    intro r e
    obtain rfl : 8 = r := by omega
    refine w_iload_n rfl rfl rfl ?_
    refine w_bipush (x := Int32.ofNat 8) rfl rfl (by decide) ?_
    refine w_ic_geN (t := 53) (f := 8) rfl rfl rfl (by omega) (by omega) (fun c5 => ?_) (fun c5 => absurd c5 (by omega))
    exact Z
  | succ j ih =>
    intro r e
    refine w_iload_n rfl rfl rfl ?_
    refine w_bipush (x := Int32.ofNat 8) rfl rfl (by decide) ?_
    refine w_ic_geN (t := 53) (f := 8) rfl rfl rfl (by omega) (by omega) (fun c5 => absurd c5 (by omega)) (fun c5 => ?_)
    refine w_aload_n rfl rfl rfl ?_
    refine w_iload_n rfl rfl rfl ?_
    refine w_iload_n rfl rfl rfl ?_
    refine w_iaddN rfl rfl ?_
    refine w_aload_n rfl rfl rfl ?_
    refine w_gf (t := .ref (138)) (v := .ref (138)) rfl rfl rfl sp110 rfl rfl rfl ?_
    refine w_iload_n rfl rfl rfl ?_
    refine w_iaload rfl rfl sp138 rfl ⟨by omega, by omega⟩ rfl ?_
    refine w_iastore rfl rfl hA rfl ⟨by omega, by omega⟩ ?_
    refine w_aload_n rfl rfl rfl ?_
    refine w_iload_n rfl rfl rfl ?_
    refine w_bipush (x := Int32.ofNat 8) rfl rfl (by decide) ?_
    refine w_iaddN rfl rfl ?_
    refine w_iload_n rfl rfl rfl ?_
    refine w_iaddN rfl rfl ?_
    refine w_aload_n rfl rfl rfl ?_
    refine w_gf (t := .ref (139)) (v := .ref (139)) rfl rfl rfl sp110 rfl rfl rfl ?_
    refine w_iload_n rfl rfl rfl ?_
    refine w_iaload rfl rfl sp139 rfl ⟨by omega, by omega⟩ (congrFun (am_u_ne (by omega)) _) ?_
    refine w_iastore rfl rfl hA rfl ⟨by omega, by omega⟩ ?_
    refine w_aload_n rfl rfl rfl ?_
    refine w_iload_n rfl rfl rfl ?_
    refine w_bipush (x := Int32.ofNat 16) rfl rfl (by decide) ?_
    refine w_iaddN rfl rfl ?_
    refine w_iload_n rfl rfl rfl ?_
    refine w_iaddN rfl rfl ?_
    refine w_aload_n rfl rfl rfl ?_
    refine w_gf (t := .ref (140)) (v := .ref (140)) rfl rfl rfl sp110 rfl rfl rfl ?_
    refine w_iload_n rfl rfl rfl ?_
    refine w_iaload rfl rfl sp140 rfl ⟨by omega, by omega⟩ ((congrFun (am_u_ne (by omega)) _).trans (congrFun (am_u_ne (by omega)) _)) ?_
    refine w_iastore rfl rfl hA rfl ⟨by omega, by omega⟩ ?_
    refine w_iinc (L' := [_, _, _, _]) rfl rfl rfl (am_incN 1) rfl ?_
    refine w_goto (pc' := 2) rfl rfl ?_
    exact ih (r + 1) (by omega)
theorem l_put2 {k : Nat} {R : hR} {q : Option Value × am_H} {A i m : Nat} {I0 : hI} {J0 : hJ} (hA : am_shL[A]? = some (.inl (.int, false, m))) (hA1 : 145 < A) (hi : i + 34 ≤ m) (hm : m ≤ 1024) (Z : wz k 12 none am_c279 94 [.ref 110, .ref A, .int (Int32.ofNat i), .int (Int32.ofNat 5)] [] (m_pu2 A i 5 I0) J0 R q) : ∀ (j r : Nat) , r + j = 5 → wz k 12 none am_c279 55 [.ref 110, .ref A, .int (Int32.ofNat i), .int (Int32.ofNat r)] [] (m_pu2 A i r I0) J0 R q := by
  intro j
  induction j with
  | zero =>
    intro r e
    obtain rfl : 5 = r := by omega
    refine w_iload_n rfl rfl rfl ?_
    refine w_iconst (x := Int32.ofNat 5) rfl rfl (by decide) ?_
    refine w_ic_geN (t := 94) (f := 60) rfl rfl rfl (by omega) (by omega) (fun c57 => ?_) (fun c57 => absurd c57 (by omega))
    exact Z
  | succ j ih =>
    intro r e
    refine w_iload_n rfl rfl rfl ?_
    refine w_iconst (x := Int32.ofNat 5) rfl rfl (by decide) ?_
    refine w_ic_geN (t := 94) (f := 60) rfl rfl rfl (by omega) (by omega) (fun c57 => absurd c57 (by omega)) (fun c57 => ?_)
    refine w_aload_n rfl rfl rfl ?_
    refine w_iload_n rfl rfl rfl ?_
    refine w_bipush (x := Int32.ofNat 24) rfl rfl (by decide) ?_
    refine w_iaddN rfl rfl ?_
    refine w_iload_n rfl rfl rfl ?_
    refine w_iaddN rfl rfl ?_
    refine w_aload_n rfl rfl rfl ?_
    refine w_gf (t := .ref (141)) (v := .ref (141)) rfl rfl rfl sp110 rfl rfl rfl ?_
    refine w_iload_n rfl rfl rfl ?_
    refine w_iaload rfl rfl sp141 rfl ⟨by omega, by omega⟩ rfl ?_
    refine w_iastore rfl rfl hA rfl ⟨by omega, by omega⟩ ?_
    refine w_aload_n rfl rfl rfl ?_
    refine w_iload_n rfl rfl rfl ?_
    refine w_bipush (x := Int32.ofNat 29) rfl rfl (by decide) ?_
    refine w_iaddN rfl rfl ?_
    refine w_iload_n rfl rfl rfl ?_
    refine w_iaddN rfl rfl ?_
    refine w_aload_n rfl rfl rfl ?_
    refine w_gf (t := .ref (142)) (v := .ref (142)) rfl rfl rfl sp110 rfl rfl rfl ?_
    refine w_iload_n rfl rfl rfl ?_
    refine w_iaload rfl rfl sp142 rfl ⟨by omega, by omega⟩ (congrFun (am_u_ne (by omega)) _) ?_
    refine w_iastore rfl rfl hA rfl ⟨by omega, by omega⟩ ?_
    refine w_iinc (L' := [_, _, _, _]) rfl rfl rfl (am_incN 1) rfl ?_
    refine w_goto (pc' := 55) rfl rfl ?_
    exact ih (r + 1) (by omega)
theorem c_put {k : Nat} {I : hI} {J : hJ} {R : hR} {A i m : Nat} (hA : am_shL[A]? = some (.inl (.int, false, m))) (hA1 : 145 < A) (hi : i + 34 ≤ m) (hm : m ≤ 1024) (hk : 1 ≤ k) : ct k 279 [.ref 110, .ref A, .int (Int32.ofNat i)] I J R none (m_put A i I) J R := by
  obtain ⟨k, rfl⟩ : ∃ k', k = k' + 1 := ⟨k - 1, by omega⟩
  refine ct_of (q := am_m279) (L := [_, _, _, _]) rfl rfl rfl rfl rfl rfl ?_
  refine w_iconst (x := Int32.ofNat 0) rfl rfl (by decide) ?_
  refine w_istore_n (L' := [_, _, _, _]) rfl rfl rfl ?_
  refine l_put1 hA hA1 hi hm ?_ 8 0 (by omega)
  refine w_iconst (x := Int32.ofNat 0) rfl rfl (by decide) ?_
  refine w_istore_n (L' := [_, _, _, _]) rfl rfl rfl ?_
  refine l_put2 hA hA1 hi hm ?_ 5 0 (by omega)
  exact w_ret rfl rfl rfl rfl
theorem l_bringBack1 {k : Nat} {R : hR} {q : Option Value × am_H} {A i m : Nat} {I0 : hI} {J0 : hJ} (hA : am_shL[A]? = some (.inl (.int, false, m))) (hA1 : 145 < A) (hi : i + 34 ≤ m) (hm : m ≤ 1024) (Z : wz k 12 none am_c280 53 [.ref 110, .ref A, .int (Int32.ofNat i), .int (Int32.ofNat 8)] [] (m_bb1 A i 8 I0) J0 R q) : ∀ (j r : Nat) , r + j = 8 → wz k 12 none am_c280 2 [.ref 110, .ref A, .int (Int32.ofNat i), .int (Int32.ofNat r)] [] (m_bb1 A i r I0) J0 R q := by
  intro j
  induction j with
  | zero =>
    intro r e
    obtain rfl : 8 = r := by omega
    refine w_iload_n rfl rfl rfl ?_
    refine w_bipush (x := Int32.ofNat 8) rfl rfl (by decide) ?_
    refine w_ic_geN (t := 53) (f := 8) rfl rfl rfl (by omega) (by omega) (fun c5 => ?_) (fun c5 => absurd c5 (by omega))
    exact Z
  | succ j ih =>
    intro r e
    refine w_iload_n rfl rfl rfl ?_
    refine w_bipush (x := Int32.ofNat 8) rfl rfl (by decide) ?_
    refine w_ic_geN (t := 53) (f := 8) rfl rfl rfl (by omega) (by omega) (fun c5 => absurd c5 (by omega)) (fun c5 => ?_)
    refine w_aload_n rfl rfl rfl ?_
    refine w_gf (t := .ref (138)) (v := .ref (138)) rfl rfl rfl sp110 rfl rfl rfl ?_
    refine w_iload_n rfl rfl rfl ?_
    refine w_aload_n rfl rfl rfl ?_
    refine w_iload_n rfl rfl rfl ?_
    refine w_iload_n rfl rfl rfl ?_
    refine w_iaddN rfl rfl ?_
    refine w_iaload rfl rfl hA rfl ⟨by omega, by omega⟩ rfl ?_
    refine w_iastore rfl rfl sp138 rfl ⟨by omega, by omega⟩ ?_
    refine w_aload_n rfl rfl rfl ?_
    refine w_gf (t := .ref (139)) (v := .ref (139)) rfl rfl rfl sp110 rfl rfl rfl ?_
    refine w_iload_n rfl rfl rfl ?_
    refine w_aload_n rfl rfl rfl ?_
    refine w_iload_n rfl rfl rfl ?_
    refine w_bipush (x := Int32.ofNat 8) rfl rfl (by decide) ?_
    refine w_iaddN rfl rfl ?_
    refine w_iload_n rfl rfl rfl ?_
    refine w_iaddN rfl rfl ?_
    refine w_iaload rfl rfl hA rfl ⟨by omega, by omega⟩ (congrFun (am_u_ne (by omega)) _) ?_
    refine w_iastore rfl rfl sp139 rfl ⟨by omega, by omega⟩ ?_
    refine w_aload_n rfl rfl rfl ?_
    refine w_gf (t := .ref (140)) (v := .ref (140)) rfl rfl rfl sp110 rfl rfl rfl ?_
    refine w_iload_n rfl rfl rfl ?_
    refine w_aload_n rfl rfl rfl ?_
    refine w_iload_n rfl rfl rfl ?_
    refine w_bipush (x := Int32.ofNat 16) rfl rfl (by decide) ?_
    refine w_iaddN rfl rfl ?_
    refine w_iload_n rfl rfl rfl ?_
    refine w_iaddN rfl rfl ?_
    refine w_iaload rfl rfl hA rfl ⟨by omega, by omega⟩ ((congrFun (am_u_ne (by omega)) _).trans (congrFun (am_u_ne (by omega)) _)) ?_
    refine w_iastore rfl rfl sp140 rfl ⟨by omega, by omega⟩ ?_
    refine w_iinc (L' := [_, _, _, _]) rfl rfl rfl (am_incN 1) rfl ?_
    refine w_goto (pc' := 2) rfl rfl ?_
    exact ih (r + 1) (by omega)
theorem l_bringBack2 {k : Nat} {R : hR} {q : Option Value × am_H} {A i m : Nat} {I0 : hI} {J0 : hJ} (hA : am_shL[A]? = some (.inl (.int, false, m))) (hA1 : 145 < A) (hi : i + 34 ≤ m) (hm : m ≤ 1024) (Z : wz k 12 none am_c280 94 [.ref 110, .ref A, .int (Int32.ofNat i), .int (Int32.ofNat 5)] [] (m_bb2 A i 5 I0) J0 R q) : ∀ (j r : Nat) , r + j = 5 → wz k 12 none am_c280 55 [.ref 110, .ref A, .int (Int32.ofNat i), .int (Int32.ofNat r)] [] (m_bb2 A i r I0) J0 R q := by
  intro j
  induction j with
  | zero =>
    intro r e
    obtain rfl : 5 = r := by omega
    refine w_iload_n rfl rfl rfl ?_
    refine w_iconst (x := Int32.ofNat 5) rfl rfl (by decide) ?_
    refine w_ic_geN (t := 94) (f := 60) rfl rfl rfl (by omega) (by omega) (fun c57 => ?_) (fun c57 => absurd c57 (by omega))
    exact Z
  | succ j ih =>
    intro r e
    refine w_iload_n rfl rfl rfl ?_
    refine w_iconst (x := Int32.ofNat 5) rfl rfl (by decide) ?_
    refine w_ic_geN (t := 94) (f := 60) rfl rfl rfl (by omega) (by omega) (fun c57 => absurd c57 (by omega)) (fun c57 => ?_)
    refine w_aload_n rfl rfl rfl ?_
    refine w_gf (t := .ref (141)) (v := .ref (141)) rfl rfl rfl sp110 rfl rfl rfl ?_
    refine w_iload_n rfl rfl rfl ?_
    refine w_aload_n rfl rfl rfl ?_
    refine w_iload_n rfl rfl rfl ?_
    refine w_bipush (x := Int32.ofNat 24) rfl rfl (by decide) ?_
    refine w_iaddN rfl rfl ?_
    refine w_iload_n rfl rfl rfl ?_
    refine w_iaddN rfl rfl ?_
    refine w_iaload rfl rfl hA rfl ⟨by omega, by omega⟩ rfl ?_
    refine w_iastore rfl rfl sp141 rfl ⟨by omega, by omega⟩ ?_
    refine w_aload_n rfl rfl rfl ?_
    refine w_gf (t := .ref (142)) (v := .ref (142)) rfl rfl rfl sp110 rfl rfl rfl ?_
    refine w_iload_n rfl rfl rfl ?_
    refine w_aload_n rfl rfl rfl ?_
    refine w_iload_n rfl rfl rfl ?_
    refine w_bipush (x := Int32.ofNat 29) rfl rfl (by decide) ?_
    refine w_iaddN rfl rfl ?_
    refine w_iload_n rfl rfl rfl ?_
    refine w_iaddN rfl rfl ?_
    refine w_iaload rfl rfl hA rfl ⟨by omega, by omega⟩ (congrFun (am_u_ne (by omega)) _) ?_
    refine w_iastore rfl rfl sp142 rfl ⟨by omega, by omega⟩ ?_
    refine w_iinc (L' := [_, _, _, _]) rfl rfl rfl (am_incN 1) rfl ?_
    refine w_goto (pc' := 55) rfl rfl ?_
    exact ih (r + 1) (by omega)
theorem c_bringBack {k : Nat} {I : hI} {J : hJ} {R : hR} {A i m : Nat} (hA : am_shL[A]? = some (.inl (.int, false, m))) (hA1 : 145 < A) (hi : i + 34 ≤ m) (hm : m ≤ 1024) (hk : 1 ≤ k) : ct k 280 [.ref 110, .ref A, .int (Int32.ofNat i)] I J R none (m_bb A i I) J R := by
  obtain ⟨k, rfl⟩ : ∃ k', k = k' + 1 := ⟨k - 1, by omega⟩
  refine ct_of (q := am_m280) (L := [_, _, _, _]) rfl rfl rfl rfl rfl rfl ?_
  refine w_iconst (x := Int32.ofNat 0) rfl rfl (by decide) ?_
  refine w_istore_n (L' := [_, _, _, _]) rfl rfl rfl ?_
  refine l_bringBack1 hA hA1 hi hm ?_ 8 0 (by omega)
  refine w_iconst (x := Int32.ofNat 0) rfl rfl (by decide) ?_
  refine w_istore_n (L' := [_, _, _, _]) rfl rfl rfl ?_
  refine l_bringBack2 hA hA1 hi hm ?_ 5 0 (by omega)
  exact w_ret rfl rfl rfl rfl
def m_shf (n : Nat) (I : hI) : hI := s_for (fun r I => am_u I 152 r (I 152 (r + 34))) n I
def m_rem (I : hI) (u : Nat) : hI := if u = 20 then am_u (m_put 152 (34 * (u - 1)) (am_u (m_shf 646 I) 110 84 (Int32.ofNat (u - 1)))) 110 84 (m_put 152 (34 * (u - 1)) (am_u (m_shf 646 I) 110 84 (Int32.ofNat (u - 1))) 110 84 + Int32.ofNat 1) else am_u (m_put 152 (34 * u) I) 110 84 (m_put 152 (34 * u) I 110 84 + Int32.ofNat 1)
theorem m_shf_ne {n : Nat} {I : hI} {a : Nat} (h : a ≠ 152) : m_shf n I a = I a := by
  induction n with
  | zero => rfl
  | succ n ih => exact (am_u_ne h).trans ih
theorem l_remember {k : Nat} {R : hR} {q : Option Value × am_H} {I0 : hI} {J0 : hJ} (Z : wz k 12 none am_c281 39 [.ref 110, .int (Int32.ofNat 646)] [] (m_shf 646 I0) J0 R q) : ∀ (j r : Nat) , r + j = 646 → wz k 12 none am_c281 11 [.ref 110, .int (Int32.ofNat r)] [] (m_shf r I0) J0 R q := by
  intro j
  induction j with
  | zero =>
    intro r e
    obtain rfl : 646 = r := by omega
    refine w_iload_n rfl rfl rfl ?_
    refine w_sipush (x := Int32.ofNat 646) rfl rfl (by decide) ?_
    refine w_ic_geN (t := 39) (f := 18) rfl rfl rfl (by omega) (by omega) (fun c15 => ?_) (fun c15 => absurd c15 (by omega))
    exact Z
  | succ j ih =>
    intro r e
    refine w_iload_n rfl rfl rfl ?_
    refine w_sipush (x := Int32.ofNat 646) rfl rfl (by decide) ?_
    refine w_ic_geN (t := 39) (f := 18) rfl rfl rfl (by omega) (by omega) (fun c15 => absurd c15 (by omega)) (fun c15 => ?_)
    refine w_aload_n rfl rfl rfl ?_
    refine w_gf (t := .ref (152)) (v := .ref (152)) rfl rfl rfl sp110 rfl rfl rfl ?_
    refine w_iload_n rfl rfl rfl ?_
    refine w_aload_n rfl rfl rfl ?_
    refine w_gf (t := .ref (152)) (v := .ref (152)) rfl rfl rfl sp110 rfl rfl rfl ?_
    refine w_iload_n rfl rfl rfl ?_
    refine w_bipush (x := Int32.ofNat 34) rfl rfl (by decide) ?_
    refine w_iaddN rfl rfl ?_
    refine w_iaload rfl rfl sp152 rfl ⟨by omega, by omega⟩ rfl ?_
    refine w_iastore rfl rfl sp152 rfl ⟨by omega, by omega⟩ ?_
    refine w_iinc (L' := [_, _]) rfl rfl rfl (am_incN 1) rfl ?_
    refine w_goto (pc' := 11) rfl rfl ?_
    exact ih (r + 1) (by omega)
theorem c_remember {k : Nat} {I : hI} {J : hJ} {R : hR} {u : Nat} (hu : u ≤ 20) (h84 : I 110 84 = Int32.ofNat u) (hk : 2 ≤ k) : ct k 281 [.ref 110] I J R none (m_rem I u) J R := by
  obtain ⟨k, rfl⟩ : ∃ k', k = k' + 1 := ⟨k - 1, by omega⟩
  refine ct_of (q := am_m281) (L := [_, _]) rfl rfl rfl rfl rfl rfl ?_
  refine w_aload_n rfl rfl rfl ?_
  refine w_gf (t := .int 0) (v := .int _) rfl rfl rfl sp110 rfl (congrArg Value.int h84) rfl ?_
  refine w_bipush (x := Int32.ofNat 20) rfl rfl (by decide) ?_
  refine w_ic_neN (t := 49) (f := 9) rfl rfl rfl (by omega) (by omega) (fun c6 => ?_) (fun c6 => ?_)
  · refine w_aload_n rfl rfl rfl ?_
    refine w_aload_n rfl rfl rfl ?_
    refine w_gf (t := .ref (152)) (v := .ref (152)) rfl rfl rfl sp110 rfl rfl rfl ?_
    refine w_bipush (x := Int32.ofNat 34) rfl rfl (by decide) ?_
    refine w_aload_n rfl rfl rfl ?_
    refine w_gf (t := .int 0) (v := .int _) rfl rfl rfl sp110 rfl (congrArg Value.int h84) rfl ?_
    refine w_imulN rfl rfl ?_
    refine w_cv (q := am_m279) (as := [_, _]) (rest := []) (st' := []) rfl rfl rfl rfl rfl rfl sp110 rfl rfl rfl rfl (c_put sp152 (by decide) (by omega) (by decide) (by omega)) rfl rfl ?_
    refine w_aload_n rfl rfl rfl ?_
    refine w_dup rfl rfl rfl ?_
    refine w_gf (t := .int 0) (v := .int _) rfl rfl rfl sp110 rfl (congrArg Value.int rfl) rfl ?_
    refine w_iconst (x := Int32.ofNat 1) rfl rfl (by decide) ?_
    refine w_iadd rfl rfl ?_
    refine w_pf rfl rfl rfl sp110 rfl rfl rfl ?_
    exact w_ret rfl (by unfold m_rem; first | rw [if_pos c6] | rw [if_neg c6]) rfl rfl
  · refine w_iconst (x := Int32.ofNat 0) rfl rfl (by decide) ?_
    refine w_istore_n (L' := [_, _]) rfl rfl rfl ?_
    refine l_remember ?_ 646 0 (by omega)
    refine w_aload_n rfl rfl rfl ?_
    refine w_dup rfl rfl rfl ?_
    refine w_gf (t := .int 0) (v := .int _) rfl rfl rfl sp110 rfl (congrArg Value.int ((congrFun (m_shf_ne (by decide)) _).trans h84)) rfl ?_
    refine w_iconst (x := Int32.ofNat 1) rfl rfl (by decide) ?_
    refine w_isubN rfl rfl (by omega) ?_
    refine w_pf rfl rfl rfl sp110 rfl rfl rfl ?_
    refine w_aload_n rfl rfl rfl ?_
    refine w_aload_n rfl rfl rfl ?_
    refine w_gf (t := .ref (152)) (v := .ref (152)) rfl rfl rfl sp110 rfl rfl rfl ?_
    refine w_bipush (x := Int32.ofNat 34) rfl rfl (by decide) ?_
    refine w_aload_n rfl rfl rfl ?_
    refine w_gf (t := .int 0) (v := .int _) rfl rfl rfl sp110 rfl (congrArg Value.int am_u_at) rfl ?_
    refine w_imulN rfl rfl ?_
    refine w_cv (q := am_m279) (as := [_, _]) (rest := []) (st' := []) rfl rfl rfl rfl rfl rfl sp110 rfl rfl rfl rfl (c_put sp152 (by decide) (by omega) (by decide) (by omega)) rfl rfl ?_
    refine w_aload_n rfl rfl rfl ?_
    refine w_dup rfl rfl rfl ?_
    refine w_gf (t := .int 0) (v := .int _) rfl rfl rfl sp110 rfl (congrArg Value.int rfl) rfl ?_
    refine w_iconst (x := Int32.ofNat 1) rfl rfl (by decide) ?_
    refine w_iadd rfl rfl ?_
    refine w_pf rfl rfl rfl sp110 rfl rfl rfl ?_
    exact w_ret rfl (by unfold m_rem; first | rw [if_pos c6] | rw [if_neg c6]) rfl rfl
