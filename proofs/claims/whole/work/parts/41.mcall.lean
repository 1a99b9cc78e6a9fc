/-! The reference: calls that change something, and trials. -/
theorem c_undo_no {k : Nat} {I : hI} {J : hJ} {R : hR} (h : I 110 84 = 0) (hk : 1 ≤ k) : ct k 282 [.ref 110] I J R (some (.int (Int32.ofInt (-1)))) (m_z I) J R := by
  obtain ⟨k, rfl⟩ : ∃ k', k = k' + 1 := ⟨k - 1, by omega⟩
  refine ct_of (q := am_m282) (L := [_]) rfl rfl rfl rfl rfl rfl ?_
  refine w_aload_n rfl rfl rfl ?_
  refine w_iconst (x := Int32.ofNat 0) rfl rfl (by decide) ?_
  refine w_pf rfl rfl rfl sp110 rfl rfl rfl ?_
  refine w_aload_n rfl rfl rfl ?_
  refine w_gf (t := .int 0) (v := .int _) rfl rfl rfl sp110 rfl (congrArg Value.int (am_u_nk (by decide))) rfl ?_
  refine w_if_ne (t := 14) (f := 12) rfl rfl rfl (fun c9 => absurd c9 (not_not_intro h)) (fun c9 => ?_)
  refine w_iconst (x := Int32.ofInt (-1)) rfl rfl (by decide) ?_
  exact w_iret rfl rfl rfl rfl rfl
def m_un (I : hI) (u : Nat) : hI := m_bb 152 (34 * (u - 1)) (am_u (m_z I) 110 84 (Int32.ofNat (u - 1)))
theorem c_undo {k : Nat} {I : hI} {J : hJ} {R : hR} {u : Nat} (h1 : 1 ≤ u) (hu : u ≤ 20) (h84 : I 110 84 = Int32.ofNat u) (hk : 2 ≤ k) : ct k 282 [.ref 110] I J R (some (.int (m_un I u 110 84))) (m_un I u) J R := by
  obtain ⟨k, rfl⟩ : ∃ k', k = k' + 1 := ⟨k - 1, by omega⟩
  refine ct_of (q := am_m282) (L := [_]) rfl rfl rfl rfl rfl rfl ?_
  refine w_aload_n rfl rfl rfl ?_
  refine w_iconst (x := Int32.ofNat 0) rfl rfl (by decide) ?_
  refine w_pf rfl rfl rfl sp110 rfl rfl rfl ?_
  refine w_aload_n rfl rfl rfl ?_
  refine w_gf (t := .int 0) (v := .int _) rfl rfl rfl sp110 rfl (congrArg Value.int ((am_u_nk (by decide)).trans h84)) rfl ?_
  refine w_if_ne (t := 14) (f := 12) rfl rfl rfl (fun c9 => ?_) (fun c9 => absurd c9 (fun z => absurd ((am_eqN (y := 0) (by omega) (by omega)).mp z) (by omega)))
  refine w_aload_n rfl rfl rfl ?_
  refine w_dup rfl rfl rfl ?_
  refine w_gf (t := .int 0) (v := .int _) rfl rfl rfl sp110 rfl (congrArg Value.int ((am_u_nk (by decide)).trans h84)) rfl ?_
  refine w_iconst (x := Int32.ofNat 1) rfl rfl (by decide) ?_
  refine w_isubN rfl rfl (by omega) ?_
  refine w_pf rfl rfl rfl sp110 rfl rfl rfl ?_
  refine w_aload_n rfl rfl rfl ?_
  refine w_aload_n rfl rfl rfl ?_
  refine w_gf (t := .ref (152)) (v := .ref (152)) rfl rfl rfl sp110 rfl rfl rfl ?_
  refine w_bipush (x := Int32.ofNat 34) rfl rfl (by decide) ?_
  refine w_aload_n rfl rfl rfl ?_
  refine w_gf (t := .int 0) (v := .int _) rfl rfl rfl sp110 rfl (congrArg Value.int am_u_at) rfl ?_
  refine w_imulN rfl rfl ?_
  refine w_cv (q := am_m280) (as := [_, _]) (rest := []) (st' := []) rfl rfl rfl rfl rfl rfl sp110 rfl rfl rfl rfl (c_bringBack sp152 (by decide) (by omega) (by decide) (by omega)) rfl rfl ?_
  refine w_aload_n rfl rfl rfl ?_
  refine w_gf (t := .int 0) (v := .int _) rfl rfl rfl sp110 rfl (congrArg Value.int rfl) rfl ?_
  exact w_iret rfl rfl rfl rfl rfl
def m_kr (n : Nat) (I : hI) : hI := s_for (fun r I => am_u I 154 r (I 143 r)) n I
def m_ke (I : hI) : hI := am_u (am_u (m_kr 5 (m_put 153 0 (am_u (m_z I) 110 86 (Int32.ofNat 1)))) 154 5 (m_kr 5 (m_put 153 0 (am_u (m_z I) 110 86 (Int32.ofNat 1))) 144 0)) 154 6 (m_kr 5 (m_put 153 0 (am_u (m_z I) 110 86 (Int32.ofNat 1))) 145 0)
theorem l_keep {k : Nat} {R : hR} {q : Option Value × am_H} {I0 : hI} {J0 : hJ} (Z : wz k 12 (some .int) am_c283 44 [.ref 110, .int (Int32.ofNat 5)] [] (m_kr 5 I0) J0 R q) : ∀ (j r : Nat) , r + j = 5 → wz k 12 (some .int) am_c283 21 [.ref 110, .int (Int32.ofNat r)] [] (m_kr r I0) J0 R q := by
  intro j
  induction j with
  | zero =>
    intro r e
    obtain rfl : 5 = r := by omega
    refine w_iload_n rfl rfl rfl ?_
    refine w_iconst (x := Int32.ofNat 5) rfl rfl (by decide) ?_
    refine w_ic_geN (t := 44) (f := 26) rfl rfl rfl (by omega) (by omega) (fun c23 => ?_) (fun c23 => absurd c23 (by omega))
    exact Z
  | succ j ih =>
    intro r e
    refine w_iload_n rfl rfl rfl ?_
    refine w_iconst (x := Int32.ofNat 5) rfl rfl (by decide) ?_
    refine w_ic_geN (t := 44) (f := 26) rfl rfl rfl (by omega) (by omega) (fun c23 => absurd c23 (by omega)) (fun c23 => ?_)
    refine w_aload_n rfl rfl rfl ?_
    refine w_gf (t := .ref (154)) (v := .ref (154)) rfl rfl rfl sp110 rfl rfl rfl ?_
    refine w_iload_n rfl rfl rfl ?_
    refine w_aload_n rfl rfl rfl ?_
    refine w_gf (t := .ref (143)) (v := .ref (143)) rfl rfl rfl sp110 rfl rfl rfl ?_
    refine w_iload_n rfl rfl rfl ?_
    refine w_iaload rfl rfl sp143 rfl ⟨by omega, by omega⟩ rfl ?_
    refine w_iastore rfl rfl sp154 rfl ⟨by omega, by omega⟩ ?_
    refine w_iinc (L' := [_, _]) rfl rfl rfl (am_incN 1) rfl ?_
    refine w_goto (pc' := 21) rfl rfl ?_
    exact ih (r + 1) (by omega)
theorem c_keep {k : Nat} {I : hI} {J : hJ} {R : hR}  (hk : 2 ≤ k) : ct k 283 [.ref 110] I J R (some (.int (m_ke I 145 0))) (m_ke I) (am_u J 110 89 (J 110 62)) R := by
  obtain ⟨k, rfl⟩ : ∃ k', k = k' + 1 := ⟨k - 1, by omega⟩
  refine ct_of (q := am_m283) (L := [_, _]) rfl rfl rfl rfl rfl rfl ?_
  refine w_aload_n rfl rfl rfl ?_
  refine w_iconst (x := Int32.ofNat 0) rfl rfl (by decide) ?_
  refine w_pf rfl rfl rfl sp110 rfl rfl rfl ?_
  refine w_aload_n rfl rfl rfl ?_
  refine w_iconst (x := Int32.ofNat 1) rfl rfl (by decide) ?_
  refine w_pf rfl rfl rfl sp110 rfl rfl rfl ?_
  refine w_aload_n rfl rfl rfl ?_
  refine w_aload_n rfl rfl rfl ?_
  refine w_gf (t := .ref (153)) (v := .ref (153)) rfl rfl rfl sp110 rfl rfl rfl ?_
  refine w_iconst (x := Int32.ofNat 0) rfl rfl (by decide) ?_
  refine w_cv (q := am_m279) (as := [_, _]) (rest := []) (st' := []) rfl rfl rfl rfl rfl rfl sp110 rfl rfl rfl rfl (c_put (i := 0) sp153 (by decide) (by decide) (by decide) (by omega)) rfl rfl ?_
  refine w_iconst (x := Int32.ofNat 0) rfl rfl (by decide) ?_
  refine w_istore_n (L' := [_, _]) rfl rfl rfl ?_
  refine l_keep ?_ 5 0 (by omega)
  refine w_aload_n rfl rfl rfl ?_
  refine w_gf (t := .ref (154)) (v := .ref (154)) rfl rfl rfl sp110 rfl rfl rfl ?_
  refine w_iconst (x := Int32.ofNat 5) rfl rfl (by decide) ?_
  refine w_aload_n rfl rfl rfl ?_
  refine w_gf (t := .ref (144)) (v := .ref (144)) rfl rfl rfl sp110 rfl rfl rfl ?_
  refine w_iconst (x := Int32.ofNat 0) rfl rfl (by decide) ?_
  refine w_iaload rfl rfl sp144 rfl ⟨by omega, by omega⟩ rfl ?_
  refine w_iastore rfl rfl sp154 rfl ⟨by omega, by omega⟩ ?_
  refine w_aload_n rfl rfl rfl ?_
  refine w_gf (t := .ref (154)) (v := .ref (154)) rfl rfl rfl sp110 rfl rfl rfl ?_
  refine w_bipush (x := Int32.ofNat 6) rfl rfl (by decide) ?_
  refine w_aload_n rfl rfl rfl ?_
  refine w_gf (t := .ref (145)) (v := .ref (145)) rfl rfl rfl sp110 rfl rfl rfl ?_
  refine w_iconst (x := Int32.ofNat 0) rfl rfl (by decide) ?_
  refine w_iaload rfl rfl sp145 rfl ⟨by omega, by omega⟩ (congrFun (am_u_ne (by decide)) _) ?_
  refine w_iastore rfl rfl sp154 rfl ⟨by omega, by omega⟩ ?_
  refine w_aload_n rfl rfl rfl ?_
  refine w_aload_n rfl rfl rfl ?_
  refine w_gf (t := .long 0) (v := .long _) rfl rfl rfl sp110 rfl (congrArg Value.long rfl) rfl ?_
  refine w_pfL rfl rfl rfl sp110 rfl rfl rfl ?_
  refine w_aload_n rfl rfl rfl ?_
  refine w_gf (t := .ref (145)) (v := .ref (145)) rfl rfl rfl sp110 rfl rfl rfl ?_
  refine w_iconst (x := Int32.ofNat 0) rfl rfl (by decide) ?_
  refine w_iaload rfl rfl sp145 rfl ⟨by omega, by omega⟩ rfl ?_
  exact w_iret rfl rfl rfl rfl rfl
def m_br (n : Nat) (I : hI) : hI := s_for (fun r I => am_u I 143 r (I 154 r)) n I
def m_ba0 (I : hI) : hI := m_br 5 (m_bb 153 0 (m_z I))
def m_ba (I : hI) : hI := am_u (am_u (am_u (m_ba0 I) 144 0 (m_ba0 I 154 5)) 145 0 (m_ba0 I 154 6)) 110 84 (Int32.ofNat 0)
theorem l_back {k : Nat} {R : hR} {q : Option Value × am_H} {I0 : hI} {J0 : hJ} (Z : wz k 12 (some .int) am_c284 48 [.ref 110, .int (Int32.ofNat 5)] [] (m_br 5 I0) J0 R q) : ∀ (j r : Nat) , r + j = 5 → wz k 12 (some .int) am_c284 25 [.ref 110, .int (Int32.ofNat r)] [] (m_br r I0) J0 R q := by
  intro j
  induction j with
  | zero =>
    intro r e
    obtain rfl : 5 = r := by omega
    refine w_iload_n rfl rfl rfl ?_
    refine w_iconst (x := Int32.ofNat 5) rfl rfl (by decide) ?_
    refine w_ic_geN (t := 48) (f := 30) rfl rfl rfl (by omega) (by omega) (fun c27 => ?_) (fun c27 => absurd c27 (by omega))
    exact Z
  | succ j ih =>
    intro r e
    refine w_iload_n rfl rfl rfl ?_
    refine w_iconst (x := Int32.ofNat 5) rfl rfl (by decide) ?_
    refine w_ic_geN (t := 48) (f := 30) rfl rfl rfl (by omega) (by omega) (fun c27 => absurd c27 (by omega)) (fun c27 => ?_)
    refine w_aload_n rfl rfl rfl ?_
    refine w_gf (t := .ref (143)) (v := .ref (143)) rfl rfl rfl sp110 rfl rfl rfl ?_
    refine w_iload_n rfl rfl rfl ?_
    refine w_aload_n rfl rfl rfl ?_
    refine w_gf (t := .ref (154)) (v := .ref (154)) rfl rfl rfl sp110 rfl rfl rfl ?_
    refine w_iload_n rfl rfl rfl ?_
    refine w_iaload rfl rfl sp154 rfl ⟨by omega, by omega⟩ rfl ?_
    refine w_iastore rfl rfl sp143 rfl ⟨by omega, by omega⟩ ?_
    refine w_iinc (L' := [_, _]) rfl rfl rfl (am_incN 1) rfl ?_
    refine w_goto (pc' := 25) rfl rfl ?_
    exact ih (r + 1) (by omega)
theorem c_back {k : Nat} {I : hI} {J : hJ} {R : hR} (h : ¬ I 110 86 = 0) (hk : 2 ≤ k) : ct k 284 [.ref 110] I J R (some (.int (m_ba I 145 0))) (m_ba I) (am_u J 110 62 (J 110 89)) R := by
  obtain ⟨k, rfl⟩ : ∃ k', k = k' + 1 := ⟨k - 1, by omega⟩
  refine ct_of (q := am_m284) (L := [_, _]) rfl rfl rfl rfl rfl rfl ?_
  refine w_aload_n rfl rfl rfl ?_
  refine w_iconst (x := Int32.ofNat 0) rfl rfl (by decide) ?_
  refine w_pf rfl rfl rfl sp110 rfl rfl rfl ?_
  refine w_aload_n rfl rfl rfl ?_
  refine w_gf (t := .int 0) (v := .int _) rfl rfl rfl sp110 rfl (congrArg Value.int (am_u_nk (by decide))) rfl ?_
  refine w_if_ne (t := 14) (f := 12) rfl rfl rfl (fun c9 => ?_) (fun c9 => absurd c9 h)
  refine w_aload_n rfl rfl rfl ?_
  refine w_aload_n rfl rfl rfl ?_
  refine w_gf (t := .ref (153)) (v := .ref (153)) rfl rfl rfl sp110 rfl rfl rfl ?_
  refine w_iconst (x := Int32.ofNat 0) rfl rfl (by decide) ?_
  refine w_cv (q := am_m280) (as := [_, _]) (rest := []) (st' := []) rfl rfl rfl rfl rfl rfl sp110 rfl rfl rfl rfl (c_bringBack (i := 0) sp153 (by decide) (by decide) (by decide) (by omega)) rfl rfl ?_
  refine w_iconst (x := Int32.ofNat 0) rfl rfl (by decide) ?_
  refine w_istore_n (L' := [_, _]) rfl rfl rfl ?_
  refine l_back ?_ 5 0 (by omega)
  refine w_aload_n rfl rfl rfl ?_
  refine w_gf (t := .ref (144)) (v := .ref (144)) rfl rfl rfl sp110 rfl rfl rfl ?_
  refine w_iconst (x := Int32.ofNat 0) rfl rfl (by decide) ?_
  refine w_aload_n rfl rfl rfl ?_
  refine w_gf (t := .ref (154)) (v := .ref (154)) rfl rfl rfl sp110 rfl rfl rfl ?_
  refine w_iconst (x := Int32.ofNat 5) rfl rfl (by decide) ?_
  refine w_iaload rfl rfl sp154 rfl ⟨by omega, by omega⟩ rfl ?_
  refine w_iastore rfl rfl sp144 rfl ⟨by omega, by omega⟩ ?_
  refine w_aload_n rfl rfl rfl ?_
  refine w_gf (t := .ref (145)) (v := .ref (145)) rfl rfl rfl sp110 rfl rfl rfl ?_
  refine w_iconst (x := Int32.ofNat 0) rfl rfl (by decide) ?_
  refine w_aload_n rfl rfl rfl ?_
  refine w_gf (t := .ref (154)) (v := .ref (154)) rfl rfl rfl sp110 rfl rfl rfl ?_
  refine w_bipush (x := Int32.ofNat 6) rfl rfl (by decide) ?_
  refine w_iaload rfl rfl sp154 rfl ⟨by omega, by omega⟩ (congrFun (am_u_ne (by decide)) _) ?_
  refine w_iastore rfl rfl sp145 rfl ⟨by omega, by omega⟩ ?_
  refine w_aload_n rfl rfl rfl ?_
  refine w_aload_n rfl rfl rfl ?_
  refine w_gf (t := .long 0) (v := .long _) rfl rfl rfl sp110 rfl (congrArg Value.long rfl) rfl ?_
  refine w_pfL rfl rfl rfl sp110 rfl rfl rfl ?_
  refine w_aload_n rfl rfl rfl ?_
  refine w_iconst (x := Int32.ofNat 0) rfl rfl (by decide) ?_
  refine w_pf rfl rfl rfl sp110 rfl rfl rfl ?_
  refine w_aload_n rfl rfl rfl ?_
  refine w_gf (t := .ref (145)) (v := .ref (145)) rfl rfl rfl sp110 rfl rfl rfl ?_
  refine w_iconst (x := Int32.ofNat 0) rfl rfl (by decide) ?_
  refine w_iaload rfl rfl sp145 rfl ⟨by omega, by omega⟩ rfl ?_
  exact w_iret rfl rfl rfl rfl rfl
theorem c_back_no {k : Nat} {I : hI} {J : hJ} {R : hR} (h : I 110 86 = 0) (hk : 1 ≤ k) : ct k 284 [.ref 110] I J R (some (.int (Int32.ofInt (-1)))) (m_z I) J R := by
  obtain ⟨k, rfl⟩ : ∃ k', k = k' + 1 := ⟨k - 1, by omega⟩
  refine ct_of (q := am_m284) (L := [_, _]) rfl rfl rfl rfl rfl rfl ?_
  refine w_aload_n rfl rfl rfl ?_
  refine w_iconst (x := Int32.ofNat 0) rfl rfl (by decide) ?_
  refine w_pf rfl rfl rfl sp110 rfl rfl rfl ?_
  refine w_aload_n rfl rfl rfl ?_
  refine w_gf (t := .int 0) (v := .int _) rfl rfl rfl sp110 rfl (congrArg Value.int (am_u_nk (by decide))) rfl ?_
  refine w_if_ne (t := 14) (f := 12) rfl rfl rfl (fun c9 => absurd c9 (not_not_intro h)) (fun c9 => ?_)
  refine w_iconst (x := Int32.ofInt (-1)) rfl rfl (by decide) ?_
  exact w_iret rfl rfl rfl rfl rfl
/-- tok through what is remembered -/
theorem m_put_tok {I : hI} {N : Nat → Nat} {A i : Nat} (hA : 145 < A) (t : tok I N) : tok (m_put A i I) N := by
  have h1 : ∀ n I, tok I N → tok (m_pu1 A i n I) N := by
    intro n I t
    induction n with
    | zero => exact t
    | succ n ih => exact tok_u (by omega) (by omega) (tok_u (by omega) (by omega) (tok_u (by omega) (by omega) ih))
  have h2 : ∀ n I, tok I N → tok (m_pu2 A i n I) N := by
    intro n I t
    induction n with
    | zero => exact t
    | succ n ih => exact tok_u (by omega) (by omega) (tok_u (by omega) (by omega) ih)
  exact h2 5 _ (h1 8 _ t)
theorem m_shf_tok {I : hI} {N : Nat → Nat} {n : Nat} (t : tok I N) : tok (m_shf n I) N := by
  induction n with
  | zero => exact t
  | succ n ih => exact tok_u (by omega) (by omega) ih
theorem m_rem_tok {I : hI} {N : Nat → Nat} {u : Nat} (t : tok I N) : tok (m_rem I u) N := by
  unfold m_rem
  split
  · exact tok_u (by omega) (by omega) (m_put_tok (by decide) (tok_u (by omega) (by omega) (m_shf_tok t)))
  · exact tok_u (by omega) (by omega) (m_put_tok (by decide) t)
def m_rg (I : hI) (u r s : Nat) : hI := am_u (m_rem (m_z I) u) 140 r (Int32.ofNat s)
/-- a rope can't be rigged -/
def m_rgP (I : hI) (r s : Nat) : Prop := Int32.ofNat 1 < I 138 r ∨ ¬ I 140 r < 0 ∨ ¬ I 141 s = 0
theorem c_rig {k : Nat} {I : hI} {J : hJ} {R : hR} {N : Nat → Nat} (t : tok I N) {r u : Nat} (hr : r < N 1) (hu : u ≤ 20) (h84 : I 110 84 = Int32.ofNat u) {s : Nat} (hs : s < N 2) (hP : ¬ m_rgP I r s) (hk : 3 ≤ k) : ct k 241 [.ref 110, .int (Int32.ofNat r), .int (Int32.ofNat s)] I J R (some (.int (m_bear (m_rg I u r s) 0 (N 1) (Int32.ofNat s)))) (m_rg I u r s) J R := by
  obtain ⟨k, rfl⟩ : ∃ k', k = k' + 1 := ⟨k - 1, by omega⟩
  have hn := t.1.2.1
  have h13 := t.2.1.2.1
  have hn2 := t.1.2.2.1
  have h14 := t.2.1.2.2.1
  have t1 : tok (m_rg I u r s) N := tok_u (by omega) (by omega) (m_rem_tok (tok_z t))
  refine ct_of (q := am_m241) (L := [_, _, _]) rfl rfl rfl rfl rfl rfl ?_
  refine w_aload_n rfl rfl rfl ?_
  refine w_iconst (x := Int32.ofNat 0) rfl rfl (by decide) ?_
  refine w_pf rfl rfl rfl sp110 rfl rfl rfl ?_
  refine w_aload_n rfl rfl rfl ?_
  refine w_iload_n rfl rfl rfl ?_
  refine w_cv (q := am_m215) (as := [_]) (rest := []) (st' := [_]) rfl rfl rfl rfl rfl rfl sp110 rfl rfl rfl rfl (c_isRope (by omega)) rfl rfl ?_
  refine w_if_eqB (t := 21) (f := 13) rfl rfl rfl (fun c10 => absurd c10 (isok hr (by omega) ((am_u_nk (by decide)).trans h13))) (fun c10 => ?_)
  refine w_aload_n rfl rfl rfl ?_
  refine w_iload_n rfl rfl rfl ?_
  refine w_cv (q := am_m216) (as := [_]) (rest := []) (st' := [_]) rfl rfl rfl rfl rfl rfl sp110 rfl rfl rfl rfl (c_isShip (by omega)) rfl rfl ?_
  refine w_if_neB (t := 23) (f := 21) rfl rfl rfl (fun c18 => ?_) (fun c18 => absurd c18 (isok hs (by omega) ((am_u_nk (by decide)).trans h14)))
  refine w_aload_n rfl rfl rfl ?_
  refine w_gf (t := .ref (138)) (v := .ref (138)) rfl rfl rfl sp110 rfl rfl rfl ?_
  refine w_iload_n rfl rfl rfl ?_
  refine w_iaload rfl rfl sp138 rfl ⟨by omega, by omega⟩ (congrFun (am_u_ne (by decide)) _) ?_
  refine w_iconst (x := Int32.ofNat 1) rfl rfl (by decide) ?_
  refine w_ic_gt (t := 51) (f := 33) rfl rfl rfl (fun c30 => absurd c30 (fun z => hP (Or.inl z))) (fun c30 => ?_)
  refine w_aload_n rfl rfl rfl ?_
  refine w_gf (t := .ref (140)) (v := .ref (140)) rfl rfl rfl sp110 rfl rfl rfl ?_
  refine w_iload_n rfl rfl rfl ?_
  refine w_iaload rfl rfl sp140 rfl ⟨by omega, by omega⟩ (congrFun (am_u_ne (by decide)) _) ?_
  refine w_if_ge (t := 51) (f := 42) rfl rfl rfl (fun c39 => absurd c39 (fun z => hP (Or.inr (Or.inl z)))) (fun c39 => ?_)
  refine w_aload_n rfl rfl rfl ?_
  refine w_gf (t := .ref (141)) (v := .ref (141)) rfl rfl rfl sp110 rfl rfl rfl ?_
  refine w_iload_n rfl rfl rfl ?_
  refine w_iaload rfl rfl sp141 rfl ⟨by omega, by omega⟩ (congrFun (am_u_ne (by decide)) _) ?_
  refine w_if_eq (t := 54) (f := 51) rfl rfl rfl (fun c48 => ?_) (fun c48 => absurd c48 (fun z => hP (Or.inr (Or.inr z))))
  refine w_aload_n rfl rfl rfl ?_
  refine w_cv (q := am_m281) (as := []) (rest := []) (st' := []) rfl rfl rfl rfl rfl rfl sp110 rfl rfl rfl rfl (c_remember hu ((am_u_nk (by decide)).trans h84) (by omega)) rfl rfl ?_
  refine w_aload_n rfl rfl rfl ?_
  refine w_gf (t := .ref (140)) (v := .ref (140)) rfl rfl rfl sp110 rfl rfl rfl ?_
  refine w_iload_n rfl rfl rfl ?_
  refine w_iload_n rfl rfl rfl ?_
  refine w_iastore rfl rfl sp140 rfl ⟨by omega, by omega⟩ ?_
  refine w_aload_n rfl rfl rfl ?_
  refine w_iconst (x := Int32.ofNat 0) rfl rfl (by decide) ?_
  refine w_iload_n rfl rfl rfl ?_
  refine w_cv (q := am_m219) (as := [_, _]) (rest := []) (st' := [_]) rfl rfl rfl rfl rfl rfl sp110 rfl rfl rfl rfl (c_bearOf (b := 0) (by decide) hn t1.2.1.2.1 (by omega)) rfl rfl ?_
  exact w_iret rfl rfl rfl rfl rfl
theorem c_rig_can {k : Nat} {I : hI} {J : hJ} {R : hR} {N : Nat → Nat} (t : tok I N) {r : Nat} (hr : r < N 1) {s : Nat} (hs : s < N 2) (hP : m_rgP I r s) (hk : 2 ≤ k) : ct k 241 [.ref 110, .int (Int32.ofNat r), .int (Int32.ofNat s)] I J R (some (.int (Int32.ofInt (-2)))) (m_z I) J R := by
  obtain ⟨k, rfl⟩ : ∃ k', k = k' + 1 := ⟨k - 1, by omega⟩
  have hn := t.1.2.1
  have h13 := t.2.1.2.1
  have hn2 := t.1.2.2.1
  have h14 := t.2.1.2.2.1
  refine ct_of (q := am_m241) (L := [_, _, _]) rfl rfl rfl rfl rfl rfl ?_
  refine w_aload_n rfl rfl rfl ?_
  refine w_iconst (x := Int32.ofNat 0) rfl rfl (by decide) ?_
  refine w_pf rfl rfl rfl sp110 rfl rfl rfl ?_
  refine w_aload_n rfl rfl rfl ?_
  refine w_iload_n rfl rfl rfl ?_
  refine w_cv (q := am_m215) (as := [_]) (rest := []) (st' := [_]) rfl rfl rfl rfl rfl rfl sp110 rfl rfl rfl rfl (c_isRope (by omega)) rfl rfl ?_
  refine w_if_eqB (t := 21) (f := 13) rfl rfl rfl (fun c10 => absurd c10 (isok hr (by omega) ((am_u_nk (by decide)).trans h13))) (fun c10 => ?_)
  refine w_aload_n rfl rfl rfl ?_
  refine w_iload_n rfl rfl rfl ?_
  refine w_cv (q := am_m216) (as := [_]) (rest := []) (st' := [_]) rfl rfl rfl rfl rfl rfl sp110 rfl rfl rfl rfl (c_isShip (by omega)) rfl rfl ?_
  refine w_if_neB (t := 23) (f := 21) rfl rfl rfl (fun c18 => ?_) (fun c18 => absurd c18 (isok hs (by omega) ((am_u_nk (by decide)).trans h14)))
  refine w_aload_n rfl rfl rfl ?_
  refine w_gf (t := .ref (138)) (v := .ref (138)) rfl rfl rfl sp110 rfl rfl rfl ?_
  refine w_iload_n rfl rfl rfl ?_
  refine w_iaload rfl rfl sp138 rfl ⟨by omega, by omega⟩ (congrFun (am_u_ne (by decide)) _) ?_
  refine w_iconst (x := Int32.ofNat 1) rfl rfl (by decide) ?_
  refine w_ic_gt (t := 51) (f := 33) rfl rfl rfl (fun c30 => ?_) (fun c30 => ?_)
  · refine w_bipush (x := Int32.ofInt (-2)) rfl rfl (by decide) ?_
    exact w_iret rfl rfl rfl rfl rfl
  · refine w_aload_n rfl rfl rfl ?_
    refine w_gf (t := .ref (140)) (v := .ref (140)) rfl rfl rfl sp110 rfl rfl rfl ?_
    refine w_iload_n rfl rfl rfl ?_
    refine w_iaload rfl rfl sp140 rfl ⟨by omega, by omega⟩ (congrFun (am_u_ne (by decide)) _) ?_
    refine w_if_ge (t := 51) (f := 42) rfl rfl rfl (fun c39 => ?_) (fun c39 => ?_)
    · refine w_bipush (x := Int32.ofInt (-2)) rfl rfl (by decide) ?_
      exact w_iret rfl rfl rfl rfl rfl
    · refine w_aload_n rfl rfl rfl ?_
      refine w_gf (t := .ref (141)) (v := .ref (141)) rfl rfl rfl sp110 rfl rfl rfl ?_
      refine w_iload_n rfl rfl rfl ?_
      refine w_iaload rfl rfl sp141 rfl ⟨by omega, by omega⟩ (congrFun (am_u_ne (by decide)) _) ?_
      refine w_if_eq (t := 54) (f := 51) rfl rfl rfl (fun c48 => ?_) (fun c48 => ?_)
      · exact absurd hP (fun z => z.elim c30 (fun z => z.elim (fun z => z c39) (fun z => z c48)))
      · refine w_bipush (x := Int32.ofInt (-2)) rfl rfl (by decide) ?_
        exact w_iret rfl rfl rfl rfl rfl
theorem c_rig_no {k : Nat} {I : hI} {J : hJ} {R : hR} {x y : Int32} (hx : ¬ ((¬ x < 0 ∧ x < I 110 13) ∧ ¬ y < 0 ∧ y < I 110 14)) (hk : 2 ≤ k) : ct k 241 [.ref 110, .int x, .int y] I J R (some (.int (Int32.ofInt (-1)))) (m_z I) J R := by
  obtain ⟨k, rfl⟩ : ∃ k', k = k' + 1 := ⟨k - 1, by omega⟩
  refine ct_of (q := am_m241) (L := [_, _, _]) rfl rfl rfl rfl rfl rfl ?_
  refine w_aload_n rfl rfl rfl ?_
  refine w_iconst (x := Int32.ofNat 0) rfl rfl (by decide) ?_
  refine w_pf rfl rfl rfl sp110 rfl rfl rfl ?_
  refine w_aload_n rfl rfl rfl ?_
  refine w_iload_n rfl rfl rfl ?_
  refine w_cv (q := am_m215) (as := [_]) (rest := []) (st' := [_]) rfl rfl rfl rfl rfl rfl sp110 rfl rfl rfl rfl (c_isRope (by omega)) rfl rfl ?_
  refine w_if_eqB (t := 21) (f := 13) rfl rfl rfl (fun c10 => ?_) (fun c10 => ?_)
  · refine w_iconst (x := Int32.ofInt (-1)) rfl rfl (by decide) ?_
    exact w_iret rfl rfl rfl rfl rfl
  · refine w_aload_n rfl rfl rfl ?_
    refine w_iload_n rfl rfl rfl ?_
    refine w_cv (q := am_m216) (as := [_]) (rest := []) (st' := [_]) rfl rfl rfl rfl rfl rfl sp110 rfl rfl rfl rfl (c_isShip (by omega)) rfl rfl ?_
    refine w_if_neB (t := 23) (f := 21) rfl rfl rfl (fun c18 => ?_) (fun c18 => ?_)
    · exact (hx ⟨c10, c18⟩).elim
    · refine w_iconst (x := Int32.ofInt (-1)) rfl rfl (by decide) ?_
      exact w_iret rfl rfl rfl rfl rfl
def m_to (I : hI) (u r : Nat) : hI := am_u (m_rem (m_z I) u) 140 r (Int32.ofInt (-1))
def m_toP (I : hI) (r : Nat) : Prop := I 140 r < 0 ∨ ¬ I 141 (nn (I 140 r)) = 0
theorem c_takeOut {k : Nat} {I : hI} {J : hJ} {R : hR} {N : Nat → Nat} (t : tok I N) {r u : Nat} (hr : r < N 1) (hu : u ≤ 20) (h84 : I 110 84 = Int32.ofNat u) (hw : ¬ I 140 r < 0 → okn (I 140 r) 5) (hP : ¬ m_toP I r) (hk : 3 ≤ k) : ct k 242 [.ref 110, .int (Int32.ofNat r)] I J R (some (.int 1)) (m_to I u r) J R := by
  obtain ⟨k, rfl⟩ : ∃ k', k = k' + 1 := ⟨k - 1, by omega⟩
  have hn := t.1.2.1
  have h13 := t.2.1.2.1
  have hn2 := t.1.2.2.1
  have h14 := t.2.1.2.2.1
  have w1 := hw (fun z => hP (Or.inl z))
  refine ct_of (q := am_m242) (L := [_, _]) rfl rfl rfl rfl rfl rfl ?_
  refine w_aload_n rfl rfl rfl ?_
  refine w_iconst (x := Int32.ofNat 0) rfl rfl (by decide) ?_
  refine w_pf rfl rfl rfl sp110 rfl rfl rfl ?_
  refine w_aload_n rfl rfl rfl ?_
  refine w_iload_n rfl rfl rfl ?_
  refine w_cv (q := am_m215) (as := [_]) (rest := []) (st' := [_]) rfl rfl rfl rfl rfl rfl sp110 rfl rfl rfl rfl (c_isRope (by omega)) rfl rfl ?_
  refine w_if_eqB (t := 36) (f := 13) rfl rfl rfl (fun c10 => absurd c10 (isok hr (by omega) ((am_u_nk (by decide)).trans h13))) (fun c10 => ?_)
  refine w_aload_n rfl rfl rfl ?_
  refine w_gf (t := .ref (140)) (v := .ref (140)) rfl rfl rfl sp110 rfl rfl rfl ?_
  refine w_iload_n rfl rfl rfl ?_
  refine w_iaload rfl rfl sp140 rfl ⟨by omega, by omega⟩ (congrFun (am_u_ne (by decide)) _) ?_
  refine w_if_lt (t := 36) (f := 22) rfl rfl rfl (fun c19 => absurd c19 (fun z => hP (Or.inl z))) (fun c19 => ?_)
  refine w_aload_n rfl rfl rfl ?_
  refine w_gf (t := .ref (141)) (v := .ref (141)) rfl rfl rfl sp110 rfl rfl rfl ?_
  refine w_aload_n rfl rfl rfl ?_
  refine w_gf (t := .ref (140)) (v := .ref (140)) rfl rfl rfl sp110 rfl rfl rfl ?_
  refine w_iload_n rfl rfl rfl ?_
  refine w_iaload rfl rfl sp140 rfl ⟨by omega, by omega⟩ (congrFun (am_u_ne (by decide)) _) ?_
  refine w_iaload rfl rfl sp141 w1.1 ⟨(by have := w1.2; omega), by omega⟩ (congrFun (am_u_ne (by decide)) _) ?_
  refine w_if_eq (t := 38) (f := 36) rfl rfl rfl (fun c33 => ?_) (fun c33 => absurd c33 (fun z => hP (Or.inr z)))
  refine w_aload_n rfl rfl rfl ?_
  refine w_cv (q := am_m281) (as := []) (rest := []) (st' := []) rfl rfl rfl rfl rfl rfl sp110 rfl rfl rfl rfl (c_remember hu ((am_u_nk (by decide)).trans h84) (by omega)) rfl rfl ?_
  refine w_aload_n rfl rfl rfl ?_
  refine w_gf (t := .ref (140)) (v := .ref (140)) rfl rfl rfl sp110 rfl rfl rfl ?_
  refine w_iload_n rfl rfl rfl ?_
  refine w_iconst (x := Int32.ofInt (-1)) rfl rfl (by decide) ?_
  refine w_iastore rfl rfl sp140 rfl ⟨by omega, by omega⟩ ?_
  refine w_iconst (x := Int32.ofNat 1) rfl rfl (by decide) ?_
  exact w_bret rfl (by decide) rfl rfl rfl rfl
theorem c_takeOut_can {k : Nat} {I : hI} {J : hJ} {R : hR} {N : Nat → Nat} (t : tok I N) {r : Nat} (hr : r < N 1) (hw : ¬ I 140 r < 0 → okn (I 140 r) 5) (hP : m_toP I r) (hk : 2 ≤ k) : ct k 242 [.ref 110, .int (Int32.ofNat r)] I J R (some (.int 0)) (m_z I) J R := by
  obtain ⟨k, rfl⟩ : ∃ k', k = k' + 1 := ⟨k - 1, by omega⟩
  have hn := t.1.2.1
  have h13 := t.2.1.2.1
  have hn2 := t.1.2.2.1
  have h14 := t.2.1.2.2.1
  refine ct_of (q := am_m242) (L := [_, _]) rfl rfl rfl rfl rfl rfl ?_
  refine w_aload_n rfl rfl rfl ?_
  refine w_iconst (x := Int32.ofNat 0) rfl rfl (by decide) ?_
  refine w_pf rfl rfl rfl sp110 rfl rfl rfl ?_
  refine w_aload_n rfl rfl rfl ?_
  refine w_iload_n rfl rfl rfl ?_
  refine w_cv (q := am_m215) (as := [_]) (rest := []) (st' := [_]) rfl rfl rfl rfl rfl rfl sp110 rfl rfl rfl rfl (c_isRope (by omega)) rfl rfl ?_
  refine w_if_eqB (t := 36) (f := 13) rfl rfl rfl (fun c10 => absurd c10 (isok hr (by omega) ((am_u_nk (by decide)).trans h13))) (fun c10 => ?_)
  refine w_aload_n rfl rfl rfl ?_
  refine w_gf (t := .ref (140)) (v := .ref (140)) rfl rfl rfl sp110 rfl rfl rfl ?_
  refine w_iload_n rfl rfl rfl ?_
  refine w_iaload rfl rfl sp140 rfl ⟨by omega, by omega⟩ (congrFun (am_u_ne (by decide)) _) ?_
  refine w_if_lt (t := 36) (f := 22) rfl rfl rfl (fun c19 => ?_) (fun c19 => ?_)
  · refine w_iconst (x := Int32.ofNat 0) rfl rfl (by decide) ?_
    exact w_bret rfl (by decide) rfl rfl rfl rfl
  · refine w_aload_n rfl rfl rfl ?_
    refine w_gf (t := .ref (141)) (v := .ref (141)) rfl rfl rfl sp110 rfl rfl rfl ?_
    refine w_aload_n rfl rfl rfl ?_
    refine w_gf (t := .ref (140)) (v := .ref (140)) rfl rfl rfl sp110 rfl rfl rfl ?_
    refine w_iload_n rfl rfl rfl ?_
    refine w_iaload rfl rfl sp140 rfl ⟨by omega, by omega⟩ (congrFun (am_u_ne (by decide)) _) ?_
    refine w_iaload rfl rfl sp141 (hw c19).1 ⟨(by have := (hw c19).2; omega), by omega⟩ (congrFun (am_u_ne (by decide)) _) ?_
    refine w_if_eq (t := 38) (f := 36) rfl rfl rfl (fun c33 => ?_) (fun c33 => ?_)
    · exact absurd hP (fun z => z.elim c19 (fun z => z c33))
    · refine w_iconst (x := Int32.ofNat 0) rfl rfl (by decide) ?_
      exact w_bret rfl (by decide) rfl rfl rfl rfl
theorem c_takeOut_no {k : Nat} {I : hI} {J : hJ} {R : hR} {x : Int32} (hx : ¬ (¬ x < 0 ∧ x < I 110 13)) (hk : 2 ≤ k) : ct k 242 [.ref 110, .int x] I J R (some (.int 0)) (m_z I) J R := by
  obtain ⟨k, rfl⟩ : ∃ k', k = k' + 1 := ⟨k - 1, by omega⟩
  refine ct_of (q := am_m242) (L := [_, _]) rfl rfl rfl rfl rfl rfl ?_
  refine w_aload_n rfl rfl rfl ?_
  refine w_iconst (x := Int32.ofNat 0) rfl rfl (by decide) ?_
  refine w_pf rfl rfl rfl sp110 rfl rfl rfl ?_
  refine w_aload_n rfl rfl rfl ?_
  refine w_iload_n rfl rfl rfl ?_
  refine w_cv (q := am_m215) (as := [_]) (rest := []) (st' := [_]) rfl rfl rfl rfl rfl rfl sp110 rfl rfl rfl rfl (c_isRope (by omega)) rfl rfl ?_
  refine w_if_eqB (t := 36) (f := 13) rfl rfl rfl (fun c10 => ?_) (fun c10 => absurd c10 hx)
  refine w_iconst (x := Int32.ofNat 0) rfl rfl (by decide) ?_
  exact w_bret rfl (by decide) rfl rfl rfl rfl
def m_me0 (I : hI) (u : Nat) : hI := m_rem (m_pt (m_z I)) u
def m_meI (I : hI) (J : hJ) (u n r : Nat) : hI := m_mkI (m_me0 I u) J 0 n r
def m_meP (I : hI) (r : Nat) : Prop := I 138 r = 0 ∨ I 138 r = Int32.ofNat 3 ∨ (¬ I 140 r < 0 ∧ ¬ I 141 (nn (I 140 r)) = 0)
theorem m_put_f {I : hI} {A i j : Nat} (hA : 145 < A) : m_put A i I 110 j = I 110 j := by
  have h1 : ∀ n I, m_pu1 A i n I 110 j = I 110 j := by
    intro n I
    induction n with
    | zero => rfl
    | succ n ih => exact (am_u_na (by omega)).trans ((am_u_na (by omega)).trans ((am_u_na (by omega)).trans ih))
  have h2 : ∀ n I, m_pu2 A i n I 110 j = I 110 j := by
    intro n I
    induction n with
    | zero => rfl
    | succ n ih => exact (am_u_na (by omega)).trans ((am_u_na (by omega)).trans ih)
  exact (h2 5 _).trans (h1 8 _)
theorem m_rem_f {I : hI} {u j : Nat} (hj : j ≠ 84) : m_rem I u 110 j = I 110 j := by
  unfold m_rem
  split
  · exact (am_u_nk hj).trans ((m_put_f (by decide)).trans ((am_u_nk hj).trans (congrFun (m_shf_ne (by decide)) j)))
  · exact (am_u_nk hj).trans (m_put_f (by decide))
theorem sb_rem {I : hI} {u : Nat} (h : sb I) : sb (m_rem I u) := by
  unfold sb
  rw [m_rem_f (by decide)]
  exact h
theorem c_mend {k : Nat} {I : hI} {J : hJ} {R : hR} {N : Nat → Nat} (t : tok I N) {r u : Nat} (hr : r < N 1) (hu : u ≤ 20) (h84 : I 110 84 = Int32.ofNat u) (hw : ¬ I 140 r < 0 → okn (I 140 r) 5) (hP : ¬ m_meP I r) (hk : 7 ≤ k) : ct k 243 [.ref 110, .int (Int32.ofNat r)] I J R (some (.int (m_meI I J u (N 1) r 139 r))) (m_meI I J u (N 1) r) (m_twJ (m_me0 I u) J 0 (N 1) r) R := by
  obtain ⟨k, rfl⟩ : ∃ k', k = k' + 1 := ⟨k - 1, by omega⟩
  have hn := t.1.2.1
  have h13 := t.2.1.2.1
  have hn2 := t.1.2.2.1
  have h14 := t.2.1.2.2.1
  have t1 : tok (m_me0 I u) N := m_rem_tok (tok_pt (tok_z t))
  have s1 : sb (m_me0 I u) := sb_rem (sb_pt _)
  refine ct_of (q := am_m243) (L := [_, _]) rfl rfl rfl rfl rfl rfl ?_
  refine w_aload_n rfl rfl rfl ?_
  refine w_iconst (x := Int32.ofNat 0) rfl rfl (by decide) ?_
  refine w_pf rfl rfl rfl sp110 rfl rfl rfl ?_
  refine w_aload_n rfl rfl rfl ?_
  refine w_iload_n rfl rfl rfl ?_
  refine w_cv (q := am_m215) (as := [_]) (rest := []) (st' := [_]) rfl rfl rfl rfl rfl rfl sp110 rfl rfl rfl rfl (c_isRope (by omega)) rfl rfl ?_
  refine w_if_neB (t := 15) (f := 13) rfl rfl rfl (fun c10 => ?_) (fun c10 => absurd c10 (isok hr (by omega) ((am_u_nk (by decide)).trans h13)))
  refine w_aload_n rfl rfl rfl ?_
  refine w_gf (t := .ref (138)) (v := .ref (138)) rfl rfl rfl sp110 rfl rfl rfl ?_
  refine w_iload_n rfl rfl rfl ?_
  refine w_iaload rfl rfl sp138 rfl ⟨by omega, by omega⟩ (congrFun (am_u_ne (by decide)) _) ?_
  refine w_if_eq (t := 57) (f := 24) rfl rfl rfl (fun c21 => absurd c21 (fun z => hP (Or.inl z))) (fun c21 => ?_)
  refine w_aload_n rfl rfl rfl ?_
  refine w_gf (t := .ref (138)) (v := .ref (138)) rfl rfl rfl sp110 rfl rfl rfl ?_
  refine w_iload_n rfl rfl rfl ?_
  refine w_iaload rfl rfl sp138 rfl ⟨by omega, by omega⟩ (congrFun (am_u_ne (by decide)) _) ?_
  refine w_iconst (x := Int32.ofNat 3) rfl rfl (by decide) ?_
  refine w_ic_eq (t := 57) (f := 34) rfl rfl rfl (fun c31 => absurd c31 (fun z => hP (Or.inr (Or.inl z)))) (fun c31 => ?_)
  refine w_aload_n rfl rfl rfl ?_
  refine w_gf (t := .ref (140)) (v := .ref (140)) rfl rfl rfl sp110 rfl rfl rfl ?_
  refine w_iload_n rfl rfl rfl ?_
  refine w_iaload rfl rfl sp140 rfl ⟨by omega, by omega⟩ (congrFun (am_u_ne (by decide)) _) ?_
  refine w_if_lt (t := 60) (f := 43) rfl rfl rfl (fun c40 => ?_) (fun c40 => ?_)
  · refine w_aload_n rfl rfl rfl ?_
    refine w_cv (q := am_m212) (as := []) (rest := []) (st' := []) rfl rfl rfl rfl rfl rfl sp110 rfl rfl rfl rfl (c_plainTried (by omega)) rfl rfl ?_
    refine w_aload_n rfl rfl rfl ?_
    refine w_cv (q := am_m281) (as := []) (rest := []) (st' := []) rfl rfl rfl rfl rfl rfl sp110 rfl rfl rfl rfl (c_remember hu h84 (by omega)) rfl rfl ?_
    refine w_aload_n rfl rfl rfl ?_
    refine w_iconst (x := Int32.ofNat 0) rfl rfl (by decide) ?_
    refine w_iload_n rfl rfl rfl ?_
    refine w_cv (q := am_m226) (as := [_, _]) (rest := []) (st' := []) rfl rfl rfl rfl rfl rfl sp110 rfl rfl rfl rfl (c_makes (b := 0) (by decide) (by omega) hn t1.2.1.2.1 (t1.2.2.1 _ (by omega)) (t1.2.2.2.2 0 (by decide)) s1 (by omega)) rfl rfl ?_
    refine w_aload_n rfl rfl rfl ?_
    refine w_gf (t := .ref (139)) (v := .ref (139)) rfl rfl rfl sp110 rfl rfl rfl ?_
    refine w_iload_n rfl rfl rfl ?_
    refine w_iaload rfl rfl sp139 rfl ⟨by omega, by omega⟩ rfl ?_
    exact w_iret rfl rfl rfl rfl rfl
  · refine w_aload_n rfl rfl rfl ?_
    refine w_gf (t := .ref (141)) (v := .ref (141)) rfl rfl rfl sp110 rfl rfl rfl ?_
    refine w_aload_n rfl rfl rfl ?_
    refine w_gf (t := .ref (140)) (v := .ref (140)) rfl rfl rfl sp110 rfl rfl rfl ?_
    refine w_iload_n rfl rfl rfl ?_
    refine w_iaload rfl rfl sp140 rfl ⟨by omega, by omega⟩ (congrFun (am_u_ne (by decide)) _) ?_
    refine w_iaload rfl rfl sp141 (hw c40).1 ⟨(by have := (hw c40).2; omega), by omega⟩ (congrFun (am_u_ne (by decide)) _) ?_
    refine w_if_eq (t := 60) (f := 57) rfl rfl rfl (fun c54 => ?_) (fun c54 => absurd c54 (fun z => hP (Or.inr (Or.inr ⟨c40, z⟩))))
    refine w_aload_n rfl rfl rfl ?_
    refine w_cv (q := am_m212) (as := []) (rest := []) (st' := []) rfl rfl rfl rfl rfl rfl sp110 rfl rfl rfl rfl (c_plainTried (by omega)) rfl rfl ?_
    refine w_aload_n rfl rfl rfl ?_
    refine w_cv (q := am_m281) (as := []) (rest := []) (st' := []) rfl rfl rfl rfl rfl rfl sp110 rfl rfl rfl rfl (c_remember hu h84 (by omega)) rfl rfl ?_
    refine w_aload_n rfl rfl rfl ?_
    refine w_iconst (x := Int32.ofNat 0) rfl rfl (by decide) ?_
    refine w_iload_n rfl rfl rfl ?_
    refine w_cv (q := am_m226) (as := [_, _]) (rest := []) (st' := []) rfl rfl rfl rfl rfl rfl sp110 rfl rfl rfl rfl (c_makes (b := 0) (by decide) (by omega) hn t1.2.1.2.1 (t1.2.2.1 _ (by omega)) (t1.2.2.2.2 0 (by decide)) s1 (by omega)) rfl rfl ?_
    refine w_aload_n rfl rfl rfl ?_
    refine w_gf (t := .ref (139)) (v := .ref (139)) rfl rfl rfl sp110 rfl rfl rfl ?_
    refine w_iload_n rfl rfl rfl ?_
    refine w_iaload rfl rfl sp139 rfl ⟨by omega, by omega⟩ rfl ?_
    exact w_iret rfl rfl rfl rfl rfl
theorem c_mend_can {k : Nat} {I : hI} {J : hJ} {R : hR} {N : Nat → Nat} (t : tok I N) {r : Nat} (hr : r < N 1) (hw : ¬ I 140 r < 0 → okn (I 140 r) 5) (hP : m_meP I r) (hk : 2 ≤ k) : ct k 243 [.ref 110, .int (Int32.ofNat r)] I J R (some (.int (Int32.ofInt (-2)))) (m_z I) J R := by
  obtain ⟨k, rfl⟩ : ∃ k', k = k' + 1 := ⟨k - 1, by omega⟩
  have hn := t.1.2.1
  have h13 := t.2.1.2.1
  have hn2 := t.1.2.2.1
  have h14 := t.2.1.2.2.1
  refine ct_of (q := am_m243) (L := [_, _]) rfl rfl rfl rfl rfl rfl ?_
  refine w_aload_n rfl rfl rfl ?_
  refine w_iconst (x := Int32.ofNat 0) rfl rfl (by decide) ?_
  refine w_pf rfl rfl rfl sp110 rfl rfl rfl ?_
  refine w_aload_n rfl rfl rfl ?_
  refine w_iload_n rfl rfl rfl ?_
  refine w_cv (q := am_m215) (as := [_]) (rest := []) (st' := [_]) rfl rfl rfl rfl rfl rfl sp110 rfl rfl rfl rfl (c_isRope (by omega)) rfl rfl ?_
  refine w_if_neB (t := 15) (f := 13) rfl rfl rfl (fun c10 => ?_) (fun c10 => absurd c10 (isok hr (by omega) ((am_u_nk (by decide)).trans h13)))
  refine w_aload_n rfl rfl rfl ?_
  refine w_gf (t := .ref (138)) (v := .ref (138)) rfl rfl rfl sp110 rfl rfl rfl ?_
  refine w_iload_n rfl rfl rfl ?_
  refine w_iaload rfl rfl sp138 rfl ⟨by omega, by omega⟩ (congrFun (am_u_ne (by decide)) _) ?_
  refine w_if_eq (t := 57) (f := 24) rfl rfl rfl (fun c21 => ?_) (fun c21 => ?_)
  · refine w_bipush (x := Int32.ofInt (-2)) rfl rfl (by decide) ?_
    exact w_iret rfl rfl rfl rfl rfl
  · refine w_aload_n rfl rfl rfl ?_
    refine w_gf (t := .ref (138)) (v := .ref (138)) rfl rfl rfl sp110 rfl rfl rfl ?_
    refine w_iload_n rfl rfl rfl ?_
    refine w_iaload rfl rfl sp138 rfl ⟨by omega, by omega⟩ (congrFun (am_u_ne (by decide)) _) ?_
    refine w_iconst (x := Int32.ofNat 3) rfl rfl (by decide) ?_
    refine w_ic_eq (t := 57) (f := 34) rfl rfl rfl (fun c31 => ?_) (fun c31 => ?_)
    · refine w_bipush (x := Int32.ofInt (-2)) rfl rfl (by decide) ?_
      exact w_iret rfl rfl rfl rfl rfl
    · refine w_aload_n rfl rfl rfl ?_
      refine w_gf (t := .ref (140)) (v := .ref (140)) rfl rfl rfl sp110 rfl rfl rfl ?_
      refine w_iload_n rfl rfl rfl ?_
      refine w_iaload rfl rfl sp140 rfl ⟨by omega, by omega⟩ (congrFun (am_u_ne (by decide)) _) ?_
      refine w_if_lt (t := 60) (f := 43) rfl rfl rfl (fun c40 => ?_) (fun c40 => ?_)
      · exact absurd hP (fun z => z.elim c21 (fun z => z.elim c31 (fun z => by first | exact z.1 c40 | exact z.2 c54)))
      · refine w_aload_n rfl rfl rfl ?_
        refine w_gf (t := .ref (141)) (v := .ref (141)) rfl rfl rfl sp110 rfl rfl rfl ?_
        refine w_aload_n rfl rfl rfl ?_
        refine w_gf (t := .ref (140)) (v := .ref (140)) rfl rfl rfl sp110 rfl rfl rfl ?_
        refine w_iload_n rfl rfl rfl ?_
        refine w_iaload rfl rfl sp140 rfl ⟨by omega, by omega⟩ (congrFun (am_u_ne (by decide)) _) ?_
        refine w_iaload rfl rfl sp141 (hw c40).1 ⟨(by have := (hw c40).2; omega), by omega⟩ (congrFun (am_u_ne (by decide)) _) ?_
        refine w_if_eq (t := 60) (f := 57) rfl rfl rfl (fun c54 => ?_) (fun c54 => ?_)
        · exact absurd hP (fun z => z.elim c21 (fun z => z.elim c31 (fun z => by first | exact z.1 c40 | exact z.2 c54)))
        · refine w_bipush (x := Int32.ofInt (-2)) rfl rfl (by decide) ?_
          exact w_iret rfl rfl rfl rfl rfl
theorem c_mend_no {k : Nat} {I : hI} {J : hJ} {R : hR} {x : Int32} (hx : ¬ (¬ x < 0 ∧ x < I 110 13)) (hk : 2 ≤ k) : ct k 243 [.ref 110, .int x] I J R (some (.int (Int32.ofInt (-1)))) (m_z I) J R := by
  obtain ⟨k, rfl⟩ : ∃ k', k = k' + 1 := ⟨k - 1, by omega⟩
  refine ct_of (q := am_m243) (L := [_, _]) rfl rfl rfl rfl rfl rfl ?_
  refine w_aload_n rfl rfl rfl ?_
  refine w_iconst (x := Int32.ofNat 0) rfl rfl (by decide) ?_
  refine w_pf rfl rfl rfl sp110 rfl rfl rfl ?_
  refine w_aload_n rfl rfl rfl ?_
  refine w_iload_n rfl rfl rfl ?_
  refine w_cv (q := am_m215) (as := [_]) (rest := []) (st' := [_]) rfl rfl rfl rfl rfl rfl sp110 rfl rfl rfl rfl (c_isRope (by omega)) rfl rfl ?_
  refine w_if_neB (t := 15) (f := 13) rfl rfl rfl (fun c10 => absurd c10 hx) (fun c10 => ?_)
  refine w_iconst (x := Int32.ofInt (-1)) rfl rfl (by decide) ?_
  exact w_iret rfl rfl rfl rfl rfl
def m_sa (I : hI) (u s n : Nat) : hI := am_u (am_u (m_rem (m_z I) u) 141 s (Int32.ofNat 1)) 142 s (Int32.ofNat n)
theorem c_sail {k : Nat} {I : hI} {J : hJ} {R : hR} {N : Nat → Nat} (t : tok I N) {s n : Nat} (hs : s < N 2) (h1 : 1 ≤ n) (h2 : n ≤ 30) {u : Nat} (hu : u ≤ 20) (h84 : I 110 84 = Int32.ofNat u) (hP : I 141 s = 0) (hk : 3 ≤ k) : ct k 244 [.ref 110, .int (Int32.ofNat s), .int (Int32.ofNat n)] I J R (some (.int (m_bear (m_sa I u s n) 0 (N 1) (Int32.ofNat s)))) (m_sa I u s n) J R := by
  obtain ⟨k, rfl⟩ : ∃ k', k = k' + 1 := ⟨k - 1, by omega⟩
  have hn := t.1.2.1
  have h13 := t.2.1.2.1
  have hn2 := t.1.2.2.1
  have h14 := t.2.1.2.2.1
  have t1 : tok (m_sa I u s n) N := tok_u (by omega) (by omega) (tok_u (by omega) (by omega) (m_rem_tok (tok_z t)))
  refine ct_of (q := am_m244) (L := [_, _, _]) rfl rfl rfl rfl rfl rfl ?_
  refine w_aload_n rfl rfl rfl ?_
  refine w_iconst (x := Int32.ofNat 0) rfl rfl (by decide) ?_
  refine w_pf rfl rfl rfl sp110 rfl rfl rfl ?_
  refine w_aload_n rfl rfl rfl ?_
  refine w_iload_n rfl rfl rfl ?_
  refine w_cv (q := am_m216) (as := [_]) (rest := []) (st' := [_]) rfl rfl rfl rfl rfl rfl sp110 rfl rfl rfl rfl (c_isShip (by omega)) rfl rfl ?_
  refine w_if_eqB (t := 23) (f := 13) rfl rfl rfl (fun c10 => absurd c10 (isok hs (by omega) ((am_u_nk (by decide)).trans h14))) (fun c10 => ?_)
  refine w_iload_n rfl rfl rfl ?_
  refine w_iconst (x := Int32.ofNat 1) rfl rfl (by decide) ?_
  refine w_bipush (x := Int32.ofNat 30) rfl rfl (by decide) ?_
  refine w_cs (q := am_m168) (na := 3) (as := [_, _, _]) (st' := [_]) rfl rfl rfl rfl (by decide) rfl rfl (Nat.le_of_ble_eq_true rfl) rfl rfl rfl (c_isIn (by omega)) rfl rfl ?_
  refine w_if_neB (t := 25) (f := 23) rfl rfl rfl (fun c20 => ?_) (fun c20 => absurd c20 (inok h1 h2 (by decide)))
  refine w_aload_n rfl rfl rfl ?_
  refine w_gf (t := .ref (141)) (v := .ref (141)) rfl rfl rfl sp110 rfl rfl rfl ?_
  refine w_iload_n rfl rfl rfl ?_
  refine w_iaload rfl rfl sp141 rfl ⟨by omega, by omega⟩ (congrFun (am_u_ne (by decide)) _) ?_
  refine w_if_eq (t := 37) (f := 34) rfl rfl rfl (fun c31 => ?_) (fun c31 => absurd c31 (not_not_intro hP))
  refine w_aload_n rfl rfl rfl ?_
  refine w_cv (q := am_m281) (as := []) (rest := []) (st' := []) rfl rfl rfl rfl rfl rfl sp110 rfl rfl rfl rfl (c_remember hu ((am_u_nk (by decide)).trans h84) (by omega)) rfl rfl ?_
  refine w_aload_n rfl rfl rfl ?_
  refine w_gf (t := .ref (141)) (v := .ref (141)) rfl rfl rfl sp110 rfl rfl rfl ?_
  refine w_iload_n rfl rfl rfl ?_
  refine w_iconst (x := Int32.ofNat 1) rfl rfl (by decide) ?_
  refine w_iastore rfl rfl sp141 rfl ⟨by omega, by omega⟩ ?_
  refine w_aload_n rfl rfl rfl ?_
  refine w_gf (t := .ref (142)) (v := .ref (142)) rfl rfl rfl sp110 rfl rfl rfl ?_
  refine w_iload_n rfl rfl rfl ?_
  refine w_iload_n rfl rfl rfl ?_
  refine w_iastore rfl rfl sp142 rfl ⟨by omega, by omega⟩ ?_
  refine w_aload_n rfl rfl rfl ?_
  refine w_iconst (x := Int32.ofNat 0) rfl rfl (by decide) ?_
  refine w_iload_n rfl rfl rfl ?_
  refine w_cv (q := am_m219) (as := [_, _]) (rest := []) (st' := [_]) rfl rfl rfl rfl rfl rfl sp110 rfl rfl rfl rfl (c_bearOf (b := 0) (by decide) hn t1.2.1.2.1 (by omega)) rfl rfl ?_
  exact w_iret rfl rfl rfl rfl rfl
theorem c_sail_can {k : Nat} {I : hI} {J : hJ} {R : hR} {N : Nat → Nat} (t : tok I N) {s n : Nat} (hs : s < N 2) (h1 : 1 ≤ n) (h2 : n ≤ 30) (hP : ¬ I 141 s = 0) (hk : 2 ≤ k) : ct k 244 [.ref 110, .int (Int32.ofNat s), .int (Int32.ofNat n)] I J R (some (.int (Int32.ofInt (-2)))) (m_z I) J R := by
  obtain ⟨k, rfl⟩ : ∃ k', k = k' + 1 := ⟨k - 1, by omega⟩
  have hn := t.1.2.1
  have h13 := t.2.1.2.1
  have hn2 := t.1.2.2.1
  have h14 := t.2.1.2.2.1
  refine ct_of (q := am_m244) (L := [_, _, _]) rfl rfl rfl rfl rfl rfl ?_
  refine w_aload_n rfl rfl rfl ?_
  refine w_iconst (x := Int32.ofNat 0) rfl rfl (by decide) ?_
  refine w_pf rfl rfl rfl sp110 rfl rfl rfl ?_
  refine w_aload_n rfl rfl rfl ?_
  refine w_iload_n rfl rfl rfl ?_
  refine w_cv (q := am_m216) (as := [_]) (rest := []) (st' := [_]) rfl rfl rfl rfl rfl rfl sp110 rfl rfl rfl rfl (c_isShip (by omega)) rfl rfl ?_
  refine w_if_eqB (t := 23) (f := 13) rfl rfl rfl (fun c10 => absurd c10 (isok hs (by omega) ((am_u_nk (by decide)).trans h14))) (fun c10 => ?_)
  refine w_iload_n rfl rfl rfl ?_
  refine w_iconst (x := Int32.ofNat 1) rfl rfl (by decide) ?_
  refine w_bipush (x := Int32.ofNat 30) rfl rfl (by decide) ?_
  refine w_cs (q := am_m168) (na := 3) (as := [_, _, _]) (st' := [_]) rfl rfl rfl rfl (by decide) rfl rfl (Nat.le_of_ble_eq_true rfl) rfl rfl rfl (c_isIn (by omega)) rfl rfl ?_
  refine w_if_neB (t := 25) (f := 23) rfl rfl rfl (fun c20 => ?_) (fun c20 => absurd c20 (inok h1 h2 (by decide)))
  refine w_aload_n rfl rfl rfl ?_
  refine w_gf (t := .ref (141)) (v := .ref (141)) rfl rfl rfl sp110 rfl rfl rfl ?_
  refine w_iload_n rfl rfl rfl ?_
  refine w_iaload rfl rfl sp141 rfl ⟨by omega, by omega⟩ (congrFun (am_u_ne (by decide)) _) ?_
  refine w_if_eq (t := 37) (f := 34) rfl rfl rfl (fun c31 => absurd c31 hP) (fun c31 => ?_)
  refine w_bipush (x := Int32.ofInt (-2)) rfl rfl (by decide) ?_
  exact w_iret rfl rfl rfl rfl rfl
theorem c_sail_no {k : Nat} {I : hI} {J : hJ} {R : hR} {x y : Int32} (hx : ¬ ((¬ x < 0 ∧ x < I 110 14) ∧ ¬ y < Int32.ofNat 1 ∧ ¬ Int32.ofNat 30 < y)) (hk : 2 ≤ k) : ct k 244 [.ref 110, .int x, .int y] I J R (some (.int (Int32.ofInt (-1)))) (m_z I) J R := by
  obtain ⟨k, rfl⟩ : ∃ k', k = k' + 1 := ⟨k - 1, by omega⟩
  refine ct_of (q := am_m244) (L := [_, _, _]) rfl rfl rfl rfl rfl rfl ?_
  refine w_aload_n rfl rfl rfl ?_
  refine w_iconst (x := Int32.ofNat 0) rfl rfl (by decide) ?_
  refine w_pf rfl rfl rfl sp110 rfl rfl rfl ?_
  refine w_aload_n rfl rfl rfl ?_
  refine w_iload_n rfl rfl rfl ?_
  refine w_cv (q := am_m216) (as := [_]) (rest := []) (st' := [_]) rfl rfl rfl rfl rfl rfl sp110 rfl rfl rfl rfl (c_isShip (by omega)) rfl rfl ?_
  refine w_if_eqB (t := 23) (f := 13) rfl rfl rfl (fun c10 => ?_) (fun c10 => ?_)
  · refine w_iconst (x := Int32.ofInt (-1)) rfl rfl (by decide) ?_
    exact w_iret rfl rfl rfl rfl rfl
  · refine w_iload_n rfl rfl rfl ?_
    refine w_iconst (x := Int32.ofNat 1) rfl rfl (by decide) ?_
    refine w_bipush (x := Int32.ofNat 30) rfl rfl (by decide) ?_
    refine w_cs (q := am_m168) (na := 3) (as := [_, _, _]) (st' := [_]) rfl rfl rfl rfl (by decide) rfl rfl (Nat.le_of_ble_eq_true rfl) rfl rfl rfl (c_isIn (by omega)) rfl rfl ?_
    refine w_if_neB (t := 25) (f := 23) rfl rfl rfl (fun c20 => ?_) (fun c20 => ?_)
    · exact (hx ⟨c10, c20⟩).elim
    · refine w_iconst (x := Int32.ofInt (-1)) rfl rfl (by decide) ?_
      exact w_iret rfl rfl rfl rfl rfl
