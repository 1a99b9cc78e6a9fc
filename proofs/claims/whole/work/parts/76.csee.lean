/-! The class: what was seen. -/
def k_sf1 (n : Nat) (I : hI) : hI := s_for (fun r I => am_u I 94 r (Int32.ofNat 0)) n I
def k_sf2 (n : Nat) (I : hI) : hI := s_for (fun r I => am_u I 95 r (Int32.ofNat 0)) n I
def k_sfg (I : hI) : hI := k_sf2 300 (k_sf1 6 (am_u (am_u I 88 0 (Int32.ofNat 0)) 88 1 (Int32.ofInt (-1))))
theorem l_sfg1 {k : Nat} {R : hR} {q : Option Value × am_H} {I0 : hI} {J0 : hJ} (Z : wz k 6 none am_c52 31 [.ref 88, .int (Int32.ofNat 6)] [] (k_sf1 6 I0) J0 R q) : ∀ (j r : Nat) , r + j = 6 → wz k 6 none am_c52 12 [.ref 88, .int (Int32.ofNat r)] [] (k_sf1 r I0) J0 R q := by
  intro j
  induction j with
  | zero =>
    intro r e
    obtain rfl : 6 = r := by omega
    refine w_iload_n rfl rfl rfl ?_
    refine w_bipush (x := Int32.ofNat 6) rfl rfl (by decide) ?_
    refine w_ic_geN (t := 31) (f := 18) rfl rfl rfl (by omega) (by omega) (fun c15 => ?_) (fun c15 => absurd c15 (by omega))
    exact Z
  | succ j ih =>
    intro r e
    refine w_iload_n rfl rfl rfl ?_
    refine w_bipush (x := Int32.ofNat 6) rfl rfl (by decide) ?_
    refine w_ic_geN (t := 31) (f := 18) rfl rfl rfl (by omega) (by omega) (fun c15 => absurd c15 (by omega)) (fun c15 => ?_)
    refine w_aload_n rfl rfl rfl ?_
    refine w_gf (t := .ref (94)) (v := .ref (94)) rfl rfl rfl sp88 rfl rfl rfl ?_
    refine w_iload_n rfl rfl rfl ?_
    refine w_iconst (x := Int32.ofNat 0) rfl rfl (by decide) ?_
    refine w_bastore rfl rfl sp94 rfl ⟨by omega, by omega⟩ (by decide) ?_
    refine w_iinc (L' := [_, _]) rfl rfl rfl (am_incN 1) rfl ?_
    refine w_goto (pc' := 12) rfl rfl ?_
    exact ih (r + 1) (by omega)
theorem l_sfg2 {k : Nat} {R : hR} {q : Option Value × am_H} {I0 : hI} {J0 : hJ} (Z : wz k 6 none am_c52 55 [.ref 88, .int (Int32.ofNat 300)] [] (k_sf2 300 I0) J0 R q) : ∀ (j r : Nat) , r + j = 300 → wz k 6 none am_c52 33 [.ref 88, .int (Int32.ofNat r)] [] (k_sf2 r I0) J0 R q := by
  intro j
  induction j with
  | zero =>
    intro r e
    obtain rfl : 300 = r := by omega
    refine w_iload_n rfl rfl rfl ?_
    refine w_aload_n rfl rfl rfl ?_
    refine w_gf (t := .ref (95)) (v := .ref (95)) rfl rfl rfl sp88 rfl rfl rfl ?_
    refine w_alen rfl rfl sp95 (by decide) ?_
    refine w_ic_geN (t := 55) (f := 42) rfl rfl rfl (by omega) (by omega) (fun c39 => ?_) (fun c39 => absurd c39 (by omega))
    exact Z
  | succ j ih =>
    intro r e
    refine w_iload_n rfl rfl rfl ?_
    refine w_aload_n rfl rfl rfl ?_
    refine w_gf (t := .ref (95)) (v := .ref (95)) rfl rfl rfl sp88 rfl rfl rfl ?_
    refine w_alen rfl rfl sp95 (by decide) ?_
    refine w_ic_geN (t := 55) (f := 42) rfl rfl rfl (by omega) (by omega) (fun c39 => absurd c39 (by omega)) (fun c39 => ?_)
    refine w_aload_n rfl rfl rfl ?_
    refine w_gf (t := .ref (95)) (v := .ref (95)) rfl rfl rfl sp88 rfl rfl rfl ?_
    refine w_iload_n rfl rfl rfl ?_
    refine w_iconst (x := Int32.ofNat 0) rfl rfl (by decide) ?_
    refine w_iastore rfl rfl sp95 rfl ⟨by omega, by omega⟩ ?_
    refine w_iinc (L' := [_, _]) rfl rfl rfl (am_incN 1) rfl ?_
    refine w_goto (pc' := 33) rfl rfl ?_
    exact ih (r + 1) (by omega)
theorem d_sforget {k : Nat} {I : hI} {J : hJ} {R : hR}  (hk : 1 ≤ k) : ct k 52 [.ref 88] I J R none (k_sfg I) J R := by
  obtain ⟨k, rfl⟩ : ∃ k', k = k' + 1 := ⟨k - 1, by omega⟩
  refine ct_of (q := am_m52) (o := 6) (rt := none) (co := am_c52) (L := [_, _]) rfl rfl rfl rfl rfl rfl ?_
  refine w_aload_n rfl rfl rfl ?_
  refine w_iconst (x := Int32.ofNat 0) rfl rfl (by decide) ?_
  refine w_pf rfl rfl rfl sp88 rfl rfl rfl ?_
  refine w_aload_n rfl rfl rfl ?_
  refine w_iconst (x := Int32.ofInt (-1)) rfl rfl (by decide) ?_
  refine w_pf rfl rfl rfl sp88 rfl rfl rfl ?_
  refine w_iconst (x := Int32.ofNat 0) rfl rfl (by decide) ?_
  refine w_istore_n (L' := [_, _]) rfl rfl rfl ?_
  refine l_sfg1 ?_ 6 0 (by omega)
  refine w_iconst (x := Int32.ofNat 0) rfl rfl (by decide) ?_
  refine w_istore_n (L' := [_, _]) rfl rfl rfl ?_
  refine l_sfg2 ?_ 300 0 (by omega)
  exact w_ret rfl rfl rfl rfl
def k_kn (I : hI) : Int32 := if I 88 1 = Int32.ofInt (-1) then I 88 0 else I 88 1
theorem d_knownSize {k : Nat} {I : hI} {J : hJ} {R : hR}  (hk : 1 ≤ k) : ct k 53 [.ref 88] I J R (some (.int (k_kn I))) I J R := by
  obtain ⟨k, rfl⟩ : ∃ k', k = k' + 1 := ⟨k - 1, by omega⟩
  refine ct_of (q := am_m53) (o := 6) (rt := (some .int)) (co := am_c53) (L := [_]) rfl rfl rfl rfl rfl rfl ?_
  refine w_aload_n rfl rfl rfl ?_
  refine w_gf (t := .int 0) (v := .int _) rfl rfl rfl sp88 rfl (congrArg Value.int rfl) rfl ?_
  refine w_iconst (x := Int32.ofInt (-1)) rfl rfl (by decide) ?_
  refine w_ic_ne (t := 15) (f := 8) rfl rfl rfl (fun c5 => ?_) (fun c5 => ?_)
  · refine w_aload_n rfl rfl rfl ?_
    refine w_gf (t := .int 0) (v := .int _) rfl rfl rfl sp88 rfl (congrArg Value.int rfl) rfl ?_
    exact w_iret rfl (by unfold k_kn; simp only [*, ite_true, ite_false, and_self, and_true, true_and, and_false, false_and, or_true, true_or, or_false, false_or, not_true, not_false_iff]) rfl rfl rfl
  · refine w_aload_n rfl rfl rfl ?_
    refine w_gf (t := .int 0) (v := .int _) rfl rfl rfl sp88 rfl (congrArg Value.int rfl) rfl ?_
    refine w_goto (pc' := 19) rfl rfl ?_
    exact w_iret rfl (by unfold k_kn; simp only [*, ite_true, ite_false, and_self, and_true, true_and, and_false, false_and, or_true, true_or, or_false, false_or, not_true, not_false_iff]) rfl rfl rfl
def k_as (I : hI) (z : Nat) (d x w : Int32) : hI := am_u (am_u (am_u (am_u (am_u I 89 z d) 90 z x) 91 z w) 92 z (Int32.ofInt (-1))) 88 0 (Int32.ofNat (z + 1))
theorem d_addSight {k : Nat} {I : hI} {J : hJ} {R : hR} {z : Nat} {d x w : Int32} (hz : z < 24) (h0 : I 88 0 = Int32.ofNat z) (hw : w = 0 ∨ w = 1) (hk : 1 ≤ k) : ct k 54 [.ref 88, .int d, .int x, .int w] I J R (some (.int (Int32.ofNat z))) (k_as I z d x w) J R := by
  obtain ⟨k, rfl⟩ : ∃ k', k = k' + 1 := ⟨k - 1, by omega⟩
  refine ct_of (q := am_m54) (o := 6) (rt := (some .int)) (co := am_c54) (L := [_, _, _, _]) rfl rfl rfl rfl rfl rfl ?_
  refine w_aload_n rfl rfl rfl ?_
  refine w_gf (t := .int 0) (v := .int _) rfl rfl rfl sp88 rfl (congrArg Value.int h0) rfl ?_
  refine w_bipush (x := Int32.ofNat 24) rfl rfl (by decide) ?_
  refine w_ic_ltN (t := 11) (f := 9) rfl rfl rfl (by omega) (by omega) (fun c6 => ?_) (fun c6 => absurd c6 (by omega))
  refine w_aload_n rfl rfl rfl ?_
  refine w_gf (t := .ref (89)) (v := .ref (89)) rfl rfl rfl sp88 rfl rfl rfl ?_
  refine w_aload_n rfl rfl rfl ?_
  refine w_gf (t := .int 0) (v := .int _) rfl rfl rfl sp88 rfl (congrArg Value.int h0) rfl ?_
  refine w_iload_n rfl rfl rfl ?_
  refine w_iastore rfl rfl sp89 rfl ⟨by omega, by omega⟩ ?_
  refine w_aload_n rfl rfl rfl ?_
  refine w_gf (t := .ref (90)) (v := .ref (90)) rfl rfl rfl sp88 rfl rfl rfl ?_
  refine w_aload_n rfl rfl rfl ?_
  refine w_gf (t := .int 0) (v := .int _) rfl rfl rfl sp88 rfl (congrArg Value.int ((congrFun (am_u_ne (by decide)) _).trans h0)) rfl ?_
  refine w_iload_n rfl rfl rfl ?_
  refine w_iastore rfl rfl sp90 rfl ⟨by omega, by omega⟩ ?_
  refine w_aload_n rfl rfl rfl ?_
  refine w_gf (t := .ref (91)) (v := .ref (91)) rfl rfl rfl sp88 rfl rfl rfl ?_
  refine w_aload_n rfl rfl rfl ?_
  refine w_gf (t := .int 0) (v := .int _) rfl rfl rfl sp88 rfl (congrArg Value.int (((congrFun (am_u_ne (by decide)) _).trans (congrFun (am_u_ne (by decide)) _)).trans h0)) rfl ?_
  refine w_iload_n rfl rfl rfl ?_
  refine w_bastore rfl rfl sp91 rfl ⟨by omega, by omega⟩ hw ?_
  refine w_aload_n rfl rfl rfl ?_
  refine w_gf (t := .ref (92)) (v := .ref (92)) rfl rfl rfl sp88 rfl rfl rfl ?_
  refine w_aload_n rfl rfl rfl ?_
  refine w_gf (t := .int 0) (v := .int _) rfl rfl rfl sp88 rfl (congrArg Value.int (((congrFun (am_u_ne (by decide)) _).trans ((congrFun (am_u_ne (by decide)) _).trans (congrFun (am_u_ne (by decide)) _))).trans h0)) rfl ?_
  refine w_iconst (x := Int32.ofInt (-1)) rfl rfl (by decide) ?_
  refine w_iastore rfl rfl sp92 rfl ⟨by omega, by omega⟩ ?_
  refine w_aload_n rfl rfl rfl ?_
  refine w_dup rfl rfl rfl ?_
  refine w_gf (t := .int 0) (v := .int _) rfl rfl rfl sp88 rfl (congrArg Value.int (((congrFun (am_u_ne (by decide)) _).trans ((congrFun (am_u_ne (by decide)) _).trans ((congrFun (am_u_ne (by decide)) _).trans (congrFun (am_u_ne (by decide)) _)))).trans h0)) rfl ?_
  refine w_iconst (x := Int32.ofNat 1) rfl rfl (by decide) ?_
  refine w_iaddN rfl rfl ?_
  refine w_pf rfl rfl rfl sp88 rfl rfl rfl ?_
  refine w_aload_n rfl rfl rfl ?_
  refine w_gf (t := .int 0) (v := .int _) rfl rfl rfl sp88 rfl (congrArg Value.int am_u_at) rfl ?_
  refine w_iconst (x := Int32.ofNat 1) rfl rfl (by decide) ?_
  refine w_isubN rfl rfl (by omega) ?_
  exact w_iret rfl rfl rfl rfl rfl
theorem d_addSight_no {k : Nat} {I : hI} {J : hJ} {R : hR} {d x w : Int32} (h0 : I 88 0 = Int32.ofNat 24) (hk : 1 ≤ k) : ct k 54 [.ref 88, .int d, .int x, .int w] I J R (some (.int (Int32.ofInt (-1)))) I J R := by
  obtain ⟨k, rfl⟩ : ∃ k', k = k' + 1 := ⟨k - 1, by omega⟩
  refine ct_of (q := am_m54) (o := 6) (rt := (some .int)) (co := am_c54) (L := [_, _, _, _]) rfl rfl rfl rfl rfl rfl ?_
  refine w_aload_n rfl rfl rfl ?_
  refine w_gf (t := .int 0) (v := .int _) rfl rfl rfl sp88 rfl (congrArg Value.int h0) rfl ?_
  refine w_bipush (x := Int32.ofNat 24) rfl rfl (by decide) ?_
  refine w_ic_ltN (t := 11) (f := 9) rfl rfl rfl (by omega) (by omega) (fun c6 => absurd c6 (by omega)) (fun c6 => ?_)
  refine w_iconst (x := Int32.ofInt (-1)) rfl rfl (by decide) ?_
  exact w_iret rfl rfl rfl rfl rfl
def k_sk (I : hI) (z : Nat) (x : Int32) : hI := am_u (am_u I 92 z x) 88 0 (Int32.ofNat (z + 1))
theorem d_addStrike {k : Nat} {I : hI} {J : hJ} {R : hR} {z : Nat} {n : Nat} (hz : z < 24) (hn : n < z) (h0 : I 88 0 = Int32.ofNat z) (hk : 1 ≤ k) : ct k 55 [.ref 88, .int (Int32.ofNat n)] I J R (some (.int (Int32.ofNat z))) (k_sk I z (Int32.ofNat n)) J R := by
  obtain ⟨k, rfl⟩ : ∃ k', k = k' + 1 := ⟨k - 1, by omega⟩
  refine ct_of (q := am_m55) (o := 6) (rt := (some .int)) (co := am_c55) (L := [_, _]) rfl rfl rfl rfl rfl rfl ?_
  refine w_iload_n rfl rfl rfl ?_
  refine w_if_lt (t := 21) (f := 4) rfl rfl rfl (fun c1 => absurd c1 (am_oN0 (by omega))) (fun c1 => ?_)
  refine w_iload_n rfl rfl rfl ?_
  refine w_aload_n rfl rfl rfl ?_
  refine w_gf (t := .int 0) (v := .int _) rfl rfl rfl sp88 rfl (congrArg Value.int h0) rfl ?_
  refine w_ic_geN (t := 21) (f := 12) rfl rfl rfl (by omega) (by omega) (fun c9 => absurd c9 (by omega)) (fun c9 => ?_)
  refine w_aload_n rfl rfl rfl ?_
  refine w_gf (t := .int 0) (v := .int _) rfl rfl rfl sp88 rfl (congrArg Value.int h0) rfl ?_
  refine w_bipush (x := Int32.ofNat 24) rfl rfl (by decide) ?_
  refine w_ic_ltN (t := 23) (f := 21) rfl rfl rfl (by omega) (by omega) (fun c18 => ?_) (fun c18 => absurd c18 (by omega))
  refine w_aload_n rfl rfl rfl ?_
  refine w_gf (t := .ref (92)) (v := .ref (92)) rfl rfl rfl sp88 rfl rfl rfl ?_
  refine w_aload_n rfl rfl rfl ?_
  refine w_gf (t := .int 0) (v := .int _) rfl rfl rfl sp88 rfl (congrArg Value.int h0) rfl ?_
  refine w_iload_n rfl rfl rfl ?_
  refine w_iastore rfl rfl sp92 rfl ⟨by omega, by omega⟩ ?_
  refine w_aload_n rfl rfl rfl ?_
  refine w_dup rfl rfl rfl ?_
  refine w_gf (t := .int 0) (v := .int _) rfl rfl rfl sp88 rfl (congrArg Value.int ((congrFun (am_u_ne (by decide)) _).trans h0)) rfl ?_
  refine w_iconst (x := Int32.ofNat 1) rfl rfl (by decide) ?_
  refine w_iaddN rfl rfl ?_
  refine w_pf rfl rfl rfl sp88 rfl rfl rfl ?_
  refine w_aload_n rfl rfl rfl ?_
  refine w_gf (t := .int 0) (v := .int _) rfl rfl rfl sp88 rfl (congrArg Value.int am_u_at) rfl ?_
  refine w_iconst (x := Int32.ofNat 1) rfl rfl (by decide) ?_
  refine w_isubN rfl rfl (by omega) ?_
  exact w_iret rfl rfl rfl rfl rfl
theorem d_addStrike_no {k : Nat} {I : hI} {J : hJ} {R : hR} {x : Int32} (h : ¬ (¬ x < 0 ∧ x < I 88 0 ∧ I 88 0 < Int32.ofNat 24)) (hk : 1 ≤ k) : ct k 55 [.ref 88, .int x] I J R (some (.int (Int32.ofInt (-1)))) I J R := by
  obtain ⟨k, rfl⟩ : ∃ k', k = k' + 1 := ⟨k - 1, by omega⟩
  refine ct_of (q := am_m55) (o := 6) (rt := (some .int)) (co := am_c55) (L := [_, _]) rfl rfl rfl rfl rfl rfl ?_
  refine w_iload_n rfl rfl rfl ?_
  refine w_if_lt (t := 21) (f := 4) rfl rfl rfl (fun c1 => ?_) (fun c1 => ?_)
  · refine w_iconst (x := Int32.ofInt (-1)) rfl rfl (by decide) ?_
    exact w_iret rfl rfl rfl rfl rfl
  · refine w_iload_n rfl rfl rfl ?_
    refine w_aload_n rfl rfl rfl ?_
    refine w_gf (t := .int 0) (v := .int _) rfl rfl rfl sp88 rfl (congrArg Value.int rfl) rfl ?_
    refine w_ic_ge (t := 21) (f := 12) rfl rfl rfl (fun c9 => ?_) (fun c9 => ?_)
    · refine w_iconst (x := Int32.ofInt (-1)) rfl rfl (by decide) ?_
      exact w_iret rfl rfl rfl rfl rfl
    · refine w_aload_n rfl rfl rfl ?_
      refine w_gf (t := .int 0) (v := .int _) rfl rfl rfl sp88 rfl (congrArg Value.int rfl) rfl ?_
      refine w_bipush (x := Int32.ofNat 24) rfl rfl (by decide) ?_
      refine w_ic_lt (t := 23) (f := 21) rfl rfl rfl (fun c18 => absurd c18 (fun z => h (by simp only [*, not_false_iff, true_and, and_self]))) (fun c18 => ?_)
      refine w_iconst (x := Int32.ofInt (-1)) rfl rfl (by decide) ?_
      exact w_iret rfl rfl rfl rfl rfl
theorem d_cell {k : Nat} {I : hI} {J : hJ} {R : hR} {m e s : Nat} (hk : 1 ≤ k) : ct k 56 [.int (Int32.ofNat m), .int (Int32.ofNat e), .int (Int32.ofNat s)] I J R (some (.int (Int32.ofNat ((m * 10 + e) * 5 + s)))) I J R := by
  obtain ⟨k, rfl⟩ : ∃ k', k = k' + 1 := ⟨k - 1, by omega⟩
  refine ct_of (q := am_m56) (o := 6) (rt := (some .int)) (co := am_c56) (L := [_, _, _]) rfl rfl rfl rfl rfl rfl ?_
  refine w_iload_n rfl rfl rfl ?_
  refine w_bipush (x := Int32.ofNat 10) rfl rfl (by decide) ?_
  refine w_imulN rfl rfl ?_
  refine w_iload_n rfl rfl rfl ?_
  refine w_iaddN rfl rfl ?_
  refine w_iconst (x := Int32.ofNat 5) rfl rfl (by decide) ?_
  refine w_imulN rfl rfl ?_
  refine w_iload_n rfl rfl rfl ?_
  refine w_iaddN rfl rfl ?_
  exact w_iret rfl rfl rfl rfl rfl
def k_cl (m e s : Nat) : Nat := (m * 10 + e) * 5 + s
def k_nlS (S m e : Nat) (w : Int32) (x : Nat) (I : hI) : hI := if I 95 (k_cl m e x) = 0 ∧ I (S + 4) x = Int32.ofNat 2 then am_u I 95 (k_cl m e x) w else I
theorem k_nl1 {S m e x : Nat} {w : Int32} {I : hI} (a : I 95 (k_cl m e x) = 0) (b : I (S + 4) x = Int32.ofNat 2) : k_nlS S m e w x I = am_u I 95 (k_cl m e x) w := if_pos ⟨a, b⟩
theorem k_nl2 {S m e x : Nat} {w : Int32} {I : hI} (a : ¬ I 95 (k_cl m e x) = 0) : k_nlS S m e w x I = I := if_neg fun z => a z.1
theorem k_nl3 {S m e x : Nat} {w : Int32} {I : hI} (a : ¬ I (S + 4) x = Int32.ofNat 2) : k_nlS S m e w x I = I := if_neg fun z => a z.2
def k_nl (S m e : Nat) (w : Int32) (n : Nat) (I : hI) : hI := s_for (k_nlS S m e w) n I
theorem l_noteL {k : Nat} {R : hR} {q : Option Value × am_H} {S : Nat} (hS : S = 63 ∨ S = 70 ∨ S = 77) {I0 : hI} {J0 : hJ} {m v n : Nat} {w : Int32} (hm : m < 6) (hv : v < 10) (hn : n ≤ 5) (hk : 1 ≤ k) (Z : ∀ (u : Value), wz k 6 none am_c57 55 [.ref 88, .int (Int32.ofNat m), .int (Int32.ofNat v), .int w, .ref S, .int (Int32.ofNat n), .int (Int32.ofNat n), u] [] (k_nl S m v w n I0) J0 R q) : ∀ (j r : Nat) (u : Value), r + j = n → wz k 6 none am_c57 3 [.ref 88, .int (Int32.ofNat m), .int (Int32.ofNat v), .int w, .ref S, .int (Int32.ofNat n), .int (Int32.ofNat r), u] [] (k_nl S m v w r I0) J0 R q := by
  intro j
  induction j with
  | zero =>
    intro r u e
    obtain rfl : n = r := by omega
    refine w_iload rfl rfl rfl ?_
    refine w_iload rfl rfl rfl ?_
    refine w_ic_geN (t := 55) (f := 10) rfl rfl rfl (by omega) (by omega) (fun c7 => ?_) (fun c7 => absurd c7 (by omega))
    exact Z _
  | succ j ih =>
    intro r u e
    refine w_iload rfl rfl rfl ?_
    refine w_iload rfl rfl rfl ?_
    refine w_ic_geN (t := 55) (f := 10) rfl rfl rfl (by omega) (by omega) (fun c7 => absurd c7 (by omega)) (fun c7 => ?_)
    refine w_iload_n rfl rfl rfl ?_
    refine w_iload_n rfl rfl rfl ?_
    refine w_iload rfl rfl rfl ?_
    refine w_cs (q := am_m56) (na := 3) (as := [_, _, _]) (st' := [_]) rfl rfl rfl rfl (by decide) rfl rfl (Nat.le_of_ble_eq_true rfl) rfl rfl rfl (d_cell hk) rfl rfl ?_
    refine w_istore (L' := [_, _, _, _, _, _, _, _]) rfl rfl rfl ?_
    refine w_aload_n rfl rfl rfl ?_
    refine w_gf (t := .ref (95)) (v := .ref (95)) rfl rfl rfl sp88 rfl rfl rfl ?_
    refine w_iload rfl rfl rfl ?_
    refine w_iaload rfl rfl sp95 rfl ⟨by omega, by omega⟩ rfl ?_
    refine w_if_ne (t := 49) (f := 29) rfl rfl rfl (fun c26 => ?_) (fun c26 => ?_)
    · refine w_iinc (L' := [_, _, _, _, _, _, _, _]) rfl rfl rfl (am_incN 1) rfl ?_
      refine w_goto (pc' := 3) rfl rfl ?_
      exact wz_J (ih (r + 1) _ (by omega)) rfl (by show k_nlS S m v w r (k_nl S m v w r I0) = _; first | exact k_nl1 c26 c38 | exact k_nl2 c26 | exact k_nl3 c38) rfl
    · refine w_aload rfl rfl rfl ?_
      refine w_gf (t := .ref (S + 4)) (v := .ref (S + 4)) rfl rfl rfl (shS_0 hS) rfl rfl rfl ?_
      refine w_iload rfl rfl rfl ?_
      refine w_iaload rfl rfl (shS_4 hS) rfl ⟨by omega, by omega⟩ rfl ?_
      refine w_iconst (x := Int32.ofNat 2) rfl rfl (by decide) ?_
      refine w_ic_ne (t := 49) (f := 41) rfl rfl rfl (fun c38 => ?_) (fun c38 => ?_)
      · refine w_iinc (L' := [_, _, _, _, _, _, _, _]) rfl rfl rfl (am_incN 1) rfl ?_
        refine w_goto (pc' := 3) rfl rfl ?_
        exact wz_J (ih (r + 1) _ (by omega)) rfl (by show k_nlS S m v w r (k_nl S m v w r I0) = _; first | exact k_nl1 c26 c38 | exact k_nl2 c26 | exact k_nl3 c38) rfl
      · refine w_aload_n rfl rfl rfl ?_
        refine w_gf (t := .ref (95)) (v := .ref (95)) rfl rfl rfl sp88 rfl rfl rfl ?_
        refine w_iload rfl rfl rfl ?_
        refine w_iload_n rfl rfl rfl ?_
        refine w_iastore rfl rfl sp95 rfl ⟨by omega, by omega⟩ ?_
        refine w_iinc (L' := [_, _, _, _, _, _, _, _]) rfl rfl rfl (am_incN 1) rfl ?_
        refine w_goto (pc' := 3) rfl rfl ?_
        exact wz_J (ih (r + 1) _ (by omega)) rfl (by show k_nlS S m v w r (k_nl S m v w r I0) = _; first | exact k_nl1 c26 c38 | exact k_nl2 c26 | exact k_nl3 c38) rfl
theorem d_noteLosses {k : Nat} {I : hI} {J : hJ} {R : hR} {S : Nat} (hS : S = 63 ∨ S = 70 ∨ S = 77) {m v n : Nat} {w : Int32} (hm : m < 6) (hv : v < 10) (hn : n ≤ 5) (hk : 2 ≤ k) : ct k 57 [.ref 88, .int (Int32.ofNat m), .int (Int32.ofNat v), .int w, .ref S, .int (Int32.ofNat n)] I J R none (k_nl S m v w n I) J R := by
  obtain ⟨k, rfl⟩ : ∃ k', k = k' + 1 := ⟨k - 1, by omega⟩
  refine ct_of (q := am_m57) (o := 6) (rt := none) (co := am_c57) (L := [_, _, _, _, _, _, _, _]) rfl rfl rfl rfl rfl rfl ?_
  refine w_iconst (x := Int32.ofNat 0) rfl rfl (by decide) ?_
  refine w_istore (L' := [_, _, _, _, _, _, _, _]) rfl rfl rfl ?_
  refine l_noteL hS hm hv hn (by omega) (fun u => ?_) n 0 _ (by omega)
  exact w_ret rfl rfl rfl rfl
abbrev k_lb (I : hI) (m e s : Nat) (w : Int32) : Prop := ¬ I 95 (k_cl m e s) = 0 ∧ ¬ w < I 95 (k_cl m e s)
theorem d_isLostBy {k : Nat} {I : hI} {J : hJ} {R : hR} {m e s : Nat} {w : Int32} (hm : m < 6) (he : e < 10) (hs : s < 5) (hk : 2 ≤ k) : ct k 58 [.ref 88, .int (Int32.ofNat m), .int (Int32.ofNat e), .int (Int32.ofNat s), .int w] I J R (some (.int (if k_lb I m e s w then 1 else 0))) I J R := by
  obtain ⟨k, rfl⟩ : ∃ k', k = k' + 1 := ⟨k - 1, by omega⟩
  refine ct_of (q := am_m58) (o := 6) (rt := (some .boolean)) (co := am_c58) (L := [_, _, _, _, _, _]) rfl rfl rfl rfl rfl rfl ?_
  refine w_aload_n rfl rfl rfl ?_
  refine w_gf (t := .ref (95)) (v := .ref (95)) rfl rfl rfl sp88 rfl rfl rfl ?_
  refine w_iload_n rfl rfl rfl ?_
  refine w_iload_n rfl rfl rfl ?_
  refine w_iload_n rfl rfl rfl ?_
  refine w_cs (q := am_m56) (na := 3) (as := [_, _, _]) (st' := [_, _]) rfl rfl rfl rfl (by decide) rfl rfl (Nat.le_of_ble_eq_true rfl) rfl rfl rfl (d_cell (by omega)) rfl rfl ?_
  refine w_iaload rfl rfl sp95 rfl ⟨by omega, by omega⟩ rfl ?_
  refine w_istore (L' := [_, _, _, _, _, _]) rfl rfl rfl ?_
  refine w_iload rfl rfl rfl ?_
  refine w_if_eq (t := 29) (f := 18) rfl rfl rfl (fun c15 => ?_) (fun c15 => ?_)
  · refine w_iconst (x := Int32.ofNat 0) rfl rfl (by decide) ?_
    exact w_bret rfl (by decide) (by first | exact (if_pos (c := k_lb I m e s w) ⟨c15, c22⟩).symm | exact (if_neg (c := k_lb I m e s w) (fun z => z.1 c15)).symm | exact (if_neg (c := k_lb I m e s w) (fun z => z.2 c22)).symm) rfl rfl rfl
  · refine w_iload rfl rfl rfl ?_
    refine w_iload rfl rfl rfl ?_
    refine w_ic_gt (t := 29) (f := 25) rfl rfl rfl (fun c22 => ?_) (fun c22 => ?_)
    · refine w_iconst (x := Int32.ofNat 0) rfl rfl (by decide) ?_
      exact w_bret rfl (by decide) (by first | exact (if_pos (c := k_lb I m e s w) ⟨c15, c22⟩).symm | exact (if_neg (c := k_lb I m e s w) (fun z => z.1 c15)).symm | exact (if_neg (c := k_lb I m e s w) (fun z => z.2 c22)).symm) rfl rfl rfl
    · refine w_iconst (x := Int32.ofNat 1) rfl rfl (by decide) ?_
      refine w_goto (pc' := 30) rfl rfl ?_
      exact w_bret rfl (by decide) (by first | exact (if_pos (c := k_lb I m e s w) ⟨c15, c22⟩).symm | exact (if_neg (c := k_lb I m e s w) (fun z => z.1 c15)).symm | exact (if_neg (c := k_lb I m e s w) (fun z => z.2 c22)).symm) rfl rfl rfl
