/-! The class: a state begun, names, what is told. -/
def k_be1 (I : hI) (S T m n : Nat) : hI := s_for (fun r I => am_u (am_u (am_u I (S + 1) r (Int32.ofNat 0)) (S + 2) r (Int32.ofNat 0)) (S + 3) r (if m ≤ r then Int32.ofInt (-1) else I (T + 10) r)) n I
def k_be2 (I : hI) (S n : Nat) : hI := s_for (fun r I => am_u (am_u (am_u I (S + 4) r (Int32.ofNat 0)) (S + 5) r (Int32.ofNat 0)) (S + 6) r (Int32.ofNat 0)) n I
theorem k_be1_s (I : hI) (S T m n : Nat) : k_be1 I S T m (n + 1) = am_u (am_u (am_u (k_be1 I S T m n) (S + 1) n (Int32.ofNat 0)) (S + 2) n (Int32.ofNat 0)) (S + 3) n (if m ≤ n then Int32.ofInt (-1) else k_be1 I S T m n (T + 10) n) := rfl
theorem k_be1_ne {I : hI} {S T m n a : Nat} (h : a ≠ S + 1 ∧ a ≠ S + 2 ∧ a ≠ S + 3) : k_be1 I S T m n a = I a := by
  induction n with
  | zero => rfl
  | succ n ih => exact (am_u_ne h.2.2).trans ((am_u_ne h.2.1).trans ((am_u_ne h.1).trans ih))
def k_begin (I : hI) (S T m : Nat) : hI := k_be2 (k_be1 (am_u (am_u I S 0 (Int32.ofNat 0)) S 2 (Int32.ofNat 0)) S T m 8) S 5
theorem l_sbegin1 {k : Nat} {R : hR} {q : Option Value × am_H} {S : Nat} (hS : S = 63 ∨ S = 70 ∨ S = 77) {T : Nat} (hT : T = 9 ∨ T = 36) {I0 : hI} {J0 : hJ} {m : Nat} (hm : m ≤ 8) (h5 : I0 (T + 5) 1 = Int32.ofNat m) (Z : wz k 7 none am_c64 74 [.ref S, .ref T, .int (Int32.ofNat 8)] [] (k_be1 I0 S T m 8) J0 R q) : ∀ (j r : Nat) , r + j = 8 → wz k 7 none am_c64 21 [.ref S, .ref T, .int (Int32.ofNat r)] [] (k_be1 I0 S T m r) J0 R q := by
  intro j
  induction j with
  | zero =>
    intro r e
    obtain rfl : 8 = r := by omega
    have e5 : k_be1 I0 S T m 8 (T + 5) 1 = Int32.ofNat m := (congrFun (k_be1_ne (by omega)) 1).trans h5
    refine w_iload_n rfl rfl rfl ?_
    refine w_bipush (x := Int32.ofNat 8) rfl rfl (by decide) ?_
    refine w_ic_geN (t := 74) (f := 27) rfl rfl rfl (by omega) (by omega) (fun c24 => ?_) (fun c24 => absurd c24 (by omega))
    exact Z
  | succ j ih =>
    intro r e
    have e5 : k_be1 I0 S T m r (T + 5) 1 = Int32.ofNat m := (congrFun (k_be1_ne (by omega)) 1).trans h5
    refine w_iload_n rfl rfl rfl ?_
    refine w_bipush (x := Int32.ofNat 8) rfl rfl (by decide) ?_
    refine w_ic_geN (t := 74) (f := 27) rfl rfl rfl (by omega) (by omega) (fun c24 => absurd c24 (by omega)) (fun c24 => ?_)
    refine w_aload_n rfl rfl rfl ?_
    refine w_gf (t := .ref (S + 1)) (v := .ref (S + 1)) rfl rfl rfl (shS_0 hS) rfl rfl rfl ?_
    refine w_iload_n rfl rfl rfl ?_
    refine w_iconst (x := Int32.ofNat 0) rfl rfl (by decide) ?_
    refine w_iastore rfl rfl (shS_1 hS) rfl ⟨by omega, by omega⟩ ?_
    refine w_aload_n rfl rfl rfl ?_
    refine w_gf (t := .ref (S + 2)) (v := .ref (S + 2)) rfl rfl rfl (shS_0 hS) rfl rfl rfl ?_
    refine w_iload_n rfl rfl rfl ?_
    refine w_iconst (x := Int32.ofNat 0) rfl rfl (by decide) ?_
    refine w_iastore rfl rfl (shS_2 hS) rfl ⟨by omega, by omega⟩ ?_
    refine w_aload_n rfl rfl rfl ?_
    refine w_gf (t := .ref (S + 3)) (v := .ref (S + 3)) rfl rfl rfl (shS_0 hS) rfl rfl rfl ?_
    refine w_iload_n rfl rfl rfl ?_
    refine w_iload_n rfl rfl rfl ?_
    refine w_aload_n rfl rfl rfl ?_
    refine w_gf (t := .ref (T + 5)) (v := .ref (T + 5)) rfl rfl rfl (shT_0 hT) rfl rfl rfl ?_
    refine w_gf (t := .int 0) (v := .int _) rfl rfl rfl (shT_5 hT) rfl (congrArg Value.int ((congrFun (am_u_ne (by omega)) _).trans ((congrFun (am_u_ne (by omega)) _).trans e5))) rfl ?_
    refine w_ic_geN (t := 66) (f := 57) rfl rfl rfl (by omega) (by omega) (fun c54 => ?_) (fun c54 => ?_)
    · refine w_iconst (x := Int32.ofInt (-1)) rfl rfl (by decide) ?_
      refine w_iastore rfl rfl (shS_3 hS) rfl ⟨by omega, by omega⟩ ?_
      refine w_iinc (L' := [_, _, _]) rfl rfl rfl (am_incN 1) rfl ?_
      refine w_goto (pc' := 21) rfl rfl ?_
      exact wz_M (ih (r + 1) (by omega)) rfl (by rw [k_be1_s]; first | rw [if_pos c54] | rw [if_neg c54])
    · refine w_aload_n rfl rfl rfl ?_
      refine w_gf (t := .ref (T + 10)) (v := .ref (T + 10)) rfl rfl rfl (shT_0 hT) rfl rfl rfl ?_
      refine w_iload_n rfl rfl rfl ?_
      refine w_iaload rfl rfl (shT_10 hT) rfl ⟨by omega, by omega⟩ ((congrFun (am_u_ne (by omega)) _).trans (congrFun (am_u_ne (by omega)) _)) ?_
      refine w_goto (pc' := 67) rfl rfl ?_
      refine w_iastore rfl rfl (shS_3 hS) rfl ⟨by omega, by omega⟩ ?_
      refine w_iinc (L' := [_, _, _]) rfl rfl rfl (am_incN 1) rfl ?_
      refine w_goto (pc' := 21) rfl rfl ?_
      exact wz_M (ih (r + 1) (by omega)) rfl (by rw [k_be1_s]; first | rw [if_pos c54] | rw [if_neg c54])
theorem l_sbegin2 {k : Nat} {R : hR} {q : Option Value × am_H} {S : Nat} (hS : S = 63 ∨ S = 70 ∨ S = 77) {T : Nat} {I0 : hI} {J0 : hJ} (Z : wz k 7 none am_c64 108 [.ref S, .ref T, .int (Int32.ofNat 5)] [] (k_be2 I0 S 5) J0 R q) : ∀ (j r : Nat) , r + j = 5 → wz k 7 none am_c64 76 [.ref S, .ref T, .int (Int32.ofNat r)] [] (k_be2 I0 S r) J0 R q := by
  intro j
  induction j with
  | zero =>
    intro r e
    obtain rfl : 5 = r := by omega
    refine w_iload_n rfl rfl rfl ?_
    refine w_iconst (x := Int32.ofNat 5) rfl rfl (by decide) ?_
    refine w_ic_geN (t := 108) (f := 81) rfl rfl rfl (by omega) (by omega) (fun c78 => ?_) (fun c78 => absurd c78 (by omega))
    exact Z
  | succ j ih =>
    intro r e
    refine w_iload_n rfl rfl rfl ?_
    refine w_iconst (x := Int32.ofNat 5) rfl rfl (by decide) ?_
    refine w_ic_geN (t := 108) (f := 81) rfl rfl rfl (by omega) (by omega) (fun c78 => absurd c78 (by omega)) (fun c78 => ?_)
    refine w_aload_n rfl rfl rfl ?_
    refine w_gf (t := .ref (S + 4)) (v := .ref (S + 4)) rfl rfl rfl (shS_0 hS) rfl rfl rfl ?_
    refine w_iload_n rfl rfl rfl ?_
    refine w_iconst (x := Int32.ofNat 0) rfl rfl (by decide) ?_
    refine w_iastore rfl rfl (shS_4 hS) rfl ⟨by omega, by omega⟩ ?_
    refine w_aload_n rfl rfl rfl ?_
    refine w_gf (t := .ref (S + 5)) (v := .ref (S + 5)) rfl rfl rfl (shS_0 hS) rfl rfl rfl ?_
    refine w_iload_n rfl rfl rfl ?_
    refine w_iconst (x := Int32.ofNat 0) rfl rfl (by decide) ?_
    refine w_iastore rfl rfl (shS_5 hS) rfl ⟨by omega, by omega⟩ ?_
    refine w_aload_n rfl rfl rfl ?_
    refine w_gf (t := .ref (S + 6)) (v := .ref (S + 6)) rfl rfl rfl (shS_0 hS) rfl rfl rfl ?_
    refine w_iload_n rfl rfl rfl ?_
    refine w_iconst (x := Int32.ofNat 0) rfl rfl (by decide) ?_
    refine w_iastore rfl rfl (shS_6 hS) rfl ⟨by omega, by omega⟩ ?_
    refine w_iinc (L' := [_, _, _]) rfl rfl rfl (am_incN 1) rfl ?_
    refine w_goto (pc' := 76) rfl rfl ?_
    exact ih (r + 1) (by omega)
theorem d_begin {k : Nat} {I : hI} {J : hJ} {R : hR} {S : Nat} (hS : S = 63 ∨ S = 70 ∨ S = 77) {T : Nat} (hT : T = 9 ∨ T = 36) {m : Nat} (hm : m ≤ 8) (h5 : I (T + 5) 1 = Int32.ofNat m) (hk : 1 ≤ k) : ct k 64 [.ref S, .ref T] I J R none (k_begin I S T m) (am_u J S 1 (I T 17).toInt64) R := by
  obtain ⟨k, rfl⟩ : ∃ k', k = k' + 1 := ⟨k - 1, by omega⟩
  refine ct_of (q := am_m64) (o := 7) (rt := none) (co := am_c64) (L := [_, _, _]) rfl rfl rfl rfl rfl rfl ?_
  refine w_aload_n rfl rfl rfl ?_
  refine w_iconst (x := Int32.ofNat 0) rfl rfl (by decide) ?_
  refine w_pf rfl rfl rfl (shS_0 hS) rfl rfl rfl ?_
  refine w_aload_n rfl rfl rfl ?_
  refine w_aload_n rfl rfl rfl ?_
  refine w_gf (t := .int 0) (v := .int _) rfl rfl rfl (shT_0 hT) rfl (congrArg Value.int (congrFun (am_u_ne (by omega)) _)) rfl ?_
  refine w_i2l rfl rfl ?_
  refine w_pfL rfl rfl rfl (shS_0 hS) rfl rfl rfl ?_
  refine w_aload_n rfl rfl rfl ?_
  refine w_iconst (x := Int32.ofNat 0) rfl rfl (by decide) ?_
  refine w_pf rfl rfl rfl (shS_0 hS) rfl rfl rfl ?_
  refine w_iconst (x := Int32.ofNat 0) rfl rfl (by decide) ?_
  refine w_istore_n (L' := [_, _, _]) rfl rfl rfl ?_
  refine l_sbegin1 hS hT hm ((congrFun (am_u_ne (by omega)) _).trans ((congrFun (am_u_ne (by omega)) _).trans h5)) ?_ 8 0 (by omega)
  refine w_iconst (x := Int32.ofNat 0) rfl rfl (by decide) ?_
  refine w_istore_n (L' := [_, _, _]) rfl rfl rfl ?_
  refine l_sbegin2 hS ?_ 5 0 (by omega)
  exact w_ret rfl rfl rfl rfl
theorem d_isFull {k : Nat} {I : hI} {J : hJ} {R : hR} {A m : Nat} (hA0 : am_shL[A]? = some (.inr (.inl (5, [.ref (A + 1), .int 0])))) (hA1 : am_shL[A + 1]? = some (.inl (.int, false, m))) (hm : m ≤ 1024) (hk : 1 ≤ k) : ct k 48 [.ref A] I J R (some (.int (if ¬ I A 1 < Int32.ofNat m then 1 else 0))) I J R := by
  obtain ⟨k, rfl⟩ : ∃ k', k = k' + 1 := ⟨k - 1, by omega⟩
  refine ct_of (q := am_m48) (o := 5) (rt := (some .boolean)) (co := am_c48) (L := [_]) rfl rfl rfl rfl rfl rfl ?_
  refine w_aload_n rfl rfl rfl ?_
  refine w_gf (t := .int 0) (v := .int _) rfl rfl rfl hA0 rfl (congrArg Value.int rfl) rfl ?_
  refine w_aload_n rfl rfl rfl ?_
  refine w_gf (t := .ref (A + 1)) (v := .ref (A + 1)) rfl rfl rfl hA0 rfl rfl rfl ?_
  refine w_alen rfl rfl hA1 (by decide) ?_
  refine w_ic_lt (t := 16) (f := 12) rfl rfl rfl (fun c9 => ?_) (fun c9 => ?_)
  · refine w_iconst (x := Int32.ofNat 0) rfl rfl (by decide) ?_
    exact w_bret rfl (by decide) (by simp only [*, ite_true, ite_false, and_self, and_true, true_and, and_false, false_and, or_true, true_or, or_false, false_or, not_true, not_false_iff] <;> rfl) rfl rfl rfl
  · refine w_iconst (x := Int32.ofNat 1) rfl rfl (by decide) ?_
    refine w_goto (pc' := 17) rfl rfl ?_
    exact w_bret rfl (by decide) (by simp only [*, ite_true, ite_false, and_self, and_true, true_and, and_false, false_and, or_true, true_or, or_false, false_or, not_true, not_false_iff] <;> rfl) rfl rfl rfl
theorem l_nfind {k : Nat} {I : hI} {J : hJ} {R : hR} {A m : Nat} (hA0 : am_shL[A]? = some (.inr (.inl (5, [.ref (A + 1), .int 0])))) (hA1 : am_shL[A + 1]? = some (.inl (.int, false, m))) (hm : m ≤ 1024) {n : Nat} {x : Int32} (hn : n ≤ m) (h1 : I A 1 = Int32.ofNat n) : ∀ (j r : Nat), r + j = n → wz k 5 (some .int) am_c49 2 [.ref A, .int x, .int (Int32.ofNat r)] [] I J R (some (.int (m_fnd (I (A + 1)) x j r)), am_hp I J R) := by
  intro j
  induction j with
  | zero =>
    intro r e
    obtain rfl : n = r := by omega
    refine w_iload_n rfl rfl rfl ?_
    refine w_aload_n rfl rfl rfl ?_
    refine w_gf (t := .int 0) (v := .int _) rfl rfl rfl hA0 rfl (congrArg Value.int h1) rfl ?_
    refine w_ic_geN (t := 28) (f := 10) rfl rfl rfl (by omega) (by omega) (fun c7 => ?_) (fun c7 => absurd c7 (by omega))
    refine w_iconst (x := Int32.ofInt (-1)) rfl rfl (by decide) ?_
    exact w_iret rfl rfl rfl rfl rfl
  | succ j ih =>
    intro r e
    rw [m_fnd_s]
    refine w_iload_n rfl rfl rfl ?_
    refine w_aload_n rfl rfl rfl ?_
    refine w_gf (t := .int 0) (v := .int _) rfl rfl rfl hA0 rfl (congrArg Value.int h1) rfl ?_
    refine w_ic_geN (t := 28) (f := 10) rfl rfl rfl (by omega) (by omega) (fun c7 => absurd c7 (by omega)) (fun c7 => ?_)
    refine w_aload_n rfl rfl rfl ?_
    refine w_gf (t := .ref (A + 1)) (v := .ref (A + 1)) rfl rfl rfl hA0 rfl rfl rfl ?_
    refine w_iload_n rfl rfl rfl ?_
    refine w_iaload rfl rfl hA1 rfl ⟨by omega, by omega⟩ rfl ?_
    refine w_iload_n rfl rfl rfl ?_
    refine w_ic_ne (t := 22) (f := 20) rfl rfl rfl (fun c17 => ?_) (fun c17 => ?_)
    · refine w_iinc (L' := [_, _, _]) rfl rfl rfl (am_incN 1) rfl ?_
      refine w_goto (pc' := 2) rfl rfl ?_
      rw [if_neg c17]
      exact ih (r + 1) (by omega)
    · refine w_iload_n rfl rfl rfl ?_
      exact w_iret rfl (by rw [if_pos c17]) rfl rfl rfl
theorem d_find {k : Nat} {I : hI} {J : hJ} {R : hR} {A m : Nat} (hA0 : am_shL[A]? = some (.inr (.inl (5, [.ref (A + 1), .int 0])))) (hA1 : am_shL[A + 1]? = some (.inl (.int, false, m))) (hm : m ≤ 1024) {n : Nat} {x : Int32} (hn : n ≤ m) (h1 : I A 1 = Int32.ofNat n) (hk : 1 ≤ k) : ct k 49 [.ref A, .int x] I J R (some (.int (m_fnd (I (A + 1)) x n 0))) I J R := by
  obtain ⟨k, rfl⟩ : ∃ k', k = k' + 1 := ⟨k - 1, by omega⟩
  refine ct_of (q := am_m49) (o := 5) (rt := (some .int)) (co := am_c49) (L := [_, _, _]) rfl rfl rfl rfl rfl rfl ?_
  refine w_iconst (x := Int32.ofNat 0) rfl rfl (by decide) ?_
  refine w_istore_n (L' := [_, _, _]) rfl rfl rfl ?_
  exact l_nfind hA0 hA1 hm hn h1 n 0 (by omega)
def k_voy (I : hI) (T : Nat) (x a b : Int32) (n : Nat) : Int32 := s_for (fun r z => if I (T + 14) r = x ∧ ¬ I (T + 15) r < a ∧ I (T + 15) r < b then z ||| Int32.ofNat (2 ^ r) else z) n (Int32.ofNat 0)
theorem k_voy_s (I : hI) (T : Nat) (x a b : Int32) (n : Nat) : k_voy I T x a b (n + 1) = if I (T + 14) n = x ∧ ¬ I (T + 15) n < a ∧ I (T + 15) n < b then k_voy I T x a b n ||| Int32.ofNat (2 ^ n) else k_voy I T x a b n := rfl
theorem l_voy {k : Nat} {I : hI} {J : hJ} {R : hR} {q : Option Value × am_H} {T : Nat} (hT : T = 9 ∨ T = 36) {x a b : Int32} {n : Nat} (hn : n ≤ 10) (h11 : I T 11 = Int32.ofNat n) (Z : wz k 10 (some .int) am_c105 63 [.ref T, .int x, .int a, .int b, .int (k_voy I T x a b n), .int (Int32.ofNat n)] [] I J R q) : ∀ (j r : Nat) , r + j = n → wz k 10 (some .int) am_c105 6 [.ref T, .int x, .int a, .int b, .int (k_voy I T x a b r), .int (Int32.ofNat r)] [] I J R q := by
  intro j
  induction j with
  | zero =>
    intro r e
    obtain rfl : n = r := by omega
    refine w_iload rfl rfl rfl ?_
    refine w_aload_n rfl rfl rfl ?_
    refine w_gf (t := .int 0) (v := .int _) rfl rfl rfl (shT_0 hT) rfl (congrArg Value.int h11) rfl ?_
    refine w_ic_geN (t := 63) (f := 15) rfl rfl rfl (by omega) (by omega) (fun c12 => ?_) (fun c12 => absurd c12 (by omega))
    exact Z
  | succ j ih =>
    intro r e
    refine w_iload rfl rfl rfl ?_
    refine w_aload_n rfl rfl rfl ?_
    refine w_gf (t := .int 0) (v := .int _) rfl rfl rfl (shT_0 hT) rfl (congrArg Value.int h11) rfl ?_
    refine w_ic_geN (t := 63) (f := 15) rfl rfl rfl (by omega) (by omega) (fun c12 => absurd c12 (by omega)) (fun c12 => ?_)
    refine w_aload_n rfl rfl rfl ?_
    refine w_gf (t := .ref (T + 14)) (v := .ref (T + 14)) rfl rfl rfl (shT_0 hT) rfl rfl rfl ?_
    refine w_iload rfl rfl rfl ?_
    refine w_iaload rfl rfl (shT_14 hT) rfl ⟨by omega, by omega⟩ rfl ?_
    refine w_iload_n rfl rfl rfl ?_
    refine w_ic_ne (t := 57) (f := 26) rfl rfl rfl (fun c23 => ?_) (fun c23 => ?_)
    · refine w_iinc (L' := [_, _, _, _, _, _]) rfl rfl rfl (am_incN 1) rfl ?_
      refine w_goto (pc' := 6) rfl rfl ?_
      exact wz_L (ih (r + 1) (by omega)) (by rw [k_voy_s]; simp only [*, ite_true, ite_false, and_self, and_true, true_and, and_false, false_and, or_true, true_or, or_false, false_or, not_true, not_false_iff])
    · refine w_aload_n rfl rfl rfl ?_
      refine w_gf (t := .ref (T + 15)) (v := .ref (T + 15)) rfl rfl rfl (shT_0 hT) rfl rfl rfl ?_
      refine w_iload rfl rfl rfl ?_
      refine w_iaload rfl rfl (shT_15 hT) rfl ⟨by omega, by omega⟩ rfl ?_
      refine w_iload_n rfl rfl rfl ?_
      refine w_ic_lt (t := 57) (f := 37) rfl rfl rfl (fun c34 => ?_) (fun c34 => ?_)
      · refine w_iinc (L' := [_, _, _, _, _, _]) rfl rfl rfl (am_incN 1) rfl ?_
        refine w_goto (pc' := 6) rfl rfl ?_
        exact wz_L (ih (r + 1) (by omega)) (by rw [k_voy_s]; simp only [*, ite_true, ite_false, and_self, and_true, true_and, and_false, false_and, or_true, true_or, or_false, false_or, not_true, not_false_iff])
      · refine w_aload_n rfl rfl rfl ?_
        refine w_gf (t := .ref (T + 15)) (v := .ref (T + 15)) rfl rfl rfl (shT_0 hT) rfl rfl rfl ?_
        refine w_iload rfl rfl rfl ?_
        refine w_iaload rfl rfl (shT_15 hT) rfl ⟨by omega, by omega⟩ rfl ?_
        refine w_iload_n rfl rfl rfl ?_
        refine w_ic_ge (t := 57) (f := 48) rfl rfl rfl (fun c45 => ?_) (fun c45 => ?_)
        · refine w_iinc (L' := [_, _, _, _, _, _]) rfl rfl rfl (am_incN 1) rfl ?_
          refine w_goto (pc' := 6) rfl rfl ?_
          exact wz_L (ih (r + 1) (by omega)) (by rw [k_voy_s]; simp only [*, ite_true, ite_false, and_self, and_true, true_and, and_false, false_and, or_true, true_or, or_false, false_or, not_true, not_false_iff])
        · refine w_iload rfl rfl rfl ?_
          refine w_iconst (x := Int32.ofNat 1) rfl rfl (by decide) ?_
          refine w_iload rfl rfl rfl ?_
          refine w_shlN rfl rfl (by omega) ?_
          refine w_ior rfl rfl ?_
          refine w_istore (L' := [_, _, _, _, _, _]) rfl rfl rfl ?_
          refine w_iinc (L' := [_, _, _, _, _, _]) rfl rfl rfl (am_incN 1) rfl ?_
          refine w_goto (pc' := 6) rfl rfl ?_
          exact wz_L (ih (r + 1) (by omega)) (by rw [k_voy_s]; simp only [*, ite_true, ite_false, and_self, and_true, true_and, and_false, false_and, or_true, true_or, or_false, false_or, not_true, not_false_iff])
theorem d_voyagesOf {k : Nat} {I : hI} {J : hJ} {R : hR} {T : Nat} (hT : T = 9 ∨ T = 36) {x a b : Int32} {n : Nat} (hn : n ≤ 10) (h11 : I T 11 = Int32.ofNat n) (hk : 1 ≤ k) : ct k 105 [.ref T, .int x, .int a, .int b] I J R (some (.int (k_voy I T x a b n))) I J R := by
  obtain ⟨k, rfl⟩ : ∃ k', k = k' + 1 := ⟨k - 1, by omega⟩
  refine ct_of (q := am_m105) (o := 10) (rt := (some .int)) (co := am_c105) (L := [_, _, _, _, _, _]) rfl rfl rfl rfl rfl rfl ?_
  refine w_iconst (x := Int32.ofNat 0) rfl rfl (by decide) ?_
  refine w_istore (L' := [_, _, _, _, _, _]) rfl rfl rfl ?_
  refine w_iconst (x := Int32.ofNat 0) rfl rfl (by decide) ?_
  refine w_istore (L' := [_, _, _, _, _, _]) rfl rfl rfl ?_
  refine l_voy hT hn h11 ?_ n 0 (by omega)
  refine w_iload rfl rfl rfl ?_
  exact w_iret rfl rfl rfl rfl rfl
theorem d_isTold {k : Nat} {I : hI} {J : hJ} {R : hR} {A : Nat} (hA0 : am_shL[A]? = some (.inr (.inl (3, [.int 0, .ref (A + 1), .ref (A + 2)])))) (hA1 : am_shL[A + 1]? = some (.inl (.int, false, 64))) (hA2 : am_shL[A + 2]? = some (.inl (.int, false, 64))) (hk : 1 ≤ k) : ct k 32 [.ref A] I J R (some (.int (if 0 < I A 0 then 1 else 0))) I J R := by
  obtain ⟨k, rfl⟩ : ∃ k', k = k' + 1 := ⟨k - 1, by omega⟩
  refine ct_of (q := am_m32) (o := 3) (rt := (some .boolean)) (co := am_c32) (L := [_]) rfl rfl rfl rfl rfl rfl ?_
  refine w_aload_n rfl rfl rfl ?_
  refine w_gf (t := .int 0) (v := .int _) rfl rfl rfl hA0 rfl (congrArg Value.int rfl) rfl ?_
  refine w_if_le (t := 11) (f := 7) rfl rfl rfl (fun c4 => ?_) (fun c4 => ?_)
  · refine w_iconst (x := Int32.ofNat 0) rfl rfl (by decide) ?_
    exact w_bret rfl (by decide) (by simp only [*, ite_true, ite_false, and_self, and_true, true_and, and_false, false_and, or_true, true_or, or_false, false_or, not_true, not_false_iff] <;> rfl) rfl rfl rfl
  · refine w_iconst (x := Int32.ofNat 1) rfl rfl (by decide) ?_
    refine w_goto (pc' := 12) rfl rfl ?_
    exact w_bret rfl (by decide) (by simp only [*, ite_true, ite_false, and_self, and_true, true_and, and_false, false_and, or_true, true_or, or_false, false_or, not_true, not_false_iff] <;> rfl) rfl rfl rfl
def k_add (I : hI) (A n : Nat) (x y : Int32) : hI := if n < 64 then am_u (am_u (am_u I (A + 1) n x) (A + 2) n y) A 0 (Int32.ofNat (n + 1)) else I
theorem d_add {k : Nat} {I : hI} {J : hJ} {R : hR} {A : Nat} (hA0 : am_shL[A]? = some (.inr (.inl (3, [.int 0, .ref (A + 1), .ref (A + 2)])))) (hA1 : am_shL[A + 1]? = some (.inl (.int, false, 64))) (hA2 : am_shL[A + 2]? = some (.inl (.int, false, 64))) {n : Nat} {x y : Int32} (hn : n ≤ 64) (h0 : I A 0 = Int32.ofNat n) (hk : 1 ≤ k) : ct k 33 [.ref A, .int x, .int y] I J R none (k_add I A n x y) J R := by
  obtain ⟨k, rfl⟩ : ∃ k', k = k' + 1 := ⟨k - 1, by omega⟩
  refine ct_of (q := am_m33) (o := 3) (rt := none) (co := am_c33) (L := [_, _, _]) rfl rfl rfl rfl rfl rfl ?_
  refine w_aload_n rfl rfl rfl ?_
  refine w_gf (t := .int 0) (v := .int _) rfl rfl rfl hA0 rfl (congrArg Value.int h0) rfl ?_
  refine w_bipush (x := Int32.ofNat 64) rfl rfl (by decide) ?_
  refine w_ic_geN (t := 39) (f := 9) rfl rfl rfl (by omega) (by omega) (fun c6 => ?_) (fun c6 => ?_)
  · exact w_ret rfl (by unfold k_add; first | rw [if_pos (show n < 64 by omega)] | rw [if_neg (show ¬ n < 64 by omega)]) rfl rfl
  · refine w_aload_n rfl rfl rfl ?_
    refine w_gf (t := .ref (A + 1)) (v := .ref (A + 1)) rfl rfl rfl hA0 rfl rfl rfl ?_
    refine w_aload_n rfl rfl rfl ?_
    refine w_gf (t := .int 0) (v := .int _) rfl rfl rfl hA0 rfl (congrArg Value.int h0) rfl ?_
    refine w_iload_n rfl rfl rfl ?_
    refine w_iastore rfl rfl hA1 rfl ⟨by omega, by omega⟩ ?_
    refine w_aload_n rfl rfl rfl ?_
    refine w_gf (t := .ref (A + 2)) (v := .ref (A + 2)) rfl rfl rfl hA0 rfl rfl rfl ?_
    refine w_aload_n rfl rfl rfl ?_
    refine w_gf (t := .int 0) (v := .int _) rfl rfl rfl hA0 rfl (congrArg Value.int ((congrFun (am_u_ne (by omega)) _).trans h0)) rfl ?_
    refine w_iload_n rfl rfl rfl ?_
    refine w_iastore rfl rfl hA2 rfl ⟨by omega, by omega⟩ ?_
    refine w_aload_n rfl rfl rfl ?_
    refine w_dup rfl rfl rfl ?_
    refine w_gf (t := .int 0) (v := .int _) rfl rfl rfl hA0 rfl (congrArg Value.int (((congrFun (am_u_ne (by omega)) _).trans (congrFun (am_u_ne (by omega)) _)).trans h0)) rfl ?_
    refine w_iconst (x := Int32.ofNat 1) rfl rfl (by decide) ?_
    refine w_iaddN rfl rfl ?_
    refine w_pf rfl rfl rfl hA0 rfl rfl rfl ?_
    exact w_ret rfl (by unfold k_add; first | rw [if_pos (show n < 64 by omega)] | rw [if_neg (show ¬ n < 64 by omega)]) rfl rfl
def k_tk (x : Int32) : Nat := if x = Int32.ofNat 23 then 1 else if x = Int32.ofNat 21 ∨ x = Int32.ofNat 22 ∨ ¬ x < Int32.ofNat 43 then 2 else 0
theorem d_taken {k : Nat} {I : hI} {J : hJ} {R : hR} {x : Int32} (hk : 1 ≤ k) : ct k 35 [.int x] I J R (some (.int (Int32.ofNat (k_tk x)))) I J R := by
  obtain ⟨k, rfl⟩ : ∃ k', k = k' + 1 := ⟨k - 1, by omega⟩
  refine ct_of (q := am_m35) (o := 3) (rt := (some .int)) (co := am_c35) (L := [_]) rfl rfl rfl rfl rfl rfl ?_
  refine w_iload_n rfl rfl rfl ?_
  refine w_bipush (x := Int32.ofNat 23) rfl rfl (by decide) ?_
  refine w_ic_ne (t := 8) (f := 6) rfl rfl rfl (fun c3 => ?_) (fun c3 => ?_)
  · refine w_iload_n rfl rfl rfl ?_
    refine w_bipush (x := Int32.ofNat 21) rfl rfl (by decide) ?_
    refine w_ic_eq (t := 26) (f := 14) rfl rfl rfl (fun c11 => ?_) (fun c11 => ?_)
    · refine w_iconst (x := Int32.ofNat 2) rfl rfl (by decide) ?_
      refine w_goto (pc' := 31) rfl rfl ?_
      exact w_iret rfl (by unfold k_tk; simp +decide only [*, ite_true, ite_false, and_self, and_true, true_and, and_false, false_and, or_true, true_or, or_false, false_or, not_true, not_false_iff]) rfl rfl rfl
    · refine w_iload_n rfl rfl rfl ?_
      refine w_bipush (x := Int32.ofNat 22) rfl rfl (by decide) ?_
      refine w_ic_eq (t := 26) (f := 20) rfl rfl rfl (fun c17 => ?_) (fun c17 => ?_)
      · refine w_iconst (x := Int32.ofNat 2) rfl rfl (by decide) ?_
        refine w_goto (pc' := 31) rfl rfl ?_
        exact w_iret rfl (by unfold k_tk; simp +decide only [*, ite_true, ite_false, and_self, and_true, true_and, and_false, false_and, or_true, true_or, or_false, false_or, not_true, not_false_iff]) rfl rfl rfl
      · refine w_iload_n rfl rfl rfl ?_
        refine w_bipush (x := Int32.ofNat 43) rfl rfl (by decide) ?_
        refine w_ic_lt (t := 30) (f := 26) rfl rfl rfl (fun c23 => ?_) (fun c23 => ?_)
        · refine w_iconst (x := Int32.ofNat 0) rfl rfl (by decide) ?_
          exact w_iret rfl (by unfold k_tk; simp +decide only [*, ite_true, ite_false, and_self, and_true, true_and, and_false, false_and, or_true, true_or, or_false, false_or, not_true, not_false_iff]) rfl rfl rfl
        · refine w_iconst (x := Int32.ofNat 2) rfl rfl (by decide) ?_
          refine w_goto (pc' := 31) rfl rfl ?_
          exact w_iret rfl (by unfold k_tk; simp +decide only [*, ite_true, ite_false, and_self, and_true, true_and, and_false, false_and, or_true, true_or, or_false, false_or, not_true, not_false_iff]) rfl rfl rfl
  · refine w_iconst (x := Int32.ofNat 1) rfl rfl (by decide) ?_
    exact w_iret rfl (by unfold k_tk; simp +decide only [*, ite_true, ite_false, and_self, and_true, true_and, and_false, false_and, or_true, true_or, or_false, false_or, not_true, not_false_iff]) rfl rfl rfl
def k_er : Int64 := -9223372036854775808
def k_jn (x : Int32) (a b : Int64) : Int64 :=
  if x = Int32.ofNat 49 then a + b else if x = Int32.ofNat 50 then a - b
  else if x = Int32.ofNat 51 then (if ¬ a = 0 ∧ m_bd / m_ab a < m_ab b then k_er else a * b)
  else if x = Int32.ofNat 52 then (if b = 0 then k_er else a / b)
  else if x = Int32.ofNat 21 then (if ¬ a = 0 ∨ ¬ b = 0 then 1 else 0) else if x = Int32.ofNat 22 then (if ¬ a = 0 ∧ ¬ b = 0 then 1 else 0)
  else if x = Int32.ofNat 43 then (if a < b then 1 else 0) else if x = Int32.ofNat 44 then (if ¬ b < a then 1 else 0) else if x = Int32.ofNat 45 then (if a = b then 1 else 0)
  else if x = Int32.ofNat 46 then (if ¬ a = b then 1 else 0) else if x = Int32.ofNat 47 then (if ¬ a < b then 1 else 0) else if x = Int32.ofNat 48 then (if b < a then 1 else 0) else k_er
theorem d_joined {k : Nat} {I : hI} {J : hJ} {R : hR} {x : Int32} {a b : Int64} (hk : 1 ≤ k) : ct k 36 [.int x, .long a, .long b] I J R (some (.long (k_jn x a b))) I J R := by
  obtain ⟨k, rfl⟩ : ∃ k', k = k' + 1 := ⟨k - 1, by omega⟩
  refine ct_of (q := am_m36) (o := 3) (rt := (some .long)) (co := am_c36) (L := [_, _, _, _, _]) rfl rfl rfl rfl rfl rfl ?_
  refine w_iload_n rfl rfl rfl ?_
  refine w_ts (lo := 21) (hi := 52) (d := 324) rfl rfl (by decide) (fun sw => ?_) (fun n h1 h2 sw => ?_)
  · refine w_ldc2_w rfl rfl rfl ?_
    exact w_lret rfl (by first | (simp +decide only [k_jn, k_er, sw, ite_true, ite_false] <;> rfl) | (simp only [k_jn, k_er, sw 21 (by decide) (by decide), sw 22 (by decide) (by decide), sw 43 (by decide) (by decide), sw 44 (by decide) (by decide), sw 45 (by decide) (by decide), sw 46 (by decide) (by decide), sw 47 (by decide) (by decide), sw 48 (by decide) (by decide), sw 49 (by decide) (by decide), sw 50 (by decide) (by decide), sw 51 (by decide) (by decide), sw 52 (by decide) (by decide), ite_false] <;> rfl)) rfl rfl rfl
  · have h3 : n = 21 ∨ n = 22 ∨ n = 23 ∨ n = 24 ∨ n = 25 ∨ n = 26 ∨ n = 27 ∨ n = 28 ∨ n = 29 ∨ n = 30 ∨ n = 31 ∨ n = 32 ∨ n = 33 ∨ n = 34 ∨ n = 35 ∨ n = 36 ∨ n = 37 ∨ n = 38 ∨ n = 39 ∨ n = 40 ∨ n = 41 ∨ n = 42 ∨ n = 43 ∨ n = 44 ∨ n = 45 ∨ n = 46 ∨ n = 47 ∨ n = 48 ∨ n = 49 ∨ n = 50 ∨ n = 51 ∨ n = 52 := by omega
    rcases h3 with rfl | rfl | rfl | rfl | rfl | rfl | rfl | rfl | rfl | rfl | rfl | rfl | rfl | rfl | rfl | rfl | rfl | rfl | rfl | rfl | rfl | rfl | rfl | rfl | rfl | rfl | rfl | rfl | rfl | rfl | rfl | rfl
    · refine ⟨216, rfl, ?_⟩
      refine w_lload_n rfl rfl rfl ?_
      refine w_lconst (x := 0) rfl rfl (by decide) ?_
      refine w_lc_ne (t := 228) (f := 222) (p1 := 219) rfl rfl rfl rfl rfl (fun c219 => ?_) (fun c219 => ?_)
      · refine w_lconst (x := 1) rfl rfl (by decide) ?_
        refine w_goto (pc' := 233) rfl rfl ?_
        exact w_lret rfl (by simp +decide only [k_jn, m_bd, m_ab, k_er, *, ite_true, ite_false, and_self, and_true, true_and, and_false, false_and, or_true, true_or, or_false, false_or, not_true, not_false_iff] <;> rfl) rfl rfl rfl
      · refine w_lload_n rfl rfl rfl ?_
        refine w_lconst (x := 0) rfl rfl (by decide) ?_
        refine w_lc_eq (t := 232) (f := 228) (p1 := 225) rfl rfl rfl rfl rfl (fun c225 => ?_) (fun c225 => ?_)
        · refine w_lconst (x := 0) rfl rfl (by decide) ?_
          exact w_lret rfl (by simp +decide only [k_jn, m_bd, m_ab, k_er, *, ite_true, ite_false, and_self, and_true, true_and, and_false, false_and, or_true, true_or, or_false, false_or, not_true, not_false_iff] <;> rfl) rfl rfl rfl
        · refine w_lconst (x := 1) rfl rfl (by decide) ?_
          refine w_goto (pc' := 233) rfl rfl ?_
          exact w_lret rfl (by simp +decide only [k_jn, m_bd, m_ab, k_er, *, ite_true, ite_false, and_self, and_true, true_and, and_false, false_and, or_true, true_or, or_false, false_or, not_true, not_false_iff] <;> rfl) rfl rfl rfl
    · refine ⟨234, rfl, ?_⟩
      refine w_lload_n rfl rfl rfl ?_
      refine w_lconst (x := 0) rfl rfl (by decide) ?_
      refine w_lc_eq (t := 250) (f := 240) (p1 := 237) rfl rfl rfl rfl rfl (fun c237 => ?_) (fun c237 => ?_)
      · refine w_lconst (x := 0) rfl rfl (by decide) ?_
        exact w_lret rfl (by simp +decide only [k_jn, m_bd, m_ab, k_er, *, ite_true, ite_false, and_self, and_true, true_and, and_false, false_and, or_true, true_or, or_false, false_or, not_true, not_false_iff] <;> rfl) rfl rfl rfl
      · refine w_lload_n rfl rfl rfl ?_
        refine w_lconst (x := 0) rfl rfl (by decide) ?_
        refine w_lc_eq (t := 250) (f := 246) (p1 := 243) rfl rfl rfl rfl rfl (fun c243 => ?_) (fun c243 => ?_)
        · refine w_lconst (x := 0) rfl rfl (by decide) ?_
          exact w_lret rfl (by simp +decide only [k_jn, m_bd, m_ab, k_er, *, ite_true, ite_false, and_self, and_true, true_and, and_false, false_and, or_true, true_or, or_false, false_or, not_true, not_false_iff] <;> rfl) rfl rfl rfl
        · refine w_lconst (x := 1) rfl rfl (by decide) ?_
          refine w_goto (pc' := 251) rfl rfl ?_
          exact w_lret rfl (by simp +decide only [k_jn, m_bd, m_ab, k_er, *, ite_true, ite_false, and_self, and_true, true_and, and_false, false_and, or_true, true_or, or_false, false_or, not_true, not_false_iff] <;> rfl) rfl rfl rfl
    · refine ⟨324, rfl, ?_⟩
      refine w_ldc2_w rfl rfl rfl ?_
      exact w_lret rfl (by first | (simp +decide only [k_jn, k_er, sw, ite_true, ite_false] <;> rfl) | (simp only [k_jn, k_er, sw 21 (by decide) (by decide), sw 22 (by decide) (by decide), sw 43 (by decide) (by decide), sw 44 (by decide) (by decide), sw 45 (by decide) (by decide), sw 46 (by decide) (by decide), sw 47 (by decide) (by decide), sw 48 (by decide) (by decide), sw 49 (by decide) (by decide), sw 50 (by decide) (by decide), sw 51 (by decide) (by decide), sw 52 (by decide) (by decide), ite_false] <;> rfl)) rfl rfl rfl
    · refine ⟨324, rfl, ?_⟩
      refine w_ldc2_w rfl rfl rfl ?_
      exact w_lret rfl (by first | (simp +decide only [k_jn, k_er, sw, ite_true, ite_false] <;> rfl) | (simp only [k_jn, k_er, sw 21 (by decide) (by decide), sw 22 (by decide) (by decide), sw 43 (by decide) (by decide), sw 44 (by decide) (by decide), sw 45 (by decide) (by decide), sw 46 (by decide) (by decide), sw 47 (by decide) (by decide), sw 48 (by decide) (by decide), sw 49 (by decide) (by decide), sw 50 (by decide) (by decide), sw 51 (by decide) (by decide), sw 52 (by decide) (by decide), ite_false] <;> rfl)) rfl rfl rfl
    · refine ⟨324, rfl, ?_⟩
      refine w_ldc2_w rfl rfl rfl ?_
      exact w_lret rfl (by first | (simp +decide only [k_jn, k_er, sw, ite_true, ite_false] <;> rfl) | (simp only [k_jn, k_er, sw 21 (by decide) (by decide), sw 22 (by decide) (by decide), sw 43 (by decide) (by decide), sw 44 (by decide) (by decide), sw 45 (by decide) (by decide), sw 46 (by decide) (by decide), sw 47 (by decide) (by decide), sw 48 (by decide) (by decide), sw 49 (by decide) (by decide), sw 50 (by decide) (by decide), sw 51 (by decide) (by decide), sw 52 (by decide) (by decide), ite_false] <;> rfl)) rfl rfl rfl
    · refine ⟨324, rfl, ?_⟩
      refine w_ldc2_w rfl rfl rfl ?_
      exact w_lret rfl (by first | (simp +decide only [k_jn, k_er, sw, ite_true, ite_false] <;> rfl) | (simp only [k_jn, k_er, sw 21 (by decide) (by decide), sw 22 (by decide) (by decide), sw 43 (by decide) (by decide), sw 44 (by decide) (by decide), sw 45 (by decide) (by decide), sw 46 (by decide) (by decide), sw 47 (by decide) (by decide), sw 48 (by decide) (by decide), sw 49 (by decide) (by decide), sw 50 (by decide) (by decide), sw 51 (by decide) (by decide), sw 52 (by decide) (by decide), ite_false] <;> rfl)) rfl rfl rfl
    · refine ⟨324, rfl, ?_⟩
      refine w_ldc2_w rfl rfl rfl ?_
      exact w_lret rfl (by first | (simp +decide only [k_jn, k_er, sw, ite_true, ite_false] <;> rfl) | (simp only [k_jn, k_er, sw 21 (by decide) (by decide), sw 22 (by decide) (by decide), sw 43 (by decide) (by decide), sw 44 (by decide) (by decide), sw 45 (by decide) (by decide), sw 46 (by decide) (by decide), sw 47 (by decide) (by decide), sw 48 (by decide) (by decide), sw 49 (by decide) (by decide), sw 50 (by decide) (by decide), sw 51 (by decide) (by decide), sw 52 (by decide) (by decide), ite_false] <;> rfl)) rfl rfl rfl
    · refine ⟨324, rfl, ?_⟩
      refine w_ldc2_w rfl rfl rfl ?_
      exact w_lret rfl (by first | (simp +decide only [k_jn, k_er, sw, ite_true, ite_false] <;> rfl) | (simp only [k_jn, k_er, sw 21 (by decide) (by decide), sw 22 (by decide) (by decide), sw 43 (by decide) (by decide), sw 44 (by decide) (by decide), sw 45 (by decide) (by decide), sw 46 (by decide) (by decide), sw 47 (by decide) (by decide), sw 48 (by decide) (by decide), sw 49 (by decide) (by decide), sw 50 (by decide) (by decide), sw 51 (by decide) (by decide), sw 52 (by decide) (by decide), ite_false] <;> rfl)) rfl rfl rfl
    · refine ⟨324, rfl, ?_⟩
      refine w_ldc2_w rfl rfl rfl ?_
      exact w_lret rfl (by first | (simp +decide only [k_jn, k_er, sw, ite_true, ite_false] <;> rfl) | (simp only [k_jn, k_er, sw 21 (by decide) (by decide), sw 22 (by decide) (by decide), sw 43 (by decide) (by decide), sw 44 (by decide) (by decide), sw 45 (by decide) (by decide), sw 46 (by decide) (by decide), sw 47 (by decide) (by decide), sw 48 (by decide) (by decide), sw 49 (by decide) (by decide), sw 50 (by decide) (by decide), sw 51 (by decide) (by decide), sw 52 (by decide) (by decide), ite_false] <;> rfl)) rfl rfl rfl
    · refine ⟨324, rfl, ?_⟩
      refine w_ldc2_w rfl rfl rfl ?_
      exact w_lret rfl (by first | (simp +decide only [k_jn, k_er, sw, ite_true, ite_false] <;> rfl) | (simp only [k_jn, k_er, sw 21 (by decide) (by decide), sw 22 (by decide) (by decide), sw 43 (by decide) (by decide), sw 44 (by decide) (by decide), sw 45 (by decide) (by decide), sw 46 (by decide) (by decide), sw 47 (by decide) (by decide), sw 48 (by decide) (by decide), sw 49 (by decide) (by decide), sw 50 (by decide) (by decide), sw 51 (by decide) (by decide), sw 52 (by decide) (by decide), ite_false] <;> rfl)) rfl rfl rfl
    · refine ⟨324, rfl, ?_⟩
      refine w_ldc2_w rfl rfl rfl ?_
      exact w_lret rfl (by first | (simp +decide only [k_jn, k_er, sw, ite_true, ite_false] <;> rfl) | (simp only [k_jn, k_er, sw 21 (by decide) (by decide), sw 22 (by decide) (by decide), sw 43 (by decide) (by decide), sw 44 (by decide) (by decide), sw 45 (by decide) (by decide), sw 46 (by decide) (by decide), sw 47 (by decide) (by decide), sw 48 (by decide) (by decide), sw 49 (by decide) (by decide), sw 50 (by decide) (by decide), sw 51 (by decide) (by decide), sw 52 (by decide) (by decide), ite_false] <;> rfl)) rfl rfl rfl
    · refine ⟨324, rfl, ?_⟩
      refine w_ldc2_w rfl rfl rfl ?_
      exact w_lret rfl (by first | (simp +decide only [k_jn, k_er, sw, ite_true, ite_false] <;> rfl) | (simp only [k_jn, k_er, sw 21 (by decide) (by decide), sw 22 (by decide) (by decide), sw 43 (by decide) (by decide), sw 44 (by decide) (by decide), sw 45 (by decide) (by decide), sw 46 (by decide) (by decide), sw 47 (by decide) (by decide), sw 48 (by decide) (by decide), sw 49 (by decide) (by decide), sw 50 (by decide) (by decide), sw 51 (by decide) (by decide), sw 52 (by decide) (by decide), ite_false] <;> rfl)) rfl rfl rfl
    · refine ⟨324, rfl, ?_⟩
      refine w_ldc2_w rfl rfl rfl ?_
      exact w_lret rfl (by first | (simp +decide only [k_jn, k_er, sw, ite_true, ite_false] <;> rfl) | (simp only [k_jn, k_er, sw 21 (by decide) (by decide), sw 22 (by decide) (by decide), sw 43 (by decide) (by decide), sw 44 (by decide) (by decide), sw 45 (by decide) (by decide), sw 46 (by decide) (by decide), sw 47 (by decide) (by decide), sw 48 (by decide) (by decide), sw 49 (by decide) (by decide), sw 50 (by decide) (by decide), sw 51 (by decide) (by decide), sw 52 (by decide) (by decide), ite_false] <;> rfl)) rfl rfl rfl
    · refine ⟨324, rfl, ?_⟩
      refine w_ldc2_w rfl rfl rfl ?_
      exact w_lret rfl (by first | (simp +decide only [k_jn, k_er, sw, ite_true, ite_false] <;> rfl) | (simp only [k_jn, k_er, sw 21 (by decide) (by decide), sw 22 (by decide) (by decide), sw 43 (by decide) (by decide), sw 44 (by decide) (by decide), sw 45 (by decide) (by decide), sw 46 (by decide) (by decide), sw 47 (by decide) (by decide), sw 48 (by decide) (by decide), sw 49 (by decide) (by decide), sw 50 (by decide) (by decide), sw 51 (by decide) (by decide), sw 52 (by decide) (by decide), ite_false] <;> rfl)) rfl rfl rfl
    · refine ⟨324, rfl, ?_⟩
      refine w_ldc2_w rfl rfl rfl ?_
      exact w_lret rfl (by first | (simp +decide only [k_jn, k_er, sw, ite_true, ite_false] <;> rfl) | (simp only [k_jn, k_er, sw 21 (by decide) (by decide), sw 22 (by decide) (by decide), sw 43 (by decide) (by decide), sw 44 (by decide) (by decide), sw 45 (by decide) (by decide), sw 46 (by decide) (by decide), sw 47 (by decide) (by decide), sw 48 (by decide) (by decide), sw 49 (by decide) (by decide), sw 50 (by decide) (by decide), sw 51 (by decide) (by decide), sw 52 (by decide) (by decide), ite_false] <;> rfl)) rfl rfl rfl
    · refine ⟨324, rfl, ?_⟩
      refine w_ldc2_w rfl rfl rfl ?_
      exact w_lret rfl (by first | (simp +decide only [k_jn, k_er, sw, ite_true, ite_false] <;> rfl) | (simp only [k_jn, k_er, sw 21 (by decide) (by decide), sw 22 (by decide) (by decide), sw 43 (by decide) (by decide), sw 44 (by decide) (by decide), sw 45 (by decide) (by decide), sw 46 (by decide) (by decide), sw 47 (by decide) (by decide), sw 48 (by decide) (by decide), sw 49 (by decide) (by decide), sw 50 (by decide) (by decide), sw 51 (by decide) (by decide), sw 52 (by decide) (by decide), ite_false] <;> rfl)) rfl rfl rfl
    · refine ⟨324, rfl, ?_⟩
      refine w_ldc2_w rfl rfl rfl ?_
      exact w_lret rfl (by first | (simp +decide only [k_jn, k_er, sw, ite_true, ite_false] <;> rfl) | (simp only [k_jn, k_er, sw 21 (by decide) (by decide), sw 22 (by decide) (by decide), sw 43 (by decide) (by decide), sw 44 (by decide) (by decide), sw 45 (by decide) (by decide), sw 46 (by decide) (by decide), sw 47 (by decide) (by decide), sw 48 (by decide) (by decide), sw 49 (by decide) (by decide), sw 50 (by decide) (by decide), sw 51 (by decide) (by decide), sw 52 (by decide) (by decide), ite_false] <;> rfl)) rfl rfl rfl
    · refine ⟨324, rfl, ?_⟩
      refine w_ldc2_w rfl rfl rfl ?_
      exact w_lret rfl (by first | (simp +decide only [k_jn, k_er, sw, ite_true, ite_false] <;> rfl) | (simp only [k_jn, k_er, sw 21 (by decide) (by decide), sw 22 (by decide) (by decide), sw 43 (by decide) (by decide), sw 44 (by decide) (by decide), sw 45 (by decide) (by decide), sw 46 (by decide) (by decide), sw 47 (by decide) (by decide), sw 48 (by decide) (by decide), sw 49 (by decide) (by decide), sw 50 (by decide) (by decide), sw 51 (by decide) (by decide), sw 52 (by decide) (by decide), ite_false] <;> rfl)) rfl rfl rfl
    · refine ⟨324, rfl, ?_⟩
      refine w_ldc2_w rfl rfl rfl ?_
      exact w_lret rfl (by first | (simp +decide only [k_jn, k_er, sw, ite_true, ite_false] <;> rfl) | (simp only [k_jn, k_er, sw 21 (by decide) (by decide), sw 22 (by decide) (by decide), sw 43 (by decide) (by decide), sw 44 (by decide) (by decide), sw 45 (by decide) (by decide), sw 46 (by decide) (by decide), sw 47 (by decide) (by decide), sw 48 (by decide) (by decide), sw 49 (by decide) (by decide), sw 50 (by decide) (by decide), sw 51 (by decide) (by decide), sw 52 (by decide) (by decide), ite_false] <;> rfl)) rfl rfl rfl
    · refine ⟨324, rfl, ?_⟩
      refine w_ldc2_w rfl rfl rfl ?_
      exact w_lret rfl (by first | (simp +decide only [k_jn, k_er, sw, ite_true, ite_false] <;> rfl) | (simp only [k_jn, k_er, sw 21 (by decide) (by decide), sw 22 (by decide) (by decide), sw 43 (by decide) (by decide), sw 44 (by decide) (by decide), sw 45 (by decide) (by decide), sw 46 (by decide) (by decide), sw 47 (by decide) (by decide), sw 48 (by decide) (by decide), sw 49 (by decide) (by decide), sw 50 (by decide) (by decide), sw 51 (by decide) (by decide), sw 52 (by decide) (by decide), ite_false] <;> rfl)) rfl rfl rfl
    · refine ⟨324, rfl, ?_⟩
      refine w_ldc2_w rfl rfl rfl ?_
      exact w_lret rfl (by first | (simp +decide only [k_jn, k_er, sw, ite_true, ite_false] <;> rfl) | (simp only [k_jn, k_er, sw 21 (by decide) (by decide), sw 22 (by decide) (by decide), sw 43 (by decide) (by decide), sw 44 (by decide) (by decide), sw 45 (by decide) (by decide), sw 46 (by decide) (by decide), sw 47 (by decide) (by decide), sw 48 (by decide) (by decide), sw 49 (by decide) (by decide), sw 50 (by decide) (by decide), sw 51 (by decide) (by decide), sw 52 (by decide) (by decide), ite_false] <;> rfl)) rfl rfl rfl
    · refine ⟨324, rfl, ?_⟩
      refine w_ldc2_w rfl rfl rfl ?_
      exact w_lret rfl (by first | (simp +decide only [k_jn, k_er, sw, ite_true, ite_false] <;> rfl) | (simp only [k_jn, k_er, sw 21 (by decide) (by decide), sw 22 (by decide) (by decide), sw 43 (by decide) (by decide), sw 44 (by decide) (by decide), sw 45 (by decide) (by decide), sw 46 (by decide) (by decide), sw 47 (by decide) (by decide), sw 48 (by decide) (by decide), sw 49 (by decide) (by decide), sw 50 (by decide) (by decide), sw 51 (by decide) (by decide), sw 52 (by decide) (by decide), ite_false] <;> rfl)) rfl rfl rfl
    · refine ⟨252, rfl, ?_⟩
      refine w_lload_n rfl rfl rfl ?_
      refine w_lload_n rfl rfl rfl ?_
      refine w_lc_ge (t := 262) (f := 258) (p1 := 255) rfl rfl rfl rfl rfl (fun c255 => ?_) (fun c255 => ?_)
      · refine w_lconst (x := 0) rfl rfl (by decide) ?_
        exact w_lret rfl (by simp +decide only [k_jn, m_bd, m_ab, k_er, *, ite_true, ite_false, and_self, and_true, true_and, and_false, false_and, or_true, true_or, or_false, false_or, not_true, not_false_iff] <;> rfl) rfl rfl rfl
      · refine w_lconst (x := 1) rfl rfl (by decide) ?_
        refine w_goto (pc' := 263) rfl rfl ?_
        exact w_lret rfl (by simp +decide only [k_jn, m_bd, m_ab, k_er, *, ite_true, ite_false, and_self, and_true, true_and, and_false, false_and, or_true, true_or, or_false, false_or, not_true, not_false_iff] <;> rfl) rfl rfl rfl
    · refine ⟨264, rfl, ?_⟩
      refine w_lload_n rfl rfl rfl ?_
      refine w_lload_n rfl rfl rfl ?_
      refine w_lc_gt (t := 274) (f := 270) (p1 := 267) rfl rfl rfl rfl rfl (fun c267 => ?_) (fun c267 => ?_)
      · refine w_lconst (x := 0) rfl rfl (by decide) ?_
        exact w_lret rfl (by simp +decide only [k_jn, m_bd, m_ab, k_er, *, ite_true, ite_false, and_self, and_true, true_and, and_false, false_and, or_true, true_or, or_false, false_or, not_true, not_false_iff] <;> rfl) rfl rfl rfl
      · refine w_lconst (x := 1) rfl rfl (by decide) ?_
        refine w_goto (pc' := 275) rfl rfl ?_
        exact w_lret rfl (by simp +decide only [k_jn, m_bd, m_ab, k_er, *, ite_true, ite_false, and_self, and_true, true_and, and_false, false_and, or_true, true_or, or_false, false_or, not_true, not_false_iff] <;> rfl) rfl rfl rfl
    · refine ⟨276, rfl, ?_⟩
      refine w_lload_n rfl rfl rfl ?_
      refine w_lload_n rfl rfl rfl ?_
      refine w_lc_ne (t := 286) (f := 282) (p1 := 279) rfl rfl rfl rfl rfl (fun c279 => ?_) (fun c279 => ?_)
      · refine w_lconst (x := 0) rfl rfl (by decide) ?_
        exact w_lret rfl (by simp +decide only [k_jn, m_bd, m_ab, k_er, *, ite_true, ite_false, and_self, and_true, true_and, and_false, false_and, or_true, true_or, or_false, false_or, not_true, not_false_iff] <;> rfl) rfl rfl rfl
      · refine w_lconst (x := 1) rfl rfl (by decide) ?_
        refine w_goto (pc' := 287) rfl rfl ?_
        exact w_lret rfl (by simp +decide only [k_jn, m_bd, m_ab, k_er, *, ite_true, ite_false, and_self, and_true, true_and, and_false, false_and, or_true, true_or, or_false, false_or, not_true, not_false_iff] <;> rfl) rfl rfl rfl
    · refine ⟨288, rfl, ?_⟩
      refine w_lload_n rfl rfl rfl ?_
      refine w_lload_n rfl rfl rfl ?_
      refine w_lc_eq (t := 298) (f := 294) (p1 := 291) rfl rfl rfl rfl rfl (fun c291 => ?_) (fun c291 => ?_)
      · refine w_lconst (x := 0) rfl rfl (by decide) ?_
        exact w_lret rfl (by simp +decide only [k_jn, m_bd, m_ab, k_er, *, ite_true, ite_false, and_self, and_true, true_and, and_false, false_and, or_true, true_or, or_false, false_or, not_true, not_false_iff] <;> rfl) rfl rfl rfl
      · refine w_lconst (x := 1) rfl rfl (by decide) ?_
        refine w_goto (pc' := 299) rfl rfl ?_
        exact w_lret rfl (by simp +decide only [k_jn, m_bd, m_ab, k_er, *, ite_true, ite_false, and_self, and_true, true_and, and_false, false_and, or_true, true_or, or_false, false_or, not_true, not_false_iff] <;> rfl) rfl rfl rfl
    · refine ⟨300, rfl, ?_⟩
      refine w_lload_n rfl rfl rfl ?_
      refine w_lload_n rfl rfl rfl ?_
      refine w_lc_lt (t := 310) (f := 306) (p1 := 303) rfl rfl rfl rfl rfl (fun c303 => ?_) (fun c303 => ?_)
      · refine w_lconst (x := 0) rfl rfl (by decide) ?_
        exact w_lret rfl (by simp +decide only [k_jn, m_bd, m_ab, k_er, *, ite_true, ite_false, and_self, and_true, true_and, and_false, false_and, or_true, true_or, or_false, false_or, not_true, not_false_iff] <;> rfl) rfl rfl rfl
      · refine w_lconst (x := 1) rfl rfl (by decide) ?_
        refine w_goto (pc' := 311) rfl rfl ?_
        exact w_lret rfl (by simp +decide only [k_jn, m_bd, m_ab, k_er, *, ite_true, ite_false, and_self, and_true, true_and, and_false, false_and, or_true, true_or, or_false, false_or, not_true, not_false_iff] <;> rfl) rfl rfl rfl
    · refine ⟨312, rfl, ?_⟩
      refine w_lload_n rfl rfl rfl ?_
      refine w_lload_n rfl rfl rfl ?_
      refine w_lc_le (t := 322) (f := 318) (p1 := 315) rfl rfl rfl rfl rfl (fun c315 => ?_) (fun c315 => ?_)
      · refine w_lconst (x := 0) rfl rfl (by decide) ?_
        exact w_lret rfl (by simp +decide only [k_jn, m_bd, m_ab, k_er, *, ite_true, ite_false, and_self, and_true, true_and, and_false, false_and, or_true, true_or, or_false, false_or, not_true, not_false_iff] <;> rfl) rfl rfl rfl
      · refine w_lconst (x := 1) rfl rfl (by decide) ?_
        refine w_goto (pc' := 323) rfl rfl ?_
        exact w_lret rfl (by simp +decide only [k_jn, m_bd, m_ab, k_er, *, ite_true, ite_false, and_self, and_true, true_and, and_false, false_and, or_true, true_or, or_false, false_or, not_true, not_false_iff] <;> rfl) rfl rfl rfl
    · refine ⟨144, rfl, ?_⟩
      refine w_lload_n rfl rfl rfl ?_
      refine w_lload_n rfl rfl rfl ?_
      refine w_ladd rfl rfl ?_
      exact w_lret rfl (by simp +decide only [k_jn, m_bd, m_ab, k_er, *, ite_true, ite_false, and_self, and_true, true_and, and_false, false_and, or_true, true_or, or_false, false_or, not_true, not_false_iff] <;> rfl) rfl rfl rfl
    · refine ⟨148, rfl, ?_⟩
      refine w_lload_n rfl rfl rfl ?_
      refine w_lload_n rfl rfl rfl ?_
      refine w_lsub rfl rfl ?_
      exact w_lret rfl (by simp +decide only [k_jn, m_bd, m_ab, k_er, *, ite_true, ite_false, and_self, and_true, true_and, and_false, false_and, or_true, true_or, or_false, false_or, not_true, not_false_iff] <;> rfl) rfl rfl rfl
    · refine ⟨152, rfl, ?_⟩
      refine w_lload_n rfl rfl rfl ?_
      refine w_lconst (x := 0) rfl rfl (by decide) ?_
      refine w_lc_eq (t := 196) (f := 158) (p1 := 155) rfl rfl rfl rfl rfl (fun c155 => ?_) (fun c155 => ?_)
      · refine w_lload_n rfl rfl rfl ?_
        refine w_lload_n rfl rfl rfl ?_
        refine w_lmul rfl rfl ?_
        exact w_lret rfl (by simp +decide only [k_jn, m_bd, m_ab, k_er, *, ite_true, ite_false, and_self, and_true, true_and, and_false, false_and, or_true, true_or, or_false, false_or, not_true, not_false_iff] <;> rfl) rfl rfl rfl
      · refine w_lload_n rfl rfl rfl ?_
        refine w_lconst (x := 0) rfl rfl (by decide) ?_
        refine w_lc_ge (t := 169) (f := 164) (p1 := 161) rfl rfl rfl rfl rfl (fun c161 => ?_) (fun c161 => ?_)
        · refine w_lload_n rfl rfl rfl ?_
          refine w_ldc2_w rfl rfl rfl ?_
          refine w_lload_n rfl rfl rfl ?_
          refine w_lconst (x := 0) rfl rfl (by decide) ?_
          refine w_lc_ge (t := 184) (f := 179) (p1 := 176) rfl rfl rfl rfl rfl (fun c176 => ?_) (fun c176 => ?_)
          · refine w_lload_n rfl rfl rfl ?_
            refine w_ldiv rfl rfl (by first | exact c155 | exact am_neg0 c155) ?_
            refine w_lc_le (t := 196) (f := 190) (p1 := 187) rfl rfl rfl rfl rfl (fun c187 => ?_) (fun c187 => ?_)
            · refine w_lload_n rfl rfl rfl ?_
              refine w_lload_n rfl rfl rfl ?_
              refine w_lmul rfl rfl ?_
              exact w_lret rfl (by simp +decide only [k_jn, m_bd, m_ab, k_er, *, ite_true, ite_false, and_self, and_true, true_and, and_false, false_and, or_true, true_or, or_false, false_or, not_true, not_false_iff] <;> rfl) rfl rfl rfl
            · refine w_ldc2_w rfl rfl rfl ?_
              refine w_goto (pc' := 199) rfl rfl ?_
              exact w_lret rfl (by simp +decide only [k_jn, m_bd, m_ab, k_er, *, ite_true, ite_false, and_self, and_true, true_and, and_false, false_and, or_true, true_or, or_false, false_or, not_true, not_false_iff] <;> rfl) rfl rfl rfl
          · refine w_lload_n rfl rfl rfl ?_
            refine w_lneg rfl rfl ?_
            refine w_goto (pc' := 185) rfl rfl ?_
            refine w_ldiv rfl rfl (by first | exact c155 | exact am_neg0 c155) ?_
            refine w_lc_le (t := 196) (f := 190) (p1 := 187) rfl rfl rfl rfl rfl (fun c187 => ?_) (fun c187 => ?_)
            · refine w_lload_n rfl rfl rfl ?_
              refine w_lload_n rfl rfl rfl ?_
              refine w_lmul rfl rfl ?_
              exact w_lret rfl (by simp +decide only [k_jn, m_bd, m_ab, k_er, *, ite_true, ite_false, and_self, and_true, true_and, and_false, false_and, or_true, true_or, or_false, false_or, not_true, not_false_iff] <;> rfl) rfl rfl rfl
            · refine w_ldc2_w rfl rfl rfl ?_
              refine w_goto (pc' := 199) rfl rfl ?_
              exact w_lret rfl (by simp +decide only [k_jn, m_bd, m_ab, k_er, *, ite_true, ite_false, and_self, and_true, true_and, and_false, false_and, or_true, true_or, or_false, false_or, not_true, not_false_iff] <;> rfl) rfl rfl rfl
        · refine w_lload_n rfl rfl rfl ?_
          refine w_lneg rfl rfl ?_
          refine w_goto (pc' := 170) rfl rfl ?_
          refine w_ldc2_w rfl rfl rfl ?_
          refine w_lload_n rfl rfl rfl ?_
          refine w_lconst (x := 0) rfl rfl (by decide) ?_
          refine w_lc_ge (t := 184) (f := 179) (p1 := 176) rfl rfl rfl rfl rfl (fun c176 => ?_) (fun c176 => ?_)
          · refine w_lload_n rfl rfl rfl ?_
            refine w_ldiv rfl rfl (by first | exact c155 | exact am_neg0 c155) ?_
            refine w_lc_le (t := 196) (f := 190) (p1 := 187) rfl rfl rfl rfl rfl (fun c187 => ?_) (fun c187 => ?_)
            · refine w_lload_n rfl rfl rfl ?_
              refine w_lload_n rfl rfl rfl ?_
              refine w_lmul rfl rfl ?_
              exact w_lret rfl (by simp +decide only [k_jn, m_bd, m_ab, k_er, *, ite_true, ite_false, and_self, and_true, true_and, and_false, false_and, or_true, true_or, or_false, false_or, not_true, not_false_iff] <;> rfl) rfl rfl rfl
            · refine w_ldc2_w rfl rfl rfl ?_
              refine w_goto (pc' := 199) rfl rfl ?_
              exact w_lret rfl (by simp +decide only [k_jn, m_bd, m_ab, k_er, *, ite_true, ite_false, and_self, and_true, true_and, and_false, false_and, or_true, true_or, or_false, false_or, not_true, not_false_iff] <;> rfl) rfl rfl rfl
          · refine w_lload_n rfl rfl rfl ?_
            refine w_lneg rfl rfl ?_
            refine w_goto (pc' := 185) rfl rfl ?_
            refine w_ldiv rfl rfl (by first | exact c155 | exact am_neg0 c155) ?_
            refine w_lc_le (t := 196) (f := 190) (p1 := 187) rfl rfl rfl rfl rfl (fun c187 => ?_) (fun c187 => ?_)
            · refine w_lload_n rfl rfl rfl ?_
              refine w_lload_n rfl rfl rfl ?_
              refine w_lmul rfl rfl ?_
              exact w_lret rfl (by simp +decide only [k_jn, m_bd, m_ab, k_er, *, ite_true, ite_false, and_self, and_true, true_and, and_false, false_and, or_true, true_or, or_false, false_or, not_true, not_false_iff] <;> rfl) rfl rfl rfl
            · refine w_ldc2_w rfl rfl rfl ?_
              refine w_goto (pc' := 199) rfl rfl ?_
              exact w_lret rfl (by simp +decide only [k_jn, m_bd, m_ab, k_er, *, ite_true, ite_false, and_self, and_true, true_and, and_false, false_and, or_true, true_or, or_false, false_or, not_true, not_false_iff] <;> rfl) rfl rfl rfl
    · refine ⟨200, rfl, ?_⟩
      refine w_lload_n rfl rfl rfl ?_
      refine w_lconst (x := 0) rfl rfl (by decide) ?_
      refine w_lc_ne (t := 212) (f := 206) (p1 := 203) rfl rfl rfl rfl rfl (fun c203 => ?_) (fun c203 => ?_)
      · refine w_lload_n rfl rfl rfl ?_
        refine w_lload_n rfl rfl rfl ?_
        refine w_ldiv rfl rfl c203 ?_
        exact w_lret rfl (by simp +decide only [k_jn, m_bd, m_ab, k_er, *, ite_true, ite_false, and_self, and_true, true_and, and_false, false_and, or_true, true_or, or_false, false_or, not_true, not_false_iff] <;> rfl) rfl rfl rfl
      · refine w_ldc2_w rfl rfl rfl ?_
        refine w_goto (pc' := 215) rfl rfl ?_
        exact w_lret rfl (by simp +decide only [k_jn, m_bd, m_ab, k_er, *, ite_true, ite_false, and_self, and_true, true_and, and_false, false_and, or_true, true_or, or_false, false_or, not_true, not_false_iff] <;> rfl) rfl rfl rfl
