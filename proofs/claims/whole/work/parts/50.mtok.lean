/-! The reference: what is fed, tokens. -/
def wdL : List Nat := [109, 97, 107, 101, 114, 32, 114, 111, 112, 101, 32, 115, 104, 105, 112, 32, 114, 105, 103, 32, 115, 97, 105, 108, 32, 115, 116, 111, 114, 109, 32, 115, 101, 101, 100, 32, 108, 97, 119, 32, 116, 119, 105, 115, 116, 32, 119, 101, 97, 114, 32, 112, 117, 108, 108, 32, 97, 110, 100, 32, 111, 114, 32, 110, 111, 116, 32, 121, 97, 114, 100, 115, 32, 101, 118, 101, 110, 32, 116, 104, 105, 110, 107, 32, 115, 111, 117, 110, 100, 32, 98, 101, 97, 114, 32, 115, 116, 111, 114, 109, 121, 32, 100, 97, 121, 32]
def wd (i : Nat) : Nat := wdL.getD i 0
def fT (k : Nat) : Nat := [0, 6, 11, 16, 20, 25, 31, 36, 40, 46, 51, 56, 60, 63, 67, 73, 78, 84, 90, 95, 102, 106].getD k 0
def lT (k : Nat) : Nat := [5, 4, 4, 3, 4, 5, 4, 3, 5, 4, 4, 3, 2, 3, 5, 4, 5, 5, 4, 6, 3].getD k 0
theorem wd_f : ∀ k : Fin 21, fT k.val + lT k.val < 106 ∧ fT (k.val + 1) = fT k.val + (lT k.val + 1) ∧ wd (fT k.val + lT k.val) = 32 ∧ lT k.val ≤ 6 := by decide
theorem wd_n : ∀ k : Fin 21, ∀ n : Fin 6, n.val < lT k.val → ¬ wd (fT k.val + n.val) = 32 := by decide
theorem wd_s : ∀ i : Fin 106, wd i.val < 200 := by decide
def m_fb (a b c d e : Int32) (r : Nat) : Int32 := ((if 4 ≤ r then (if 8 ≤ r then (if 12 ≤ r then (if 16 ≤ r then e else d) else c) else b) else a) >>> (Int32.ofNat (24 - 8 * (r % 4)) &&& 31)) &&& Int32.ofNat 255
def m_fd (a b c d e : Int32) (z : Nat) (n : Nat) (I : hI) : hI := s_for (fun r I => am_u I 111 (z + r) (m_fb a b c d e r)) n I
theorem m_fd_s (a b c d e : Int32) (z n : Nat) (I : hI) : m_fd a b c d e z (n + 1) I = am_u (m_fd a b c d e z n I) 111 (z + n) (m_fb a b c d e n) := rfl
theorem m_fd_ne {a b c d e : Int32} {z n : Nat} {I : hI} {x : Nat} (h : x ≠ 111) : m_fd a b c d e z n I x = I x := by
  induction n with
  | zero => rfl
  | succ n ih => exact (am_u_ne h).trans ih
theorem l_feed {k : Nat} {R : hR} {q : Option Value × am_H} {a b c d e0 : Int32} {z : Nat} {I0 : hI} {J0 : hJ} (hz : z ≤ 680) (h1 : I0 110 1 = Int32.ofNat z) (Z : ∀ (u : Value), wz k 12 (some .int) am_c167 113 [.ref 110, .int a, .int b, .int c, .int d, .int e0, .int (Int32.ofNat 20), u] [] (m_fd a b c d e0 z 20 I0) J0 R q) : ∀ (j r : Nat) (u : Value), r + j = 20 → wz k 12 (some .int) am_c167 23 [.ref 110, .int a, .int b, .int c, .int d, .int e0, .int (Int32.ofNat r), u] [] (m_fd a b c d e0 z r I0) J0 R q := by
  intro j
  induction j with
  | zero =>
    intro r u e
    obtain rfl : 20 = r := by omega
    refine w_iload rfl rfl rfl ?_
    refine w_bipush (x := Int32.ofNat 20) rfl rfl (by decide) ?_
    refine w_ic_geN (t := 113) (f := 30) rfl rfl rfl (by omega) (by omega) (fun c27 => ?_) (fun c27 => absurd c27 (by omega))
    exact Z _
  | succ j ih =>
    intro r u e
    refine w_iload rfl rfl rfl ?_
    refine w_bipush (x := Int32.ofNat 20) rfl rfl (by decide) ?_
    refine w_ic_geN (t := 113) (f := 30) rfl rfl rfl (by omega) (by omega) (fun c27 => absurd c27 (by omega)) (fun c27 => ?_)
    refine w_iload rfl rfl rfl ?_
    refine w_iconst (x := Int32.ofNat 4) rfl rfl (by decide) ?_
    refine w_ic_geN (t := 40) (f := 36) rfl rfl rfl (by omega) (by omega) (fun c33 => ?_) (fun c33 => ?_)
    · refine w_iload rfl rfl rfl ?_
      refine w_bipush (x := Int32.ofNat 8) rfl rfl (by decide) ?_
      refine w_ic_geN (t := 51) (f := 47) rfl rfl rfl (by omega) (by omega) (fun c44 => ?_) (fun c44 => ?_)
      · refine w_iload rfl rfl rfl ?_
        refine w_bipush (x := Int32.ofNat 12) rfl rfl (by decide) ?_
        refine w_ic_geN (t := 62) (f := 58) rfl rfl rfl (by omega) (by omega) (fun c55 => ?_) (fun c55 => ?_)
        · refine w_iload rfl rfl rfl ?_
          refine w_bipush (x := Int32.ofNat 16) rfl rfl (by decide) ?_
          refine w_ic_geN (t := 74) (f := 69) rfl rfl rfl (by omega) (by omega) (fun c66 => ?_) (fun c66 => ?_)
          · refine w_iload rfl rfl rfl ?_
            refine w_istore (L' := [_, _, _, _, _, _, _, _]) rfl rfl rfl ?_
            refine w_aload_n rfl rfl rfl ?_
            refine w_gf (t := .ref (111)) (v := .ref (111)) rfl rfl rfl sp110 rfl rfl rfl ?_
            refine w_aload_n rfl rfl rfl ?_
            refine w_gf (t := .int 0) (v := .int _) rfl rfl rfl sp110 rfl (congrArg Value.int ((congrFun (m_fd_ne (by decide)) _).trans h1)) rfl ?_
            refine w_iload rfl rfl rfl ?_
            refine w_iaddN rfl rfl ?_
            refine w_iload rfl rfl rfl ?_
            refine w_bipush (x := Int32.ofNat 24) rfl rfl (by decide) ?_
            refine w_bipush (x := Int32.ofNat 8) rfl rfl (by decide) ?_
            refine w_iload rfl rfl rfl ?_
            refine w_iconst (x := Int32.ofNat 4) rfl rfl (by decide) ?_
            refine w_iremN rfl rfl (by omega) ?_
            refine w_imulN rfl rfl ?_
            refine w_isubN rfl rfl (by omega) ?_
            refine w_ishr rfl rfl ?_
            refine w_sipush (x := Int32.ofNat 255) rfl rfl (by decide) ?_
            refine w_iand rfl rfl ?_
            refine w_iastore rfl rfl sp111 rfl ⟨(by omega), by omega⟩ ?_
            refine w_iinc (L' := [_, _, _, _, _, _, _, _]) rfl rfl rfl (am_incN 1) rfl ?_
            refine w_goto (pc' := 23) rfl rfl ?_
            exact wz_M (ih (r + 1) _ (by omega)) rfl (by rw [m_fd_s]; unfold m_fb; simp only [*, ite_true, ite_false, and_self, and_true, true_and, and_false, false_and, or_true, true_or, or_false, false_or, not_true, not_false_iff])
          · refine w_iload rfl rfl rfl ?_
            refine w_goto (pc' := 76) rfl rfl ?_
            refine w_istore (L' := [_, _, _, _, _, _, _, _]) rfl rfl rfl ?_
            refine w_aload_n rfl rfl rfl ?_
            refine w_gf (t := .ref (111)) (v := .ref (111)) rfl rfl rfl sp110 rfl rfl rfl ?_
            refine w_aload_n rfl rfl rfl ?_
            refine w_gf (t := .int 0) (v := .int _) rfl rfl rfl sp110 rfl (congrArg Value.int ((congrFun (m_fd_ne (by decide)) _).trans h1)) rfl ?_
            refine w_iload rfl rfl rfl ?_
            refine w_iaddN rfl rfl ?_
            refine w_iload rfl rfl rfl ?_
            refine w_bipush (x := Int32.ofNat 24) rfl rfl (by decide) ?_
            refine w_bipush (x := Int32.ofNat 8) rfl rfl (by decide) ?_
            refine w_iload rfl rfl rfl ?_
            refine w_iconst (x := Int32.ofNat 4) rfl rfl (by decide) ?_
            refine w_iremN rfl rfl (by omega) ?_
            refine w_imulN rfl rfl ?_
            refine w_isubN rfl rfl (by omega) ?_
            refine w_ishr rfl rfl ?_
            refine w_sipush (x := Int32.ofNat 255) rfl rfl (by decide) ?_
            refine w_iand rfl rfl ?_
            refine w_iastore rfl rfl sp111 rfl ⟨(by omega), by omega⟩ ?_
            refine w_iinc (L' := [_, _, _, _, _, _, _, _]) rfl rfl rfl (am_incN 1) rfl ?_
            refine w_goto (pc' := 23) rfl rfl ?_
            exact wz_M (ih (r + 1) _ (by omega)) rfl (by rw [m_fd_s]; unfold m_fb; simp only [*, ite_true, ite_false, and_self, and_true, true_and, and_false, false_and, or_true, true_or, or_false, false_or, not_true, not_false_iff])
        · refine w_iload_n rfl rfl rfl ?_
          refine w_goto (pc' := 76) rfl rfl ?_
          refine w_istore (L' := [_, _, _, _, _, _, _, _]) rfl rfl rfl ?_
          refine w_aload_n rfl rfl rfl ?_
          refine w_gf (t := .ref (111)) (v := .ref (111)) rfl rfl rfl sp110 rfl rfl rfl ?_
          refine w_aload_n rfl rfl rfl ?_
          refine w_gf (t := .int 0) (v := .int _) rfl rfl rfl sp110 rfl (congrArg Value.int ((congrFun (m_fd_ne (by decide)) _).trans h1)) rfl ?_
          refine w_iload rfl rfl rfl ?_
          refine w_iaddN rfl rfl ?_
          refine w_iload rfl rfl rfl ?_
          refine w_bipush (x := Int32.ofNat 24) rfl rfl (by decide) ?_
          refine w_bipush (x := Int32.ofNat 8) rfl rfl (by decide) ?_
          refine w_iload rfl rfl rfl ?_
          refine w_iconst (x := Int32.ofNat 4) rfl rfl (by decide) ?_
          refine w_iremN rfl rfl (by omega) ?_
          refine w_imulN rfl rfl ?_
          refine w_isubN rfl rfl (by omega) ?_
          refine w_ishr rfl rfl ?_
          refine w_sipush (x := Int32.ofNat 255) rfl rfl (by decide) ?_
          refine w_iand rfl rfl ?_
          refine w_iastore rfl rfl sp111 rfl ⟨(by omega), by omega⟩ ?_
          refine w_iinc (L' := [_, _, _, _, _, _, _, _]) rfl rfl rfl (am_incN 1) rfl ?_
          refine w_goto (pc' := 23) rfl rfl ?_
          exact wz_M (ih (r + 1) _ (by omega)) rfl (by rw [m_fd_s]; unfold m_fb; simp only [*, ite_true, ite_false, and_self, and_true, true_and, and_false, false_and, or_true, true_or, or_false, false_or, not_true, not_false_iff])
      · refine w_iload_n rfl rfl rfl ?_
        refine w_goto (pc' := 76) rfl rfl ?_
        refine w_istore (L' := [_, _, _, _, _, _, _, _]) rfl rfl rfl ?_
        refine w_aload_n rfl rfl rfl ?_
        refine w_gf (t := .ref (111)) (v := .ref (111)) rfl rfl rfl sp110 rfl rfl rfl ?_
        refine w_aload_n rfl rfl rfl ?_
        refine w_gf (t := .int 0) (v := .int _) rfl rfl rfl sp110 rfl (congrArg Value.int ((congrFun (m_fd_ne (by decide)) _).trans h1)) rfl ?_
        refine w_iload rfl rfl rfl ?_
        refine w_iaddN rfl rfl ?_
        refine w_iload rfl rfl rfl ?_
        refine w_bipush (x := Int32.ofNat 24) rfl rfl (by decide) ?_
        refine w_bipush (x := Int32.ofNat 8) rfl rfl (by decide) ?_
        refine w_iload rfl rfl rfl ?_
        refine w_iconst (x := Int32.ofNat 4) rfl rfl (by decide) ?_
        refine w_iremN rfl rfl (by omega) ?_
        refine w_imulN rfl rfl ?_
        refine w_isubN rfl rfl (by omega) ?_
        refine w_ishr rfl rfl ?_
        refine w_sipush (x := Int32.ofNat 255) rfl rfl (by decide) ?_
        refine w_iand rfl rfl ?_
        refine w_iastore rfl rfl sp111 rfl ⟨(by omega), by omega⟩ ?_
        refine w_iinc (L' := [_, _, _, _, _, _, _, _]) rfl rfl rfl (am_incN 1) rfl ?_
        refine w_goto (pc' := 23) rfl rfl ?_
        exact wz_M (ih (r + 1) _ (by omega)) rfl (by rw [m_fd_s]; unfold m_fb; simp only [*, ite_true, ite_false, and_self, and_true, true_and, and_false, false_and, or_true, true_or, or_false, false_or, not_true, not_false_iff])
    · refine w_iload_n rfl rfl rfl ?_
      refine w_goto (pc' := 76) rfl rfl ?_
      refine w_istore (L' := [_, _, _, _, _, _, _, _]) rfl rfl rfl ?_
      refine w_aload_n rfl rfl rfl ?_
      refine w_gf (t := .ref (111)) (v := .ref (111)) rfl rfl rfl sp110 rfl rfl rfl ?_
      refine w_aload_n rfl rfl rfl ?_
      refine w_gf (t := .int 0) (v := .int _) rfl rfl rfl sp110 rfl (congrArg Value.int ((congrFun (m_fd_ne (by decide)) _).trans h1)) rfl ?_
      refine w_iload rfl rfl rfl ?_
      refine w_iaddN rfl rfl ?_
      refine w_iload rfl rfl rfl ?_
      refine w_bipush (x := Int32.ofNat 24) rfl rfl (by decide) ?_
      refine w_bipush (x := Int32.ofNat 8) rfl rfl (by decide) ?_
      refine w_iload rfl rfl rfl ?_
      refine w_iconst (x := Int32.ofNat 4) rfl rfl (by decide) ?_
      refine w_iremN rfl rfl (by omega) ?_
      refine w_imulN rfl rfl ?_
      refine w_isubN rfl rfl (by omega) ?_
      refine w_ishr rfl rfl ?_
      refine w_sipush (x := Int32.ofNat 255) rfl rfl (by decide) ?_
      refine w_iand rfl rfl ?_
      refine w_iastore rfl rfl sp111 rfl ⟨(by omega), by omega⟩ ?_
      refine w_iinc (L' := [_, _, _, _, _, _, _, _]) rfl rfl rfl (am_incN 1) rfl ?_
      refine w_goto (pc' := 23) rfl rfl ?_
      exact wz_M (ih (r + 1) _ (by omega)) rfl (by rw [m_fd_s]; unfold m_fb; simp only [*, ite_true, ite_false, and_self, and_true, true_and, and_false, false_and, or_true, true_or, or_false, false_or, not_true, not_false_iff])
def m_fe (a b c d e : Int32) (z : Nat) (I : hI) : hI := am_u (m_fd a b c d e z 20 (m_z I)) 110 1 (Int32.ofNat (z + 20))
theorem c_feed {k : Nat} {I : hI} {J : hJ} {R : hR} {a b c d e0 : Int32} {z : Nat} (hz : z ≤ 680) (h1 : I 110 1 = Int32.ofNat z) (hk : 1 ≤ k) : ct k 167 [.ref 110, .int a, .int b, .int c, .int d, .int e0] I J R (some (.int (Int32.ofNat (z + 20)))) (m_fe a b c d e0 z I) J R := by
  obtain ⟨k, rfl⟩ : ∃ k', k = k' + 1 := ⟨k - 1, by omega⟩
  refine ct_of (q := am_m167) (L := [_, _, _, _, _, _, _, _]) rfl rfl rfl rfl rfl rfl ?_
  refine w_aload_n rfl rfl rfl ?_
  refine w_iconst (x := Int32.ofNat 0) rfl rfl (by decide) ?_
  refine w_pf rfl rfl rfl sp110 rfl rfl rfl ?_
  refine w_aload_n rfl rfl rfl ?_
  refine w_gf (t := .int 0) (v := .int _) rfl rfl rfl sp110 rfl (congrArg Value.int ((am_u_nk (by decide)).trans h1)) rfl ?_
  refine w_bipush (x := Int32.ofNat 20) rfl rfl (by decide) ?_
  refine w_iaddN rfl rfl ?_
  refine w_sipush (x := Int32.ofNat 700) rfl rfl (by decide) ?_
  refine w_ic_leN (t := 20) (f := 18) rfl rfl rfl (by omega) (by omega) (fun c15 => ?_) (fun c15 => absurd c15 (by omega))
  refine w_iconst (x := Int32.ofNat 0) rfl rfl (by decide) ?_
  refine w_istore (L' := [_, _, _, _, _, _, _, _]) rfl rfl rfl ?_
  refine l_feed (I0 := m_z I) hz h1 (fun u => ?_) 20 0 _ (by omega)
  refine w_aload_n rfl rfl rfl ?_
  refine w_dup rfl rfl rfl ?_
  refine w_gf (t := .int 0) (v := .int _) rfl rfl rfl sp110 rfl (congrArg Value.int ((congrFun (m_fd_ne (by decide)) _).trans h1)) rfl ?_
  refine w_bipush (x := Int32.ofNat 20) rfl rfl (by decide) ?_
  refine w_iaddN rfl rfl ?_
  refine w_pf rfl rfl rfl sp110 rfl rfl rfl ?_
  refine w_aload_n rfl rfl rfl ?_
  refine w_gf (t := .int 0) (v := .int _) rfl rfl rfl sp110 rfl (congrArg Value.int am_u_at) rfl ?_
  exact w_iret rfl rfl rfl rfl rfl
theorem c_feed_no {k : Nat} {I : hI} {J : hJ} {R : hR} {a b c d e0 : Int32} {z : Nat} (hz : 680 < z) (hz2 : z ≤ 1000) (h1 : I 110 1 = Int32.ofNat z) (hk : 1 ≤ k) : ct k 167 [.ref 110, .int a, .int b, .int c, .int d, .int e0] I J R (some (.int (Int32.ofInt (-1)))) (m_z I) J R := by
  obtain ⟨k, rfl⟩ : ∃ k', k = k' + 1 := ⟨k - 1, by omega⟩
  refine ct_of (q := am_m167) (L := [_, _, _, _, _, _, _, _]) rfl rfl rfl rfl rfl rfl ?_
  refine w_aload_n rfl rfl rfl ?_
  refine w_iconst (x := Int32.ofNat 0) rfl rfl (by decide) ?_
  refine w_pf rfl rfl rfl sp110 rfl rfl rfl ?_
  refine w_aload_n rfl rfl rfl ?_
  refine w_gf (t := .int 0) (v := .int _) rfl rfl rfl sp110 rfl (congrArg Value.int ((am_u_nk (by decide)).trans h1)) rfl ?_
  refine w_bipush (x := Int32.ofNat 20) rfl rfl (by decide) ?_
  refine w_iaddN rfl rfl ?_
  refine w_sipush (x := Int32.ofNat 700) rfl rfl (by decide) ?_
  refine w_ic_leN (t := 20) (f := 18) rfl rfl rfl (by omega) (by omega) (fun c15 => absurd c15 (by omega)) (fun c15 => ?_)
  refine w_iconst (x := Int32.ofInt (-1)) rfl rfl (by decide) ?_
  exact w_iret rfl rfl rfl rfl rfl
def m_fnd (f : Nat → Int32) (x : Int32) : Nat → Nat → Int32
  | 0, _ => Int32.ofInt (-1)
  | j + 1, r => if f r = x then Int32.ofNat r else m_fnd f x j (r + 1)
theorem m_fnd_s (f : Nat → Int32) (x : Int32) (j r : Nat) : m_fnd f x (j + 1) r = if f r = x then Int32.ofNat r else m_fnd f x j (r + 1) := rfl
theorem l_find {k : Nat} {I : hI} {J : hJ} {R : hR} {A m a n : Nat} {x : Int32} (hA : am_shL[A]? = some (.inl (.int, false, m))) (hm : m ≤ 1024) (hn : a + n ≤ m) : ∀ (j r : Nat), r + j = n → wz k 12 (some .int) am_c183 3 [.ref A, .int (Int32.ofNat a), .int (Int32.ofNat n), .int x, .int (Int32.ofNat r)] [] I J R (some (.int (m_fnd (fun i => I A (a + i)) x j r)), am_hp I J R) := by
  intro j
  induction j with
  | zero =>
    intro r e
    obtain rfl : n = r := by omega
    refine w_iload rfl rfl rfl ?_
    refine w_iload_n rfl rfl rfl ?_
    refine w_ic_geN (t := 28) (f := 9) rfl rfl rfl (by omega) (by omega) (fun c6 => ?_) (fun c6 => absurd c6 (by omega))
    refine w_iconst (x := Int32.ofInt (-1)) rfl rfl (by decide) ?_
    exact w_iret rfl rfl rfl rfl rfl
  | succ j ih =>
    intro r e
    rw [m_fnd_s]
    refine w_iload rfl rfl rfl ?_
    refine w_iload_n rfl rfl rfl ?_
    refine w_ic_geN (t := 28) (f := 9) rfl rfl rfl (by omega) (by omega) (fun c6 => absurd c6 (by omega)) (fun c6 => ?_)
    refine w_aload_n rfl rfl rfl ?_
    refine w_iload_n rfl rfl rfl ?_
    refine w_iload rfl rfl rfl ?_
    refine w_iaddN rfl rfl ?_
    refine w_iaload rfl rfl hA rfl ⟨by omega, by omega⟩ rfl ?_
    refine w_iload_n rfl rfl rfl ?_
    refine w_ic_ne (t := 22) (f := 19) rfl rfl rfl (fun c16 => ?_) (fun c16 => ?_)
    · refine w_iinc (L' := [_, _, _, _, _]) rfl rfl rfl (am_incN 1) rfl ?_
      refine w_goto (pc' := 3) rfl rfl ?_
      rw [if_neg c16]
      exact ih (r + 1) (by omega)
    · refine w_iload rfl rfl rfl ?_
      exact w_iret rfl (by rw [if_pos c16]) rfl rfl rfl
theorem c_find {k : Nat} {I : hI} {J : hJ} {R : hR} {A m a n : Nat} {x : Int32} (hA : am_shL[A]? = some (.inl (.int, false, m))) (hm : m ≤ 1024) (hn : a + n ≤ m) (hk : 1 ≤ k) : ct k 183 [.ref A, .int (Int32.ofNat a), .int (Int32.ofNat n), .int x] I J R (some (.int (m_fnd (fun i => I A (a + i)) x n 0))) I J R := by
  obtain ⟨k, rfl⟩ : ∃ k', k = k' + 1 := ⟨k - 1, by omega⟩
  refine ct_of (q := am_m183) (L := [_, _, _, _, _]) rfl rfl rfl rfl rfl rfl ?_
  refine w_iconst (x := Int32.ofNat 0) rfl rfl (by decide) ?_
  refine w_istore (L' := [_, _, _, _, _]) rfl rfl rfl ?_
  exact l_find hA hm hn n 0 (by omega)
def m_named (I : hI) (N : Nat → Nat) (w x : Int32) : Int32 := if w = Int32.ofNat 0 then m_fnd (fun i => I 115 (0 + i)) x (N 0) 0 else if w = Int32.ofNat 1 then m_fnd (fun i => I 118 (0 + i)) x (N 1) 0 else if w = Int32.ofNat 2 then m_fnd (fun i => I 123 (0 + i)) x (N 2) 0 else Int32.ofInt (-1)
theorem c_named {k : Nat} {I : hI} {J : hJ} {R : hR} {N : Nat → Nat} (t : tok I N) {w x : Int32} (hk : 2 ≤ k) : ct k 195 [.ref 110, .int w, .int x] I J R (some (.int (m_named (m_z I) N w x))) (m_z I) J R := by
  obtain ⟨k, rfl⟩ : ∃ k', k = k' + 1 := ⟨k - 1, by omega⟩
  have h0 := t.1
  have g := t.2.1
  refine ct_of (q := am_m195) (L := [_, _, _]) rfl rfl rfl rfl rfl rfl ?_
  refine w_aload_n rfl rfl rfl ?_
  refine w_iconst (x := Int32.ofNat 0) rfl rfl (by decide) ?_
  refine w_pf rfl rfl rfl sp110 rfl rfl rfl ?_
  refine w_iload_n rfl rfl rfl ?_
  refine w_ts (lo := 0) (hi := 2) (d := 74) rfl rfl (by decide) (fun sw => ?_) (fun n h1 h2 sw => ?_)
  · refine w_iconst (x := Int32.ofInt (-1)) rfl rfl (by decide) ?_
    exact w_iret rfl (by first | (simp +decide only [m_named, sw, ite_true, ite_false] <;> rfl) | (simp +decide only [m_named, sw 0 (by decide) (by decide), sw 1 (by decide) (by decide), sw 2 (by decide) (by decide), ite_true, ite_false] <;> rfl)) rfl rfl rfl
  · have h3 : n = 0 ∨ n = 1 ∨ n = 2 := by omega
    rcases h3 with rfl | rfl | rfl
    · refine ⟨32, rfl, ?_⟩
      refine w_aload_n rfl rfl rfl ?_
      refine w_gf (t := .ref (115)) (v := .ref (115)) rfl rfl rfl sp110 rfl rfl rfl ?_
      refine w_iconst (x := Int32.ofNat 0) rfl rfl (by decide) ?_
      refine w_aload_n rfl rfl rfl ?_
      refine w_gf (t := .int 0) (v := .int _) rfl rfl rfl sp110 rfl (congrArg Value.int ((am_u_nk (by decide)).trans g.1)) rfl ?_
      refine w_iload_n rfl rfl rfl ?_
      refine w_cs (q := am_m183) (na := 4) (as := [_, _, _, _]) (st' := [_]) rfl rfl rfl rfl (by decide) rfl rfl (Nat.le_of_ble_eq_true rfl) rfl rfl rfl (c_find sp115 (by decide) (by omega) (by omega)) rfl rfl ?_
      exact w_iret rfl (by first | (simp +decide only [m_named, sw, ite_true, ite_false] <;> rfl) | (simp +decide only [m_named, sw 0 (by decide) (by decide), sw 1 (by decide) (by decide), sw 2 (by decide) (by decide), ite_true, ite_false] <;> rfl)) rfl rfl rfl
    · refine ⟨46, rfl, ?_⟩
      refine w_aload_n rfl rfl rfl ?_
      refine w_gf (t := .ref (118)) (v := .ref (118)) rfl rfl rfl sp110 rfl rfl rfl ?_
      refine w_iconst (x := Int32.ofNat 0) rfl rfl (by decide) ?_
      refine w_aload_n rfl rfl rfl ?_
      refine w_gf (t := .int 0) (v := .int _) rfl rfl rfl sp110 rfl (congrArg Value.int ((am_u_nk (by decide)).trans g.2.1)) rfl ?_
      refine w_iload_n rfl rfl rfl ?_
      refine w_cs (q := am_m183) (na := 4) (as := [_, _, _, _]) (st' := [_]) rfl rfl rfl rfl (by decide) rfl rfl (Nat.le_of_ble_eq_true rfl) rfl rfl rfl (c_find sp118 (by decide) (by omega) (by omega)) rfl rfl ?_
      exact w_iret rfl (by first | (simp +decide only [m_named, sw, ite_true, ite_false] <;> rfl) | (simp +decide only [m_named, sw 0 (by decide) (by decide), sw 1 (by decide) (by decide), sw 2 (by decide) (by decide), ite_true, ite_false] <;> rfl)) rfl rfl rfl
    · refine ⟨60, rfl, ?_⟩
      refine w_aload_n rfl rfl rfl ?_
      refine w_gf (t := .ref (123)) (v := .ref (123)) rfl rfl rfl sp110 rfl rfl rfl ?_
      refine w_iconst (x := Int32.ofNat 0) rfl rfl (by decide) ?_
      refine w_aload_n rfl rfl rfl ?_
      refine w_gf (t := .int 0) (v := .int _) rfl rfl rfl sp110 rfl (congrArg Value.int ((am_u_nk (by decide)).trans g.2.2.1)) rfl ?_
      refine w_iload_n rfl rfl rfl ?_
      refine w_cs (q := am_m183) (na := 4) (as := [_, _, _, _]) (st' := [_]) rfl rfl rfl rfl (by decide) rfl rfl (Nat.le_of_ble_eq_true rfl) rfl rfl rfl (c_find sp123 (by decide) (by omega) (by omega)) rfl rfl ?_
      exact w_iret rfl (by first | (simp +decide only [m_named, sw, ite_true, ite_false] <;> rfl) | (simp +decide only [m_named, sw 0 (by decide) (by decide), sw 1 (by decide) (by decide), sw 2 (by decide) (by decide), ite_true, ite_false] <;> rfl)) rfl rfl rfl
theorem c_fault {k : Nat} {I : hI} {J : hJ} {R : hR} {w : Int32} (hk : 1 ≤ k) : ct k 194 [.ref 110, .int w] I J R (some (.int (if w = 0 then I 110 4 else if w = Int32.ofNat 1 then I 110 5 else Int32.ofInt (-1)))) (m_z I) J R := by
  obtain ⟨k, rfl⟩ : ∃ k', k = k' + 1 := ⟨k - 1, by omega⟩
  refine ct_of (q := am_m194) (L := [_, _]) rfl rfl rfl rfl rfl rfl ?_
  refine w_aload_n rfl rfl rfl ?_
  refine w_iconst (x := Int32.ofNat 0) rfl rfl (by decide) ?_
  refine w_pf rfl rfl rfl sp110 rfl rfl rfl ?_
  refine w_iload_n rfl rfl rfl ?_
  refine w_if_ne (t := 16) (f := 9) rfl rfl rfl (fun c6 => ?_) (fun c6 => ?_)
  · refine w_iload_n rfl rfl rfl ?_
    refine w_iconst (x := Int32.ofNat 1) rfl rfl (by decide) ?_
    refine w_ic_ne (t := 28) (f := 21) rfl rfl rfl (fun c18 => ?_) (fun c18 => ?_)
    · refine w_iconst (x := Int32.ofInt (-1)) rfl rfl (by decide) ?_
      exact w_iret rfl (by simp only [*, ite_true, ite_false, and_self, and_true, true_and, and_false, false_and, or_true, true_or, or_false, false_or, not_true, not_false_iff] <;> rfl) rfl rfl rfl
    · refine w_aload_n rfl rfl rfl ?_
      refine w_gf (t := .int 0) (v := .int _) rfl rfl rfl sp110 rfl (congrArg Value.int (am_u_nk (by decide))) rfl ?_
      refine w_goto (pc' := 29) rfl rfl ?_
      exact w_iret rfl (by simp only [*, ite_true, ite_false, and_self, and_true, true_and, and_false, false_and, or_true, true_or, or_false, false_or, not_true, not_false_iff] <;> rfl) rfl rfl rfl
  · refine w_aload_n rfl rfl rfl ?_
    refine w_gf (t := .int 0) (v := .int _) rfl rfl rfl sp110 rfl (congrArg Value.int (am_u_nk (by decide))) rfl ?_
    refine w_goto (pc' := 29) rfl rfl ?_
    exact w_iret rfl (by simp only [*, ite_true, ite_false, and_self, and_true, true_and, and_false, false_and, or_true, true_or, or_false, false_or, not_true, not_false_iff] <;> rfl) rfl rfl rfl
theorem am_q5a {i st : Nat} {Q : Prop} (h : st ≤ i) : ¬ (i < st ∧ Q) := fun z => Nat.not_lt.mpr h z.1
theorem am_q5b {P Q R : Prop} (h : Q) : ¬ (P ∧ ¬ Q ∧ R) := fun z => z.2.1 h
theorem am_q5c {P Q R : Prop} (h : R) : ¬ (P ∧ Q ∧ ¬ R) := fun z => z.2.2 h
def smP (f : Nat → Int32) (st i : Nat) : Prop := i < st ∧ ¬ f i < Int32.ofNat 97 ∧ ¬ Int32.ofNat 122 < f i
def smPD (f : Nat → Int32) (st i : Nat) : Decidable (smP f st i) := inferInstanceAs (Decidable (_ ∧ _))
theorem c_isSmall {k : Nat} {I : hI} {J : hJ} {R : hR} {st i : Nat} (h6 : I 110 6 = Int32.ofNat st) (hs : st ≤ 700) (hi : i ≤ 1000) (hk : 1 ≤ k) : ct k 172 [.ref 110, .int (Int32.ofNat i)] I J R (some (.int (@ite _ (smP (I 111) st i) (smPD (I 111) st i) 1 0))) I J R := by
  obtain ⟨k, rfl⟩ : ∃ k', k = k' + 1 := ⟨k - 1, by omega⟩
  refine ct_of (q := am_m172) (L := [_, _]) rfl rfl rfl rfl rfl rfl ?_
  refine w_iload_n rfl rfl rfl ?_
  refine w_aload_n rfl rfl rfl ?_
  refine w_gf (t := .int 0) (v := .int _) rfl rfl rfl sp110 rfl (congrArg Value.int h6) rfl ?_
  refine w_ic_geN (t := 34) (f := 8) rfl rfl rfl (by omega) (by omega) (fun c5 => ?_) (fun c5 => ?_)
  · refine w_iconst (x := Int32.ofNat 0) rfl rfl (by decide) ?_
    exact w_bret rfl (by decide) (by first | exact (if_neg (am_q5a c5)).symm | exact (if_neg (am_q5b c16)).symm | exact (if_neg (am_q5c c27)).symm | exact (if_pos (And.intro (Nat.lt_of_not_le c5) (And.intro c16 c27))).symm) rfl rfl rfl
  · refine w_aload_n rfl rfl rfl ?_
    refine w_gf (t := .ref (111)) (v := .ref (111)) rfl rfl rfl sp110 rfl rfl rfl ?_
    refine w_iload_n rfl rfl rfl ?_
    refine w_iaload rfl rfl sp111 rfl ⟨by omega, by omega⟩ rfl ?_
    refine w_bipush (x := Int32.ofNat 97) rfl rfl (by decide) ?_
    refine w_ic_lt (t := 34) (f := 19) rfl rfl rfl (fun c16 => ?_) (fun c16 => ?_)
    · refine w_iconst (x := Int32.ofNat 0) rfl rfl (by decide) ?_
      exact w_bret rfl (by decide) (by first | exact (if_neg (am_q5a c5)).symm | exact (if_neg (am_q5b c16)).symm | exact (if_neg (am_q5c c27)).symm | exact (if_pos (And.intro (Nat.lt_of_not_le c5) (And.intro c16 c27))).symm) rfl rfl rfl
    · refine w_aload_n rfl rfl rfl ?_
      refine w_gf (t := .ref (111)) (v := .ref (111)) rfl rfl rfl sp110 rfl rfl rfl ?_
      refine w_iload_n rfl rfl rfl ?_
      refine w_iaload rfl rfl sp111 rfl ⟨by omega, by omega⟩ rfl ?_
      refine w_bipush (x := Int32.ofNat 122) rfl rfl (by decide) ?_
      refine w_ic_gt (t := 34) (f := 30) rfl rfl rfl (fun c27 => ?_) (fun c27 => ?_)
      · refine w_iconst (x := Int32.ofNat 0) rfl rfl (by decide) ?_
        exact w_bret rfl (by decide) (by first | exact (if_neg (am_q5a c5)).symm | exact (if_neg (am_q5b c16)).symm | exact (if_neg (am_q5c c27)).symm | exact (if_pos (And.intro (Nat.lt_of_not_le c5) (And.intro c16 c27))).symm) rfl rfl rfl
      · refine w_iconst (x := Int32.ofNat 1) rfl rfl (by decide) ?_
        refine w_goto (pc' := 35) rfl rfl ?_
        exact w_bret rfl (by decide) (by first | exact (if_neg (am_q5a c5)).symm | exact (if_neg (am_q5b c16)).symm | exact (if_neg (am_q5c c27)).symm | exact (if_pos (And.intro (Nat.lt_of_not_le c5) (And.intro c16 c27))).symm) rfl rfl rfl
def dgP (f : Nat → Int32) (st i : Nat) : Prop := i < st ∧ ¬ f i < Int32.ofNat 48 ∧ ¬ Int32.ofNat 57 < f i
def dgPD (f : Nat → Int32) (st i : Nat) : Decidable (dgP f st i) := inferInstanceAs (Decidable (_ ∧ _))
theorem c_isDigit {k : Nat} {I : hI} {J : hJ} {R : hR} {st i : Nat} (h6 : I 110 6 = Int32.ofNat st) (hs : st ≤ 700) (hi : i ≤ 1000) (hk : 1 ≤ k) : ct k 173 [.ref 110, .int (Int32.ofNat i)] I J R (some (.int (@ite _ (dgP (I 111) st i) (dgPD (I 111) st i) 1 0))) I J R := by
  obtain ⟨k, rfl⟩ : ∃ k', k = k' + 1 := ⟨k - 1, by omega⟩
  refine ct_of (q := am_m173) (L := [_, _]) rfl rfl rfl rfl rfl rfl ?_
  refine w_iload_n rfl rfl rfl ?_
  refine w_aload_n rfl rfl rfl ?_
  refine w_gf (t := .int 0) (v := .int _) rfl rfl rfl sp110 rfl (congrArg Value.int h6) rfl ?_
  refine w_ic_geN (t := 34) (f := 8) rfl rfl rfl (by omega) (by omega) (fun c5 => ?_) (fun c5 => ?_)
  · refine w_iconst (x := Int32.ofNat 0) rfl rfl (by decide) ?_
    exact w_bret rfl (by decide) (by first | exact (if_neg (am_q5a c5)).symm | exact (if_neg (am_q5b c16)).symm | exact (if_neg (am_q5c c27)).symm | exact (if_pos (And.intro (Nat.lt_of_not_le c5) (And.intro c16 c27))).symm) rfl rfl rfl
  · refine w_aload_n rfl rfl rfl ?_
    refine w_gf (t := .ref (111)) (v := .ref (111)) rfl rfl rfl sp110 rfl rfl rfl ?_
    refine w_iload_n rfl rfl rfl ?_
    refine w_iaload rfl rfl sp111 rfl ⟨by omega, by omega⟩ rfl ?_
    refine w_bipush (x := Int32.ofNat 48) rfl rfl (by decide) ?_
    refine w_ic_lt (t := 34) (f := 19) rfl rfl rfl (fun c16 => ?_) (fun c16 => ?_)
    · refine w_iconst (x := Int32.ofNat 0) rfl rfl (by decide) ?_
      exact w_bret rfl (by decide) (by first | exact (if_neg (am_q5a c5)).symm | exact (if_neg (am_q5b c16)).symm | exact (if_neg (am_q5c c27)).symm | exact (if_pos (And.intro (Nat.lt_of_not_le c5) (And.intro c16 c27))).symm) rfl rfl rfl
    · refine w_aload_n rfl rfl rfl ?_
      refine w_gf (t := .ref (111)) (v := .ref (111)) rfl rfl rfl sp110 rfl rfl rfl ?_
      refine w_iload_n rfl rfl rfl ?_
      refine w_iaload rfl rfl sp111 rfl ⟨by omega, by omega⟩ rfl ?_
      refine w_bipush (x := Int32.ofNat 57) rfl rfl (by decide) ?_
      refine w_ic_gt (t := 34) (f := 30) rfl rfl rfl (fun c27 => ?_) (fun c27 => ?_)
      · refine w_iconst (x := Int32.ofNat 0) rfl rfl (by decide) ?_
        exact w_bret rfl (by decide) (by first | exact (if_neg (am_q5a c5)).symm | exact (if_neg (am_q5b c16)).symm | exact (if_neg (am_q5c c27)).symm | exact (if_pos (And.intro (Nat.lt_of_not_le c5) (And.intro c16 c27))).symm) rfl rfl rfl
      · refine w_iconst (x := Int32.ofNat 1) rfl rfl (by decide) ?_
        refine w_goto (pc' := 35) rfl rfl ?_
        exact w_bret rfl (by decide) (by first | exact (if_neg (am_q5a c5)).symm | exact (if_neg (am_q5b c16)).symm | exact (if_neg (am_q5c c27)).symm | exact (if_pos (And.intro (Nat.lt_of_not_le c5) (And.intro c16 c27))).symm) rfl rfl rfl
def m_pk (f : Nat → Int32) (a b : Nat) (r : Nat) : Int32 := s_for (fun r n => (n <<< (Int32.ofNat 5 &&& 31)) ||| (if b ≤ a + r then Int32.ofNat 0 else f (a + r) - Int32.ofNat 96)) r (Int32.ofNat 0)
theorem m_pk_s (f : Nat → Int32) (a b r : Nat) : m_pk f a b (r + 1) = (m_pk f a b r <<< (Int32.ofNat 5 &&& 31)) ||| (if b ≤ a + r then Int32.ofNat 0 else f (a + r) - Int32.ofNat 96) := rfl
theorem l_packed {k : Nat} {I : hI} {J : hJ} {R : hR} {q : Option Value × am_H} {a b : Nat} (ha : a ≤ 700) (hb : b ≤ 700) (Z : wz k 12 (some .int) am_c176 45 [.ref 110, .int (Int32.ofNat a), .int (Int32.ofNat b), .int (m_pk (I 111) a b 6), .int (Int32.ofNat (a + 6))] [] I J R q) : ∀ (j r : Nat) , r + j = 6 → wz k 12 (some .int) am_c176 5 [.ref 110, .int (Int32.ofNat a), .int (Int32.ofNat b), .int (m_pk (I 111) a b r), .int (Int32.ofNat (a + r))] [] I J R q := by
  intro j
  induction j with
  | zero =>
    intro r e
    obtain rfl : 6 = r := by omega
    refine w_iload rfl rfl rfl ?_
    refine w_iload_n rfl rfl rfl ?_
    refine w_bipush (x := Int32.ofNat 6) rfl rfl (by decide) ?_
    refine w_iaddN rfl rfl ?_
    refine w_ic_geN (t := 45) (f := 14) rfl rfl rfl (by omega) (by omega) (fun c11 => ?_) (fun c11 => absurd c11 (by omega))
    exact Z
  | succ j ih =>
    intro r e
    refine w_iload rfl rfl rfl ?_
    refine w_iload_n rfl rfl rfl ?_
    refine w_bipush (x := Int32.ofNat 6) rfl rfl (by decide) ?_
    refine w_iaddN rfl rfl ?_
    refine w_ic_geN (t := 45) (f := 14) rfl rfl rfl (by omega) (by omega) (fun c11 => absurd c11 (by omega)) (fun c11 => ?_)
    refine w_iload_n rfl rfl rfl ?_
    refine w_iconst (x := Int32.ofNat 5) rfl rfl (by decide) ?_
    refine w_ishl rfl rfl ?_
    refine w_iload rfl rfl rfl ?_
    refine w_iload_n rfl rfl rfl ?_
    refine w_ic_geN (t := 36) (f := 23) rfl rfl rfl (by omega) (by omega) (fun c20 => ?_) (fun c20 => ?_)
    · refine w_iconst (x := Int32.ofNat 0) rfl rfl (by decide) ?_
      refine w_ior rfl rfl ?_
      refine w_istore_n (L' := [_, _, _, _, _]) rfl rfl rfl ?_
      refine w_iinc (L' := [_, _, _, _, _]) rfl rfl rfl (am_incN 1) rfl ?_
      refine w_goto (pc' := 5) rfl rfl ?_
      exact wz_L (ih (r + 1) (by omega)) (by rw [m_pk_s]; first | (rw [if_pos c20]; rfl) | (rw [if_neg c20]; rfl))
    · refine w_aload_n rfl rfl rfl ?_
      refine w_gf (t := .ref (111)) (v := .ref (111)) rfl rfl rfl sp110 rfl rfl rfl ?_
      refine w_iload rfl rfl rfl ?_
      refine w_iaload rfl rfl sp111 rfl ⟨by omega, by omega⟩ rfl ?_
      refine w_bipush (x := Int32.ofNat 96) rfl rfl (by decide) ?_
      refine w_isub rfl rfl ?_
      refine w_goto (pc' := 37) rfl rfl ?_
      refine w_ior rfl rfl ?_
      refine w_istore_n (L' := [_, _, _, _, _]) rfl rfl rfl ?_
      refine w_iinc (L' := [_, _, _, _, _]) rfl rfl rfl (am_incN 1) rfl ?_
      refine w_goto (pc' := 5) rfl rfl ?_
      exact wz_L (ih (r + 1) (by omega)) (by rw [m_pk_s]; first | (rw [if_pos c20]; rfl) | (rw [if_neg c20]; rfl))
theorem c_packed {k : Nat} {I : hI} {J : hJ} {R : hR} {a b : Nat} (ha : a ≤ 700) (hb : b ≤ 700) (hk : 1 ≤ k) : ct k 176 [.ref 110, .int (Int32.ofNat a), .int (Int32.ofNat b)] I J R (some (.int (m_pk (I 111) a b 6))) I J R := by
  obtain ⟨k, rfl⟩ : ∃ k', k = k' + 1 := ⟨k - 1, by omega⟩
  refine ct_of (q := am_m176) (L := [_, _, _, _, _]) rfl rfl rfl rfl rfl rfl ?_
  refine w_iconst (x := Int32.ofNat 0) rfl rfl (by decide) ?_
  refine w_istore_n (L' := [_, _, _, _, _]) rfl rfl rfl ?_
  refine w_iload_n rfl rfl rfl ?_
  refine w_istore (L' := [_, _, _, _, _]) rfl rfl rfl ?_
  refine l_packed ha hb ?_ 6 0 (by omega)
  refine w_iload_n rfl rfl rfl ?_
  exact w_iret rfl rfl rfl rfl rfl
/-- the word k stands there -/
def wmP (f : Nat → Int32) (a b k : Nat) : Prop := lT k = b - a ∧ ∀ i, i < lT k → Int32.ofNat (wd (fT k + i)) = f (a + i)
def wmD (f : Nat → Int32) (a b k : Nat) : Decidable (wmP f a b k) := inferInstanceAs (Decidable (_ ∧ _))
def m_wd (f : Nat → Int32) (a b : Nat) : Nat → Nat → Int32
  | 0, _ => Int32.ofInt (-1)
  | j + 1, k => @ite _ (wmP f a b k) (wmD f a b k) (Int32.ofNat k) (m_wd f a b j (k + 1))
theorem m_wd_s (f : Nat → Int32) (a b j k : Nat) : m_wd f a b (j + 1) k = @ite _ (wmP f a b k) (wmD f a b k) (Int32.ofNat k) (m_wd f a b j (k + 1)) := rfl
theorem l_word1 {k : Nat} {I : hI} {J : hJ} {R : hR} {q : Option Value × am_H} {a b w n : Nat} {u v : Value} (hW : ∀ i, i < 106 → I 112 i = Int32.ofNat (wd i)) (hw : w < 21) (hl : lT w = n) (Z : wz k 12 (some .int) am_c171 39 [.ref 110, .int (Int32.ofNat a), .int (Int32.ofNat b), .int (Int32.ofNat w), .int (Int32.ofNat (fT w)), .int (Int32.ofNat n), u, v] [] I J R q) : ∀ (j r : Nat) , r + j = n → wz k 12 (some .int) am_c171 18 [.ref 110, .int (Int32.ofNat a), .int (Int32.ofNat b), .int (Int32.ofNat w), .int (Int32.ofNat (fT w)), .int (Int32.ofNat r), u, v] [] I J R q := by
  intro j
  induction j with
  | zero =>
    intro r e
    obtain rfl : n = r := by omega
    obtain ⟨w1, w2, w3, w4⟩ := wd_f ⟨w, hw⟩
    dsimp only at w1 w2 w3 w4
    rw [hl] at w1 w2 w3 w4
    have w6 := wd_s ⟨fT w + n, by omega⟩
    dsimp only at w6
    have w5 : n < n → ¬ wd (fT w + n) = 32 := fun h => wd_n ⟨w, hw⟩ ⟨n, by omega⟩ (by rw [hl]; exact h)
    refine w_aload_n rfl rfl rfl ?_
    refine w_gf (t := .ref (112)) (v := .ref (112)) rfl rfl rfl sp110 rfl rfl rfl ?_
    refine w_iload rfl rfl rfl ?_
    refine w_iload rfl rfl rfl ?_
    refine w_iaddN rfl rfl ?_
    refine w_iaload rfl rfl sp112 rfl ⟨by omega, by omega⟩ (hW _ (by omega)) ?_
    refine w_bipush (x := Int32.ofNat 32) rfl rfl (by decide) ?_
    refine w_ic_eqN (t := 39) (f := 33) rfl rfl rfl (by omega) (by omega) (fun c30 => ?_) (fun c30 => absurd c30 (by omega))
    exact Z
  | succ j ih =>
    intro r e
    obtain ⟨w1, w2, w3, w4⟩ := wd_f ⟨w, hw⟩
    dsimp only at w1 w2 w3 w4
    rw [hl] at w1 w2 w3 w4
    have w6 := wd_s ⟨fT w + r, by omega⟩
    dsimp only at w6
    have w5 : r < n → ¬ wd (fT w + r) = 32 := fun h => wd_n ⟨w, hw⟩ ⟨r, by omega⟩ (by rw [hl]; exact h)
    refine w_aload_n rfl rfl rfl ?_
    refine w_gf (t := .ref (112)) (v := .ref (112)) rfl rfl rfl sp110 rfl rfl rfl ?_
    refine w_iload rfl rfl rfl ?_
    refine w_iload rfl rfl rfl ?_
    refine w_iaddN rfl rfl ?_
    refine w_iaload rfl rfl sp112 rfl ⟨by omega, by omega⟩ (hW _ (by omega)) ?_
    refine w_bipush (x := Int32.ofNat 32) rfl rfl (by decide) ?_
    refine w_ic_eqN (t := 39) (f := 33) rfl rfl rfl (by omega) (by omega) (fun c30 => absurd c30 (by omega)) (fun c30 => ?_)
    refine w_iinc (L' := [_, _, _, _, _, _, _, _]) rfl rfl rfl (am_incN 1) rfl ?_
    refine w_goto (pc' := 18) rfl rfl ?_
    exact ih (r + 1) (by omega)
/-- the signs of the word k are alike up to i -/
def wmQ (f : Nat → Int32) (a k i : Nat) : Prop := ∀ j, j < i → Int32.ofNat (wd (fT k + j)) = f (a + j)
theorem wmQ_s {f : Nat → Int32} {a k r : Nat} (Q : wmQ f a k r) (h : Int32.ofNat (wd (fT k + r)) = f (a + r)) : wmQ f a k (r + 1) := by
  intro j hj
  by_cases e : j = r
  · subst e; exact h
  · exact Q j (by omega)
theorem wmQ_n {f : Nat → Int32} {a k r n : Nat} (hr : r < n) (h : ¬ Int32.ofNat (wd (fT k + r)) = f (a + r)) : ¬ wmQ f a k n := fun Q => h (Q r hr)
theorem l_word0 {k : Nat} {I : hI} {J : hJ} {R : hR} {q : Option Value × am_H} {a b w n i : Nat} (hi : i ≤ 10) (hn : n ≤ 10) (Z : wz k 12 (some .int) am_c171 104 [.ref 110, .int (Int32.ofNat a), .int (Int32.ofNat b), .int (Int32.ofNat w), .int (Int32.ofNat (fT w)), .int (Int32.ofNat n), .int (Int32.ofNat 0), .int (Int32.ofNat i)] [] I J R q) : wz k 12 (some .int) am_c171 57 [.ref 110, .int (Int32.ofNat a), .int (Int32.ofNat b), .int (Int32.ofNat w), .int (Int32.ofNat (fT w)), .int (Int32.ofNat n), .int (Int32.ofNat 0), .int (Int32.ofNat i)] [] I J R q := by
  refine w_iload rfl rfl rfl ?_
  refine w_iload rfl rfl rfl ?_
  refine w_ic_geN (t := 104) (f := 64) rfl rfl rfl (by omega) (by omega) (fun c61 => ?_) (fun c61 => ?_)
  · exact Z
  · refine w_iload rfl rfl rfl ?_
    refine w_if_eq (t := 104) (f := 69) rfl rfl rfl (fun c66 => ?_) (fun c66 => absurd c66 (by decide))
    clear c66
    exact Z
theorem l_word2 {k : Nat} {I : hI} {J : hJ} {R : hR} {q : Option Value × am_H} {a b w n : Nat} (hW : ∀ i, i < 106 → I 112 i = Int32.ofNat (wd i)) (hw : w < 21) (hl : lT w = n) (ha : a + n ≤ 700) (Z1 : wmQ (I 111) a w n → ∀ i, wz k 12 (some .int) am_c171 104 [.ref 110, .int (Int32.ofNat a), .int (Int32.ofNat b), .int (Int32.ofNat w), .int (Int32.ofNat (fT w)), .int (Int32.ofNat n), .int (Int32.ofNat 1), .int (Int32.ofNat i)] [] I J R q) (Z0 : ¬ wmQ (I 111) a w n → ∀ i, wz k 12 (some .int) am_c171 104 [.ref 110, .int (Int32.ofNat a), .int (Int32.ofNat b), .int (Int32.ofNat w), .int (Int32.ofNat (fT w)), .int (Int32.ofNat n), .int (Int32.ofNat 0), .int (Int32.ofNat i)] [] I J R q) : ∀ (j r : Nat), r + j = n → wmQ (I 111) a w r → wz k 12 (some .int) am_c171 57 [.ref 110, .int (Int32.ofNat a), .int (Int32.ofNat b), .int (Int32.ofNat w), .int (Int32.ofNat (fT w)), .int (Int32.ofNat n), .int (Int32.ofNat 1), .int (Int32.ofNat r)] [] I J R q := by
  obtain ⟨w1, w2, w3, w4⟩ := wd_f ⟨w, hw⟩
  dsimp only at w1 w2 w3 w4
  rw [hl] at w1 w2 w3 w4
  intro j
  induction j with
  | zero =>
    intro r e Q
    obtain rfl : n = r := by omega
    refine w_iload rfl rfl rfl ?_
    refine w_iload rfl rfl rfl ?_
    refine w_ic_geN (t := 104) (f := 64) rfl rfl rfl (by omega) (by omega) (fun c61 => ?_) (fun c61 => absurd c61 (by omega))
    exact Z1 Q _
  | succ j ih =>
    intro r e Q
    refine w_iload rfl rfl rfl ?_
    refine w_iload rfl rfl rfl ?_
    refine w_ic_geN (t := 104) (f := 64) rfl rfl rfl (by omega) (by omega) (fun c61 => absurd c61 (by omega)) (fun c61 => ?_)
    refine w_iload rfl rfl rfl ?_
    refine w_if_eq (t := 104) (f := 69) rfl rfl rfl (fun c66 => absurd c66 (by decide)) (fun c66 => ?_)
    clear c66
    refine w_aload_n rfl rfl rfl ?_
    refine w_gf (t := .ref (112)) (v := .ref (112)) rfl rfl rfl sp110 rfl rfl rfl ?_
    refine w_iload rfl rfl rfl ?_
    refine w_iload rfl rfl rfl ?_
    refine w_iaddN rfl rfl ?_
    refine w_iaload rfl rfl sp112 rfl ⟨by omega, by omega⟩ (hW _ (by omega)) ?_
    refine w_aload_n rfl rfl rfl ?_
    refine w_gf (t := .ref (111)) (v := .ref (111)) rfl rfl rfl sp110 rfl rfl rfl ?_
    refine w_iload_n rfl rfl rfl ?_
    refine w_iload rfl rfl rfl ?_
    refine w_iaddN rfl rfl ?_
    refine w_iaload rfl rfl sp111 rfl ⟨by omega, by omega⟩ rfl ?_
    refine w_ic_ne (t := 95) (f := 91) rfl rfl rfl (fun c88 => ?_) (fun c88 => ?_)
    · refine w_iconst (x := Int32.ofNat 0) rfl rfl (by decide) ?_
      refine w_istore (L' := [_, _, _, _, _, _, _, _]) rfl rfl rfl ?_
      refine w_iinc (L' := [_, _, _, _, _, _, _, _]) rfl rfl rfl (am_incN 1) rfl ?_
      refine w_goto (pc' := 57) rfl rfl ?_
      first | exact ih (r + 1) (by omega) (wmQ_s Q c88) | exact l_word0 (by omega) (by omega) (Z0 (wmQ_n (by omega) c88) _)
    · refine w_iconst (x := Int32.ofNat 1) rfl rfl (by decide) ?_
      refine w_goto (pc' := 96) rfl rfl ?_
      refine w_istore (L' := [_, _, _, _, _, _, _, _]) rfl rfl rfl ?_
      refine w_iinc (L' := [_, _, _, _, _, _, _, _]) rfl rfl rfl (am_incN 1) rfl ?_
      refine w_goto (pc' := 57) rfl rfl ?_
      first | exact ih (r + 1) (by omega) (wmQ_s Q c88) | exact l_word0 (by omega) (by omega) (Z0 (wmQ_n (by omega) c88) _)
theorem l_word {k : Nat} {I : hI} {J : hJ} {R : hR} {a b : Nat} (hW : ∀ i, i < 106 → I 112 i = Int32.ofNat (wd i)) (hab : a ≤ b) (hb : b ≤ 700) : ∀ (j w : Nat) (u v x : Value), w + j = 21 → wz k 12 (some .int) am_c171 5 [.ref 110, .int (Int32.ofNat a), .int (Int32.ofNat b), .int (Int32.ofNat w), .int (Int32.ofNat (fT w)), u, v, x] [] I J R (some (.int (m_wd (I 111) a b j w)), am_hp I J R) := by
  intro j
  induction j with
  | zero =>
    intro w u v x e
    obtain rfl : 21 = w := by omega
    have h9 : fT 21 = 106 := rfl
    refine w_iload rfl rfl rfl ?_
    refine w_aload_n rfl rfl rfl ?_
    refine w_gf (t := .ref (112)) (v := .ref (112)) rfl rfl rfl sp110 rfl rfl rfl ?_
    refine w_alen rfl rfl sp112 (by decide) ?_
    refine w_ic_geN (t := 126) (f := 15) rfl rfl rfl (by omega) (by omega) (fun c12 => ?_) (fun c12 => absurd c12 (by omega))
    refine w_iconst (x := Int32.ofInt (-1)) rfl rfl (by decide) ?_
    exact w_iret rfl rfl rfl rfl rfl
  | succ j ih =>
    intro w u v x e
    have hw : w < 21 := by omega
    obtain ⟨w1, w2, w3, w4⟩ := wd_f ⟨w, hw⟩
    dsimp only at w1 w2 w3 w4
    rw [m_wd_s]
    refine w_iload rfl rfl rfl ?_
    refine w_aload_n rfl rfl rfl ?_
    refine w_gf (t := .ref (112)) (v := .ref (112)) rfl rfl rfl sp110 rfl rfl rfl ?_
    refine w_alen rfl rfl sp112 (by decide) ?_
    refine w_ic_geN (t := 126) (f := 15) rfl rfl rfl (by omega) (by omega) (fun c12 => absurd c12 (by omega)) (fun c12 => ?_)
    refine w_iconst (x := Int32.ofNat 0) rfl rfl (by decide) ?_
    refine w_istore (L' := [_, _, _, _, _, _, _, _]) rfl rfl rfl ?_
    refine l_word1 hW hw rfl ?_ (lT w) 0 (by omega)
    refine w_iload rfl rfl rfl ?_
    refine w_iload_n rfl rfl rfl ?_
    refine w_iload_n rfl rfl rfl ?_
    refine w_isubN rfl rfl hab ?_
    refine w_ic_neN (t := 51) (f := 47) rfl rfl rfl (by omega) (by omega) (fun c44 => ?_) (fun c44 => ?_)
    · refine w_iconst (x := Int32.ofNat 0) rfl rfl (by decide) ?_
      refine w_istore (L' := [_, _, _, _, _, _, _, _]) rfl rfl rfl ?_
      refine w_iconst (x := Int32.ofNat 0) rfl rfl (by decide) ?_
      refine w_istore (L' := [_, _, _, _, _, _, _, _]) rfl rfl rfl ?_
      refine l_word0 (by omega) (by omega) ?_
      refine w_iload rfl rfl rfl ?_
      refine w_if_eq (t := 111) (f := 109) rfl rfl rfl (fun c106 => ?_) (fun c106 => absurd c106 (by decide))
      clear c106
      refine w_iload rfl rfl rfl ?_
      refine w_iload rfl rfl rfl ?_
      refine w_iconst (x := Int32.ofNat 1) rfl rfl (by decide) ?_
      refine w_iaddN rfl rfl ?_
      refine w_iaddN rfl rfl ?_
      refine w_istore (L' := [_, _, _, _, _, _, _, _]) rfl rfl rfl ?_
      refine w_iinc (L' := [_, _, _, _, _, _, _, _]) rfl rfl rfl (am_incN 1) rfl ?_
      refine w_goto (pc' := 5) rfl rfl ?_
      first | rw [if_neg (show ¬ wmP (I 111) a b w from fun z => c44 z.1)] | rw [if_neg (show ¬ wmP (I 111) a b w from fun z => Q z.2)]
      exact wz_L (ih (w + 1) _ _ _ (by omega)) (by rw [w2])
    · refine w_iconst (x := Int32.ofNat 1) rfl rfl (by decide) ?_
      refine w_goto (pc' := 52) rfl rfl ?_
      refine w_istore (L' := [_, _, _, _, _, _, _, _]) rfl rfl rfl ?_
      refine w_iconst (x := Int32.ofNat 0) rfl rfl (by decide) ?_
      refine w_istore (L' := [_, _, _, _, _, _, _, _]) rfl rfl rfl ?_
      refine l_word2 hW hw rfl (by omega) (fun Q i => ?_) (fun Q i => ?_) (lT w) 0 (by omega) (fun j hj => absurd hj (by omega))
      · refine w_iload rfl rfl rfl ?_
        refine w_if_eq (t := 111) (f := 109) rfl rfl rfl (fun c106 => absurd c106 (by decide)) (fun c106 => ?_)
        clear c106
        refine w_iload_n rfl rfl rfl ?_
        exact w_iret rfl (by rw [if_pos (show wmP (I 111) a b w from And.intro c44 Q)]) rfl rfl rfl
      · refine w_iload rfl rfl rfl ?_
        refine w_if_eq (t := 111) (f := 109) rfl rfl rfl (fun c106 => ?_) (fun c106 => absurd c106 (by decide))
        clear c106
        refine w_iload rfl rfl rfl ?_
        refine w_iload rfl rfl rfl ?_
        refine w_iconst (x := Int32.ofNat 1) rfl rfl (by decide) ?_
        refine w_iaddN rfl rfl ?_
        refine w_iaddN rfl rfl ?_
        refine w_istore (L' := [_, _, _, _, _, _, _, _]) rfl rfl rfl ?_
        refine w_iinc (L' := [_, _, _, _, _, _, _, _]) rfl rfl rfl (am_incN 1) rfl ?_
        refine w_goto (pc' := 5) rfl rfl ?_
        first | rw [if_neg (show ¬ wmP (I 111) a b w from fun z => c44 z.1)] | rw [if_neg (show ¬ wmP (I 111) a b w from fun z => Q z.2)]
        exact wz_L (ih (w + 1) _ _ _ (by omega)) (by rw [w2])
theorem c_wordAt {k : Nat} {I : hI} {J : hJ} {R : hR} {a b : Nat} (hW : ∀ i, i < 106 → I 112 i = Int32.ofNat (wd i)) (hab : a ≤ b) (hb : b ≤ 700) (hk : 1 ≤ k) : ct k 171 [.ref 110, .int (Int32.ofNat a), .int (Int32.ofNat b)] I J R (some (.int (m_wd (I 111) a b 21 0))) I J R := by
  obtain ⟨k, rfl⟩ : ∃ k', k = k' + 1 := ⟨k - 1, by omega⟩
  refine ct_of (q := am_m171) (L := [_, _, _, _, _, _, _, _]) rfl rfl rfl rfl rfl rfl ?_
  refine w_iconst (x := Int32.ofNat 0) rfl rfl (by decide) ?_
  refine w_istore_n (L' := [_, _, _, _, _, _, _, _]) rfl rfl rfl ?_
  refine w_iconst (x := Int32.ofNat 0) rfl rfl (by decide) ?_
  refine w_istore (L' := [_, _, _, _, _, _, _, _]) rfl rfl rfl ?_
  exact l_word hW hab hb 21 0 _ _ _ (by omega)
