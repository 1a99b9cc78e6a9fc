/-! The class: how days go by, piece by piece. -/
theorem d_isWanted {k : Nat} {I : hI} {J : hJ} {R : hR} {x : Int32} (hk : 1 ≤ k) : ct k 17 [.ref 84, .int x] I J R (some (.int (if I 84 8 = Int32.ofInt (-1) ∨ I 84 8 = x then 1 else 0))) I J R := by
  obtain ⟨k, rfl⟩ : ∃ k', k = k' + 1 := ⟨k - 1, by omega⟩
  refine ct_of (q := am_m17) (o := 2) (rt := (some .boolean)) (co := am_c17) (L := [_, _]) rfl rfl rfl rfl rfl rfl ?_
  refine w_aload_n rfl rfl rfl ?_
  refine w_gf (t := .int 0) (v := .int _) rfl rfl rfl sp84 rfl (congrArg Value.int rfl) rfl ?_
  refine w_iconst (x := Int32.ofInt (-1)) rfl rfl (by decide) ?_
  refine w_ic_eq (t := 16) (f := 8) rfl rfl rfl (fun c5 => ?_) (fun c5 => ?_)
  · refine w_iconst (x := Int32.ofNat 1) rfl rfl (by decide) ?_
    refine w_goto (pc' := 21) rfl rfl ?_
    exact w_bret rfl (by decide) (by simp only [*, ite_true, ite_false, and_self, and_true, true_and, and_false, false_and, or_true, true_or, or_false, false_or, not_true, not_false_iff] <;> rfl) rfl rfl rfl
  · refine w_aload_n rfl rfl rfl ?_
    refine w_gf (t := .int 0) (v := .int _) rfl rfl rfl sp84 rfl (congrArg Value.int rfl) rfl ?_
    refine w_iload_n rfl rfl rfl ?_
    refine w_ic_ne (t := 20) (f := 16) rfl rfl rfl (fun c13 => ?_) (fun c13 => ?_)
    · refine w_iconst (x := Int32.ofNat 0) rfl rfl (by decide) ?_
      exact w_bret rfl (by decide) (by simp only [*, ite_true, ite_false, and_self, and_true, true_and, and_false, false_and, or_true, true_or, or_false, false_or, not_true, not_false_iff] <;> rfl) rfl rfl rfl
    · refine w_iconst (x := Int32.ofNat 1) rfl rfl (by decide) ?_
      refine w_goto (pc' := 21) rfl rfl ?_
      exact w_bret rfl (by decide) (by simp only [*, ite_true, ite_false, and_self, and_true, true_and, and_false, false_and, or_true, true_or, or_false, false_or, not_true, not_false_iff] <;> rfl) rfl rfl rfl
def k_even (I : hI) (T m : Nat) : Int32 := if I 84 10 = 0 then (if Int32.ofNat m = I 84 11 then I 84 12 else I (T + 4) m) else Int32.ofNat 9
theorem d_even {k : Nat} {I : hI} {J : hJ} {R : hR} {T : Nat} (hT : T = 9 ∨ T = 36) (hD : R 84 3 = T) {m : Nat} (hm : m < 6) (hk : 1 ≤ k) : ct k 29 [.ref 84, .int (Int32.ofNat m)] I J R (some (.int (k_even I T m))) I J R := by
  obtain ⟨k, rfl⟩ : ∃ k', k = k' + 1 := ⟨k - 1, by omega⟩
  refine ct_of (q := am_m29) (o := 2) (rt := (some .int)) (co := am_c29) (L := [_, _]) rfl rfl rfl rfl rfl rfl ?_
  refine w_aload_n rfl rfl rfl ?_
  refine w_gf (t := .int 0) (v := .int _) rfl rfl rfl sp84 rfl (congrArg Value.int rfl) rfl ?_
  refine w_if_eq (t := 10) (f := 7) rfl rfl rfl (fun c4 => ?_) (fun c4 => ?_)
  · refine w_iload_n rfl rfl rfl ?_
    refine w_aload_n rfl rfl rfl ?_
    refine w_gf (t := .int 0) (v := .int _) rfl rfl rfl sp84 rfl (congrArg Value.int rfl) rfl ?_
    refine w_ic_ne (t := 25) (f := 18) rfl rfl rfl (fun c15 => ?_) (fun c15 => ?_)
    · refine w_aload_n rfl rfl rfl ?_
      refine w_gf (t := .retAddr 0) (v := .ref (T)) rfl rfl rfl sp84 rfl (congrArg Value.ref hD) rfl ?_
      refine w_gf (t := .ref (T + 4)) (v := .ref (T + 4)) rfl rfl rfl (shT_0 hT) rfl rfl rfl ?_
      refine w_iload_n rfl rfl rfl ?_
      refine w_iaload rfl rfl (shT_4 hT) rfl ⟨by omega, by omega⟩ rfl ?_
      exact w_iret rfl (by simp only [k_even, *, ite_true, ite_false, and_self, and_true, true_and, and_false, false_and, or_true, true_or, or_false, false_or, not_true, not_false_iff] <;> rfl) rfl rfl rfl
    · refine w_aload_n rfl rfl rfl ?_
      refine w_gf (t := .int 0) (v := .int _) rfl rfl rfl sp84 rfl (congrArg Value.int rfl) rfl ?_
      refine w_goto (pc' := 34) rfl rfl ?_
      exact w_iret rfl (by simp only [k_even, *, ite_true, ite_false, and_self, and_true, true_and, and_false, false_and, or_true, true_or, or_false, false_or, not_true, not_false_iff] <;> rfl) rfl rfl rfl
  · refine w_bipush (x := Int32.ofNat 9) rfl rfl (by decide) ?_
    exact w_iret rfl (by simp only [k_even, *, ite_true, ite_false, and_self, and_true, true_and, and_false, false_and, or_true, true_or, or_false, false_or, not_true, not_false_iff] <;> rfl) rfl rfl rfl
def k_cut (v : Int64) (mo pl : Int32) : Int32 := if v = k_er then pl else (if (if mo.toInt64 < v then mo.toInt64 else v) < 0 then 0 else (if mo.toInt64 < v then mo.toInt64 else v)).toInt32
theorem d_cut {k : Nat} {I : hI} {J : hJ} {R : hR} {v : Int64} {mo pl : Int32} (hk : 1 ≤ k) : ct k 24 [.long v, .int mo, .int pl] I J R (some (.int (k_cut v mo pl))) I J R := by
  obtain ⟨k, rfl⟩ : ∃ k', k = k' + 1 := ⟨k - 1, by omega⟩
  refine ct_of (q := am_m24) (o := 2) (rt := (some .int)) (co := am_c24) (L := [_, _, _, _]) rfl rfl rfl rfl rfl rfl ?_
  refine w_lload_n rfl rfl rfl ?_
  refine w_ldc2_w rfl rfl rfl ?_
  refine w_lc_ne (t := 10) (f := 8) (p1 := 5) rfl rfl rfl rfl rfl (fun c5 => ?_) (fun c5 => ?_)
  · refine w_lconst (x := 0) rfl rfl (by decide) ?_
    refine w_lload_n rfl rfl rfl ?_
    refine w_iload_n rfl rfl rfl ?_
    refine w_i2l rfl rfl ?_
    refine w_minL rfl rfl rfl rfl ?_
    refine w_maxL rfl rfl rfl rfl ?_
    refine w_l2i rfl rfl ?_
    exact w_iret rfl (by unfold k_cut k_er; first | exact (if_pos c5).symm | exact (if_neg c5).symm) rfl rfl rfl
  · refine w_iload_n rfl rfl rfl ?_
    exact w_iret rfl (by unfold k_cut k_er; first | exact (if_pos c5).symm | exact (if_neg c5).symm) rfl rfl rfl
def k_m0 (n : Nat) (I : hI) : hI := s_for (fun r I => am_u I 87 r (Int32.ofNat 0)) n I
def k_m1 (T S : Nat) (x : Int32) (n : Nat) (I : hI) : hI := s_for (fun r I => if I (S + 3) r = x then (if I (S + 1) r = Int32.ofNat 1 then am_u I 87 (nn (I (T + 3) (nn (I (T + 7) r)))) (I 87 (nn (I (T + 3) (nn (I (T + 7) r)))) + I (T + 8) r) else I) else I) n I
theorem k_m1_s (T S : Nat) (x : Int32) (n : Nat) (I : hI) : k_m1 T S x (n + 1) I = if k_m1 T S x n I (S + 3) n = x then (if k_m1 T S x n I (S + 1) n = Int32.ofNat 1 then am_u (k_m1 T S x n I) 87 (nn (k_m1 T S x n I (T + 3) (nn (k_m1 T S x n I (T + 7) n)))) (k_m1 T S x n I 87 (nn (k_m1 T S x n I (T + 3) (nn (k_m1 T S x n I (T + 7) n)))) + k_m1 T S x n I (T + 8) n) else k_m1 T S x n I) else k_m1 T S x n I := rfl
theorem k_m0_ne {n a : Nat} {I : hI} (h : a ≠ 87) : k_m0 n I a = I a := by
  induction n with
  | zero => rfl
  | succ n ih => exact (am_u_ne h).trans ih
theorem k_m1_ne {T S n a : Nat} {x : Int32} {I : hI} (h : a ≠ 87) : k_m1 T S x n I a = I a := by
  induction n with
  | zero => rfl
  | succ n ih =>
    rw [k_m1_s]
    repeat' split
    · exact (am_u_ne h).trans ih
    · exact ih
    · exact ih
def k_m2 (I : hI) (n : Nat) : Nat := s_for (fun r m => if I 87 m < I 87 (r + 1) then r + 1 else m) n 0
theorem k_m2_s (I : hI) (n : Nat) : k_m2 I (n + 1) = if I 87 (k_m2 I n) < I 87 (n + 1) then n + 1 else k_m2 I n := rfl
theorem k_m2_le (I : hI) (n : Nat) : k_m2 I n ≤ n := by
  induction n with
  | zero => exact Nat.le_refl _
  | succ n ih => rw [k_m2_s]; split <;> omega
theorem l_mood0 {k : Nat} {R : hR} {q : Option Value × am_H} {T S : Nat} {x : Int32} {I0 : hI} {J0 : hJ} (Z : wz k 2 (some .int) am_c30 24 [.ref 84, .ref T, .ref S, .int x, .int (Int32.ofNat 10), am_un] [] (k_m0 10 I0) J0 R q) : ∀ (j r : Nat) , r + j = 10 → wz k 2 (some .int) am_c30 3 [.ref 84, .ref T, .ref S, .int x, .int (Int32.ofNat r), am_un] [] (k_m0 r I0) J0 R q := by
  intro j
  induction j with
  | zero =>
    intro r e
    obtain rfl : 10 = r := by omega
    refine w_iload rfl rfl rfl ?_
    refine w_bipush (x := Int32.ofNat 10) rfl rfl (by decide) ?_
    refine w_ic_geN (t := 24) (f := 10) rfl rfl rfl (by omega) (by omega) (fun c7 => ?_) (fun c7 => absurd c7 (by omega))
    exact Z
  | succ j ih =>
    intro r e
    refine w_iload rfl rfl rfl ?_
    refine w_bipush (x := Int32.ofNat 10) rfl rfl (by decide) ?_
    refine w_ic_geN (t := 24) (f := 10) rfl rfl rfl (by omega) (by omega) (fun c7 => absurd c7 (by omega)) (fun c7 => ?_)
    refine w_aload_n rfl rfl rfl ?_
    refine w_gf (t := .ref (87)) (v := .ref (87)) rfl rfl rfl sp84 rfl rfl rfl ?_
    refine w_iload rfl rfl rfl ?_
    refine w_iconst (x := Int32.ofNat 0) rfl rfl (by decide) ?_
    refine w_iastore rfl rfl sp87 rfl ⟨by omega, by omega⟩ ?_
    refine w_iinc (L' := [_, _, _, _, _, _]) rfl rfl rfl (am_incN 1) rfl ?_
    refine w_goto (pc' := 3) rfl rfl ?_
    exact ih (r + 1) (by omega)
theorem l_mood1 {k : Nat} {R : hR} {q : Option Value × am_H} {T S n : Nat} (hT : T = 9 ∨ T = 36) (hS : S = 63 ∨ S = 70 ∨ S = 77) {x : Int32} {I0 : hI} {J0 : hJ} (hn : n ≤ 8) (h5 : I0 (T + 5) 1 = Int32.ofNat n) (hM : ∀ r, r < n → okn (I0 (T + 7) r) 6) (hQ : ∀ m, m < 6 → okn (I0 (T + 3) m) 10) (Z : wz k 2 (some .int) am_c30 94 [.ref 84, .ref T, .ref S, .int x, .int (Int32.ofNat n), am_un] [] (k_m1 T S x n I0) J0 R q) : ∀ (j r : Nat) , r + j = n → wz k 2 (some .int) am_c30 27 [.ref 84, .ref T, .ref S, .int x, .int (Int32.ofNat r), am_un] [] (k_m1 T S x r I0) J0 R q := by
  intro j
  induction j with
  | zero =>
    intro r e
    obtain rfl : n = r := by omega
    have e7 : k_m1 T S x n I0 (T + 7) = I0 (T + 7) := k_m1_ne (by omega)
    have e3 : k_m1 T S x n I0 (T + 3) = I0 (T + 3) := k_m1_ne (by omega)
    have e5 : k_m1 T S x n I0 (T + 5) 1 = Int32.ofNat n := (congrFun (k_m1_ne (by omega)) 1).trans h5
    refine w_iload rfl rfl rfl ?_
    refine w_aload_n rfl rfl rfl ?_
    refine w_gf (t := .ref (T + 5)) (v := .ref (T + 5)) rfl rfl rfl (shT_0 hT) rfl rfl rfl ?_
    refine w_gf (t := .int 0) (v := .int _) rfl rfl rfl (shT_5 hT) rfl (congrArg Value.int e5) rfl ?_
    refine w_ic_geN (t := 94) (f := 39) rfl rfl rfl (by omega) (by omega) (fun c36 => ?_) (fun c36 => absurd c36 (by omega))
    exact Z
  | succ j ih =>
    intro r e
    have e7 : k_m1 T S x r I0 (T + 7) = I0 (T + 7) := k_m1_ne (by omega)
    have e3 : k_m1 T S x r I0 (T + 3) = I0 (T + 3) := k_m1_ne (by omega)
    have e5 : k_m1 T S x r I0 (T + 5) 1 = Int32.ofNat n := (congrFun (k_m1_ne (by omega)) 1).trans h5
    refine w_iload rfl rfl rfl ?_
    refine w_aload_n rfl rfl rfl ?_
    refine w_gf (t := .ref (T + 5)) (v := .ref (T + 5)) rfl rfl rfl (shT_0 hT) rfl rfl rfl ?_
    refine w_gf (t := .int 0) (v := .int _) rfl rfl rfl (shT_5 hT) rfl (congrArg Value.int e5) rfl ?_
    refine w_ic_geN (t := 94) (f := 39) rfl rfl rfl (by omega) (by omega) (fun c36 => absurd c36 (by omega)) (fun c36 => ?_)
    refine w_aload_n rfl rfl rfl ?_
    refine w_gf (t := .ref (S + 3)) (v := .ref (S + 3)) rfl rfl rfl (shS_0 hS) rfl rfl rfl ?_
    refine w_iload rfl rfl rfl ?_
    refine w_iaload rfl rfl (shS_3 hS) rfl ⟨by omega, by omega⟩ rfl ?_
    refine w_iload_n rfl rfl rfl ?_
    refine w_ic_ne (t := 88) (f := 50) rfl rfl rfl (fun c47 => ?_) (fun c47 => ?_)
    · refine w_iinc (L' := [_, _, _, _, _, _]) rfl rfl rfl (am_incN 1) rfl ?_
      refine w_goto (pc' := 27) rfl rfl ?_
      exact wz_M (ih (r + 1) (by omega)) rfl (by rw [k_m1_s]; first | rw [if_neg c47] | (rw [if_pos c47]; first | rw [if_pos c58] | rw [if_neg c58]))
    · refine w_aload_n rfl rfl rfl ?_
      refine w_gf (t := .ref (S + 1)) (v := .ref (S + 1)) rfl rfl rfl (shS_0 hS) rfl rfl rfl ?_
      refine w_iload rfl rfl rfl ?_
      refine w_iaload rfl rfl (shS_1 hS) rfl ⟨by omega, by omega⟩ rfl ?_
      refine w_iconst (x := Int32.ofNat 1) rfl rfl (by decide) ?_
      refine w_ic_ne (t := 88) (f := 61) rfl rfl rfl (fun c58 => ?_) (fun c58 => ?_)
      · refine w_iinc (L' := [_, _, _, _, _, _]) rfl rfl rfl (am_incN 1) rfl ?_
        refine w_goto (pc' := 27) rfl rfl ?_
        exact wz_M (ih (r + 1) (by omega)) rfl (by rw [k_m1_s]; first | rw [if_neg c47] | (rw [if_pos c47]; first | rw [if_pos c58] | rw [if_neg c58]))
      · refine w_aload_n rfl rfl rfl ?_
        refine w_gf (t := .ref (87)) (v := .ref (87)) rfl rfl rfl sp84 rfl rfl rfl ?_
        refine w_aload_n rfl rfl rfl ?_
        refine w_gf (t := .ref (T + 3)) (v := .ref (T + 3)) rfl rfl rfl (shT_0 hT) rfl rfl rfl ?_
        refine w_aload_n rfl rfl rfl ?_
        refine w_gf (t := .ref (T + 7)) (v := .ref (T + 7)) rfl rfl rfl (shT_0 hT) rfl rfl rfl ?_
        refine w_iload rfl rfl rfl ?_
        refine w_iaload rfl rfl (shT_7 hT) rfl ⟨by omega, by omega⟩ (show okn (k_m1 T S x r I0 (T + 7) r) 6 by rw [e7]; exact hM r (by omega)).1 ?_
        refine w_iaload rfl rfl (shT_3 hT) rfl ⟨(show okn (k_m1 T S x r I0 (T + 7) r) 6 by rw [e7]; exact hM r (by omega)).2, by omega⟩ (show okn (k_m1 T S x r I0 (T + 3) (nn (k_m1 T S x r I0 (T + 7) r))) 10 by rw [e3]; exact hQ _ (show okn (k_m1 T S x r I0 (T + 7) r) 6 by rw [e7]; exact hM r (by omega)).2).1 ?_
        refine w_dup2 rfl rfl rfl rfl ?_
        refine w_iaload rfl rfl sp87 rfl ⟨(show okn (k_m1 T S x r I0 (T + 3) (nn (k_m1 T S x r I0 (T + 7) r))) 10 by rw [e3]; exact hQ _ (show okn (k_m1 T S x r I0 (T + 7) r) 6 by rw [e7]; exact hM r (by omega)).2).2, by omega⟩ rfl ?_
        refine w_aload_n rfl rfl rfl ?_
        refine w_gf (t := .ref (T + 8)) (v := .ref (T + 8)) rfl rfl rfl (shT_0 hT) rfl rfl rfl ?_
        refine w_iload rfl rfl rfl ?_
        refine w_iaload rfl rfl (shT_8 hT) rfl ⟨by omega, by omega⟩ rfl ?_
        refine w_iadd rfl rfl ?_
        refine w_iastore rfl rfl sp87 rfl ⟨(show okn (k_m1 T S x r I0 (T + 3) (nn (k_m1 T S x r I0 (T + 7) r))) 10 by rw [e3]; exact hQ _ (show okn (k_m1 T S x r I0 (T + 7) r) 6 by rw [e7]; exact hM r (by omega)).2).2, by omega⟩ ?_
        refine w_iinc (L' := [_, _, _, _, _, _]) rfl rfl rfl (am_incN 1) rfl ?_
        refine w_goto (pc' := 27) rfl rfl ?_
        exact wz_M (ih (r + 1) (by omega)) rfl (by rw [k_m1_s]; first | rw [if_neg c47] | (rw [if_pos c47]; first | rw [if_pos c58] | rw [if_neg c58]))
theorem l_mood2 {k : Nat} {I : hI} {J : hJ} {R : hR} {q : Option Value × am_H} {T S : Nat} {x : Int32} (Z : wz k 2 (some .int) am_c30 134 [.ref 84, .ref T, .ref S, .int x, .int (Int32.ofNat (k_m2 I 9)), .int (Int32.ofNat (1 + 9))] [] I J R q) : ∀ (j r : Nat) , r + j = 9 → wz k 2 (some .int) am_c30 100 [.ref 84, .ref T, .ref S, .int x, .int (Int32.ofNat (k_m2 I r)), .int (Int32.ofNat (1 + r))] [] I J R q := by
  intro j
  induction j with
  | zero =>
    intro r e
    obtain rfl : 9 = r := by omega
    have hm2 := k_m2_le I 9
    refine w_iload rfl rfl rfl ?_
    refine w_bipush (x := Int32.ofNat 10) rfl rfl (by decide) ?_
    refine w_ic_geN (t := 134) (f := 107) rfl rfl rfl (by omega) (by omega) (fun c104 => ?_) (fun c104 => absurd c104 (by omega))
    exact Z
  | succ j ih =>
    intro r e
    have hm2 := k_m2_le I r
    refine w_iload rfl rfl rfl ?_
    refine w_bipush (x := Int32.ofNat 10) rfl rfl (by decide) ?_
    refine w_ic_geN (t := 134) (f := 107) rfl rfl rfl (by omega) (by omega) (fun c104 => absurd c104 (by omega)) (fun c104 => ?_)
    refine w_aload_n rfl rfl rfl ?_
    refine w_gf (t := .ref (87)) (v := .ref (87)) rfl rfl rfl sp84 rfl rfl rfl ?_
    refine w_iload rfl rfl rfl ?_
    refine w_iaload rfl rfl sp87 rfl ⟨by omega, by omega⟩ rfl ?_
    refine w_aload_n rfl rfl rfl ?_
    refine w_gf (t := .ref (87)) (v := .ref (87)) rfl rfl rfl sp84 rfl rfl rfl ?_
    refine w_iload rfl rfl rfl ?_
    refine w_iaload rfl rfl sp87 rfl ⟨by omega, by omega⟩ rfl ?_
    refine w_ic_le (t := 128) (f := 124) rfl rfl rfl (fun c121 => ?_) (fun c121 => ?_)
    · refine w_iinc (L' := [_, _, _, _, _, _]) rfl rfl rfl (am_incN 1) rfl ?_
      refine w_goto (pc' := 100) rfl rfl ?_
      exact wz_L (ih (r + 1) (by omega)) (by rw [k_m2_s]; first | (rw [if_pos (show I 87 (k_m2 I r) < I 87 (r + 1) from (Nat.add_comm 1 r) ▸ c121)]; simp only [Nat.add_comm, Nat.add_assoc] <;> rfl) | (rw [if_neg (show ¬ I 87 (k_m2 I r) < I 87 (r + 1) from (Nat.add_comm 1 r) ▸ c121)]; simp only [Nat.add_comm, Nat.add_assoc] <;> rfl))
    · refine w_iload rfl rfl rfl ?_
      refine w_istore (L' := [_, _, _, _, _, _]) rfl rfl rfl ?_
      refine w_iinc (L' := [_, _, _, _, _, _]) rfl rfl rfl (am_incN 1) rfl ?_
      refine w_goto (pc' := 100) rfl rfl ?_
      exact wz_L (ih (r + 1) (by omega)) (by rw [k_m2_s]; first | (rw [if_pos (show I 87 (k_m2 I r) < I 87 (r + 1) from (Nat.add_comm 1 r) ▸ c121)]; simp only [Nat.add_comm, Nat.add_assoc] <;> rfl) | (rw [if_neg (show ¬ I 87 (k_m2 I r) < I 87 (r + 1) from (Nat.add_comm 1 r) ▸ c121)]; simp only [Nat.add_comm, Nat.add_assoc] <;> rfl))
def k_mI (I : hI) (T S : Nat) (x : Int32) (n : Nat) : hI := k_m1 T S x n (k_m0 10 I)
def k_mood (I : hI) (T S : Nat) (x : Int32) (n : Nat) : Int32 := Int32.ofNat (k_m2 (k_mI I T S x n) 9)
theorem k_mI_ne {I : hI} {T S a n : Nat} {x : Int32} (h : a ≠ 87) : k_mI I T S x n a = I a := (k_m1_ne h).trans (k_m0_ne h)
theorem d_mood {k : Nat} {I : hI} {J : hJ} {R : hR} {T : Nat} (hT : T = 9 ∨ T = 36) {S : Nat} (hS : S = 63 ∨ S = 70 ∨ S = 77) {x : Int32} {n : Nat} (hn : n ≤ 8) (h5 : I (T + 5) 1 = Int32.ofNat n) (hM : ∀ r, r < n → okn (I (T + 7) r) 6) (hQ : ∀ m, m < 6 → okn (I (T + 3) m) 10) (hk : 1 ≤ k) : ct k 30 [.ref 84, .ref T, .ref S, .int x] I J R (some (.int (k_mood I T S x n))) (k_mI I T S x n) J R := by
  obtain ⟨k, rfl⟩ : ∃ k', k = k' + 1 := ⟨k - 1, by omega⟩
  refine ct_of (q := am_m30) (o := 2) (rt := (some .int)) (co := am_c30) (L := [_, _, _, _, _, _]) rfl rfl rfl rfl rfl rfl ?_
  refine w_iconst (x := Int32.ofNat 0) rfl rfl (by decide) ?_
  refine w_istore (L' := [_, _, _, _, _, _]) rfl rfl rfl ?_
  refine l_mood0 (I0 := I) ?_ 10 0 (by omega)
  refine w_iconst (x := Int32.ofNat 0) rfl rfl (by decide) ?_
  refine w_istore (L' := [_, _, _, _, _, _]) rfl rfl rfl ?_
  refine l_mood1 (I0 := k_m0 10 I) hT hS hn ((congrFun (k_m0_ne (by omega)) 1).trans h5) (fun r hr => by rw [k_m0_ne (by omega)]; exact hM r hr) (fun m hm => by rw [k_m0_ne (by omega)]; exact hQ m hm) ?_ n 0 (by omega)
  refine w_iconst (x := Int32.ofNat 0) rfl rfl (by decide) ?_
  refine w_istore (L' := [_, _, _, _, _, _]) rfl rfl rfl ?_
  refine w_iconst (x := Int32.ofNat 1) rfl rfl (by decide) ?_
  refine w_istore (L' := [_, _, _, _, _, _]) rfl rfl rfl ?_
  refine l_mood2 (I := k_m1 T S x n (k_m0 10 I)) ?_ 9 0 (by omega)
  refine w_iload rfl rfl rfl ?_
  exact w_iret rfl (by unfold k_mood k_mI; rfl) (by unfold k_mI; rfl) rfl rfl
def k_lay (J : hJ) (a b c d e f g : Int64) : hJ := am_u (am_u (am_u (am_u (am_u (am_u (am_u J 85 0 a) 85 1 b) 85 2 c) 85 3 d) 85 4 e) 85 5 f) 85 6 g
def k_layR (I : hI) (J : hJ) (T S r : Nat) (z : Int32) : hJ := k_lay J (I (T + 8) r).toInt64 (k_even I T (nn (I (T + 7) r))).toInt64 (I (T + 3) (nn (I (T + 7) r))).toInt64 (I (S + 2) r).toInt64 (if I (S + 3) r = Int32.ofInt (-1) then 0 else (k_bear I S (I (S + 3) r) 8).toInt64) z.toInt64 (I S 0).toInt64
theorem d_setRopeNames {k : Nat} {I : hI} {J : hJ} {R : hR} {T : Nat} (hT : T = 9 ∨ T = 36) (hD : R 84 3 = T) {S : Nat} (hS : S = 63 ∨ S = 70 ∨ S = 77) {r : Nat} {z : Int32} (hr : r < 8) (hm : okn (I (T + 7) r) 6) (hk : 2 ≤ k) : ct k 27 [.ref 84, .ref S, .int (Int32.ofNat r), .int z] I J R none I (k_layR I J T S r z) R := by
  obtain ⟨k, rfl⟩ : ∃ k', k = k' + 1 := ⟨k - 1, by omega⟩
  refine ct_of (q := am_m27) (o := 2) (rt := none) (co := am_c27) (L := [_, _, _, _, _, _]) rfl rfl rfl rfl rfl rfl ?_
  refine w_aload_n rfl rfl rfl ?_
  refine w_gf (t := .retAddr 0) (v := .ref (T)) rfl rfl rfl sp84 rfl (congrArg Value.ref hD) rfl ?_
  refine w_gf (t := .ref (T + 7)) (v := .ref (T + 7)) rfl rfl rfl (shT_0 hT) rfl rfl rfl ?_
  refine w_iload_n rfl rfl rfl ?_
  refine w_iaload rfl rfl (shT_7 hT) rfl ⟨by omega, by omega⟩ hm.1 ?_
  refine w_istore (L' := [_, _, _, _, _, _]) rfl rfl rfl ?_
  refine w_aload_n rfl rfl rfl ?_
  refine w_gf (t := .ref (S + 3)) (v := .ref (S + 3)) rfl rfl rfl (shS_0 hS) rfl rfl rfl ?_
  refine w_iload_n rfl rfl rfl ?_
  refine w_iaload rfl rfl (shS_3 hS) rfl ⟨by omega, by omega⟩ rfl ?_
  refine w_istore (L' := [_, _, _, _, _, _]) rfl rfl rfl ?_
  refine w_aload_n rfl rfl rfl ?_
  refine w_gf (t := .ref (85)) (v := .ref (85)) rfl rfl rfl sp84 rfl rfl rfl ?_
  refine w_iconst (x := Int32.ofNat 0) rfl rfl (by decide) ?_
  refine w_aload_n rfl rfl rfl ?_
  refine w_gf (t := .retAddr 0) (v := .ref (T)) rfl rfl rfl sp84 rfl (congrArg Value.ref hD) rfl ?_
  refine w_gf (t := .ref (T + 8)) (v := .ref (T + 8)) rfl rfl rfl (shT_0 hT) rfl rfl rfl ?_
  refine w_iload_n rfl rfl rfl ?_
  refine w_iaload rfl rfl (shT_8 hT) rfl ⟨by omega, by omega⟩ rfl ?_
  refine w_i2l rfl rfl ?_
  refine w_lastore rfl rfl sp85 rfl ⟨by omega, by omega⟩ ?_
  refine w_aload_n rfl rfl rfl ?_
  refine w_gf (t := .ref (85)) (v := .ref (85)) rfl rfl rfl sp84 rfl rfl rfl ?_
  refine w_iconst (x := Int32.ofNat 1) rfl rfl (by decide) ?_
  refine w_aload_n rfl rfl rfl ?_
  refine w_iload rfl rfl rfl ?_
  refine w_cv (q := am_m29) (as := [_]) (rest := [_, _]) (st' := [_, _, _]) rfl rfl rfl rfl rfl rfl sp84 rfl rfl rfl rfl (d_even hT hD hm.2 (by omega)) rfl rfl ?_
  refine w_i2l rfl rfl ?_
  refine w_lastore rfl rfl sp85 rfl ⟨by omega, by omega⟩ ?_
  refine w_aload_n rfl rfl rfl ?_
  refine w_gf (t := .ref (85)) (v := .ref (85)) rfl rfl rfl sp84 rfl rfl rfl ?_
  refine w_iconst (x := Int32.ofNat 2) rfl rfl (by decide) ?_
  refine w_aload_n rfl rfl rfl ?_
  refine w_gf (t := .retAddr 0) (v := .ref (T)) rfl rfl rfl sp84 rfl (congrArg Value.ref hD) rfl ?_
  refine w_gf (t := .ref (T + 3)) (v := .ref (T + 3)) rfl rfl rfl (shT_0 hT) rfl rfl rfl ?_
  refine w_iload rfl rfl rfl ?_
  refine w_iaload rfl rfl (shT_3 hT) rfl ⟨hm.2, by omega⟩ rfl ?_
  refine w_i2l rfl rfl ?_
  refine w_lastore rfl rfl sp85 rfl ⟨by omega, by omega⟩ ?_
  refine w_aload_n rfl rfl rfl ?_
  refine w_gf (t := .ref (85)) (v := .ref (85)) rfl rfl rfl sp84 rfl rfl rfl ?_
  refine w_iconst (x := Int32.ofNat 3) rfl rfl (by decide) ?_
  refine w_aload_n rfl rfl rfl ?_
  refine w_gf (t := .ref (S + 2)) (v := .ref (S + 2)) rfl rfl rfl (shS_0 hS) rfl rfl rfl ?_
  refine w_iload_n rfl rfl rfl ?_
  refine w_iaload rfl rfl (shS_2 hS) rfl ⟨by omega, by omega⟩ rfl ?_
  refine w_i2l rfl rfl ?_
  refine w_lastore rfl rfl sp85 rfl ⟨by omega, by omega⟩ ?_
  refine w_aload_n rfl rfl rfl ?_
  refine w_gf (t := .ref (85)) (v := .ref (85)) rfl rfl rfl sp84 rfl rfl rfl ?_
  refine w_iconst (x := Int32.ofNat 4) rfl rfl (by decide) ?_
  refine w_iload rfl rfl rfl ?_
  refine w_iconst (x := Int32.ofInt (-1)) rfl rfl (by decide) ?_
  refine w_ic_ne (t := 93) (f := 89) rfl rfl rfl (fun c86 => ?_) (fun c86 => ?_)
  · refine w_aload_n rfl rfl rfl ?_
    refine w_iload rfl rfl rfl ?_
    refine w_cv (q := am_m66) (as := [_]) (rest := [_, _]) (st' := [_, _, _]) rfl rfl rfl rfl rfl rfl (shS_0 hS) rfl rfl rfl rfl (d_bear hS (by omega)) rfl rfl ?_
    refine w_i2l rfl rfl ?_
    refine w_lastore rfl rfl sp85 rfl ⟨by omega, by omega⟩ ?_
    refine w_aload_n rfl rfl rfl ?_
    refine w_gf (t := .ref (85)) (v := .ref (85)) rfl rfl rfl sp84 rfl rfl rfl ?_
    refine w_iconst (x := Int32.ofNat 5) rfl rfl (by decide) ?_
    refine w_iload_n rfl rfl rfl ?_
    refine w_i2l rfl rfl ?_
    refine w_lastore rfl rfl sp85 rfl ⟨by omega, by omega⟩ ?_
    refine w_aload_n rfl rfl rfl ?_
    refine w_gf (t := .ref (85)) (v := .ref (85)) rfl rfl rfl sp84 rfl rfl rfl ?_
    refine w_bipush (x := Int32.ofNat 6) rfl rfl (by decide) ?_
    refine w_aload_n rfl rfl rfl ?_
    refine w_gf (t := .int 0) (v := .int _) rfl rfl rfl (shS_0 hS) rfl (congrArg Value.int rfl) rfl ?_
    refine w_i2l rfl rfl ?_
    refine w_lastore rfl rfl sp85 rfl ⟨by omega, by omega⟩ ?_
    exact w_ret rfl rfl (by unfold k_layR k_lay; first | (rw [if_pos c86] <;> rfl) | (rw [if_neg c86] <;> rfl)) rfl
  · refine w_lconst (x := 0) rfl rfl (by decide) ?_
    refine w_goto (pc' := 100) rfl rfl ?_
    refine w_lastore rfl rfl sp85 rfl ⟨by omega, by omega⟩ ?_
    refine w_aload_n rfl rfl rfl ?_
    refine w_gf (t := .ref (85)) (v := .ref (85)) rfl rfl rfl sp84 rfl rfl rfl ?_
    refine w_iconst (x := Int32.ofNat 5) rfl rfl (by decide) ?_
    refine w_iload_n rfl rfl rfl ?_
    refine w_i2l rfl rfl ?_
    refine w_lastore rfl rfl sp85 rfl ⟨by omega, by omega⟩ ?_
    refine w_aload_n rfl rfl rfl ?_
    refine w_gf (t := .ref (85)) (v := .ref (85)) rfl rfl rfl sp84 rfl rfl rfl ?_
    refine w_bipush (x := Int32.ofNat 6) rfl rfl (by decide) ?_
    refine w_aload_n rfl rfl rfl ?_
    refine w_gf (t := .int 0) (v := .int _) rfl rfl rfl (shS_0 hS) rfl (congrArg Value.int rfl) rfl ?_
    refine w_i2l rfl rfl ?_
    refine w_lastore rfl rfl sp85 rfl ⟨by omega, by omega⟩ ?_
    exact w_ret rfl rfl (by unfold k_layR k_lay; first | (rw [if_pos c86] <;> rfl) | (rw [if_neg c86] <;> rfl)) rfl
theorem shA_0 {T w : Nat} (hT : T = 9 ∨ T = 36) (hw : w < 3) : am_shL[T + 18 + 3 * w]? = some (.inr (.inl (3, [.int 0, .ref (T + 18 + 3 * w + 1), .ref (T + 18 + 3 * w + 2)]))) := by
  have : w = 0 ∨ w = 1 ∨ w = 2 := by omega
  rcases this with rfl | rfl | rfl <;> rcases hT with rfl | rfl <;> rfl
theorem shA_1 {T w : Nat} (hT : T = 9 ∨ T = 36) (hw : w < 3) : am_shL[T + 18 + 3 * w + 1]? = some (.inl (.int, false, 64)) := by
  have : w = 0 ∨ w = 1 ∨ w = 2 := by omega
  rcases this with rfl | rfl | rfl <;> rcases hT with rfl | rfl <;> rfl
theorem shA_2 {T w : Nat} (hT : T = 9 ∨ T = 36) (hw : w < 3) : am_shL[T + 18 + 3 * w + 2]? = some (.inl (.int, false, 64)) := by
  have : w = 0 ∨ w = 1 ∨ w = 2 := by omega
  rcases this with rfl | rfl | rfl <;> rcases hT with rfl | rfl <;> rfl
def k_lawv (I : hI) (J : hJ) (T w n : Nat) : Int64 × hJ := k_val I (T + 18 + 3 * w) n 0 0 J
