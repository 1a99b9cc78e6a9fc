/-! The reference's small methods, and those of a day's law. -/
abbrev nn (x : Int32) : Nat := x.toNatClampNeg
/-- a place that is written down as an int -/
def okn (x : Int32) (m : Nat) : Prop := x = Int32.ofNat (nn x) ∧ nn x < m
def s_for {α : Type} (f : Nat → α → α) : Nat → α → α
  | 0, x => x
  | n + 1, x => f n (s_for f n x)
theorem am_u_self {α : Type} (I : Nat → Nat → α) (a k : Nat) : am_u I a k (I a k) = I := by
  funext b j
  unfold am_u
  by_cases h : b = a ∧ j = k
  · rw [if_pos h, h.1, h.2]
  · rw [if_neg h]
theorem am_neg0 {a : Int64} (h : ¬ a = 0) : ¬ -a = 0 := fun e => h (by rw [← Int64.neg_neg (a := a), e]; rfl)
theorem c_isIn {k : Nat} {I : hI} {J : hJ} {R : hR} {n lo hi : Int32} (hk : 1 ≤ k) : ct k 168 [.int n, .int lo, .int hi] I J R (some (.int (if ¬ n < lo ∧ ¬ hi < n then 1 else 0))) I J R := by
  obtain ⟨k, rfl⟩ : ∃ k', k = k' + 1 := ⟨k - 1, by omega⟩
  refine ct_of (q := am_m168) (L := [_, _, _]) rfl rfl rfl rfl rfl rfl ?_
  refine w_iload_n rfl rfl rfl ?_
  refine w_iload_n rfl rfl rfl ?_
  refine w_ic_lt (t := 14) (f := 5) rfl rfl rfl (fun c2 => ?_) (fun c2 => ?_)
  · refine w_iconst (x := Int32.ofNat 0) rfl rfl (by decide) ?_
    exact w_bret rfl (by decide) (by simp only [*, ite_true, ite_false, and_self, and_true, true_and, and_false, false_and, or_true, true_or, or_false, false_or, not_true, not_false_iff] <;> rfl) rfl rfl rfl
  · refine w_iload_n rfl rfl rfl ?_
    refine w_iload_n rfl rfl rfl ?_
    refine w_ic_gt (t := 14) (f := 10) rfl rfl rfl (fun c7 => ?_) (fun c7 => ?_)
    · refine w_iconst (x := Int32.ofNat 0) rfl rfl (by decide) ?_
      exact w_bret rfl (by decide) (by simp only [*, ite_true, ite_false, and_self, and_true, true_and, and_false, false_and, or_true, true_or, or_false, false_or, not_true, not_false_iff] <;> rfl) rfl rfl rfl
    · refine w_iconst (x := Int32.ofNat 1) rfl rfl (by decide) ?_
      refine w_goto (pc' := 15) rfl rfl ?_
      exact w_bret rfl (by decide) (by simp only [*, ite_true, ite_false, and_self, and_true, true_and, and_false, false_and, or_true, true_or, or_false, false_or, not_true, not_false_iff] <;> rfl) rfl rfl rfl
theorem c_isOf {k : Nat} {I : hI} {J : hJ} {R : hR} {x y : Int32} (hk : 1 ≤ k) : ct k 169 [.int x, .int y] I J R (some (.int (if (x >>> (y &&& 31)) &&& Int32.ofNat 1 = Int32.ofNat 1 then 1 else 0))) I J R := by
  obtain ⟨k, rfl⟩ : ∃ k', k = k' + 1 := ⟨k - 1, by omega⟩
  refine ct_of (q := am_m169) (L := [_, _]) rfl rfl rfl rfl rfl rfl ?_
  refine w_iload_n rfl rfl rfl ?_
  refine w_iload_n rfl rfl rfl ?_
  refine w_ishr rfl rfl ?_
  refine w_iconst (x := Int32.ofNat 1) rfl rfl (by decide) ?_
  refine w_iand rfl rfl ?_
  refine w_iconst (x := Int32.ofNat 1) rfl rfl (by decide) ?_
  refine w_ic_ne (t := 13) (f := 9) rfl rfl rfl (fun c6 => ?_) (fun c6 => ?_)
  · refine w_iconst (x := Int32.ofNat 0) rfl rfl (by decide) ?_
    exact w_bret rfl (by decide) (by simp only [*, ite_true, ite_false, and_self, and_true, true_and, and_false, false_and, or_true, true_or, or_false, false_or, not_true, not_false_iff] <;> rfl) rfl rfl rfl
  · refine w_iconst (x := Int32.ofNat 1) rfl rfl (by decide) ?_
    refine w_goto (pc' := 14) rfl rfl ?_
    exact w_bret rfl (by decide) (by simp only [*, ite_true, ite_false, and_self, and_true, true_and, and_false, false_and, or_true, true_or, or_false, false_or, not_true, not_false_iff] <;> rfl) rfl rfl rfl
theorem c_isMaker {k : Nat} {I : hI} {J : hJ} {R : hR} {x : Int32} (hk : 1 ≤ k) : ct k 214 [.ref 110, .int x] I J R (some (.int (if ¬ x < 0 ∧ x < I 110 12 then 1 else 0))) I J R := by
  obtain ⟨k, rfl⟩ : ∃ k', k = k' + 1 := ⟨k - 1, by omega⟩
  refine ct_of (q := am_m214) (L := [_, _]) rfl rfl rfl rfl rfl rfl ?_
  refine w_iload_n rfl rfl rfl ?_
  refine w_if_lt (t := 16) (f := 4) rfl rfl rfl (fun c1 => ?_) (fun c1 => ?_)
  · refine w_iconst (x := Int32.ofNat 0) rfl rfl (by decide) ?_
    exact w_bret rfl (by decide) (by simp only [*, ite_true, ite_false, and_self, and_true, true_and, and_false, false_and, or_true, true_or, or_false, false_or, not_true, not_false_iff] <;> rfl) rfl rfl rfl
  · refine w_iload_n rfl rfl rfl ?_
    refine w_aload_n rfl rfl rfl ?_
    refine w_gf (t := .int 0) (v := .int _) rfl rfl rfl sp110 rfl (congrArg Value.int rfl) rfl ?_
    refine w_ic_ge (t := 16) (f := 12) rfl rfl rfl (fun c9 => ?_) (fun c9 => ?_)
    · refine w_iconst (x := Int32.ofNat 0) rfl rfl (by decide) ?_
      exact w_bret rfl (by decide) (by simp only [*, ite_true, ite_false, and_self, and_true, true_and, and_false, false_and, or_true, true_or, or_false, false_or, not_true, not_false_iff] <;> rfl) rfl rfl rfl
    · refine w_iconst (x := Int32.ofNat 1) rfl rfl (by decide) ?_
      refine w_goto (pc' := 17) rfl rfl ?_
      exact w_bret rfl (by decide) (by simp only [*, ite_true, ite_false, and_self, and_true, true_and, and_false, false_and, or_true, true_or, or_false, false_or, not_true, not_false_iff] <;> rfl) rfl rfl rfl
theorem c_isRope {k : Nat} {I : hI} {J : hJ} {R : hR} {x : Int32} (hk : 1 ≤ k) : ct k 215 [.ref 110, .int x] I J R (some (.int (if ¬ x < 0 ∧ x < I 110 13 then 1 else 0))) I J R := by
  obtain ⟨k, rfl⟩ : ∃ k', k = k' + 1 := ⟨k - 1, by omega⟩
  refine ct_of (q := am_m215) (L := [_, _]) rfl rfl rfl rfl rfl rfl ?_
  refine w_iload_n rfl rfl rfl ?_
  refine w_if_lt (t := 16) (f := 4) rfl rfl rfl (fun c1 => ?_) (fun c1 => ?_)
  · refine w_iconst (x := Int32.ofNat 0) rfl rfl (by decide) ?_
    exact w_bret rfl (by decide) (by simp only [*, ite_true, ite_false, and_self, and_true, true_and, and_false, false_and, or_true, true_or, or_false, false_or, not_true, not_false_iff] <;> rfl) rfl rfl rfl
  · refine w_iload_n rfl rfl rfl ?_
    refine w_aload_n rfl rfl rfl ?_
    refine w_gf (t := .int 0) (v := .int _) rfl rfl rfl sp110 rfl (congrArg Value.int rfl) rfl ?_
    refine w_ic_ge (t := 16) (f := 12) rfl rfl rfl (fun c9 => ?_) (fun c9 => ?_)
    · refine w_iconst (x := Int32.ofNat 0) rfl rfl (by decide) ?_
      exact w_bret rfl (by decide) (by simp only [*, ite_true, ite_false, and_self, and_true, true_and, and_false, false_and, or_true, true_or, or_false, false_or, not_true, not_false_iff] <;> rfl) rfl rfl rfl
    · refine w_iconst (x := Int32.ofNat 1) rfl rfl (by decide) ?_
      refine w_goto (pc' := 17) rfl rfl ?_
      exact w_bret rfl (by decide) (by simp only [*, ite_true, ite_false, and_self, and_true, true_and, and_false, false_and, or_true, true_or, or_false, false_or, not_true, not_false_iff] <;> rfl) rfl rfl rfl
theorem c_isShip {k : Nat} {I : hI} {J : hJ} {R : hR} {x : Int32} (hk : 1 ≤ k) : ct k 216 [.ref 110, .int x] I J R (some (.int (if ¬ x < 0 ∧ x < I 110 14 then 1 else 0))) I J R := by
  obtain ⟨k, rfl⟩ : ∃ k', k = k' + 1 := ⟨k - 1, by omega⟩
  refine ct_of (q := am_m216) (L := [_, _]) rfl rfl rfl rfl rfl rfl ?_
  refine w_iload_n rfl rfl rfl ?_
  refine w_if_lt (t := 16) (f := 4) rfl rfl rfl (fun c1 => ?_) (fun c1 => ?_)
  · refine w_iconst (x := Int32.ofNat 0) rfl rfl (by decide) ?_
    exact w_bret rfl (by decide) (by simp only [*, ite_true, ite_false, and_self, and_true, true_and, and_false, false_and, or_true, true_or, or_false, false_or, not_true, not_false_iff] <;> rfl) rfl rfl rfl
  · refine w_iload_n rfl rfl rfl ?_
    refine w_aload_n rfl rfl rfl ?_
    refine w_gf (t := .int 0) (v := .int _) rfl rfl rfl sp110 rfl (congrArg Value.int rfl) rfl ?_
    refine w_ic_ge (t := 16) (f := 12) rfl rfl rfl (fun c9 => ?_) (fun c9 => ?_)
    · refine w_iconst (x := Int32.ofNat 0) rfl rfl (by decide) ?_
      exact w_bret rfl (by decide) (by simp only [*, ite_true, ite_false, and_self, and_true, true_and, and_false, false_and, or_true, true_or, or_false, false_or, not_true, not_false_iff] <;> rfl) rfl rfl rfl
    · refine w_iconst (x := Int32.ofNat 1) rfl rfl (by decide) ?_
      refine w_goto (pc' := 17) rfl rfl ?_
      exact w_bret rfl (by decide) (by simp only [*, ite_true, ite_false, and_self, and_true, true_and, and_false, false_and, or_true, true_or, or_false, false_or, not_true, not_false_iff] <;> rfl) rfl rfl rfl
def m_even (I : hI) (m : Nat) : Int32 := if I 110 68 = 0 then (if Int32.ofNat m = I 110 70 then I 110 71 else I 117 m) else Int32.ofNat 9
theorem c_evenIn {k : Nat} {I : hI} {J : hJ} {R : hR} {m : Nat} (hm : m < 12) (hk : 1 ≤ k) : ct k 217 [.ref 110, .int (Int32.ofNat m)] I J R (some (.int (m_even I m))) I J R := by
  obtain ⟨k, rfl⟩ : ∃ k', k = k' + 1 := ⟨k - 1, by omega⟩
  refine ct_of (q := am_m217) (L := [_, _]) rfl rfl rfl rfl rfl rfl ?_
  refine w_aload_n rfl rfl rfl ?_
  refine w_gf (t := .int 0) (v := .int _) rfl rfl rfl sp110 rfl (congrArg Value.int rfl) rfl ?_
  refine w_if_eq (t := 12) (f := 7) rfl rfl rfl (fun c4 => ?_) (fun c4 => ?_)
  · refine w_iload_n rfl rfl rfl ?_
    refine w_aload_n rfl rfl rfl ?_
    refine w_gf (t := .int 0) (v := .int _) rfl rfl rfl sp110 rfl (congrArg Value.int rfl) rfl ?_
    refine w_ic_ne (t := 27) (f := 20) rfl rfl rfl (fun c17 => ?_) (fun c17 => ?_)
    · refine w_aload_n rfl rfl rfl ?_
      refine w_gf (t := .ref (117)) (v := .ref (117)) rfl rfl rfl sp110 rfl rfl rfl ?_
      refine w_iload_n rfl rfl rfl ?_
      refine w_iaload rfl rfl sp117 rfl ⟨by omega, by omega⟩ rfl ?_
      exact w_iret rfl (by simp only [m_even, *, ite_true, ite_false, and_self, and_true, true_and, and_false, false_and, or_true, true_or, or_false, false_or, not_true, not_false_iff] <;> rfl) rfl rfl rfl
    · refine w_aload_n rfl rfl rfl ?_
      refine w_gf (t := .int 0) (v := .int _) rfl rfl rfl sp110 rfl (congrArg Value.int rfl) rfl ?_
      refine w_goto (pc' := 33) rfl rfl ?_
      exact w_iret rfl (by simp only [m_even, *, ite_true, ite_false, and_self, and_true, true_and, and_false, false_and, or_true, true_or, or_false, false_or, not_true, not_false_iff] <;> rfl) rfl rfl rfl
  · refine w_bipush (x := Int32.ofNat 9) rfl rfl (by decide) ?_
    refine w_goto (pc' := 33) rfl rfl ?_
    exact w_iret rfl (by simp only [m_even, *, ite_true, ite_false, and_self, and_true, true_and, and_false, false_and, or_true, true_or, or_false, false_or, not_true, not_false_iff] <;> rfl) rfl rfl rfl
theorem c_isMadeIn {k : Nat} {I : hI} {J : hJ} {R : hR} {b r : Nat} {s : Int32} (hb : b ≤ 1) (hr : r < 8) (hk : 1 ≤ k) : ct k 218 [.ref 110, .int (Int32.ofNat b), .int (Int32.ofNat r), .int s] I J R (some (.int (if I 138 (8 * b + r) = Int32.ofNat 1 ∧ I 140 (8 * b + r) = s then 1 else 0))) I J R := by
  obtain ⟨k, rfl⟩ : ∃ k', k = k' + 1 := ⟨k - 1, by omega⟩
  refine ct_of (q := am_m218) (L := [_, _, _, _]) rfl rfl rfl rfl rfl rfl ?_
  refine w_aload_n rfl rfl rfl ?_
  refine w_gf (t := .ref (138)) (v := .ref (138)) rfl rfl rfl sp110 rfl rfl rfl ?_
  refine w_bipush (x := Int32.ofNat 8) rfl rfl (by decide) ?_
  refine w_iload_n rfl rfl rfl ?_
  refine w_imulN rfl rfl ?_
  refine w_iload_n rfl rfl rfl ?_
  refine w_iaddN rfl rfl ?_
  refine w_iaload rfl rfl sp138 rfl ⟨by omega, by omega⟩ rfl ?_
  refine w_iconst (x := Int32.ofNat 1) rfl rfl (by decide) ?_
  refine w_ic_ne (t := 34) (f := 15) rfl rfl rfl (fun c12 => ?_) (fun c12 => ?_)
  · refine w_iconst (x := Int32.ofNat 0) rfl rfl (by decide) ?_
    exact w_bret rfl (by decide) (by simp only [*, ite_true, ite_false, and_self, and_true, true_and, and_false, false_and, or_true, true_or, or_false, false_or, not_true, not_false_iff] <;> rfl) rfl rfl rfl
  · refine w_aload_n rfl rfl rfl ?_
    refine w_gf (t := .ref (140)) (v := .ref (140)) rfl rfl rfl sp110 rfl rfl rfl ?_
    refine w_bipush (x := Int32.ofNat 8) rfl rfl (by decide) ?_
    refine w_iload_n rfl rfl rfl ?_
    refine w_imulN rfl rfl ?_
    refine w_iload_n rfl rfl rfl ?_
    refine w_iaddN rfl rfl ?_
    refine w_iaload rfl rfl sp140 rfl ⟨by omega, by omega⟩ rfl ?_
    refine w_iload_n rfl rfl rfl ?_
    refine w_ic_ne (t := 34) (f := 30) rfl rfl rfl (fun c27 => ?_) (fun c27 => ?_)
    · refine w_iconst (x := Int32.ofNat 0) rfl rfl (by decide) ?_
      exact w_bret rfl (by decide) (by simp only [*, ite_true, ite_false, and_self, and_true, true_and, and_false, false_and, or_true, true_or, or_false, false_or, not_true, not_false_iff] <;> rfl) rfl rfl rfl
    · refine w_iconst (x := Int32.ofNat 1) rfl rfl (by decide) ?_
      refine w_goto (pc' := 35) rfl rfl ?_
      exact w_bret rfl (by decide) (by simp only [*, ite_true, ite_false, and_self, and_true, true_and, and_false, false_and, or_true, true_or, or_false, false_or, not_true, not_false_iff] <;> rfl) rfl rfl rfl
def m_bear (I : hI) (b n : Nat) (s : Int32) : Int32 := s_for (fun r a => a + (if I 138 (8 * b + r) = Int32.ofNat 1 ∧ I 140 (8 * b + r) = s then I 139 (8 * b + r) else Int32.ofNat 0)) n (Int32.ofNat 0)
theorem l_bearOf {k : Nat} {I : hI} {J : hJ} {R : hR} {q : Option Value × am_H} {b n : Nat} {s : Int32} (hb : b ≤ 1) (hn : n ≤ 8) (h13 : I 110 13 = Int32.ofNat n) (hk : 1 ≤ k) (Z : wz k 12 (some .int) am_c219 50 [.ref 110, .int (Int32.ofNat b), .int s, .int (m_bear I b n s), .int (Int32.ofNat n)] [] I J R q) : ∀ (j r : Nat) , r + j = n → wz k 12 (some .int) am_c219 5 [.ref 110, .int (Int32.ofNat b), .int s, .int (m_bear I b r s), .int (Int32.ofNat r)] [] I J R q := by
  intro j
  induction j with
  | zero =>
    intro r e
    obtain rfl : n = r := by omega
    refine w_iload rfl rfl rfl ?_
    refine w_aload_n rfl rfl rfl ?_
    refine w_gf (t := .int 0) (v := .int _) rfl rfl rfl sp110 rfl (congrArg Value.int h13) rfl ?_
    refine w_ic_geN (t := 50) (f := 14) rfl rfl rfl (by omega) (by omega) (fun c11 => ?_) (fun c11 => absurd c11 (by omega))
    exact Z
  | succ j ih =>
    intro r e
    refine w_iload rfl rfl rfl ?_
    refine w_aload_n rfl rfl rfl ?_
    refine w_gf (t := .int 0) (v := .int _) rfl rfl rfl sp110 rfl (congrArg Value.int h13) rfl ?_
    refine w_ic_geN (t := 50) (f := 14) rfl rfl rfl (by omega) (by omega) (fun c11 => absurd c11 (by omega)) (fun c11 => ?_)
    refine w_iload_n rfl rfl rfl ?_
    refine w_aload_n rfl rfl rfl ?_
    refine w_iload_n rfl rfl rfl ?_
    refine w_iload rfl rfl rfl ?_
    refine w_iload_n rfl rfl rfl ?_
    refine w_cv (q := am_m218) (as := [_, _, _]) (rest := [_]) (st' := [_, _]) rfl rfl rfl rfl rfl rfl sp110 rfl rfl rfl rfl (c_isMadeIn hb (by omega) hk) rfl rfl ?_
    refine w_if_eqB (t := 41) (f := 26) rfl rfl rfl (fun c23 => ?_) (fun c23 => ?_)
    · refine w_iconst (x := Int32.ofNat 0) rfl rfl (by decide) ?_
      refine w_iadd rfl rfl ?_
      refine w_istore_n (L' := [_, _, _, _, _]) rfl rfl rfl ?_
      refine w_iinc (L' := [_, _, _, _, _]) rfl rfl rfl (am_incN 1) rfl ?_
      refine w_goto (pc' := 5) rfl rfl ?_
      exact wz_L (ih (r + 1) (by omega)) (by simp only [m_bear, s_for, c23, ite_true, ite_false, and_self])
    · refine w_aload_n rfl rfl rfl ?_
      refine w_gf (t := .ref (139)) (v := .ref (139)) rfl rfl rfl sp110 rfl rfl rfl ?_
      refine w_bipush (x := Int32.ofNat 8) rfl rfl (by decide) ?_
      refine w_iload_n rfl rfl rfl ?_
      refine w_imulN rfl rfl ?_
      refine w_iload rfl rfl rfl ?_
      refine w_iaddN rfl rfl ?_
      refine w_iaload rfl rfl sp139 rfl ⟨by omega, by omega⟩ rfl ?_
      refine w_goto (pc' := 42) rfl rfl ?_
      refine w_iadd rfl rfl ?_
      refine w_istore_n (L' := [_, _, _, _, _]) rfl rfl rfl ?_
      refine w_iinc (L' := [_, _, _, _, _]) rfl rfl rfl (am_incN 1) rfl ?_
      refine w_goto (pc' := 5) rfl rfl ?_
      exact wz_L (ih (r + 1) (by omega)) (by simp only [m_bear, s_for, c23, ite_true, ite_false, and_self])
theorem c_bearOf {k : Nat} {I : hI} {J : hJ} {R : hR} {b n : Nat} {s : Int32} (hb : b ≤ 1) (hn : n ≤ 8) (h13 : I 110 13 = Int32.ofNat n) (hk : 2 ≤ k) : ct k 219 [.ref 110, .int (Int32.ofNat b), .int s] I J R (some (.int (m_bear I b n s))) I J R := by
  obtain ⟨k, rfl⟩ : ∃ k', k = k' + 1 := ⟨k - 1, by omega⟩
  refine ct_of (q := am_m219) (L := [_, _, _, _, _]) rfl rfl rfl rfl rfl rfl ?_
  refine w_iconst (x := Int32.ofNat 0) rfl rfl (by decide) ?_
  refine w_istore_n (L' := [_, _, _, _, _]) rfl rfl rfl ?_
  refine w_iconst (x := Int32.ofNat 0) rfl rfl (by decide) ?_
  refine w_istore (L' := [_, _, _, _, _]) rfl rfl rfl ?_
  refine l_bearOf hb hn h13 (by omega) ?_ n 0 (by omega)
  refine w_iload_n rfl rfl rfl ?_
  exact w_iret rfl rfl rfl rfl rfl
def m_my (I : hI) (b n : Nat) (s : Int32) (t r : Nat) : Int32 := s_for (fun r a => a + (if (I 138 (8 * b + r) = Int32.ofNat 1 ∧ I 140 (8 * b + r) = s) ∧ I 116 (nn (I 119 r)) = Int32.ofNat t then I 120 r else Int32.ofNat 0)) r (Int32.ofNat 0)
def m_md (I : hI) (b n : Nat) (s : Int32) (t : Nat) : Int32 × Int32 := s_for (fun t p => if p.2 < m_my I b n s t n then (Int32.ofNat t, m_my I b n s t n) else p) t (Int32.ofNat 0, Int32.ofNat 0)
def m_mood (I : hI) (b n : Nat) (s : Int32) : Int32 := (m_md I b n s 10).1
theorem l_moodOf {k : Nat} {I : hI} {J : hJ} {R : hR} {q : Option Value × am_H} {b n : Nat} {s : Int32} {x y : Int32} {t : Nat} (ht : t < 10) (hb : b ≤ 1) (hn : n ≤ 8) (h13 : I 110 13 = Int32.ofNat n) (hM : ∀ r, r < n → okn (I 119 r) 6) (hk : 1 ≤ k) (Z : wz k 12 (some .int) am_c220 80 [.ref 110, .int (Int32.ofNat b), .int s, .int x, .int y, .int (Int32.ofNat t), .int (m_my I b n s t n), .int (Int32.ofNat n)] [] I J R q) : ∀ (j r : Nat) , r + j = n → wz k 12 (some .int) am_c220 21 [.ref 110, .int (Int32.ofNat b), .int s, .int x, .int y, .int (Int32.ofNat t), .int (m_my I b n s t r), .int (Int32.ofNat r)] [] I J R q := by
  intro j
  induction j with
  | zero =>
    intro r e
    obtain rfl : n = r := by omega
    refine w_iload rfl rfl rfl ?_
    refine w_aload_n rfl rfl rfl ?_
    refine w_gf (t := .int 0) (v := .int _) rfl rfl rfl sp110 rfl (congrArg Value.int h13) rfl ?_
    refine w_ic_geN (t := 80) (f := 30) rfl rfl rfl (by omega) (by omega) (fun c27 => ?_) (fun c27 => absurd c27 (by omega))
    exact Z
  | succ j ih =>
    intro r e
    refine w_iload rfl rfl rfl ?_
    refine w_aload_n rfl rfl rfl ?_
    refine w_gf (t := .int 0) (v := .int _) rfl rfl rfl sp110 rfl (congrArg Value.int h13) rfl ?_
    refine w_ic_geN (t := 80) (f := 30) rfl rfl rfl (by omega) (by omega) (fun c27 => absurd c27 (by omega)) (fun c27 => ?_)
    refine w_iload rfl rfl rfl ?_
    refine w_aload_n rfl rfl rfl ?_
    refine w_iload_n rfl rfl rfl ?_
    refine w_iload rfl rfl rfl ?_
    refine w_iload_n rfl rfl rfl ?_
    refine w_cv (q := am_m218) (as := [_, _, _]) (rest := [_]) (st' := [_, _]) rfl rfl rfl rfl rfl rfl sp110 rfl rfl rfl rfl (c_isMadeIn hb (by omega) hk) rfl rfl ?_
    refine w_if_eqB (t := 70) (f := 43) rfl rfl rfl (fun c40 => ?_) (fun c40 => ?_)
    · refine w_iconst (x := Int32.ofNat 0) rfl rfl (by decide) ?_
      refine w_iadd rfl rfl ?_
      refine w_istore (L' := [_, _, _, _, _, _, _, _]) rfl rfl rfl ?_
      refine w_iinc (L' := [_, _, _, _, _, _, _, _]) rfl rfl rfl (am_incN 1) rfl ?_
      refine w_goto (pc' := 21) rfl rfl ?_
      exact wz_L (ih (r + 1) (by omega)) (by simp only [m_my, s_for, c40, ite_true, ite_false, and_self, true_and, false_and] <;> simp only [c57, ite_true, ite_false])
    · refine w_aload_n rfl rfl rfl ?_
      refine w_gf (t := .ref (116)) (v := .ref (116)) rfl rfl rfl sp110 rfl rfl rfl ?_
      refine w_aload_n rfl rfl rfl ?_
      refine w_gf (t := .ref (119)) (v := .ref (119)) rfl rfl rfl sp110 rfl rfl rfl ?_
      refine w_iload rfl rfl rfl ?_
      refine w_iaload rfl rfl sp119 rfl ⟨by omega, by omega⟩ rfl ?_
      refine w_iaload rfl rfl sp116 (hM r (by omega)).1 ⟨(by have := (hM r (by omega)).2; omega), by omega⟩ rfl ?_
      refine w_iload rfl rfl rfl ?_
      refine w_ic_ne (t := 70) (f := 60) rfl rfl rfl (fun c57 => ?_) (fun c57 => ?_)
      · refine w_iconst (x := Int32.ofNat 0) rfl rfl (by decide) ?_
        refine w_iadd rfl rfl ?_
        refine w_istore (L' := [_, _, _, _, _, _, _, _]) rfl rfl rfl ?_
        refine w_iinc (L' := [_, _, _, _, _, _, _, _]) rfl rfl rfl (am_incN 1) rfl ?_
        refine w_goto (pc' := 21) rfl rfl ?_
        exact wz_L (ih (r + 1) (by omega)) (by simp only [m_my, s_for, c40, ite_true, ite_false, and_self, true_and, false_and] <;> simp only [c57, ite_true, ite_false])
      · refine w_aload_n rfl rfl rfl ?_
        refine w_gf (t := .ref (120)) (v := .ref (120)) rfl rfl rfl sp110 rfl rfl rfl ?_
        refine w_iload rfl rfl rfl ?_
        refine w_iaload rfl rfl sp120 rfl ⟨by omega, by omega⟩ rfl ?_
        refine w_goto (pc' := 71) rfl rfl ?_
        refine w_iadd rfl rfl ?_
        refine w_istore (L' := [_, _, _, _, _, _, _, _]) rfl rfl rfl ?_
        refine w_iinc (L' := [_, _, _, _, _, _, _, _]) rfl rfl rfl (am_incN 1) rfl ?_
        refine w_goto (pc' := 21) rfl rfl ?_
        exact wz_L (ih (r + 1) (by omega)) (by simp only [m_my, s_for, c40, ite_true, ite_false, and_self, true_and, false_and] <;> simp only [c57, ite_true, ite_false])
theorem l_moodOf2 {k : Nat} {I : hI} {J : hJ} {R : hR} {q : Option Value × am_H} {b n : Nat} {s : Int32} (hb : b ≤ 1) (hn : n ≤ 8) (h13 : I 110 13 = Int32.ofNat n) (hM : ∀ r, r < n → okn (I 119 r) 6) (hk : 1 ≤ k) (Z : ∀ (u : Value) (v : Value), wz k 12 (some .int) am_c220 103 [.ref 110, .int (Int32.ofNat b), .int s, .int ((m_md I b n s 10).1), .int ((m_md I b n s 10).2), .int (Int32.ofNat 10), u, v] [] I J R q) : ∀ (j r : Nat) (u : Value) (v : Value), r + j = 10 → wz k 12 (some .int) am_c220 8 [.ref 110, .int (Int32.ofNat b), .int s, .int ((m_md I b n s r).1), .int ((m_md I b n s r).2), .int (Int32.ofNat r), u, v] [] I J R q := by
  intro j
  induction j with
  | zero =>
    intro r u v e
    obtain rfl : 10 = r := by omega
    refine w_iload rfl rfl rfl ?_
    refine w_bipush (x := Int32.ofNat 10) rfl rfl (by decide) ?_
    refine w_ic_geN (t := 103) (f := 15) rfl rfl rfl (by omega) (by omega) (fun c12 => ?_) (fun c12 => absurd c12 (by omega))
    exact Z _ _
  | succ j ih =>
    intro r u v e
    refine w_iload rfl rfl rfl ?_
    refine w_bipush (x := Int32.ofNat 10) rfl rfl (by decide) ?_
    refine w_ic_geN (t := 103) (f := 15) rfl rfl rfl (by omega) (by omega) (fun c12 => absurd c12 (by omega)) (fun c12 => ?_)
    refine w_iconst (x := Int32.ofNat 0) rfl rfl (by decide) ?_
    refine w_istore (L' := [_, _, _, _, _, _, _, _]) rfl rfl rfl ?_
    refine w_iconst (x := Int32.ofNat 0) rfl rfl (by decide) ?_
    refine w_istore (L' := [_, _, _, _, _, _, _, _]) rfl rfl rfl ?_
    refine l_moodOf (by omega) hb hn h13 hM hk ?_ n 0 (by omega)
    refine w_iload rfl rfl rfl ?_
    refine w_iload rfl rfl rfl ?_
    refine w_ic_gt (t := 90) (f := 87) rfl rfl rfl (fun c84 => ?_) (fun c84 => ?_)
    · refine w_iload rfl rfl rfl ?_
      refine w_istore_n (L' := [_, _, _, _, _, _, _, _]) rfl rfl rfl ?_
      refine w_iload rfl rfl rfl ?_
      refine w_istore (L' := [_, _, _, _, _, _, _, _]) rfl rfl rfl ?_
      refine w_iinc (L' := [_, _, _, _, _, _, _, _]) rfl rfl rfl (am_incN 1) rfl ?_
      refine w_goto (pc' := 8) rfl rfl ?_
      exact wz_L (ih (r + 1) _ _ (by omega)) (by simp only [m_md, s_for] <;> simp only [m_md] at c84 <;> simp only [c84, ite_true, ite_false] <;> rfl)
    · refine w_goto (pc' := 97) rfl rfl ?_
      refine w_iinc (L' := [_, _, _, _, _, _, _, _]) rfl rfl rfl (am_incN 1) rfl ?_
      refine w_goto (pc' := 8) rfl rfl ?_
      exact wz_L (ih (r + 1) _ _ (by omega)) (by simp only [m_md, s_for] <;> simp only [m_md] at c84 <;> simp only [c84, ite_true, ite_false] <;> rfl)
theorem c_moodOf {k : Nat} {I : hI} {J : hJ} {R : hR} {b n : Nat} {s : Int32} (hb : b ≤ 1) (hn : n ≤ 8) (h13 : I 110 13 = Int32.ofNat n) (hM : ∀ r, r < n → okn (I 119 r) 6) (hk : 2 ≤ k) : ct k 220 [.ref 110, .int (Int32.ofNat b), .int s] I J R (some (.int (m_mood I b n s))) I J R := by
  obtain ⟨k, rfl⟩ : ∃ k', k = k' + 1 := ⟨k - 1, by omega⟩
  refine ct_of (q := am_m220) (L := [_, _, _, _, _, _, _, _]) rfl rfl rfl rfl rfl rfl ?_
  refine w_iconst (x := Int32.ofNat 0) rfl rfl (by decide) ?_
  refine w_istore_n (L' := [_, _, _, _, _, _, _, _]) rfl rfl rfl ?_
  refine w_iconst (x := Int32.ofNat 0) rfl rfl (by decide) ?_
  refine w_istore (L' := [_, _, _, _, _, _, _, _]) rfl rfl rfl ?_
  refine w_iconst (x := Int32.ofNat 0) rfl rfl (by decide) ?_
  refine w_istore (L' := [_, _, _, _, _, _, _, _]) rfl rfl rfl ?_
  refine l_moodOf2 hb hn h13 hM (by omega) (fun u v => ?_) 10 0 _ _ (by omega)
  refine w_iload_n rfl rfl rfl ?_
  exact w_iret rfl rfl rfl rfl rfl
def m_lay (J : hJ) (a b c d e f g : Int64) : hJ := am_u (am_u (am_u (am_u (am_u (am_u (am_u J 136 0 a) 136 1 b) 136 2 c) 136 3 d) 136 4 e) 136 5 f) 136 6 g
def m_layR (I : hI) (J : hJ) (b n r : Nat) (x : Int32) : hJ := m_lay J (I 120 r).toInt64 (m_even I (nn (I 119 r))).toInt64 (I 116 (nn (I 119 r))).toInt64 x.toInt64 (if I 140 (8 * b + r) < 0 then 0 else (m_bear I b n (I 140 (8 * b + r))).toInt64) (if I 110 63 = 0 then 0 else 1) (I 145 b).toInt64
def m_layS (I : hI) (J : hJ) (b n s : Nat) : hJ := m_lay J 0 0 (m_mood I b n (Int32.ofNat s)).toInt64 (I 124 s).toInt64 (m_bear I b n (Int32.ofNat s)).toInt64 (if I 110 63 = 0 then 0 else 1) (I 145 b).toInt64
theorem c_layRope {k : Nat} {I : hI} {J : hJ} {R : hR} {b n r : Nat} {x : Int32} (hb : b ≤ 1) (hr : r < 8) (hn : n ≤ 8) (h13 : I 110 13 = Int32.ofNat n) (hm : okn (I 119 r) 6) (hk : 3 ≤ k) : ct k 221 [.ref 110, .int (Int32.ofNat b), .int (Int32.ofNat r), .int x] I J R none I (m_layR I J b n r x) R := by
  obtain ⟨k, rfl⟩ : ∃ k', k = k' + 1 := ⟨k - 1, by omega⟩
  refine ct_of (q := am_m221) (L := [_, _, _, _, _]) rfl rfl rfl rfl rfl rfl ?_
  refine w_aload_n rfl rfl rfl ?_
  refine w_gf (t := .ref (140)) (v := .ref (140)) rfl rfl rfl sp110 rfl rfl rfl ?_
  refine w_bipush (x := Int32.ofNat 8) rfl rfl (by decide) ?_
  refine w_iload_n rfl rfl rfl ?_
  refine w_imulN rfl rfl ?_
  refine w_iload_n rfl rfl rfl ?_
  refine w_iaddN rfl rfl ?_
  refine w_iaload rfl rfl sp140 rfl ⟨by omega, by omega⟩ rfl ?_
  refine w_istore (L' := [_, _, _, _, _]) rfl rfl rfl ?_
  refine w_aload_n rfl rfl rfl ?_
  refine w_gf (t := .ref (136)) (v := .ref (136)) rfl rfl rfl sp110 rfl rfl rfl ?_
  refine w_iconst (x := Int32.ofNat 0) rfl rfl (by decide) ?_
  refine w_aload_n rfl rfl rfl ?_
  refine w_gf (t := .ref (120)) (v := .ref (120)) rfl rfl rfl sp110 rfl rfl rfl ?_
  refine w_iload_n rfl rfl rfl ?_
  refine w_iaload rfl rfl sp120 rfl ⟨by omega, by omega⟩ rfl ?_
  refine w_i2l rfl rfl ?_
  refine w_lastore rfl rfl sp136 rfl ⟨by omega, by omega⟩ ?_
  refine w_aload_n rfl rfl rfl ?_
  refine w_gf (t := .ref (136)) (v := .ref (136)) rfl rfl rfl sp110 rfl rfl rfl ?_
  refine w_iconst (x := Int32.ofNat 1) rfl rfl (by decide) ?_
  refine w_aload_n rfl rfl rfl ?_
  refine w_aload_n rfl rfl rfl ?_
  refine w_gf (t := .ref (119)) (v := .ref (119)) rfl rfl rfl sp110 rfl rfl rfl ?_
  refine w_iload_n rfl rfl rfl ?_
  refine w_iaload rfl rfl sp119 rfl ⟨by omega, by omega⟩ hm.1 ?_
  refine w_cv (q := am_m217) (as := [_]) (rest := [_, _]) (st' := [_, _, _]) rfl rfl rfl rfl rfl rfl sp110 rfl rfl rfl rfl (c_evenIn (by have := hm.2; omega) (by omega)) rfl rfl ?_
  refine w_i2l rfl rfl ?_
  refine w_lastore rfl rfl sp136 rfl ⟨by omega, by omega⟩ ?_
  refine w_aload_n rfl rfl rfl ?_
  refine w_gf (t := .ref (136)) (v := .ref (136)) rfl rfl rfl sp110 rfl rfl rfl ?_
  refine w_iconst (x := Int32.ofNat 2) rfl rfl (by decide) ?_
  refine w_aload_n rfl rfl rfl ?_
  refine w_gf (t := .ref (116)) (v := .ref (116)) rfl rfl rfl sp110 rfl rfl rfl ?_
  refine w_aload_n rfl rfl rfl ?_
  refine w_gf (t := .ref (119)) (v := .ref (119)) rfl rfl rfl sp110 rfl rfl rfl ?_
  refine w_iload_n rfl rfl rfl ?_
  refine w_iaload rfl rfl sp119 rfl ⟨by omega, by omega⟩ rfl ?_
  refine w_iaload rfl rfl sp116 hm.1 ⟨(by have := hm.2; omega), by omega⟩ rfl ?_
  refine w_i2l rfl rfl ?_
  refine w_lastore rfl rfl sp136 rfl ⟨by omega, by omega⟩ ?_
  refine w_aload_n rfl rfl rfl ?_
  refine w_gf (t := .ref (136)) (v := .ref (136)) rfl rfl rfl sp110 rfl rfl rfl ?_
  refine w_iconst (x := Int32.ofNat 3) rfl rfl (by decide) ?_
  refine w_iload_n rfl rfl rfl ?_
  refine w_i2l rfl rfl ?_
  refine w_lastore rfl rfl sp136 rfl ⟨by omega, by omega⟩ ?_
  refine w_aload_n rfl rfl rfl ?_
  refine w_gf (t := .ref (136)) (v := .ref (136)) rfl rfl rfl sp110 rfl rfl rfl ?_
  refine w_iconst (x := Int32.ofNat 4) rfl rfl (by decide) ?_
  refine w_iload rfl rfl rfl ?_
  refine w_if_ge (t := 83) (f := 79) rfl rfl rfl (fun c76 => ?_) (fun c76 => ?_)
  · refine w_aload_n rfl rfl rfl ?_
    refine w_iload_n rfl rfl rfl ?_
    refine w_iload rfl rfl rfl ?_
    refine w_cv (q := am_m219) (as := [_, _]) (rest := [_, _]) (st' := [_, _, _]) rfl rfl rfl rfl rfl rfl sp110 rfl rfl rfl rfl (c_bearOf hb hn h13 (by omega)) rfl rfl ?_
    refine w_i2l rfl rfl ?_
    refine w_lastore rfl rfl sp136 rfl ⟨by omega, by omega⟩ ?_
    refine w_aload_n rfl rfl rfl ?_
    refine w_gf (t := .ref (136)) (v := .ref (136)) rfl rfl rfl sp110 rfl rfl rfl ?_
    refine w_iconst (x := Int32.ofNat 5) rfl rfl (by decide) ?_
    refine w_aload_n rfl rfl rfl ?_
    refine w_gf (t := .int 0) (v := .int _) rfl rfl rfl sp110 rfl (congrArg Value.int rfl) rfl ?_
    refine w_if_eq (t := 108) (f := 104) rfl rfl rfl (fun c101 => ?_) (fun c101 => ?_)
    · refine w_lconst (x := 0) rfl rfl (by decide) ?_
      refine w_lastore rfl rfl sp136 rfl ⟨by omega, by omega⟩ ?_
      refine w_aload_n rfl rfl rfl ?_
      refine w_gf (t := .ref (136)) (v := .ref (136)) rfl rfl rfl sp110 rfl rfl rfl ?_
      refine w_bipush (x := Int32.ofNat 6) rfl rfl (by decide) ?_
      refine w_aload_n rfl rfl rfl ?_
      refine w_gf (t := .ref (145)) (v := .ref (145)) rfl rfl rfl sp110 rfl rfl rfl ?_
      refine w_iload_n rfl rfl rfl ?_
      refine w_iaload rfl rfl sp145 rfl ⟨by omega, by omega⟩ rfl ?_
      refine w_i2l rfl rfl ?_
      refine w_lastore rfl rfl sp136 rfl ⟨by omega, by omega⟩ ?_
      exact w_ret rfl rfl (by simp only [m_layR, m_lay, *, ite_true, ite_false, and_self, and_true, true_and, and_false, false_and, or_true, true_or, or_false, false_or, not_true, not_false_iff] <;> rfl) rfl
    · refine w_lconst (x := 1) rfl rfl (by decide) ?_
      refine w_goto (pc' := 109) rfl rfl ?_
      refine w_lastore rfl rfl sp136 rfl ⟨by omega, by omega⟩ ?_
      refine w_aload_n rfl rfl rfl ?_
      refine w_gf (t := .ref (136)) (v := .ref (136)) rfl rfl rfl sp110 rfl rfl rfl ?_
      refine w_bipush (x := Int32.ofNat 6) rfl rfl (by decide) ?_
      refine w_aload_n rfl rfl rfl ?_
      refine w_gf (t := .ref (145)) (v := .ref (145)) rfl rfl rfl sp110 rfl rfl rfl ?_
      refine w_iload_n rfl rfl rfl ?_
      refine w_iaload rfl rfl sp145 rfl ⟨by omega, by omega⟩ rfl ?_
      refine w_i2l rfl rfl ?_
      refine w_lastore rfl rfl sp136 rfl ⟨by omega, by omega⟩ ?_
      exact w_ret rfl rfl (by simp only [m_layR, m_lay, *, ite_true, ite_false, and_self, and_true, true_and, and_false, false_and, or_true, true_or, or_false, false_or, not_true, not_false_iff] <;> rfl) rfl
  · refine w_lconst (x := 0) rfl rfl (by decide) ?_
    refine w_goto (pc' := 91) rfl rfl ?_
    refine w_lastore rfl rfl sp136 rfl ⟨by omega, by omega⟩ ?_
    refine w_aload_n rfl rfl rfl ?_
    refine w_gf (t := .ref (136)) (v := .ref (136)) rfl rfl rfl sp110 rfl rfl rfl ?_
    refine w_iconst (x := Int32.ofNat 5) rfl rfl (by decide) ?_
    refine w_aload_n rfl rfl rfl ?_
    refine w_gf (t := .int 0) (v := .int _) rfl rfl rfl sp110 rfl (congrArg Value.int rfl) rfl ?_
    refine w_if_eq (t := 108) (f := 104) rfl rfl rfl (fun c101 => ?_) (fun c101 => ?_)
    · refine w_lconst (x := 0) rfl rfl (by decide) ?_
      refine w_lastore rfl rfl sp136 rfl ⟨by omega, by omega⟩ ?_
      refine w_aload_n rfl rfl rfl ?_
      refine w_gf (t := .ref (136)) (v := .ref (136)) rfl rfl rfl sp110 rfl rfl rfl ?_
      refine w_bipush (x := Int32.ofNat 6) rfl rfl (by decide) ?_
      refine w_aload_n rfl rfl rfl ?_
      refine w_gf (t := .ref (145)) (v := .ref (145)) rfl rfl rfl sp110 rfl rfl rfl ?_
      refine w_iload_n rfl rfl rfl ?_
      refine w_iaload rfl rfl sp145 rfl ⟨by omega, by omega⟩ rfl ?_
      refine w_i2l rfl rfl ?_
      refine w_lastore rfl rfl sp136 rfl ⟨by omega, by omega⟩ ?_
      exact w_ret rfl rfl (by simp only [m_layR, m_lay, *, ite_true, ite_false, and_self, and_true, true_and, and_false, false_and, or_true, true_or, or_false, false_or, not_true, not_false_iff] <;> rfl) rfl
    · refine w_lconst (x := 1) rfl rfl (by decide) ?_
      refine w_goto (pc' := 109) rfl rfl ?_
      refine w_lastore rfl rfl sp136 rfl ⟨by omega, by omega⟩ ?_
      refine w_aload_n rfl rfl rfl ?_
      refine w_gf (t := .ref (136)) (v := .ref (136)) rfl rfl rfl sp110 rfl rfl rfl ?_
      refine w_bipush (x := Int32.ofNat 6) rfl rfl (by decide) ?_
      refine w_aload_n rfl rfl rfl ?_
      refine w_gf (t := .ref (145)) (v := .ref (145)) rfl rfl rfl sp110 rfl rfl rfl ?_
      refine w_iload_n rfl rfl rfl ?_
      refine w_iaload rfl rfl sp145 rfl ⟨by omega, by omega⟩ rfl ?_
      refine w_i2l rfl rfl ?_
      refine w_lastore rfl rfl sp136 rfl ⟨by omega, by omega⟩ ?_
      exact w_ret rfl rfl (by simp only [m_layR, m_lay, *, ite_true, ite_false, and_self, and_true, true_and, and_false, false_and, or_true, true_or, or_false, false_or, not_true, not_false_iff] <;> rfl) rfl
theorem c_layShip {k : Nat} {I : hI} {J : hJ} {R : hR} {b n s : Nat} (hb : b ≤ 1) (hs : s < 5) (hn : n ≤ 8) (h13 : I 110 13 = Int32.ofNat n) (hM : ∀ r, r < n → okn (I 119 r) 6) (hk : 3 ≤ k) : ct k 222 [.ref 110, .int (Int32.ofNat b), .int (Int32.ofNat s)] I J R none I (m_layS I J b n s) R := by
  obtain ⟨k, rfl⟩ : ∃ k', k = k' + 1 := ⟨k - 1, by omega⟩
  refine ct_of (q := am_m222) (L := [_, _, _]) rfl rfl rfl rfl rfl rfl ?_
  refine w_aload_n rfl rfl rfl ?_
  refine w_gf (t := .ref (136)) (v := .ref (136)) rfl rfl rfl sp110 rfl rfl rfl ?_
  refine w_iconst (x := Int32.ofNat 0) rfl rfl (by decide) ?_
  refine w_lconst (x := 0) rfl rfl (by decide) ?_
  refine w_lastore rfl rfl sp136 rfl ⟨by omega, by omega⟩ ?_
  refine w_aload_n rfl rfl rfl ?_
  refine w_gf (t := .ref (136)) (v := .ref (136)) rfl rfl rfl sp110 rfl rfl rfl ?_
  refine w_iconst (x := Int32.ofNat 1) rfl rfl (by decide) ?_
  refine w_lconst (x := 0) rfl rfl (by decide) ?_
  refine w_lastore rfl rfl sp136 rfl ⟨by omega, by omega⟩ ?_
  refine w_aload_n rfl rfl rfl ?_
  refine w_gf (t := .ref (136)) (v := .ref (136)) rfl rfl rfl sp110 rfl rfl rfl ?_
  refine w_iconst (x := Int32.ofNat 2) rfl rfl (by decide) ?_
  refine w_aload_n rfl rfl rfl ?_
  refine w_iload_n rfl rfl rfl ?_
  refine w_iload_n rfl rfl rfl ?_
  refine w_cv (q := am_m220) (as := [_, _]) (rest := [_, _]) (st' := [_, _, _]) rfl rfl rfl rfl rfl rfl sp110 rfl rfl rfl rfl (c_moodOf hb hn h13 hM (by omega)) rfl rfl ?_
  refine w_i2l rfl rfl ?_
  refine w_lastore rfl rfl sp136 rfl ⟨by omega, by omega⟩ ?_
  refine w_aload_n rfl rfl rfl ?_
  refine w_gf (t := .ref (136)) (v := .ref (136)) rfl rfl rfl sp110 rfl rfl rfl ?_
  refine w_iconst (x := Int32.ofNat 3) rfl rfl (by decide) ?_
  refine w_aload_n rfl rfl rfl ?_
  refine w_gf (t := .ref (124)) (v := .ref (124)) rfl rfl rfl sp110 rfl rfl rfl ?_
  refine w_iload_n rfl rfl rfl ?_
  refine w_iaload rfl rfl sp124 rfl ⟨by omega, by omega⟩ rfl ?_
  refine w_i2l rfl rfl ?_
  refine w_lastore rfl rfl sp136 rfl ⟨by omega, by omega⟩ ?_
  refine w_aload_n rfl rfl rfl ?_
  refine w_gf (t := .ref (136)) (v := .ref (136)) rfl rfl rfl sp110 rfl rfl rfl ?_
  refine w_iconst (x := Int32.ofNat 4) rfl rfl (by decide) ?_
  refine w_aload_n rfl rfl rfl ?_
  refine w_iload_n rfl rfl rfl ?_
  refine w_iload_n rfl rfl rfl ?_
  refine w_cv (q := am_m219) (as := [_, _]) (rest := [_, _]) (st' := [_, _, _]) rfl rfl rfl rfl rfl rfl sp110 rfl rfl rfl rfl (c_bearOf hb hn h13 (by omega)) rfl rfl ?_
  refine w_i2l rfl rfl ?_
  refine w_lastore rfl rfl sp136 rfl ⟨by omega, by omega⟩ ?_
  refine w_aload_n rfl rfl rfl ?_
  refine w_gf (t := .ref (136)) (v := .ref (136)) rfl rfl rfl sp110 rfl rfl rfl ?_
  refine w_iconst (x := Int32.ofNat 5) rfl rfl (by decide) ?_
  refine w_aload_n rfl rfl rfl ?_
  refine w_gf (t := .int 0) (v := .int _) rfl rfl rfl sp110 rfl (congrArg Value.int rfl) rfl ?_
  refine w_if_eq (t := 69) (f := 65) rfl rfl rfl (fun c62 => ?_) (fun c62 => ?_)
  · refine w_lconst (x := 0) rfl rfl (by decide) ?_
    refine w_lastore rfl rfl sp136 rfl ⟨by omega, by omega⟩ ?_
    refine w_aload_n rfl rfl rfl ?_
    refine w_gf (t := .ref (136)) (v := .ref (136)) rfl rfl rfl sp110 rfl rfl rfl ?_
    refine w_bipush (x := Int32.ofNat 6) rfl rfl (by decide) ?_
    refine w_aload_n rfl rfl rfl ?_
    refine w_gf (t := .ref (145)) (v := .ref (145)) rfl rfl rfl sp110 rfl rfl rfl ?_
    refine w_iload_n rfl rfl rfl ?_
    refine w_iaload rfl rfl sp145 rfl ⟨by omega, by omega⟩ rfl ?_
    refine w_i2l rfl rfl ?_
    refine w_lastore rfl rfl sp136 rfl ⟨by omega, by omega⟩ ?_
    exact w_ret rfl rfl (by simp only [m_layS, m_lay, *, ite_true, ite_false, and_self, and_true, true_and, and_false, false_and, or_true, true_or, or_false, false_or, not_true, not_false_iff] <;> rfl) rfl
  · refine w_lconst (x := 1) rfl rfl (by decide) ?_
    refine w_goto (pc' := 70) rfl rfl ?_
    refine w_lastore rfl rfl sp136 rfl ⟨by omega, by omega⟩ ?_
    refine w_aload_n rfl rfl rfl ?_
    refine w_gf (t := .ref (136)) (v := .ref (136)) rfl rfl rfl sp110 rfl rfl rfl ?_
    refine w_bipush (x := Int32.ofNat 6) rfl rfl (by decide) ?_
    refine w_aload_n rfl rfl rfl ?_
    refine w_gf (t := .ref (145)) (v := .ref (145)) rfl rfl rfl sp110 rfl rfl rfl ?_
    refine w_iload_n rfl rfl rfl ?_
    refine w_iaload rfl rfl sp145 rfl ⟨by omega, by omega⟩ rfl ?_
    refine w_i2l rfl rfl ?_
    refine w_lastore rfl rfl sp136 rfl ⟨by omega, by omega⟩ ?_
    exact w_ret rfl rfl (by simp only [m_layS, m_lay, *, ite_true, ite_false, and_self, and_true, true_and, and_false, false_and, or_true, true_or, or_false, false_or, not_true, not_false_iff] <;> rfl) rfl
def m_bd : Int64 := 1000000000000
def m_e1 (e : Int32) (P : Prop) (d : Decidable P) : Int32 := if ¬ e = 0 ∨ P then Int32.ofNat 1 else Int32.ofNat 0
def m_v1 (e : Int32) (P : Prop) (d : Decidable P) (x : Int64) : Int64 := if ¬ e = 0 ∨ P then 0 else x
def m_bP (x : Int64) : Prop := m_bd < x ∨ x < -m_bd
def m_bPd (x : Int64) : Decidable (m_bP x) := inferInstanceAs (Decidable (_ ∨ _))
def m_ab (x : Int64) : Int64 := if x < 0 then -x else x
def m_tP (x y : Int64) : Prop := (¬ x = 0 ∧ ¬ y = 0) ∧ m_bd / m_ab x < m_ab y
def m_tPd (x y : Int64) : Decidable (m_tP x y) := inferInstanceAs (Decidable (_ ∧ _))
theorem c_bounded {k : Nat} {I : hI} {J : hJ} {R : hR} {x : Int64} (hk : 1 ≤ k) : ct k 206 [.ref 110, .long x] I J R (some (.long (m_v1 (I 110 53) (m_bP x) (m_bPd x) x))) (am_u I 110 53 (m_e1 (I 110 53) (m_bP x) (m_bPd x))) J R := by
  obtain ⟨k, rfl⟩ : ∃ k', k = k' + 1 := ⟨k - 1, by omega⟩
  refine ct_of (q := am_m206) (L := [_, _, _]) rfl rfl rfl rfl rfl rfl ?_
  refine w_aload_n rfl rfl rfl ?_
  refine w_aload_n rfl rfl rfl ?_
  refine w_gf (t := .int 0) (v := .int _) rfl rfl rfl sp110 rfl (congrArg Value.int rfl) rfl ?_
  refine w_if_ne (t := 24) (f := 8) rfl rfl rfl (fun c5 => ?_) (fun c5 => ?_)
  · refine w_iconst (x := Int32.ofNat 1) rfl rfl (by decide) ?_
    refine w_goto (pc' := 29) rfl rfl ?_
    refine w_pf rfl rfl rfl sp110 rfl rfl rfl ?_
    refine w_aload_n rfl rfl rfl ?_
    refine w_gf (t := .int 0) (v := .int _) rfl rfl rfl sp110 rfl (congrArg Value.int am_u_at) rfl ?_
    refine w_if_eq (t := 43) (f := 39) rfl rfl rfl (fun c36 => absurd c36 (by decide)) (fun c36 => ?_)
    refine w_lconst (x := 0) rfl rfl (by decide) ?_
    refine w_goto (pc' := 44) rfl rfl ?_
    exact w_lret rfl (by simp only [m_v1, m_bP, m_bd, *, ite_true, ite_false, and_self, and_true, true_and, and_false, false_and, or_true, true_or, or_false, false_or, not_true, not_false_iff] <;> rfl) (by simp only [m_e1, m_bP, m_bd, *, ite_true, ite_false, and_self, and_true, true_and, and_false, false_and, or_true, true_or, or_false, false_or, not_true, not_false_iff] <;> rfl) rfl rfl
  · refine w_lload_n rfl rfl rfl ?_
    refine w_ldc2_w rfl rfl rfl ?_
    refine w_lc_gt (t := 24) (f := 16) (p1 := 13) rfl rfl rfl rfl rfl (fun c13 => ?_) (fun c13 => ?_)
    · refine w_iconst (x := Int32.ofNat 1) rfl rfl (by decide) ?_
      refine w_goto (pc' := 29) rfl rfl ?_
      refine w_pf rfl rfl rfl sp110 rfl rfl rfl ?_
      refine w_aload_n rfl rfl rfl ?_
      refine w_gf (t := .int 0) (v := .int _) rfl rfl rfl sp110 rfl (congrArg Value.int am_u_at) rfl ?_
      refine w_if_eq (t := 43) (f := 39) rfl rfl rfl (fun c36 => absurd c36 (by decide)) (fun c36 => ?_)
      refine w_lconst (x := 0) rfl rfl (by decide) ?_
      refine w_goto (pc' := 44) rfl rfl ?_
      exact w_lret rfl (by simp only [m_v1, m_bP, m_bd, *, ite_true, ite_false, and_self, and_true, true_and, and_false, false_and, or_true, true_or, or_false, false_or, not_true, not_false_iff] <;> rfl) (by simp only [m_e1, m_bP, m_bd, *, ite_true, ite_false, and_self, and_true, true_and, and_false, false_and, or_true, true_or, or_false, false_or, not_true, not_false_iff] <;> rfl) rfl rfl
    · refine w_lload_n rfl rfl rfl ?_
      refine w_ldc2_w rfl rfl rfl ?_
      refine w_lc_ge (t := 28) (f := 24) (p1 := 21) rfl rfl rfl rfl rfl (fun c21 => ?_) (fun c21 => ?_)
      · refine w_iconst (x := Int32.ofNat 0) rfl rfl (by decide) ?_
        refine w_pf rfl rfl rfl sp110 rfl rfl rfl ?_
        refine w_aload_n rfl rfl rfl ?_
        refine w_gf (t := .int 0) (v := .int _) rfl rfl rfl sp110 rfl (congrArg Value.int am_u_at) rfl ?_
        refine w_if_eq (t := 43) (f := 39) rfl rfl rfl (fun c36 => ?_) (fun c36 => absurd c36 (by decide))
        refine w_lload_n rfl rfl rfl ?_
        exact w_lret rfl (by simp only [m_v1, m_bP, m_bd, *, ite_true, ite_false, and_self, and_true, true_and, and_false, false_and, or_true, true_or, or_false, false_or, not_true, not_false_iff] <;> rfl) (by simp only [m_e1, m_bP, m_bd, *, ite_true, ite_false, and_self, and_true, true_and, and_false, false_and, or_true, true_or, or_false, false_or, not_true, not_false_iff] <;> rfl) rfl rfl
      · refine w_iconst (x := Int32.ofNat 1) rfl rfl (by decide) ?_
        refine w_goto (pc' := 29) rfl rfl ?_
        refine w_pf rfl rfl rfl sp110 rfl rfl rfl ?_
        refine w_aload_n rfl rfl rfl ?_
        refine w_gf (t := .int 0) (v := .int _) rfl rfl rfl sp110 rfl (congrArg Value.int am_u_at) rfl ?_
        refine w_if_eq (t := 43) (f := 39) rfl rfl rfl (fun c36 => absurd c36 (by decide)) (fun c36 => ?_)
        refine w_lconst (x := 0) rfl rfl (by decide) ?_
        refine w_goto (pc' := 44) rfl rfl ?_
        exact w_lret rfl (by simp only [m_v1, m_bP, m_bd, *, ite_true, ite_false, and_self, and_true, true_and, and_false, false_and, or_true, true_or, or_false, false_or, not_true, not_false_iff] <;> rfl) (by simp only [m_e1, m_bP, m_bd, *, ite_true, ite_false, and_self, and_true, true_and, and_false, false_and, or_true, true_or, or_false, false_or, not_true, not_false_iff] <;> rfl) rfl rfl
theorem c_times {k : Nat} {I : hI} {J : hJ} {R : hR} {x y : Int64} (hk : 1 ≤ k) : ct k 208 [.ref 110, .long x, .long y] I J R (some (.long (m_v1 (I 110 53) (m_tP x y) (m_tPd x y) (x * y)))) (am_u I 110 53 (m_e1 (I 110 53) (m_tP x y) (m_tPd x y))) J R := by
  obtain ⟨k, rfl⟩ : ∃ k', k = k' + 1 := ⟨k - 1, by omega⟩
  refine ct_of (q := am_m208) (L := [_, _, _, _, _, _]) rfl rfl rfl rfl rfl rfl ?_
  refine w_lload_n rfl rfl rfl ?_
  refine w_lconst (x := 0) rfl rfl (by decide) ?_
  refine w_lc_eq (t := 48) (f := 6) (p1 := 3) rfl rfl rfl rfl rfl (fun c3 => ?_) (fun c3 => ?_)
  · refine w_iconst (x := Int32.ofNat 0) rfl rfl (by decide) ?_
    refine w_istore (L' := [_, _, _, _, _, _]) rfl rfl rfl ?_
    refine w_aload_n rfl rfl rfl ?_
    refine w_aload_n rfl rfl rfl ?_
    refine w_gf (t := .int 0) (v := .int _) rfl rfl rfl sp110 rfl (congrArg Value.int rfl) rfl ?_
    refine w_if_ne (t := 64) (f := 59) rfl rfl rfl (fun c56 => ?_) (fun c56 => ?_)
    · refine w_iconst (x := Int32.ofNat 1) rfl rfl (by decide) ?_
      refine w_goto (pc' := 69) rfl rfl ?_
      refine w_pf rfl rfl rfl sp110 rfl rfl rfl ?_
      refine w_aload_n rfl rfl rfl ?_
      refine w_gf (t := .int 0) (v := .int _) rfl rfl rfl sp110 rfl (congrArg Value.int am_u_at) rfl ?_
      refine w_if_eq (t := 83) (f := 79) rfl rfl rfl (fun c76 => absurd c76 (by decide)) (fun c76 => ?_)
      refine w_lconst (x := 0) rfl rfl (by decide) ?_
      refine w_goto (pc' := 86) rfl rfl ?_
      exact w_lret rfl (by simp only [m_v1, m_tP, m_ab, m_bd, *, ite_true, ite_false, and_self, and_true, true_and, and_false, false_and, or_true, true_or, or_false, false_or, not_true, not_false_iff] <;> rfl) (by simp only [m_e1, m_tP, m_ab, m_bd, *, ite_true, ite_false, and_self, and_true, true_and, and_false, false_and, or_true, true_or, or_false, false_or, not_true, not_false_iff] <;> rfl) rfl rfl
    · refine w_iload rfl rfl rfl ?_
      refine w_if_eq (t := 68) (f := 64) rfl rfl rfl (fun c61 => ?_) (fun c61 => absurd c61 (by decide))
      refine w_iconst (x := Int32.ofNat 0) rfl rfl (by decide) ?_
      refine w_pf rfl rfl rfl sp110 rfl rfl rfl ?_
      refine w_aload_n rfl rfl rfl ?_
      refine w_gf (t := .int 0) (v := .int _) rfl rfl rfl sp110 rfl (congrArg Value.int am_u_at) rfl ?_
      refine w_if_eq (t := 83) (f := 79) rfl rfl rfl (fun c76 => ?_) (fun c76 => absurd c76 (by decide))
      refine w_lload_n rfl rfl rfl ?_
      refine w_lload_n rfl rfl rfl ?_
      refine w_lmul rfl rfl ?_
      exact w_lret rfl (by simp only [m_v1, m_tP, m_ab, m_bd, *, ite_true, ite_false, and_self, and_true, true_and, and_false, false_and, or_true, true_or, or_false, false_or, not_true, not_false_iff] <;> rfl) (by simp only [m_e1, m_tP, m_ab, m_bd, *, ite_true, ite_false, and_self, and_true, true_and, and_false, false_and, or_true, true_or, or_false, false_or, not_true, not_false_iff] <;> rfl) rfl rfl
  · refine w_lload_n rfl rfl rfl ?_
    refine w_lconst (x := 0) rfl rfl (by decide) ?_
    refine w_lc_eq (t := 48) (f := 12) (p1 := 9) rfl rfl rfl rfl rfl (fun c9 => ?_) (fun c9 => ?_)
    · refine w_iconst (x := Int32.ofNat 0) rfl rfl (by decide) ?_
      refine w_istore (L' := [_, _, _, _, _, _]) rfl rfl rfl ?_
      refine w_aload_n rfl rfl rfl ?_
      refine w_aload_n rfl rfl rfl ?_
      refine w_gf (t := .int 0) (v := .int _) rfl rfl rfl sp110 rfl (congrArg Value.int rfl) rfl ?_
      refine w_if_ne (t := 64) (f := 59) rfl rfl rfl (fun c56 => ?_) (fun c56 => ?_)
      · refine w_iconst (x := Int32.ofNat 1) rfl rfl (by decide) ?_
        refine w_goto (pc' := 69) rfl rfl ?_
        refine w_pf rfl rfl rfl sp110 rfl rfl rfl ?_
        refine w_aload_n rfl rfl rfl ?_
        refine w_gf (t := .int 0) (v := .int _) rfl rfl rfl sp110 rfl (congrArg Value.int am_u_at) rfl ?_
        refine w_if_eq (t := 83) (f := 79) rfl rfl rfl (fun c76 => absurd c76 (by decide)) (fun c76 => ?_)
        refine w_lconst (x := 0) rfl rfl (by decide) ?_
        refine w_goto (pc' := 86) rfl rfl ?_
        exact w_lret rfl (by simp only [m_v1, m_tP, m_ab, m_bd, *, ite_true, ite_false, and_self, and_true, true_and, and_false, false_and, or_true, true_or, or_false, false_or, not_true, not_false_iff] <;> rfl) (by simp only [m_e1, m_tP, m_ab, m_bd, *, ite_true, ite_false, and_self, and_true, true_and, and_false, false_and, or_true, true_or, or_false, false_or, not_true, not_false_iff] <;> rfl) rfl rfl
      · refine w_iload rfl rfl rfl ?_
        refine w_if_eq (t := 68) (f := 64) rfl rfl rfl (fun c61 => ?_) (fun c61 => absurd c61 (by decide))
        refine w_iconst (x := Int32.ofNat 0) rfl rfl (by decide) ?_
        refine w_pf rfl rfl rfl sp110 rfl rfl rfl ?_
        refine w_aload_n rfl rfl rfl ?_
        refine w_gf (t := .int 0) (v := .int _) rfl rfl rfl sp110 rfl (congrArg Value.int am_u_at) rfl ?_
        refine w_if_eq (t := 83) (f := 79) rfl rfl rfl (fun c76 => ?_) (fun c76 => absurd c76 (by decide))
        refine w_lload_n rfl rfl rfl ?_
        refine w_lload_n rfl rfl rfl ?_
        refine w_lmul rfl rfl ?_
        exact w_lret rfl (by simp only [m_v1, m_tP, m_ab, m_bd, *, ite_true, ite_false, and_self, and_true, true_and, and_false, false_and, or_true, true_or, or_false, false_or, not_true, not_false_iff] <;> rfl) (by simp only [m_e1, m_tP, m_ab, m_bd, *, ite_true, ite_false, and_self, and_true, true_and, and_false, false_and, or_true, true_or, or_false, false_or, not_true, not_false_iff] <;> rfl) rfl rfl
    · refine w_lload_n rfl rfl rfl ?_
      refine w_lconst (x := 0) rfl rfl (by decide) ?_
      refine w_lc_ge (t := 23) (f := 18) (p1 := 15) rfl rfl rfl rfl rfl (fun c15 => ?_) (fun c15 => ?_)
      · refine w_lload_n rfl rfl rfl ?_
        refine w_ldc2_w rfl rfl rfl ?_
        refine w_lload_n rfl rfl rfl ?_
        refine w_lconst (x := 0) rfl rfl (by decide) ?_
        refine w_lc_ge (t := 38) (f := 33) (p1 := 30) rfl rfl rfl rfl rfl (fun c30 => ?_) (fun c30 => ?_)
        · refine w_lload_n rfl rfl rfl ?_
          refine w_ldiv rfl rfl (by first | exact c3 | exact am_neg0 c3) ?_
          refine w_lc_le (t := 48) (f := 44) (p1 := 41) rfl rfl rfl rfl rfl (fun c41 => ?_) (fun c41 => ?_)
          · refine w_iconst (x := Int32.ofNat 0) rfl rfl (by decide) ?_
            refine w_istore (L' := [_, _, _, _, _, _]) rfl rfl rfl ?_
            refine w_aload_n rfl rfl rfl ?_
            refine w_aload_n rfl rfl rfl ?_
            refine w_gf (t := .int 0) (v := .int _) rfl rfl rfl sp110 rfl (congrArg Value.int rfl) rfl ?_
            refine w_if_ne (t := 64) (f := 59) rfl rfl rfl (fun c56 => ?_) (fun c56 => ?_)
            · refine w_iconst (x := Int32.ofNat 1) rfl rfl (by decide) ?_
              refine w_goto (pc' := 69) rfl rfl ?_
              refine w_pf rfl rfl rfl sp110 rfl rfl rfl ?_
              refine w_aload_n rfl rfl rfl ?_
              refine w_gf (t := .int 0) (v := .int _) rfl rfl rfl sp110 rfl (congrArg Value.int am_u_at) rfl ?_
              refine w_if_eq (t := 83) (f := 79) rfl rfl rfl (fun c76 => absurd c76 (by decide)) (fun c76 => ?_)
              refine w_lconst (x := 0) rfl rfl (by decide) ?_
              refine w_goto (pc' := 86) rfl rfl ?_
              exact w_lret rfl (by simp only [m_v1, m_tP, m_ab, m_bd, *, ite_true, ite_false, and_self, and_true, true_and, and_false, false_and, or_true, true_or, or_false, false_or, not_true, not_false_iff] <;> rfl) (by simp only [m_e1, m_tP, m_ab, m_bd, *, ite_true, ite_false, and_self, and_true, true_and, and_false, false_and, or_true, true_or, or_false, false_or, not_true, not_false_iff] <;> rfl) rfl rfl
            · refine w_iload rfl rfl rfl ?_
              refine w_if_eq (t := 68) (f := 64) rfl rfl rfl (fun c61 => ?_) (fun c61 => absurd c61 (by decide))
              refine w_iconst (x := Int32.ofNat 0) rfl rfl (by decide) ?_
              refine w_pf rfl rfl rfl sp110 rfl rfl rfl ?_
              refine w_aload_n rfl rfl rfl ?_
              refine w_gf (t := .int 0) (v := .int _) rfl rfl rfl sp110 rfl (congrArg Value.int am_u_at) rfl ?_
              refine w_if_eq (t := 83) (f := 79) rfl rfl rfl (fun c76 => ?_) (fun c76 => absurd c76 (by decide))
              refine w_lload_n rfl rfl rfl ?_
              refine w_lload_n rfl rfl rfl ?_
              refine w_lmul rfl rfl ?_
              exact w_lret rfl (by simp only [m_v1, m_tP, m_ab, m_bd, *, ite_true, ite_false, and_self, and_true, true_and, and_false, false_and, or_true, true_or, or_false, false_or, not_true, not_false_iff] <;> rfl) (by simp only [m_e1, m_tP, m_ab, m_bd, *, ite_true, ite_false, and_self, and_true, true_and, and_false, false_and, or_true, true_or, or_false, false_or, not_true, not_false_iff] <;> rfl) rfl rfl
          · refine w_iconst (x := Int32.ofNat 1) rfl rfl (by decide) ?_
            refine w_goto (pc' := 49) rfl rfl ?_
            refine w_istore (L' := [_, _, _, _, _, _]) rfl rfl rfl ?_
            refine w_aload_n rfl rfl rfl ?_
            refine w_aload_n rfl rfl rfl ?_
            refine w_gf (t := .int 0) (v := .int _) rfl rfl rfl sp110 rfl (congrArg Value.int rfl) rfl ?_
            refine w_if_ne (t := 64) (f := 59) rfl rfl rfl (fun c56 => ?_) (fun c56 => ?_)
            · refine w_iconst (x := Int32.ofNat 1) rfl rfl (by decide) ?_
              refine w_goto (pc' := 69) rfl rfl ?_
              refine w_pf rfl rfl rfl sp110 rfl rfl rfl ?_
              refine w_aload_n rfl rfl rfl ?_
              refine w_gf (t := .int 0) (v := .int _) rfl rfl rfl sp110 rfl (congrArg Value.int am_u_at) rfl ?_
              refine w_if_eq (t := 83) (f := 79) rfl rfl rfl (fun c76 => absurd c76 (by decide)) (fun c76 => ?_)
              refine w_lconst (x := 0) rfl rfl (by decide) ?_
              refine w_goto (pc' := 86) rfl rfl ?_
              exact w_lret rfl (by simp only [m_v1, m_tP, m_ab, m_bd, *, ite_true, ite_false, and_self, and_true, true_and, and_false, false_and, or_true, true_or, or_false, false_or, not_true, not_false_iff] <;> rfl) (by simp only [m_e1, m_tP, m_ab, m_bd, *, ite_true, ite_false, and_self, and_true, true_and, and_false, false_and, or_true, true_or, or_false, false_or, not_true, not_false_iff] <;> rfl) rfl rfl
            · refine w_iload rfl rfl rfl ?_
              refine w_if_eq (t := 68) (f := 64) rfl rfl rfl (fun c61 => absurd c61 (by decide)) (fun c61 => ?_)
              refine w_iconst (x := Int32.ofNat 1) rfl rfl (by decide) ?_
              refine w_goto (pc' := 69) rfl rfl ?_
              refine w_pf rfl rfl rfl sp110 rfl rfl rfl ?_
              refine w_aload_n rfl rfl rfl ?_
              refine w_gf (t := .int 0) (v := .int _) rfl rfl rfl sp110 rfl (congrArg Value.int am_u_at) rfl ?_
              refine w_if_eq (t := 83) (f := 79) rfl rfl rfl (fun c76 => absurd c76 (by decide)) (fun c76 => ?_)
              refine w_lconst (x := 0) rfl rfl (by decide) ?_
              refine w_goto (pc' := 86) rfl rfl ?_
              exact w_lret rfl (by simp only [m_v1, m_tP, m_ab, m_bd, *, ite_true, ite_false, and_self, and_true, true_and, and_false, false_and, or_true, true_or, or_false, false_or, not_true, not_false_iff] <;> rfl) (by simp only [m_e1, m_tP, m_ab, m_bd, *, ite_true, ite_false, and_self, and_true, true_and, and_false, false_and, or_true, true_or, or_false, false_or, not_true, not_false_iff] <;> rfl) rfl rfl
        · refine w_lload_n rfl rfl rfl ?_
          refine w_lneg rfl rfl ?_
          refine w_goto (pc' := 39) rfl rfl ?_
          refine w_ldiv rfl rfl (by first | exact c3 | exact am_neg0 c3) ?_
          refine w_lc_le (t := 48) (f := 44) (p1 := 41) rfl rfl rfl rfl rfl (fun c41 => ?_) (fun c41 => ?_)
          · refine w_iconst (x := Int32.ofNat 0) rfl rfl (by decide) ?_
            refine w_istore (L' := [_, _, _, _, _, _]) rfl rfl rfl ?_
            refine w_aload_n rfl rfl rfl ?_
            refine w_aload_n rfl rfl rfl ?_
            refine w_gf (t := .int 0) (v := .int _) rfl rfl rfl sp110 rfl (congrArg Value.int rfl) rfl ?_
            refine w_if_ne (t := 64) (f := 59) rfl rfl rfl (fun c56 => ?_) (fun c56 => ?_)
            · refine w_iconst (x := Int32.ofNat 1) rfl rfl (by decide) ?_
              refine w_goto (pc' := 69) rfl rfl ?_
              refine w_pf rfl rfl rfl sp110 rfl rfl rfl ?_
              refine w_aload_n rfl rfl rfl ?_
              refine w_gf (t := .int 0) (v := .int _) rfl rfl rfl sp110 rfl (congrArg Value.int am_u_at) rfl ?_
              refine w_if_eq (t := 83) (f := 79) rfl rfl rfl (fun c76 => absurd c76 (by decide)) (fun c76 => ?_)
              refine w_lconst (x := 0) rfl rfl (by decide) ?_
              refine w_goto (pc' := 86) rfl rfl ?_
              exact w_lret rfl (by simp only [m_v1, m_tP, m_ab, m_bd, *, ite_true, ite_false, and_self, and_true, true_and, and_false, false_and, or_true, true_or, or_false, false_or, not_true, not_false_iff] <;> rfl) (by simp only [m_e1, m_tP, m_ab, m_bd, *, ite_true, ite_false, and_self, and_true, true_and, and_false, false_and, or_true, true_or, or_false, false_or, not_true, not_false_iff] <;> rfl) rfl rfl
            · refine w_iload rfl rfl rfl ?_
              refine w_if_eq (t := 68) (f := 64) rfl rfl rfl (fun c61 => ?_) (fun c61 => absurd c61 (by decide))
              refine w_iconst (x := Int32.ofNat 0) rfl rfl (by decide) ?_
              refine w_pf rfl rfl rfl sp110 rfl rfl rfl ?_
              refine w_aload_n rfl rfl rfl ?_
              refine w_gf (t := .int 0) (v := .int _) rfl rfl rfl sp110 rfl (congrArg Value.int am_u_at) rfl ?_
              refine w_if_eq (t := 83) (f := 79) rfl rfl rfl (fun c76 => ?_) (fun c76 => absurd c76 (by decide))
              refine w_lload_n rfl rfl rfl ?_
              refine w_lload_n rfl rfl rfl ?_
              refine w_lmul rfl rfl ?_
              exact w_lret rfl (by simp only [m_v1, m_tP, m_ab, m_bd, *, ite_true, ite_false, and_self, and_true, true_and, and_false, false_and, or_true, true_or, or_false, false_or, not_true, not_false_iff] <;> rfl) (by simp only [m_e1, m_tP, m_ab, m_bd, *, ite_true, ite_false, and_self, and_true, true_and, and_false, false_and, or_true, true_or, or_false, false_or, not_true, not_false_iff] <;> rfl) rfl rfl
          · refine w_iconst (x := Int32.ofNat 1) rfl rfl (by decide) ?_
            refine w_goto (pc' := 49) rfl rfl ?_
            refine w_istore (L' := [_, _, _, _, _, _]) rfl rfl rfl ?_
            refine w_aload_n rfl rfl rfl ?_
            refine w_aload_n rfl rfl rfl ?_
            refine w_gf (t := .int 0) (v := .int _) rfl rfl rfl sp110 rfl (congrArg Value.int rfl) rfl ?_
            refine w_if_ne (t := 64) (f := 59) rfl rfl rfl (fun c56 => ?_) (fun c56 => ?_)
            · refine w_iconst (x := Int32.ofNat 1) rfl rfl (by decide) ?_
              refine w_goto (pc' := 69) rfl rfl ?_
              refine w_pf rfl rfl rfl sp110 rfl rfl rfl ?_
              refine w_aload_n rfl rfl rfl ?_
              refine w_gf (t := .int 0) (v := .int _) rfl rfl rfl sp110 rfl (congrArg Value.int am_u_at) rfl ?_
              refine w_if_eq (t := 83) (f := 79) rfl rfl rfl (fun c76 => absurd c76 (by decide)) (fun c76 => ?_)
              refine w_lconst (x := 0) rfl rfl (by decide) ?_
              refine w_goto (pc' := 86) rfl rfl ?_
              exact w_lret rfl (by simp only [m_v1, m_tP, m_ab, m_bd, *, ite_true, ite_false, and_self, and_true, true_and, and_false, false_and, or_true, true_or, or_false, false_or, not_true, not_false_iff] <;> rfl) (by simp only [m_e1, m_tP, m_ab, m_bd, *, ite_true, ite_false, and_self, and_true, true_and, and_false, false_and, or_true, true_or, or_false, false_or, not_true, not_false_iff] <;> rfl) rfl rfl
            · refine w_iload rfl rfl rfl ?_
              refine w_if_eq (t := 68) (f := 64) rfl rfl rfl (fun c61 => absurd c61 (by decide)) (fun c61 => ?_)
              refine w_iconst (x := Int32.ofNat 1) rfl rfl (by decide) ?_
              refine w_goto (pc' := 69) rfl rfl ?_
              refine w_pf rfl rfl rfl sp110 rfl rfl rfl ?_
              refine w_aload_n rfl rfl rfl ?_
              refine w_gf (t := .int 0) (v := .int _) rfl rfl rfl sp110 rfl (congrArg Value.int am_u_at) rfl ?_
              refine w_if_eq (t := 83) (f := 79) rfl rfl rfl (fun c76 => absurd c76 (by decide)) (fun c76 => ?_)
              refine w_lconst (x := 0) rfl rfl (by decide) ?_
              refine w_goto (pc' := 86) rfl rfl ?_
              exact w_lret rfl (by simp only [m_v1, m_tP, m_ab, m_bd, *, ite_true, ite_false, and_self, and_true, true_and, and_false, false_and, or_true, true_or, or_false, false_or, not_true, not_false_iff] <;> rfl) (by simp only [m_e1, m_tP, m_ab, m_bd, *, ite_true, ite_false, and_self, and_true, true_and, and_false, false_and, or_true, true_or, or_false, false_or, not_true, not_false_iff] <;> rfl) rfl rfl
      · refine w_lload_n rfl rfl rfl ?_
        refine w_lneg rfl rfl ?_
        refine w_goto (pc' := 24) rfl rfl ?_
        refine w_ldc2_w rfl rfl rfl ?_
        refine w_lload_n rfl rfl rfl ?_
        refine w_lconst (x := 0) rfl rfl (by decide) ?_
        refine w_lc_ge (t := 38) (f := 33) (p1 := 30) rfl rfl rfl rfl rfl (fun c30 => ?_) (fun c30 => ?_)
        · refine w_lload_n rfl rfl rfl ?_
          refine w_ldiv rfl rfl (by first | exact c3 | exact am_neg0 c3) ?_
          refine w_lc_le (t := 48) (f := 44) (p1 := 41) rfl rfl rfl rfl rfl (fun c41 => ?_) (fun c41 => ?_)
          · refine w_iconst (x := Int32.ofNat 0) rfl rfl (by decide) ?_
            refine w_istore (L' := [_, _, _, _, _, _]) rfl rfl rfl ?_
            refine w_aload_n rfl rfl rfl ?_
            refine w_aload_n rfl rfl rfl ?_
            refine w_gf (t := .int 0) (v := .int _) rfl rfl rfl sp110 rfl (congrArg Value.int rfl) rfl ?_
            refine w_if_ne (t := 64) (f := 59) rfl rfl rfl (fun c56 => ?_) (fun c56 => ?_)
            · refine w_iconst (x := Int32.ofNat 1) rfl rfl (by decide) ?_
              refine w_goto (pc' := 69) rfl rfl ?_
              refine w_pf rfl rfl rfl sp110 rfl rfl rfl ?_
              refine w_aload_n rfl rfl rfl ?_
              refine w_gf (t := .int 0) (v := .int _) rfl rfl rfl sp110 rfl (congrArg Value.int am_u_at) rfl ?_
              refine w_if_eq (t := 83) (f := 79) rfl rfl rfl (fun c76 => absurd c76 (by decide)) (fun c76 => ?_)
              refine w_lconst (x := 0) rfl rfl (by decide) ?_
              refine w_goto (pc' := 86) rfl rfl ?_
              exact w_lret rfl (by simp only [m_v1, m_tP, m_ab, m_bd, *, ite_true, ite_false, and_self, and_true, true_and, and_false, false_and, or_true, true_or, or_false, false_or, not_true, not_false_iff] <;> rfl) (by simp only [m_e1, m_tP, m_ab, m_bd, *, ite_true, ite_false, and_self, and_true, true_and, and_false, false_and, or_true, true_or, or_false, false_or, not_true, not_false_iff] <;> rfl) rfl rfl
            · refine w_iload rfl rfl rfl ?_
              refine w_if_eq (t := 68) (f := 64) rfl rfl rfl (fun c61 => ?_) (fun c61 => absurd c61 (by decide))
              refine w_iconst (x := Int32.ofNat 0) rfl rfl (by decide) ?_
              refine w_pf rfl rfl rfl sp110 rfl rfl rfl ?_
              refine w_aload_n rfl rfl rfl ?_
              refine w_gf (t := .int 0) (v := .int _) rfl rfl rfl sp110 rfl (congrArg Value.int am_u_at) rfl ?_
              refine w_if_eq (t := 83) (f := 79) rfl rfl rfl (fun c76 => ?_) (fun c76 => absurd c76 (by decide))
              refine w_lload_n rfl rfl rfl ?_
              refine w_lload_n rfl rfl rfl ?_
              refine w_lmul rfl rfl ?_
              exact w_lret rfl (by simp only [m_v1, m_tP, m_ab, m_bd, *, ite_true, ite_false, and_self, and_true, true_and, and_false, false_and, or_true, true_or, or_false, false_or, not_true, not_false_iff] <;> rfl) (by simp only [m_e1, m_tP, m_ab, m_bd, *, ite_true, ite_false, and_self, and_true, true_and, and_false, false_and, or_true, true_or, or_false, false_or, not_true, not_false_iff] <;> rfl) rfl rfl
          · refine w_iconst (x := Int32.ofNat 1) rfl rfl (by decide) ?_
            refine w_goto (pc' := 49) rfl rfl ?_
            refine w_istore (L' := [_, _, _, _, _, _]) rfl rfl rfl ?_
            refine w_aload_n rfl rfl rfl ?_
            refine w_aload_n rfl rfl rfl ?_
            refine w_gf (t := .int 0) (v := .int _) rfl rfl rfl sp110 rfl (congrArg Value.int rfl) rfl ?_
            refine w_if_ne (t := 64) (f := 59) rfl rfl rfl (fun c56 => ?_) (fun c56 => ?_)
            · refine w_iconst (x := Int32.ofNat 1) rfl rfl (by decide) ?_
              refine w_goto (pc' := 69) rfl rfl ?_
              refine w_pf rfl rfl rfl sp110 rfl rfl rfl ?_
              refine w_aload_n rfl rfl rfl ?_
              refine w_gf (t := .int 0) (v := .int _) rfl rfl rfl sp110 rfl (congrArg Value.int am_u_at) rfl ?_
              refine w_if_eq (t := 83) (f := 79) rfl rfl rfl (fun c76 => absurd c76 (by decide)) (fun c76 => ?_)
              refine w_lconst (x := 0) rfl rfl (by decide) ?_
              refine w_goto (pc' := 86) rfl rfl ?_
              exact w_lret rfl (by simp only [m_v1, m_tP, m_ab, m_bd, *, ite_true, ite_false, and_self, and_true, true_and, and_false, false_and, or_true, true_or, or_false, false_or, not_true, not_false_iff] <;> rfl) (by simp only [m_e1, m_tP, m_ab, m_bd, *, ite_true, ite_false, and_self, and_true, true_and, and_false, false_and, or_true, true_or, or_false, false_or, not_true, not_false_iff] <;> rfl) rfl rfl
            · refine w_iload rfl rfl rfl ?_
              refine w_if_eq (t := 68) (f := 64) rfl rfl rfl (fun c61 => absurd c61 (by decide)) (fun c61 => ?_)
              refine w_iconst (x := Int32.ofNat 1) rfl rfl (by decide) ?_
              refine w_goto (pc' := 69) rfl rfl ?_
              refine w_pf rfl rfl rfl sp110 rfl rfl rfl ?_
              refine w_aload_n rfl rfl rfl ?_
              refine w_gf (t := .int 0) (v := .int _) rfl rfl rfl sp110 rfl (congrArg Value.int am_u_at) rfl ?_
              refine w_if_eq (t := 83) (f := 79) rfl rfl rfl (fun c76 => absurd c76 (by decide)) (fun c76 => ?_)
              refine w_lconst (x := 0) rfl rfl (by decide) ?_
              refine w_goto (pc' := 86) rfl rfl ?_
              exact w_lret rfl (by simp only [m_v1, m_tP, m_ab, m_bd, *, ite_true, ite_false, and_self, and_true, true_and, and_false, false_and, or_true, true_or, or_false, false_or, not_true, not_false_iff] <;> rfl) (by simp only [m_e1, m_tP, m_ab, m_bd, *, ite_true, ite_false, and_self, and_true, true_and, and_false, false_and, or_true, true_or, or_false, false_or, not_true, not_false_iff] <;> rfl) rfl rfl
        · refine w_lload_n rfl rfl rfl ?_
          refine w_lneg rfl rfl ?_
          refine w_goto (pc' := 39) rfl rfl ?_
          refine w_ldiv rfl rfl (by first | exact c3 | exact am_neg0 c3) ?_
          refine w_lc_le (t := 48) (f := 44) (p1 := 41) rfl rfl rfl rfl rfl (fun c41 => ?_) (fun c41 => ?_)
          · refine w_iconst (x := Int32.ofNat 0) rfl rfl (by decide) ?_
            refine w_istore (L' := [_, _, _, _, _, _]) rfl rfl rfl ?_
            refine w_aload_n rfl rfl rfl ?_
            refine w_aload_n rfl rfl rfl ?_
            refine w_gf (t := .int 0) (v := .int _) rfl rfl rfl sp110 rfl (congrArg Value.int rfl) rfl ?_
            refine w_if_ne (t := 64) (f := 59) rfl rfl rfl (fun c56 => ?_) (fun c56 => ?_)
            · refine w_iconst (x := Int32.ofNat 1) rfl rfl (by decide) ?_
              refine w_goto (pc' := 69) rfl rfl ?_
              refine w_pf rfl rfl rfl sp110 rfl rfl rfl ?_
              refine w_aload_n rfl rfl rfl ?_
              refine w_gf (t := .int 0) (v := .int _) rfl rfl rfl sp110 rfl (congrArg Value.int am_u_at) rfl ?_
              refine w_if_eq (t := 83) (f := 79) rfl rfl rfl (fun c76 => absurd c76 (by decide)) (fun c76 => ?_)
              refine w_lconst (x := 0) rfl rfl (by decide) ?_
              refine w_goto (pc' := 86) rfl rfl ?_
              exact w_lret rfl (by simp only [m_v1, m_tP, m_ab, m_bd, *, ite_true, ite_false, and_self, and_true, true_and, and_false, false_and, or_true, true_or, or_false, false_or, not_true, not_false_iff] <;> rfl) (by simp only [m_e1, m_tP, m_ab, m_bd, *, ite_true, ite_false, and_self, and_true, true_and, and_false, false_and, or_true, true_or, or_false, false_or, not_true, not_false_iff] <;> rfl) rfl rfl
            · refine w_iload rfl rfl rfl ?_
              refine w_if_eq (t := 68) (f := 64) rfl rfl rfl (fun c61 => ?_) (fun c61 => absurd c61 (by decide))
              refine w_iconst (x := Int32.ofNat 0) rfl rfl (by decide) ?_
              refine w_pf rfl rfl rfl sp110 rfl rfl rfl ?_
              refine w_aload_n rfl rfl rfl ?_
              refine w_gf (t := .int 0) (v := .int _) rfl rfl rfl sp110 rfl (congrArg Value.int am_u_at) rfl ?_
              refine w_if_eq (t := 83) (f := 79) rfl rfl rfl (fun c76 => ?_) (fun c76 => absurd c76 (by decide))
              refine w_lload_n rfl rfl rfl ?_
              refine w_lload_n rfl rfl rfl ?_
              refine w_lmul rfl rfl ?_
              exact w_lret rfl (by simp only [m_v1, m_tP, m_ab, m_bd, *, ite_true, ite_false, and_self, and_true, true_and, and_false, false_and, or_true, true_or, or_false, false_or, not_true, not_false_iff] <;> rfl) (by simp only [m_e1, m_tP, m_ab, m_bd, *, ite_true, ite_false, and_self, and_true, true_and, and_false, false_and, or_true, true_or, or_false, false_or, not_true, not_false_iff] <;> rfl) rfl rfl
          · refine w_iconst (x := Int32.ofNat 1) rfl rfl (by decide) ?_
            refine w_goto (pc' := 49) rfl rfl ?_
            refine w_istore (L' := [_, _, _, _, _, _]) rfl rfl rfl ?_
            refine w_aload_n rfl rfl rfl ?_
            refine w_aload_n rfl rfl rfl ?_
            refine w_gf (t := .int 0) (v := .int _) rfl rfl rfl sp110 rfl (congrArg Value.int rfl) rfl ?_
            refine w_if_ne (t := 64) (f := 59) rfl rfl rfl (fun c56 => ?_) (fun c56 => ?_)
            · refine w_iconst (x := Int32.ofNat 1) rfl rfl (by decide) ?_
              refine w_goto (pc' := 69) rfl rfl ?_
              refine w_pf rfl rfl rfl sp110 rfl rfl rfl ?_
              refine w_aload_n rfl rfl rfl ?_
              refine w_gf (t := .int 0) (v := .int _) rfl rfl rfl sp110 rfl (congrArg Value.int am_u_at) rfl ?_
              refine w_if_eq (t := 83) (f := 79) rfl rfl rfl (fun c76 => absurd c76 (by decide)) (fun c76 => ?_)
              refine w_lconst (x := 0) rfl rfl (by decide) ?_
              refine w_goto (pc' := 86) rfl rfl ?_
              exact w_lret rfl (by simp only [m_v1, m_tP, m_ab, m_bd, *, ite_true, ite_false, and_self, and_true, true_and, and_false, false_and, or_true, true_or, or_false, false_or, not_true, not_false_iff] <;> rfl) (by simp only [m_e1, m_tP, m_ab, m_bd, *, ite_true, ite_false, and_self, and_true, true_and, and_false, false_and, or_true, true_or, or_false, false_or, not_true, not_false_iff] <;> rfl) rfl rfl
            · refine w_iload rfl rfl rfl ?_
              refine w_if_eq (t := 68) (f := 64) rfl rfl rfl (fun c61 => absurd c61 (by decide)) (fun c61 => ?_)
              refine w_iconst (x := Int32.ofNat 1) rfl rfl (by decide) ?_
              refine w_goto (pc' := 69) rfl rfl ?_
              refine w_pf rfl rfl rfl sp110 rfl rfl rfl ?_
              refine w_aload_n rfl rfl rfl ?_
              refine w_gf (t := .int 0) (v := .int _) rfl rfl rfl sp110 rfl (congrArg Value.int am_u_at) rfl ?_
              refine w_if_eq (t := 83) (f := 79) rfl rfl rfl (fun c76 => absurd c76 (by decide)) (fun c76 => ?_)
              refine w_lconst (x := 0) rfl rfl (by decide) ?_
              refine w_goto (pc' := 86) rfl rfl ?_
              exact w_lret rfl (by simp only [m_v1, m_tP, m_ab, m_bd, *, ite_true, ite_false, and_self, and_true, true_and, and_false, false_and, or_true, true_or, or_false, false_or, not_true, not_false_iff] <;> rfl) (by simp only [m_e1, m_tP, m_ab, m_bd, *, ite_true, ite_false, and_self, and_true, true_and, and_false, false_and, or_true, true_or, or_false, false_or, not_true, not_false_iff] <;> rfl) rfl rfl
