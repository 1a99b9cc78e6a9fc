/-! The reference: what to ask, what to put off. -/
def m_lz (n : Nat) (I : hI) : hI := s_for (fun r I => am_u I 151 r (Int32.ofNat 0)) n I
def m_ll (n : Nat) (I : hI) : hI := s_for (fun r I => am_u I 151 r (I 151 r + (if I 141 (5 + r) = Int32.ofNat 2 then Int32.ofNat 1 else Int32.ofNat 0))) n I
def m_akS (N : Nat → Nat) (m n : Nat) (x : Int32) (r : Nat) (p : hI × hJ) : hI × hJ := if (x >>> (Int32.ofNat r &&& 31)) &&& Int32.ofNat 1 = Int32.ofNat 1 then (m_ll (N 2) (m_days N 1 n (m_le p.1 (Int32.ofNat m) (Int32.ofNat r), p.2)).1, (m_days N 1 n (m_le p.1 (Int32.ofNat m) (Int32.ofNat r), p.2)).2) else p
def m_akL (N : Nat → Nat) (m n : Nat) (x : Int32) (r : Nat) (p : hI × hJ) : hI × hJ := s_for (m_akS N m n x) r p
theorem tok_lz {I : hI} {N : Nat → Nat} {n : Nat} (v : tok I N) : tok (m_lz n I) N := by
  induction n with
  | zero => exact v
  | succ n ih => exact tok_u (by omega) (by omega) ih
theorem tok_ll {I : hI} {N : Nat → Nat} {n : Nat} (v : tok I N) : tok (m_ll n I) N := by
  induction n with
  | zero => exact v
  | succ n ih => exact tok_u (by omega) (by omega) ih
theorem tok_akL {N : Nat → Nat} {m n : Nat} {x : Int32} (r : Nat) {p : hI × hJ} (v : tok p.1 N) : tok (m_akL N m n x r p).1 N := by
  induction r with
  | zero => exact v
  | succ r ih =>
    show tok (m_akS N m n x r (m_akL N m n x r p)).1 N
    unfold m_akS
    split
    · exact tok_ll (tok_F (simF_days N 1 n (m_le _ _ _, _)) (tok_le ih))
    · exact ih
def m_wst (I : hI) (x : Int32) (s : Nat) : Int32 := if m_many x 10 - I 151 s < I 151 s then I 151 s else m_many x 10 - I 151 s
def m_akB (I : hI) (x : Int32) (s : Nat) : Int32 × Int32 := s_for (fun s q => if q.1 < 0 ∨ m_wst I x s < q.2 then (Int32.ofNat s, m_wst I x s) else q) s (Int32.ofInt (-2), Int32.ofInt (-2))
theorem m_akB_s (I : hI) (x : Int32) (s : Nat) : m_akB I x (s + 1) = if (m_akB I x s).1 < 0 ∨ m_wst I x s < (m_akB I x s).2 then (Int32.ofNat s, m_wst I x s) else m_akB I x s := rfl
def m_ak0 (N : Nat → Nat) (K m : Nat) (I : hI) (J : hJ) : Int32 × hI × hJ := m_eb N K m (m_z I, J)
def m_ak1 (N : Nat → Nat) (K m n : Nat) (I : hI) (J : hJ) : hI × hJ := m_akL N m n (m_ak0 N K m I J).1 10 (m_lz 5 (m_pt (m_ak0 N K m I J).2.1), (m_ak0 N K m I J).2.2)
def m_ask (N : Nat → Nat) (K m n w : Nat) (I : hI) (J : hJ) : Int32 := if w = 0 then (m_akB (m_pt (m_ak1 N K m n I J).1) (m_ak0 N K m I J).1 (N 2)).1 else (m_akB (m_pt (m_ak1 N K m n I J).1) (m_ak0 N K m I J).1 (N 2)).2
theorem l_ask1 {k : Nat} {R : hR} {q : Option Value × am_H} {m n w : Nat} {x : Int32} {I0 : hI} {J0 : hJ} (Z : wz k 12 (some .int) am_c276 64 [.ref 110, .int (Int32.ofNat m), .int (Int32.ofNat n), .int (Int32.ofNat w), .int x, .int (Int32.ofNat 5), am_un, am_un, am_un, am_un] [] (m_lz 5 I0) J0 R q) : ∀ (j r : Nat) , r + j = 5 → wz k 12 (some .int) am_c276 44 [.ref 110, .int (Int32.ofNat m), .int (Int32.ofNat n), .int (Int32.ofNat w), .int x, .int (Int32.ofNat r), am_un, am_un, am_un, am_un] [] (m_lz r I0) J0 R q := by
  intro j
  induction j with
  | zero =>
    intro r e
    obtain rfl : 5 = r := by omega
    refine w_iload rfl rfl rfl ?_
    refine w_iconst (x := Int32.ofNat 5) rfl rfl (by decide) ?_
    refine w_ic_geN (t := 64) (f := 50) rfl rfl rfl (by omega) (by omega) (fun c47 => ?_) (fun c47 => absurd c47 (by omega))
    exact Z
  | succ j ih =>
    intro r e
    refine w_iload rfl rfl rfl ?_
    refine w_iconst (x := Int32.ofNat 5) rfl rfl (by decide) ?_
    refine w_ic_geN (t := 64) (f := 50) rfl rfl rfl (by omega) (by omega) (fun c47 => absurd c47 (by omega)) (fun c47 => ?_)
    refine w_aload_n rfl rfl rfl ?_
    refine w_gf (t := .ref (151)) (v := .ref (151)) rfl rfl rfl sp110 rfl rfl rfl ?_
    refine w_iload rfl rfl rfl ?_
    refine w_iconst (x := Int32.ofNat 0) rfl rfl (by decide) ?_
    refine w_iastore rfl rfl sp151 rfl ⟨by omega, by omega⟩ ?_
    refine w_iinc (L' := [_, _, _, _, _, _, _, _, _, _]) rfl rfl rfl (am_incN 1) rfl ?_
    refine w_goto (pc' := 44) rfl rfl ?_
    exact ih (r + 1) (by omega)
theorem l_ask2 {k : Nat} {R : hR} {q : Option Value × am_H} {m n w g ns : Nat} {x : Int32} {u1 u2 u3 : Value} {I0 : hI} {J0 : hJ} (hs : ns ≤ 5) (h14 : ∀ r, m_ll r I0 110 14 = Int32.ofNat ns) (Z : wz k 12 (some .int) am_c276 145 [.ref 110, .int (Int32.ofNat m), .int (Int32.ofNat n), .int (Int32.ofNat w), .int x, .int (Int32.ofNat g), .int (Int32.ofNat ns), u1, u2, u3] [] (m_ll ns I0) J0 R q) : ∀ (j r : Nat) , r + j = ns → wz k 12 (some .int) am_c276 102 [.ref 110, .int (Int32.ofNat m), .int (Int32.ofNat n), .int (Int32.ofNat w), .int x, .int (Int32.ofNat g), .int (Int32.ofNat r), u1, u2, u3] [] (m_ll r I0) J0 R q := by
  intro j
  induction j with
  | zero =>
    intro r e
    obtain rfl : ns = r := by omega
    refine w_iload rfl rfl rfl ?_
    refine w_aload_n rfl rfl rfl ?_
    refine w_gf (t := .int 0) (v := .int _) rfl rfl rfl sp110 rfl (congrArg Value.int (h14 _)) rfl ?_
    refine w_ic_geN (t := 145) (f := 111) rfl rfl rfl (by omega) (by omega) (fun c108 => ?_) (fun c108 => absurd c108 (by omega))
    exact Z
  | succ j ih =>
    intro r e
    refine w_iload rfl rfl rfl ?_
    refine w_aload_n rfl rfl rfl ?_
    refine w_gf (t := .int 0) (v := .int _) rfl rfl rfl sp110 rfl (congrArg Value.int (h14 _)) rfl ?_
    refine w_ic_geN (t := 145) (f := 111) rfl rfl rfl (by omega) (by omega) (fun c108 => absurd c108 (by omega)) (fun c108 => ?_)
    refine w_aload_n rfl rfl rfl ?_
    refine w_gf (t := .ref (151)) (v := .ref (151)) rfl rfl rfl sp110 rfl rfl rfl ?_
    refine w_iload rfl rfl rfl ?_
    refine w_dup2 rfl rfl rfl rfl ?_
    refine w_iaload rfl rfl sp151 rfl ⟨by omega, by omega⟩ rfl ?_
    refine w_aload_n rfl rfl rfl ?_
    refine w_gf (t := .ref (141)) (v := .ref (141)) rfl rfl rfl sp110 rfl rfl rfl ?_
    refine w_iconst (x := Int32.ofNat 5) rfl rfl (by decide) ?_
    refine w_iload rfl rfl rfl ?_
    refine w_iaddN rfl rfl ?_
    refine w_iaload rfl rfl sp141 rfl ⟨by omega, by omega⟩ rfl ?_
    refine w_iconst (x := Int32.ofNat 2) rfl rfl (by decide) ?_
    refine w_ic_ne (t := 136) (f := 132) rfl rfl rfl (fun c129 => ?_) (fun c129 => ?_)
    · refine w_iconst (x := Int32.ofNat 0) rfl rfl (by decide) ?_
      refine w_iadd rfl rfl ?_
      refine w_iastore rfl rfl sp151 rfl ⟨by omega, by omega⟩ ?_
      refine w_iinc (L' := [_, _, _, _, _, _, _, _, _, _]) rfl rfl rfl (am_incN 1) rfl ?_
      refine w_goto (pc' := 102) rfl rfl ?_
      exact wz_M (ih (r + 1) (by omega)) rfl (by simp only [m_ll, s_for] <;> simp only [m_ll] at c129 <;> simp only [c129, ite_true, ite_false])
    · refine w_iconst (x := Int32.ofNat 1) rfl rfl (by decide) ?_
      refine w_goto (pc' := 137) rfl rfl ?_
      refine w_iadd rfl rfl ?_
      refine w_iastore rfl rfl sp151 rfl ⟨by omega, by omega⟩ ?_
      refine w_iinc (L' := [_, _, _, _, _, _, _, _, _, _]) rfl rfl rfl (am_incN 1) rfl ?_
      refine w_goto (pc' := 102) rfl rfl ?_
      exact wz_M (ih (r + 1) (by omega)) rfl (by simp only [m_ll, s_for] <;> simp only [m_ll] at c129 <;> simp only [c129, ite_true, ite_false])
theorem m_ll_14 {I : hI} {ns : Nat} (h : I 110 14 = Int32.ofNat ns) (r : Nat) : m_ll r I 110 14 = Int32.ofNat ns := by
  induction r with
  | zero => exact h
  | succ r ih => exact ih
theorem l_ask3 {k : Nat} {R : hR} {q : Option Value × am_H} {N : Nat → Nat} {m n w : Nat} {x : Int32} {I0 : hI} {J0 : hJ} (hn : n ≤ 60) (t : tok I0 N) (hk : 8 ≤ k) (Z : ∀ (u : Value), wz k 12 (some .int) am_c276 151 [.ref 110, .int (Int32.ofNat m), .int (Int32.ofNat n), .int (Int32.ofNat w), .int x, .int (Int32.ofNat 10), u, am_un, am_un, am_un] [] ((m_akL N m n x 10 (I0, J0)).1) ((m_akL N m n x 10 (I0, J0)).2) R q) : ∀ (j r : Nat) (u : Value), r + j = 10 → wz k 12 (some .int) am_c276 67 [.ref 110, .int (Int32.ofNat m), .int (Int32.ofNat n), .int (Int32.ofNat w), .int x, .int (Int32.ofNat r), u, am_un, am_un, am_un] [] ((m_akL N m n x r (I0, J0)).1) ((m_akL N m n x r (I0, J0)).2) R q := by
  intro j
  induction j with
  | zero =>
    intro r u e
    obtain rfl : 10 = r := by omega
    have t1 := tok_akL (m := m) (n := n) (x := x) 10 (p := (I0, J0)) t
    have hn2 := t1.1.2.2.1
    refine w_iload rfl rfl rfl ?_
    refine w_bipush (x := Int32.ofNat 10) rfl rfl (by decide) ?_
    refine w_ic_geN (t := 151) (f := 74) rfl rfl rfl (by omega) (by omega) (fun c71 => ?_) (fun c71 => absurd c71 (by omega))
    exact Z _
  | succ j ih =>
    intro r u e
    have t1 := tok_akL (m := m) (n := n) (x := x) r (p := (I0, J0)) t
    have hn2 := t1.1.2.2.1
    refine w_iload rfl rfl rfl ?_
    refine w_bipush (x := Int32.ofNat 10) rfl rfl (by decide) ?_
    refine w_ic_geN (t := 151) (f := 74) rfl rfl rfl (by omega) (by omega) (fun c71 => absurd c71 (by omega)) (fun c71 => ?_)
    refine w_iload rfl rfl rfl ?_
    refine w_iload rfl rfl rfl ?_
    refine w_cs (q := am_m169) (na := 2) (as := [_, _]) (st' := [_]) rfl rfl rfl rfl (by decide) rfl rfl (Nat.le_of_ble_eq_true rfl) rfl rfl rfl (c_isOf (by omega)) rfl rfl ?_
    refine w_if_neB (t := 87) (f := 84) rfl rfl rfl (fun c81 => ?_) (fun c81 => ?_)
    · refine w_aload_n rfl rfl rfl ?_
      refine w_iload_n rfl rfl rfl ?_
      refine w_iload rfl rfl rfl ?_
      refine w_cv (q := am_m272) (as := [_, _]) (rest := []) (st' := []) rfl rfl rfl rfl rfl rfl sp110 rfl rfl rfl rfl (c_layEven (by omega)) rfl rfl ?_
      refine w_aload_n rfl rfl rfl ?_
      refine w_iload_n rfl rfl rfl ?_
      refine w_cv (q := am_m232) (as := [_]) (rest := []) (st' := []) rfl rfl rfl rfl rfl rfl sp110 rfl rfl rfl rfl (c_goMany (by omega) (tok_le t1) (sb_le _ _ _) (by omega)) rfl rfl ?_
      refine w_iconst (x := Int32.ofNat 0) rfl rfl (by decide) ?_
      refine w_istore (L' := [_, _, _, _, _, _, _, _, _, _]) rfl rfl rfl ?_
      refine l_ask2 hn2 (m_ll_14 (tok_F (simF_days N 1 n (m_le _ _ _, _)) (tok_le t1)).2.1.2.2.1) ?_ (N 2) 0 (by omega)
      refine w_iinc (L' := [_, _, _, _, _, _, _, _, _, _]) rfl rfl rfl (am_incN 1) rfl ?_
      refine w_goto (pc' := 67) rfl rfl ?_
      exact wz_J (ih (r + 1) _ (by omega)) rfl (by show (m_akS N m n x r (m_akL N m n x r (I0, J0))).1 = _; unfold m_akS; first | rw [if_pos c81] | rw [if_neg c81]) (by show (m_akS N m n x r (m_akL N m n x r (I0, J0))).2 = _; unfold m_akS; first | rw [if_pos c81] | rw [if_neg c81])
    · refine w_goto (pc' := 145) rfl rfl ?_
      refine w_iinc (L' := [_, _, _, _, _, _, _, _, _, _]) rfl rfl rfl (am_incN 1) rfl ?_
      refine w_goto (pc' := 67) rfl rfl ?_
      exact wz_J (ih (r + 1) _ (by omega)) rfl (by show (m_akS N m n x r (m_akL N m n x r (I0, J0))).1 = _; unfold m_akS; first | rw [if_pos c81] | rw [if_neg c81]) (by show (m_akS N m n x r (m_akL N m n x r (I0, J0))).2 = _; unfold m_akS; first | rw [if_pos c81] | rw [if_neg c81])
theorem l_ask4 {k : Nat} {I : hI} {J : hJ} {R : hR} {q : Option Value × am_H} {m n w ns : Nat} {x : Int32} (hs : ns ≤ 5) (h14 : I 110 14 = Int32.ofNat ns) (hk : 1 ≤ k) (Z : ∀ (u : Value) (v : Value), wz k 12 (some .int) am_c276 245 [.ref 110, .int (Int32.ofNat m), .int (Int32.ofNat n), .int (Int32.ofNat w), .int x, .int ((m_akB I x ns).1), .int ((m_akB I x ns).2), .int (Int32.ofNat ns), u, v] [] I J R q) : ∀ (j r : Nat) (u : Value) (v : Value), r + j = ns → wz k 12 (some .int) am_c276 166 [.ref 110, .int (Int32.ofNat m), .int (Int32.ofNat n), .int (Int32.ofNat w), .int x, .int ((m_akB I x r).1), .int ((m_akB I x r).2), .int (Int32.ofNat r), u, v] [] I J R q := by
  intro j
  induction j with
  | zero =>
    intro r u v e
    obtain rfl : ns = r := by omega
    refine w_iload rfl rfl rfl ?_
    refine w_aload_n rfl rfl rfl ?_
    refine w_gf (t := .int 0) (v := .int _) rfl rfl rfl sp110 rfl (congrArg Value.int h14) rfl ?_
    refine w_ic_geN (t := 245) (f := 175) rfl rfl rfl (by omega) (by omega) (fun c172 => ?_) (fun c172 => absurd c172 (by omega))
    exact Z _ _
  | succ j ih =>
    intro r u v e
    refine w_iload rfl rfl rfl ?_
    refine w_aload_n rfl rfl rfl ?_
    refine w_gf (t := .int 0) (v := .int _) rfl rfl rfl sp110 rfl (congrArg Value.int h14) rfl ?_
    refine w_ic_geN (t := 245) (f := 175) rfl rfl rfl (by omega) (by omega) (fun c172 => absurd c172 (by omega)) (fun c172 => ?_)
    refine w_iload rfl rfl rfl ?_
    refine w_cs (q := am_m251) (na := 1) (as := [_]) (st' := [_]) rfl rfl rfl rfl (by decide) rfl rfl (Nat.le_of_ble_eq_true rfl) rfl rfl rfl (c_manyOf (by omega)) rfl rfl ?_
    refine w_aload_n rfl rfl rfl ?_
    refine w_gf (t := .ref (151)) (v := .ref (151)) rfl rfl rfl sp110 rfl rfl rfl ?_
    refine w_iload rfl rfl rfl ?_
    refine w_iaload rfl rfl sp151 rfl ⟨by omega, by omega⟩ rfl ?_
    refine w_isub rfl rfl ?_
    refine w_istore (L' := [_, _, _, _, _, _, _, _, _, _]) rfl rfl rfl ?_
    refine w_aload_n rfl rfl rfl ?_
    refine w_gf (t := .ref (151)) (v := .ref (151)) rfl rfl rfl sp110 rfl rfl rfl ?_
    refine w_iload rfl rfl rfl ?_
    refine w_iaload rfl rfl sp151 rfl ⟨by omega, by omega⟩ rfl ?_
    refine w_iload rfl rfl rfl ?_
    refine w_ic_le (t := 212) (f := 202) rfl rfl rfl (fun c199 => ?_) (fun c199 => ?_)
    · refine w_iload rfl rfl rfl ?_
      refine w_istore (L' := [_, _, _, _, _, _, _, _, _, _]) rfl rfl rfl ?_
      refine w_iload rfl rfl rfl ?_
      refine w_if_lt (t := 231) (f := 221) rfl rfl rfl (fun c218 => ?_) (fun c218 => ?_)
      · refine w_iload rfl rfl rfl ?_
        refine w_istore (L' := [_, _, _, _, _, _, _, _, _, _]) rfl rfl rfl ?_
        refine w_iload rfl rfl rfl ?_
        refine w_istore (L' := [_, _, _, _, _, _, _, _, _, _]) rfl rfl rfl ?_
        refine w_iinc (L' := [_, _, _, _, _, _, _, _, _, _]) rfl rfl rfl (am_incN 1) rfl ?_
        refine w_goto (pc' := 166) rfl rfl ?_
        exact wz_L (ih (r + 1) _ _ (by omega)) (by rw [m_akB_s]; simp only [m_wst, *, ite_true, ite_false, and_self, and_true, true_and, and_false, false_and, or_true, true_or, or_false, false_or, not_true, not_false_iff] <;> rfl)
      · refine w_iload rfl rfl rfl ?_
        refine w_iload rfl rfl rfl ?_
        refine w_ic_lt (t := 231) (f := 228) rfl rfl rfl (fun c225 => ?_) (fun c225 => ?_)
        · refine w_iload rfl rfl rfl ?_
          refine w_istore (L' := [_, _, _, _, _, _, _, _, _, _]) rfl rfl rfl ?_
          refine w_iload rfl rfl rfl ?_
          refine w_istore (L' := [_, _, _, _, _, _, _, _, _, _]) rfl rfl rfl ?_
          refine w_iinc (L' := [_, _, _, _, _, _, _, _, _, _]) rfl rfl rfl (am_incN 1) rfl ?_
          refine w_goto (pc' := 166) rfl rfl ?_
          exact wz_L (ih (r + 1) _ _ (by omega)) (by rw [m_akB_s]; simp only [m_wst, *, ite_true, ite_false, and_self, and_true, true_and, and_false, false_and, or_true, true_or, or_false, false_or, not_true, not_false_iff] <;> rfl)
        · refine w_goto (pc' := 239) rfl rfl ?_
          refine w_iinc (L' := [_, _, _, _, _, _, _, _, _, _]) rfl rfl rfl (am_incN 1) rfl ?_
          refine w_goto (pc' := 166) rfl rfl ?_
          exact wz_L (ih (r + 1) _ _ (by omega)) (by rw [m_akB_s]; simp only [m_wst, *, ite_true, ite_false, and_self, and_true, true_and, and_false, false_and, or_true, true_or, or_false, false_or, not_true, not_false_iff] <;> rfl)
    · refine w_aload_n rfl rfl rfl ?_
      refine w_gf (t := .ref (151)) (v := .ref (151)) rfl rfl rfl sp110 rfl rfl rfl ?_
      refine w_iload rfl rfl rfl ?_
      refine w_iaload rfl rfl sp151 rfl ⟨by omega, by omega⟩ rfl ?_
      refine w_goto (pc' := 214) rfl rfl ?_
      refine w_istore (L' := [_, _, _, _, _, _, _, _, _, _]) rfl rfl rfl ?_
      refine w_iload rfl rfl rfl ?_
      refine w_if_lt (t := 231) (f := 221) rfl rfl rfl (fun c218 => ?_) (fun c218 => ?_)
      · refine w_iload rfl rfl rfl ?_
        refine w_istore (L' := [_, _, _, _, _, _, _, _, _, _]) rfl rfl rfl ?_
        refine w_iload rfl rfl rfl ?_
        refine w_istore (L' := [_, _, _, _, _, _, _, _, _, _]) rfl rfl rfl ?_
        refine w_iinc (L' := [_, _, _, _, _, _, _, _, _, _]) rfl rfl rfl (am_incN 1) rfl ?_
        refine w_goto (pc' := 166) rfl rfl ?_
        exact wz_L (ih (r + 1) _ _ (by omega)) (by rw [m_akB_s]; simp only [m_wst, *, ite_true, ite_false, and_self, and_true, true_and, and_false, false_and, or_true, true_or, or_false, false_or, not_true, not_false_iff] <;> rfl)
      · refine w_iload rfl rfl rfl ?_
        refine w_iload rfl rfl rfl ?_
        refine w_ic_lt (t := 231) (f := 228) rfl rfl rfl (fun c225 => ?_) (fun c225 => ?_)
        · refine w_iload rfl rfl rfl ?_
          refine w_istore (L' := [_, _, _, _, _, _, _, _, _, _]) rfl rfl rfl ?_
          refine w_iload rfl rfl rfl ?_
          refine w_istore (L' := [_, _, _, _, _, _, _, _, _, _]) rfl rfl rfl ?_
          refine w_iinc (L' := [_, _, _, _, _, _, _, _, _, _]) rfl rfl rfl (am_incN 1) rfl ?_
          refine w_goto (pc' := 166) rfl rfl ?_
          exact wz_L (ih (r + 1) _ _ (by omega)) (by rw [m_akB_s]; simp only [m_wst, *, ite_true, ite_false, and_self, and_true, true_and, and_false, false_and, or_true, true_or, or_false, false_or, not_true, not_false_iff] <;> rfl)
        · refine w_goto (pc' := 239) rfl rfl ?_
          refine w_iinc (L' := [_, _, _, _, _, _, _, _, _, _]) rfl rfl rfl (am_incN 1) rfl ?_
          refine w_goto (pc' := 166) rfl rfl ?_
          exact wz_L (ih (r + 1) _ _ (by omega)) (by rw [m_akB_s]; simp only [m_wst, *, ite_true, ite_false, and_self, and_true, true_and, and_false, false_and, or_true, true_or, or_false, false_or, not_true, not_false_iff] <;> rfl)
theorem c_ask {k : Nat} {I : hI} {J : hJ} {R : hR} {N : Nat → Nat} {K m n w : Nat} (t : tok I N) (v : vok I K) (hm : m < N 0) (h1 : 1 ≤ n) (h2 : n ≤ 60) (hw : w ≤ 1) (hk : 10 ≤ k) : ct k 276 [.ref 110, .int (Int32.ofNat m), .int (Int32.ofNat n), .int (Int32.ofNat w)] I J R (some (.int (m_ask N K m n w I J))) (m_pt (m_ak1 N K m n I J).1) ((m_ak1 N K m n I J).2) R := by
  obtain ⟨k, rfl⟩ : ∃ k', k = k' + 1 := ⟨k - 1, by omega⟩
  have hn0 := t.1.1
  have h12 := t.2.1.1
  have hn2 := t.1.2.2.1
  have t2 : tok (m_lz 5 (m_pt (m_ak0 N K m I J).2.1)) N := tok_lz (tok_pt (tok_ebL 10 (tok_ebB K _ (tok_ebA (tok_z t)))))
  have t3 : tok (m_pt (m_ak1 N K m n I J).1) N := tok_pt (tok_akL 10 t2)
  refine ct_of (q := am_m276) (L := [_, _, _, _, _, _, _, _, _, _]) rfl rfl rfl rfl rfl rfl ?_
  refine w_aload_n rfl rfl rfl ?_
  refine w_iconst (x := Int32.ofNat 0) rfl rfl (by decide) ?_
  refine w_pf rfl rfl rfl sp110 rfl rfl rfl ?_
  refine w_aload_n rfl rfl rfl ?_
  refine w_iload_n rfl rfl rfl ?_
  refine w_cv (q := am_m214) (as := [_]) (rest := []) (st' := [_]) rfl rfl rfl rfl rfl rfl sp110 rfl rfl rfl rfl (c_isMaker (by omega)) rfl rfl ?_
  refine w_if_eqB (t := 32) (f := 13) rfl rfl rfl (fun c10 => absurd c10 (isok hm (by omega) ((am_u_nk (by decide)).trans h12))) (fun c10 => ?_)
  refine w_iload_n rfl rfl rfl ?_
  refine w_iconst (x := Int32.ofNat 1) rfl rfl (by decide) ?_
  refine w_bipush (x := Int32.ofNat 60) rfl rfl (by decide) ?_
  refine w_cs (q := am_m168) (na := 3) (as := [_, _, _]) (st' := [_]) rfl rfl rfl rfl (by decide) rfl rfl (Nat.le_of_ble_eq_true rfl) rfl rfl rfl (c_isIn (by omega)) rfl rfl ?_
  refine w_if_eqB (t := 32) (f := 23) rfl rfl rfl (fun c20 => absurd c20 (inok h1 h2 (by decide))) (fun c20 => ?_)
  refine w_iload_n rfl rfl rfl ?_
  refine w_iconst (x := Int32.ofNat 0) rfl rfl (by decide) ?_
  refine w_iconst (x := Int32.ofNat 1) rfl rfl (by decide) ?_
  refine w_cs (q := am_m168) (na := 3) (as := [_, _, _]) (st' := [_]) rfl rfl rfl rfl (by decide) rfl rfl (Nat.le_of_ble_eq_true rfl) rfl rfl rfl (c_isIn (by omega)) rfl rfl ?_
  refine w_if_neB (t := 34) (f := 32) rfl rfl rfl (fun c29 => ?_) (fun c29 => absurd c29 (inok (Nat.zero_le _) hw (by decide)))
  refine w_aload_n rfl rfl rfl ?_
  refine w_iload_n rfl rfl rfl ?_
  refine w_cv (q := am_m274) (as := [_]) (rest := []) (st' := [_]) rfl rfl rfl rfl rfl rfl sp110 rfl rfl rfl rfl (c_evenBits (tok_z t) (vok_u (by omega) (by omega) v) (by omega)) rfl rfl ?_
  refine w_istore (L' := [_, _, _, _, _, _, _, _, _, _]) rfl rfl rfl ?_
  refine w_iconst (x := Int32.ofNat 0) rfl rfl (by decide) ?_
  refine w_istore (L' := [_, _, _, _, _, _, _, _, _, _]) rfl rfl rfl ?_
  refine l_ask1 ?_ 5 0 (by omega)
  refine w_iconst (x := Int32.ofNat 0) rfl rfl (by decide) ?_
  refine w_istore (L' := [_, _, _, _, _, _, _, _, _, _]) rfl rfl rfl ?_
  refine l_ask3 h2 t2 (by omega) (fun u => ?_) 10 0 _ (by omega)
  refine w_aload_n rfl rfl rfl ?_
  refine w_cv (q := am_m212) (as := []) (rest := []) (st' := []) rfl rfl rfl rfl rfl rfl sp110 rfl rfl rfl rfl (c_plainTried (by omega)) rfl rfl ?_
  refine w_bipush (x := Int32.ofInt (-2)) rfl rfl (by decide) ?_
  refine w_istore (L' := [_, _, _, _, _, _, _, _, _, _]) rfl rfl rfl ?_
  refine w_bipush (x := Int32.ofInt (-2)) rfl rfl (by decide) ?_
  refine w_istore (L' := [_, _, _, _, _, _, _, _, _, _]) rfl rfl rfl ?_
  refine w_iconst (x := Int32.ofNat 0) rfl rfl (by decide) ?_
  refine w_istore (L' := [_, _, _, _, _, _, _, _, _, _]) rfl rfl rfl ?_
  refine l_ask4 hn2 t3.2.1.2.2.1 (by omega) (fun u v => ?_) (N 2) 0 _ _ (by omega)
  refine w_iload_n rfl rfl rfl ?_
  refine w_if_ne (t := 254) (f := 249) rfl rfl rfl (fun c246 => ?_) (fun c246 => ?_)
  · refine w_iload rfl rfl rfl ?_
    exact w_iret rfl (by unfold m_ask; first | exact (if_pos ((am_w0 (by omega)).mp c246)).symm | exact (if_neg (mt (am_w0 (by omega)).mpr c246)).symm) rfl rfl rfl
  · refine w_iload rfl rfl rfl ?_
    refine w_goto (pc' := 256) rfl rfl ?_
    exact w_iret rfl (by unfold m_ask; first | exact (if_pos ((am_w0 (by omega)).mp c246)).symm | exact (if_neg (mt (am_w0 (by omega)).mpr c246)).symm) rfl rfl rfl
theorem c_ask_no {k : Nat} {I : hI} {J : hJ} {R : hR} {x y z : Int32} (hx : ¬ ((¬ x < 0 ∧ x < I 110 12) ∧ (¬ y < Int32.ofNat 1 ∧ ¬ Int32.ofNat 60 < y) ∧ ¬ z < Int32.ofNat 0 ∧ ¬ Int32.ofNat 1 < z)) (hk : 2 ≤ k) : ct k 276 [.ref 110, .int x, .int y, .int z] I J R (some (.int (Int32.ofInt (-1)))) (m_z I) J R := by
  obtain ⟨k, rfl⟩ : ∃ k', k = k' + 1 := ⟨k - 1, by omega⟩
  refine ct_of (q := am_m276) (L := [_, _, _, _, _, _, _, _, _, _]) rfl rfl rfl rfl rfl rfl ?_
  refine w_aload_n rfl rfl rfl ?_
  refine w_iconst (x := Int32.ofNat 0) rfl rfl (by decide) ?_
  refine w_pf rfl rfl rfl sp110 rfl rfl rfl ?_
  refine w_aload_n rfl rfl rfl ?_
  refine w_iload_n rfl rfl rfl ?_
  refine w_cv (q := am_m214) (as := [_]) (rest := []) (st' := [_]) rfl rfl rfl rfl rfl rfl sp110 rfl rfl rfl rfl (c_isMaker (by omega)) rfl rfl ?_
  refine w_if_eqB (t := 32) (f := 13) rfl rfl rfl (fun c10 => ?_) (fun c10 => ?_)
  · refine w_iconst (x := Int32.ofInt (-1)) rfl rfl (by decide) ?_
    exact w_iret rfl rfl rfl rfl rfl
  · refine w_iload_n rfl rfl rfl ?_
    refine w_iconst (x := Int32.ofNat 1) rfl rfl (by decide) ?_
    refine w_bipush (x := Int32.ofNat 60) rfl rfl (by decide) ?_
    refine w_cs (q := am_m168) (na := 3) (as := [_, _, _]) (st' := [_]) rfl rfl rfl rfl (by decide) rfl rfl (Nat.le_of_ble_eq_true rfl) rfl rfl rfl (c_isIn (by omega)) rfl rfl ?_
    refine w_if_eqB (t := 32) (f := 23) rfl rfl rfl (fun c20 => ?_) (fun c20 => ?_)
    · refine w_iconst (x := Int32.ofInt (-1)) rfl rfl (by decide) ?_
      exact w_iret rfl rfl rfl rfl rfl
    · refine w_iload_n rfl rfl rfl ?_
      refine w_iconst (x := Int32.ofNat 0) rfl rfl (by decide) ?_
      refine w_iconst (x := Int32.ofNat 1) rfl rfl (by decide) ?_
      refine w_cs (q := am_m168) (na := 3) (as := [_, _, _]) (st' := [_]) rfl rfl rfl rfl (by decide) rfl rfl (Nat.le_of_ble_eq_true rfl) rfl rfl rfl (c_isIn (by omega)) rfl rfl ?_
      refine w_if_neB (t := 34) (f := 32) rfl rfl rfl (fun c29 => ?_) (fun c29 => ?_)
      · exact (hx ⟨c10, c20, c29⟩).elim
      · refine w_iconst (x := Int32.ofInt (-1)) rfl rfl (by decide) ?_
        exact w_iret rfl rfl rfl rfl rfl
def m_may (I : hI) (n : Nat) : Int32 := s_for (fun r a => a ||| (if I 126 r < I 145 0 then Int32.ofNat 0 else Int32.ofNat (2 ^ r))) n (Int32.ofNat 0)
def m_poT (N : Nat → Nat) (r : Nat) (p : hI × hJ) : hI × hJ := m_days N 1 60 (am_u (m_lt p.1) 110 72 (Int32.ofNat r), p.2)
def m_poS (N : Nat → Nat) (may : Int32) (r : Nat) (q : Int32 × hI × hJ) : Int32 × hI × hJ := if Int32.ofNat r &&& (may ^^^ Int32.ofInt (-1)) = 0 then (if ¬ q.1 < 0 ∧ ¬ m_many (Int32.ofNat r) 10 < m_many q.1 10 then q else if m_cS (m_poT N r q.2).1 1 (N 2) (Int32.ofNat 2) = 0 then (Int32.ofNat r, m_poT N r q.2) else (q.1, m_poT N r q.2)) else q
def m_poL (N : Nat → Nat) (may : Int32) (r : Nat) (q : Int32 × hI × hJ) : Int32 × hI × hJ := s_for (m_poS N may) r q
theorem m_poL_s (N : Nat → Nat) (may : Int32) (r : Nat) (q : Int32 × hI × hJ) : m_poL N may (r + 1) q = m_poS N may r (m_poL N may r q) := rfl
theorem tok_poT {N : Nat → Nat} {r : Nat} {p : hI × hJ} (t : tok p.1 N) : tok (m_poT N r p).1 N := tok_F (simF_days N 1 60 (am_u (m_lt p.1) 110 72 (Int32.ofNat r), p.2)) (tok_u (by omega) (by omega) (tok_lt t))
theorem tok_poL {N : Nat → Nat} {may : Int32} {q : Int32 × hI × hJ} (r : Nat) (t : tok q.2.1 N) : tok (m_poL N may r q).2.1 N := by
  induction r with
  | zero => exact t
  | succ r ih =>
    rw [m_poL_s]
    unfold m_poS
    repeat' split
    · exact ih
    · exact tok_poT (p := (m_poL N may r q).2) ih
    · exact tok_poT (p := (m_poL N may r q).2) ih
    · exact ih
theorem l_putOff1 {k : Nat} {I : hI} {J : hJ} {R : hR} {q : Option Value × am_H} {n : Nat} (hn : n ≤ 10) (h15 : I 110 15 = Int32.ofNat n) (Z : wz k 12 (some .int) am_c259 48 [.ref 110, .int (m_may I n), .int (Int32.ofNat n), am_un] [] I J R q) : ∀ (j r : Nat) , r + j = n → wz k 12 (some .int) am_c259 9 [.ref 110, .int (m_may I r), .int (Int32.ofNat r), am_un] [] I J R q := by
  intro j
  induction j with
  | zero =>
    intro r e
    obtain rfl : n = r := by omega
    refine w_iload_n rfl rfl rfl ?_
    refine w_aload_n rfl rfl rfl ?_
    refine w_gf (t := .int 0) (v := .int _) rfl rfl rfl sp110 rfl (congrArg Value.int h15) rfl ?_
    refine w_ic_geN (t := 48) (f := 17) rfl rfl rfl (by omega) (by omega) (fun c14 => ?_) (fun c14 => absurd c14 (by omega))
    exact Z
  | succ j ih =>
    intro r e
    refine w_iload_n rfl rfl rfl ?_
    refine w_aload_n rfl rfl rfl ?_
    refine w_gf (t := .int 0) (v := .int _) rfl rfl rfl sp110 rfl (congrArg Value.int h15) rfl ?_
    refine w_ic_geN (t := 48) (f := 17) rfl rfl rfl (by omega) (by omega) (fun c14 => absurd c14 (by omega)) (fun c14 => ?_)
    refine w_iload_n rfl rfl rfl ?_
    refine w_aload_n rfl rfl rfl ?_
    refine w_gf (t := .ref (126)) (v := .ref (126)) rfl rfl rfl sp110 rfl rfl rfl ?_
    refine w_iload_n rfl rfl rfl ?_
    refine w_iaload rfl rfl sp126 rfl ⟨by omega, by omega⟩ rfl ?_
    refine w_aload_n rfl rfl rfl ?_
    refine w_gf (t := .ref (145)) (v := .ref (145)) rfl rfl rfl sp110 rfl rfl rfl ?_
    refine w_iconst (x := Int32.ofNat 0) rfl rfl (by decide) ?_
    refine w_iaload rfl rfl sp145 rfl ⟨by omega, by omega⟩ rfl ?_
    refine w_ic_lt (t := 39) (f := 33) rfl rfl rfl (fun c30 => ?_) (fun c30 => ?_)
    · refine w_iconst (x := Int32.ofNat 0) rfl rfl (by decide) ?_
      refine w_ior rfl rfl ?_
      refine w_istore_n (L' := [_, _, _, _]) rfl rfl rfl ?_
      refine w_iinc (L' := [_, _, _, _]) rfl rfl rfl (am_incN 1) rfl ?_
      refine w_goto (pc' := 9) rfl rfl ?_
      exact wz_L (ih (r + 1) (by omega)) (by simp only [m_may, s_for, c30, ite_true, ite_false])
    · refine w_iconst (x := Int32.ofNat 1) rfl rfl (by decide) ?_
      refine w_iload_n rfl rfl rfl ?_
      refine w_shlN rfl rfl (by omega) ?_
      refine w_goto (pc' := 40) rfl rfl ?_
      refine w_ior rfl rfl ?_
      refine w_istore_n (L' := [_, _, _, _]) rfl rfl rfl ?_
      refine w_iinc (L' := [_, _, _, _]) rfl rfl rfl (am_incN 1) rfl ?_
      refine w_goto (pc' := 9) rfl rfl ?_
      exact wz_L (ih (r + 1) (by omega)) (by simp only [m_may, s_for, c30, ite_true, ite_false])
theorem am_na1 {P Q : Prop} (p : P) : ¬ (¬ P ∧ Q) := fun z => z.1 p
theorem am_na2 {P Q : Prop} (q : Q) : ¬ (P ∧ ¬ Q) := fun z => z.2 q
theorem l_putOff2 {k : Nat} {R : hR} {q : Option Value × am_H} {N : Nat → Nat} {x : Int32} {e2 : Nat} {q0 : Int32 × hI × hJ} (he : e2 = 2 ^ N 3) (t : tok q0.2.1 N) (hk : 8 ≤ k) (Z : wz k 12 (some .int) am_c259 121 [.ref 110, .int x, .int ((m_poL N x e2 q0).1), .int (Int32.ofNat e2)] [] ((m_poL N x e2 q0).2.1) ((m_poL N x e2 q0).2.2) R q) : ∀ (j r : Nat) , r + j = e2 → wz k 12 (some .int) am_c259 53 [.ref 110, .int x, .int ((m_poL N x r q0).1), .int (Int32.ofNat r)] [] ((m_poL N x r q0).2.1) ((m_poL N x r q0).2.2) R q := by
  intro j
  induction j with
  | zero =>
    intro r e
    obtain rfl : e2 = r := by omega
    have t1 := tok_poL (may := x) (q := q0) e2 t
    have hn3 := t1.1.2.2.2
    have h15 := t1.2.1.2.2.2
    have h9 := am_pw hn3
    have hn2 := t1.1.2.2.1
    refine w_iload_n rfl rfl rfl ?_
    refine w_iconst (x := Int32.ofNat 1) rfl rfl (by decide) ?_
    refine w_aload_n rfl rfl rfl ?_
    refine w_gf (t := .int 0) (v := .int _) rfl rfl rfl sp110 rfl (congrArg Value.int h15) rfl ?_
    refine w_shlN rfl rfl (by omega) ?_
    refine w_ic_geN (t := 121) (f := 63) rfl rfl rfl (by omega) (by omega) (fun c60 => ?_) (fun c60 => absurd c60 (by omega))
    exact Z
  | succ j ih =>
    intro r e
    have t1 := tok_poL (may := x) (q := q0) r t
    have hn3 := t1.1.2.2.2
    have h15 := t1.2.1.2.2.2
    have h9 := am_pw hn3
    have hn2 := t1.1.2.2.1
    refine w_iload_n rfl rfl rfl ?_
    refine w_iconst (x := Int32.ofNat 1) rfl rfl (by decide) ?_
    refine w_aload_n rfl rfl rfl ?_
    refine w_gf (t := .int 0) (v := .int _) rfl rfl rfl sp110 rfl (congrArg Value.int h15) rfl ?_
    refine w_shlN rfl rfl (by omega) ?_
    refine w_ic_geN (t := 121) (f := 63) rfl rfl rfl (by omega) (by omega) (fun c60 => absurd c60 (by omega)) (fun c60 => ?_)
    refine w_iload_n rfl rfl rfl ?_
    refine w_iload_n rfl rfl rfl ?_
    refine w_iconst (x := Int32.ofInt (-1)) rfl rfl (by decide) ?_
    refine w_ixor rfl rfl ?_
    refine w_iand rfl rfl ?_
    refine w_if_ne (t := 115) (f := 71) rfl rfl rfl (fun c68 => ?_) (fun c68 => ?_)
    · refine w_iinc (L' := [_, _, _, _]) rfl rfl rfl (am_incN 1) rfl ?_
      refine w_goto (pc' := 53) rfl rfl ?_
      have hs := m_poL_s N x r q0
      unfold m_poS m_poT at hs
      first
        | rw [if_neg c68] at hs
        | (rw [if_pos c68] at hs
           first
           | rw [if_pos (And.intro c72 c83)] at hs
           | (first
              | rw [if_neg (am_na1 c72)] at hs
              | rw [if_neg (am_na2 c83)] at hs
              first
              | rw [if_pos c110] at hs
              | rw [if_neg c110] at hs))
      exact wz_J (ih (r + 1) (by omega)) (by rw [hs]) (by rw [hs]; first | done | rfl) (by rw [hs]; first | done | rfl)
    · refine w_iload_n rfl rfl rfl ?_
      refine w_if_lt (t := 89) (f := 75) rfl rfl rfl (fun c72 => ?_) (fun c72 => ?_)
      · refine w_aload_n rfl rfl rfl ?_
        refine w_cv (q := am_m213) (as := []) (rest := []) (st' := []) rfl rfl rfl rfl rfl rfl sp110 rfl rfl rfl rfl (c_layTried (by omega)) rfl rfl ?_
        refine w_aload_n rfl rfl rfl ?_
        refine w_iload_n rfl rfl rfl ?_
        refine w_pf rfl rfl rfl sp110 rfl rfl rfl ?_
        refine w_aload_n rfl rfl rfl ?_
        refine w_bipush (x := Int32.ofNat 60) rfl rfl (by decide) ?_
        refine w_cv (q := am_m232) (as := [_]) (rest := []) (st' := []) rfl rfl rfl rfl rfl rfl sp110 rfl rfl rfl rfl (c_goMany (by omega) (tok_u (by omega) (by omega) (tok_lt t1)) (sb_u (by omega) (sb_lt _)) (by omega)) rfl rfl ?_
        refine w_aload_n rfl rfl rfl ?_
        refine w_iconst (x := Int32.ofNat 1) rfl rfl (by decide) ?_
        refine w_iconst (x := Int32.ofNat 2) rfl rfl (by decide) ?_
        refine w_cv (q := am_m234) (as := [_, _]) (rest := []) (st' := [_]) rfl rfl rfl rfl rfl rfl sp110 rfl rfl rfl rfl (c_areShips (b := 1) (by decide) hn2 (tok_poT (p := (m_poL N x r q0).2) t1).2.1.2.2.1 (by omega)) rfl rfl ?_
        refine w_if_ne (t := 115) (f := 113) rfl rfl rfl (fun c110 => ?_) (fun c110 => ?_)
        · refine w_iinc (L' := [_, _, _, _]) rfl rfl rfl (am_incN 1) rfl ?_
          refine w_goto (pc' := 53) rfl rfl ?_
          have hs := m_poL_s N x r q0
          unfold m_poS m_poT at hs
          first
            | rw [if_neg c68] at hs
            | (rw [if_pos c68] at hs
               first
               | rw [if_pos (And.intro c72 c83)] at hs
               | (first
                  | rw [if_neg (am_na1 c72)] at hs
                  | rw [if_neg (am_na2 c83)] at hs
                  first
                  | rw [if_pos c110] at hs
                  | rw [if_neg c110] at hs))
          exact wz_J (ih (r + 1) (by omega)) (by rw [hs]) (by rw [hs]; first | done | rfl) (by rw [hs]; first | done | rfl)
        · refine w_iload_n rfl rfl rfl ?_
          refine w_istore_n (L' := [_, _, _, _]) rfl rfl rfl ?_
          refine w_iinc (L' := [_, _, _, _]) rfl rfl rfl (am_incN 1) rfl ?_
          refine w_goto (pc' := 53) rfl rfl ?_
          have hs := m_poL_s N x r q0
          unfold m_poS m_poT at hs
          first
            | rw [if_neg c68] at hs
            | (rw [if_pos c68] at hs
               first
               | rw [if_pos (And.intro c72 c83)] at hs
               | (first
                  | rw [if_neg (am_na1 c72)] at hs
                  | rw [if_neg (am_na2 c83)] at hs
                  first
                  | rw [if_pos c110] at hs
                  | rw [if_neg c110] at hs))
          exact wz_J (ih (r + 1) (by omega)) (by rw [hs]) (by rw [hs]; first | done | rfl) (by rw [hs]; first | done | rfl)
      · refine w_iload_n rfl rfl rfl ?_
        refine w_cs (q := am_m251) (na := 1) (as := [_]) (st' := [_]) rfl rfl rfl rfl (by decide) rfl rfl (Nat.le_of_ble_eq_true rfl) rfl rfl rfl (c_manyOf (by omega)) rfl rfl ?_
        refine w_iload_n rfl rfl rfl ?_
        refine w_cs (q := am_m251) (na := 1) (as := [_]) (st' := [_, _]) rfl rfl rfl rfl (by decide) rfl rfl (Nat.le_of_ble_eq_true rfl) rfl rfl rfl (c_manyOf (by omega)) rfl rfl ?_
        refine w_ic_lt (t := 89) (f := 86) rfl rfl rfl (fun c83 => ?_) (fun c83 => ?_)
        · refine w_aload_n rfl rfl rfl ?_
          refine w_cv (q := am_m213) (as := []) (rest := []) (st' := []) rfl rfl rfl rfl rfl rfl sp110 rfl rfl rfl rfl (c_layTried (by omega)) rfl rfl ?_
          refine w_aload_n rfl rfl rfl ?_
          refine w_iload_n rfl rfl rfl ?_
          refine w_pf rfl rfl rfl sp110 rfl rfl rfl ?_
          refine w_aload_n rfl rfl rfl ?_
          refine w_bipush (x := Int32.ofNat 60) rfl rfl (by decide) ?_
          refine w_cv (q := am_m232) (as := [_]) (rest := []) (st' := []) rfl rfl rfl rfl rfl rfl sp110 rfl rfl rfl rfl (c_goMany (by omega) (tok_u (by omega) (by omega) (tok_lt t1)) (sb_u (by omega) (sb_lt _)) (by omega)) rfl rfl ?_
          refine w_aload_n rfl rfl rfl ?_
          refine w_iconst (x := Int32.ofNat 1) rfl rfl (by decide) ?_
          refine w_iconst (x := Int32.ofNat 2) rfl rfl (by decide) ?_
          refine w_cv (q := am_m234) (as := [_, _]) (rest := []) (st' := [_]) rfl rfl rfl rfl rfl rfl sp110 rfl rfl rfl rfl (c_areShips (b := 1) (by decide) hn2 (tok_poT (p := (m_poL N x r q0).2) t1).2.1.2.2.1 (by omega)) rfl rfl ?_
          refine w_if_ne (t := 115) (f := 113) rfl rfl rfl (fun c110 => ?_) (fun c110 => ?_)
          · refine w_iinc (L' := [_, _, _, _]) rfl rfl rfl (am_incN 1) rfl ?_
            refine w_goto (pc' := 53) rfl rfl ?_
            have hs := m_poL_s N x r q0
            unfold m_poS m_poT at hs
            first
              | rw [if_neg c68] at hs
              | (rw [if_pos c68] at hs
                 first
                 | rw [if_pos (And.intro c72 c83)] at hs
                 | (first
                    | rw [if_neg (am_na1 c72)] at hs
                    | rw [if_neg (am_na2 c83)] at hs
                    first
                    | rw [if_pos c110] at hs
                    | rw [if_neg c110] at hs))
            exact wz_J (ih (r + 1) (by omega)) (by rw [hs]) (by rw [hs]; first | done | rfl) (by rw [hs]; first | done | rfl)
          · refine w_iload_n rfl rfl rfl ?_
            refine w_istore_n (L' := [_, _, _, _]) rfl rfl rfl ?_
            refine w_iinc (L' := [_, _, _, _]) rfl rfl rfl (am_incN 1) rfl ?_
            refine w_goto (pc' := 53) rfl rfl ?_
            have hs := m_poL_s N x r q0
            unfold m_poS m_poT at hs
            first
              | rw [if_neg c68] at hs
              | (rw [if_pos c68] at hs
                 first
                 | rw [if_pos (And.intro c72 c83)] at hs
                 | (first
                    | rw [if_neg (am_na1 c72)] at hs
                    | rw [if_neg (am_na2 c83)] at hs
                    first
                    | rw [if_pos c110] at hs
                    | rw [if_neg c110] at hs))
            exact wz_J (ih (r + 1) (by omega)) (by rw [hs]) (by rw [hs]; first | done | rfl) (by rw [hs]; first | done | rfl)
        · refine w_goto (pc' := 115) rfl rfl ?_
          refine w_iinc (L' := [_, _, _, _]) rfl rfl rfl (am_incN 1) rfl ?_
          refine w_goto (pc' := 53) rfl rfl ?_
          have hs := m_poL_s N x r q0
          unfold m_poS m_poT at hs
          first
            | rw [if_neg c68] at hs
            | (rw [if_pos c68] at hs
               first
               | rw [if_pos (And.intro c72 c83)] at hs
               | (first
                  | rw [if_neg (am_na1 c72)] at hs
                  | rw [if_neg (am_na2 c83)] at hs
                  first
                  | rw [if_pos c110] at hs
                  | rw [if_neg c110] at hs))
          exact wz_J (ih (r + 1) (by omega)) (by rw [hs]) (by rw [hs]; first | done | rfl) (by rw [hs]; first | done | rfl)
def m_po (N : Nat → Nat) (I : hI) (J : hJ) : Int32 × hI × hJ := m_poL N (m_may (m_z I) (N 3)) (2 ^ N 3) (Int32.ofInt (-2), m_z I, J)
theorem c_putOff {k : Nat} {I : hI} {J : hJ} {R : hR} {N : Nat → Nat} (t : tok I N) (hk : 9 ≤ k) : ct k 259 [.ref 110] I J R (some (.int (m_po N I J).1)) (am_u (m_po N I J).2.1 110 72 (Int32.ofNat 0)) ((m_po N I J).2.2) R := by
  obtain ⟨k, rfl⟩ : ∃ k', k = k' + 1 := ⟨k - 1, by omega⟩
  have t1 := tok_z t
  refine ct_of (q := am_m259) (L := [_, _, _, _]) rfl rfl rfl rfl rfl rfl ?_
  refine w_aload_n rfl rfl rfl ?_
  refine w_iconst (x := Int32.ofNat 0) rfl rfl (by decide) ?_
  refine w_pf rfl rfl rfl sp110 rfl rfl rfl ?_
  refine w_iconst (x := Int32.ofNat 0) rfl rfl (by decide) ?_
  refine w_istore_n (L' := [_, _, _, _]) rfl rfl rfl ?_
  refine w_iconst (x := Int32.ofNat 0) rfl rfl (by decide) ?_
  refine w_istore_n (L' := [_, _, _, _]) rfl rfl rfl ?_
  refine l_putOff1 (I := m_z I) t1.1.2.2.2 t1.2.1.2.2.2 ?_ (N 3) 0 (by omega)
  refine w_bipush (x := Int32.ofInt (-2)) rfl rfl (by decide) ?_
  refine w_istore_n (L' := [_, _, _, _]) rfl rfl rfl ?_
  refine w_iconst (x := Int32.ofNat 0) rfl rfl (by decide) ?_
  refine w_istore_n (L' := [_, _, _, _]) rfl rfl rfl ?_
  refine l_putOff2 (q0 := (Int32.ofInt (-2), m_z I, J)) rfl t1 (by omega) ?_ (2 ^ N 3) 0 (by omega)
  refine w_aload_n rfl rfl rfl ?_
  refine w_iconst (x := Int32.ofNat 0) rfl rfl (by decide) ?_
  refine w_pf rfl rfl rfl sp110 rfl rfl rfl ?_
  refine w_iload_n rfl rfl rfl ?_
  exact w_iret rfl rfl rfl rfl rfl
