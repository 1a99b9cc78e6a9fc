/-! The reference: more trials and counts. -/
theorem am_inN {x : Int32} {c : Nat} (hc : c < 1000) (h : ¬ x < Int32.ofNat 0 ∧ ¬ Int32.ofNat c < x) : x = Int32.ofNat (nn x) ∧ nn x < c + 1 := by
  obtain ⟨h1, h2⟩ := h
  rw [Int32.lt_iff_toInt_lt, Int32.toInt_ofNat_of_lt (by decide)] at h1
  rw [Int32.lt_iff_toInt_lt, Int32.toInt_ofNat_of_lt (by omega)] at h2
  have e : (nn x : Int) = x.toInt := by
    show ((x.toInt.toNat : Nat) : Int) = _
    omega
  refine ⟨?_, by omega⟩
  rw [← Int32.toInt_inj, Int32.toInt_ofNat_of_lt (by omega), e]
theorem am_okN {x y : Int32} {c : Nat} (hc : c < 1000) (hy : y = Int32.ofNat c) (h : ¬ x < 0 ∧ x < y) : okn x c := by
  subst hy
  obtain ⟨h1, h2⟩ := h
  rw [Int32.lt_iff_toInt_lt] at h1
  rw [Int32.lt_iff_toInt_lt, Int32.toInt_ofNat_of_lt (by omega)] at h2
  have h1 : ¬ x.toInt < 0 := h1
  have e : (nn x : Int) = x.toInt := by
    show ((x.toInt.toNat : Nat) : Int) = _
    omega
  refine ⟨?_, by omega⟩
  rw [← Int32.toInt_inj, Int32.toInt_ofNat_of_lt (by omega), e]
theorem c_law_no {k : Nat} {I : hI} {J : hJ} {R : hR} {x y : Int32} (hx : ¬ ((¬ x < Int32.ofNat 0 ∧ ¬ Int32.ofNat 2 < x) ∧ ¬ I 128 (nn x) = 0 ∧ (x = Int32.ofNat 2 → ¬ y < 0 ∧ y < I 110 14) ∧ (¬ x = Int32.ofNat 2 → ¬ y < 0 ∧ y < I 110 13))) (hk : 2 ≤ k) : ct k 240 [.ref 110, .int x, .int y] I J R (some (.long (-9223372036854775808))) (m_z I) J R := by
  obtain ⟨k, rfl⟩ : ∃ k', k = k' + 1 := ⟨k - 1, by omega⟩
  refine ct_of (q := am_m240) (L := [_, _, _, _, _]) rfl rfl rfl rfl rfl rfl ?_
  refine w_aload_n rfl rfl rfl ?_
  refine w_iconst (x := Int32.ofNat 0) rfl rfl (by decide) ?_
  refine w_pf rfl rfl rfl sp110 rfl rfl rfl ?_
  refine w_iload_n rfl rfl rfl ?_
  refine w_iconst (x := Int32.ofNat 0) rfl rfl (by decide) ?_
  refine w_iconst (x := Int32.ofNat 2) rfl rfl (by decide) ?_
  refine w_cs (q := am_m168) (na := 3) (as := [_, _, _]) (st' := [_]) rfl rfl rfl rfl (by decide) rfl rfl (Nat.le_of_ble_eq_true rfl) rfl rfl rfl (c_isIn (by omega)) rfl rfl ?_
  refine w_if_eqB (t := 47) (f := 14) rfl rfl rfl (fun c11 => ?_) (fun c11 => ?_)
  · refine w_ldc2_w rfl rfl rfl ?_
    exact w_lret rfl rfl rfl rfl rfl
  · refine w_aload_n rfl rfl rfl ?_
    refine w_gf (t := .ref (128)) (v := .ref (128)) rfl rfl rfl sp110 rfl rfl rfl ?_
    refine w_iload_n rfl rfl rfl ?_
    refine w_baload rfl rfl sp128 (am_inN (by decide) c11).1 ⟨(by have := (am_inN (by decide) c11).2; omega), by omega⟩ (congrFun (am_u_ne (by decide)) _) ?_
    refine w_if_eq (t := 47) (f := 23) rfl rfl rfl (fun c20 => ?_) (fun c20 => ?_)
    · refine w_ldc2_w rfl rfl rfl ?_
      exact w_lret rfl rfl rfl rfl rfl
    · refine w_iload_n rfl rfl rfl ?_
      refine w_iconst (x := Int32.ofNat 2) rfl rfl (by decide) ?_
      refine w_ic_ne (t := 39) (f := 28) rfl rfl rfl (fun c25 => ?_) (fun c25 => ?_)
      · refine w_aload_n rfl rfl rfl ?_
        refine w_iload_n rfl rfl rfl ?_
        refine w_cv (q := am_m215) (as := [_]) (rest := []) (st' := [_]) rfl rfl rfl rfl rfl rfl sp110 rfl rfl rfl rfl (c_isRope (by omega)) rfl rfl ?_
        refine w_if_neB (t := 51) (f := 47) rfl rfl rfl (fun c44 => ?_) (fun c44 => ?_)
        · exact (hx ⟨c11, c20, by first | exact ⟨fun _ => c33, fun z => absurd c25 z⟩ | exact ⟨fun z => absurd z c25, fun _ => c44⟩⟩).elim
        · refine w_ldc2_w rfl rfl rfl ?_
          exact w_lret rfl rfl rfl rfl rfl
      · refine w_aload_n rfl rfl rfl ?_
        refine w_iload_n rfl rfl rfl ?_
        refine w_cv (q := am_m216) (as := [_]) (rest := []) (st' := [_]) rfl rfl rfl rfl rfl rfl sp110 rfl rfl rfl rfl (c_isShip (by omega)) rfl rfl ?_
        refine w_if_neB (t := 51) (f := 36) rfl rfl rfl (fun c33 => ?_) (fun c33 => ?_)
        · exact (hx ⟨c11, c20, by first | exact ⟨fun _ => c33, fun z => absurd c25 z⟩ | exact ⟨fun z => absurd z c25, fun _ => c44⟩⟩).elim
        · refine w_goto (pc' := 47) rfl rfl ?_
          refine w_ldc2_w rfl rfl rfl ?_
          exact w_lret rfl rfl rfl rfl rfl
/-- the weakest rope of a ship -/
def m_wk (I : hI) (s : Int32) (r : Nat) : Int32 := s_for (fun r b => if (I 138 (8 * 0 + r) = Int32.ofNat 1 ∧ I 140 (8 * 0 + r) = s) ∧ (b < 0 ∨ I 139 r < I 139 (nn b)) then Int32.ofNat r else b) r (Int32.ofInt (-2))
theorem m_wk_s (I : hI) (s : Int32) (r : Nat) : m_wk I s (r + 1) = if (I 138 (8 * 0 + r) = Int32.ofNat 1 ∧ I 140 (8 * 0 + r) = s) ∧ (m_wk I s r < 0 ∨ I 139 r < I 139 (nn (m_wk I s r))) then Int32.ofNat r else m_wk I s r := rfl
theorem nn_ofNat {r : Nat} (h : r < 2147483648) : nn (Int32.ofNat r) = r := by
  show (Int32.ofNat r).toInt.toNat = r
  rw [Int32.toInt_ofNat_of_lt h]
  rfl
theorem m_wk_ok (I : hI) (s : Int32) : ∀ r, r ≤ 8 → m_wk I s r < 0 ∨ okn (m_wk I s r) 8 := by
  intro r
  induction r with
  | zero => intro _; exact Or.inl (show Int32.ofInt (-2) < 0 by decide)
  | succ r ih =>
    intro h
    have ih := ih (by omega)
    show (if _ then Int32.ofNat r else m_wk I s r) < 0 ∨ okn (if _ then Int32.ofNat r else m_wk I s r) 8
    split
    · refine Or.inr ⟨?_, ?_⟩
      · rw [nn_ofNat (by omega)]
      · rw [nn_ofNat (by omega)]; omega
    · exact ih
theorem l_weakest {k : Nat} {I : hI} {J : hJ} {R : hR} {q : Option Value × am_H} {n : Nat} {s : Int32} (hn : n ≤ 8) (h13 : I 110 13 = Int32.ofNat n) (hk : 1 ≤ k) (Z : wz k 12 (some .int) am_c249 65 [.ref 110, .int s, .int (m_wk I s n), .int (Int32.ofNat n)] [] I J R q) : ∀ (j r : Nat) , r + j = n → wz k 12 (some .int) am_c249 20 [.ref 110, .int s, .int (m_wk I s r), .int (Int32.ofNat r)] [] I J R q := by
  intro j
  induction j with
  | zero =>
    intro r e
    obtain rfl : n = r := by omega
    refine w_iload_n rfl rfl rfl ?_
    refine w_aload_n rfl rfl rfl ?_
    refine w_gf (t := .int 0) (v := .int _) rfl rfl rfl sp110 rfl (congrArg Value.int h13) rfl ?_
    refine w_ic_geN (t := 65) (f := 28) rfl rfl rfl (by omega) (by omega) (fun c25 => ?_) (fun c25 => absurd c25 (by omega))
    exact Z
  | succ j ih =>
    intro r e
    refine w_iload_n rfl rfl rfl ?_
    refine w_aload_n rfl rfl rfl ?_
    refine w_gf (t := .int 0) (v := .int _) rfl rfl rfl sp110 rfl (congrArg Value.int h13) rfl ?_
    refine w_ic_geN (t := 65) (f := 28) rfl rfl rfl (by omega) (by omega) (fun c25 => absurd c25 (by omega)) (fun c25 => ?_)
    refine w_aload_n rfl rfl rfl ?_
    refine w_iconst (x := Int32.ofNat 0) rfl rfl (by decide) ?_
    refine w_iload_n rfl rfl rfl ?_
    refine w_iload_n rfl rfl rfl ?_
    refine w_cv (q := am_m218) (as := [_, _, _]) (rest := []) (st' := [_]) rfl rfl rfl rfl rfl rfl sp110 rfl rfl rfl rfl (c_isMadeIn (b := 0) (by decide) (by omega) hk) rfl rfl ?_
    refine w_if_eqB (t := 59) (f := 38) rfl rfl rfl (fun c35 => ?_) (fun c35 => ?_)
    · refine w_iinc (L' := [_, _, _, _]) rfl rfl rfl (am_incN 1) rfl ?_
      refine w_goto (pc' := 20) rfl rfl ?_
      exact wz_L (ih (r + 1) (by omega)) (by simp only [m_wk_s, *, ite_true, ite_false, and_self, and_true, true_and, and_false, false_and, or_true, true_or, or_false, false_or, not_true, not_false_iff])
    · refine w_iload_n rfl rfl rfl ?_
      refine w_if_lt (t := 57) (f := 42) rfl rfl rfl (fun c39 => ?_) (fun c39 => ?_)
      · refine w_iload_n rfl rfl rfl ?_
        refine w_istore_n (L' := [_, _, _, _]) rfl rfl rfl ?_
        refine w_iinc (L' := [_, _, _, _]) rfl rfl rfl (am_incN 1) rfl ?_
        refine w_goto (pc' := 20) rfl rfl ?_
        exact wz_L (ih (r + 1) (by omega)) (by simp only [m_wk_s, *, ite_true, ite_false, and_self, and_true, true_and, and_false, false_and, or_true, true_or, or_false, false_or, not_true, not_false_iff])
      · refine w_aload_n rfl rfl rfl ?_
        refine w_gf (t := .ref (139)) (v := .ref (139)) rfl rfl rfl sp110 rfl rfl rfl ?_
        refine w_iload_n rfl rfl rfl ?_
        refine w_iaload rfl rfl sp139 rfl ⟨by omega, by omega⟩ rfl ?_
        refine w_aload_n rfl rfl rfl ?_
        refine w_gf (t := .ref (139)) (v := .ref (139)) rfl rfl rfl sp110 rfl rfl rfl ?_
        refine w_iload_n rfl rfl rfl ?_
        refine w_iaload rfl rfl sp139 ((m_wk_ok I s r (by omega)).resolve_left c39).1 ⟨(by have := ((m_wk_ok I s r (by omega)).resolve_left c39).2; omega), by omega⟩ rfl ?_
        refine w_ic_ge (t := 59) (f := 57) rfl rfl rfl (fun c54 => ?_) (fun c54 => ?_)
        · refine w_iinc (L' := [_, _, _, _]) rfl rfl rfl (am_incN 1) rfl ?_
          refine w_goto (pc' := 20) rfl rfl ?_
          exact wz_L (ih (r + 1) (by omega)) (by simp only [m_wk_s, *, ite_true, ite_false, and_self, and_true, true_and, and_false, false_and, or_true, true_or, or_false, false_or, not_true, not_false_iff])
        · refine w_iload_n rfl rfl rfl ?_
          refine w_istore_n (L' := [_, _, _, _]) rfl rfl rfl ?_
          refine w_iinc (L' := [_, _, _, _]) rfl rfl rfl (am_incN 1) rfl ?_
          refine w_goto (pc' := 20) rfl rfl ?_
          exact wz_L (ih (r + 1) (by omega)) (by simp only [m_wk_s, *, ite_true, ite_false, and_self, and_true, true_and, and_false, false_and, or_true, true_or, or_false, false_or, not_true, not_false_iff])
theorem c_weakest {k : Nat} {I : hI} {J : hJ} {R : hR} {N : Nat → Nat} (t : tok I N) {s : Nat} (hs : s < N 2) (hk : 2 ≤ k) : ct k 249 [.ref 110, .int (Int32.ofNat s)] I J R (some (.int (m_wk (m_z I) (Int32.ofNat s) (N 1)))) (m_z I) J R := by
  obtain ⟨k, rfl⟩ : ∃ k', k = k' + 1 := ⟨k - 1, by omega⟩
  have hn := t.1.2.1
  have h13 := t.2.1.2.1
  have hn2 := t.1.2.2.1
  have h14 := t.2.1.2.2.1
  have t1 := tok_z t
  refine ct_of (q := am_m249) (L := [_, _, _, _]) rfl rfl rfl rfl rfl rfl ?_
  refine w_aload_n rfl rfl rfl ?_
  refine w_iconst (x := Int32.ofNat 0) rfl rfl (by decide) ?_
  refine w_pf rfl rfl rfl sp110 rfl rfl rfl ?_
  refine w_aload_n rfl rfl rfl ?_
  refine w_iload_n rfl rfl rfl ?_
  refine w_cv (q := am_m216) (as := [_]) (rest := []) (st' := [_]) rfl rfl rfl rfl rfl rfl sp110 rfl rfl rfl rfl (c_isShip (by omega)) rfl rfl ?_
  refine w_if_neB (t := 15) (f := 13) rfl rfl rfl (fun c10 => ?_) (fun c10 => absurd c10 (isok hs (by omega) ((am_u_nk (by decide)).trans h14)))
  refine w_bipush (x := Int32.ofInt (-2)) rfl rfl (by decide) ?_
  refine w_istore_n (L' := [_, _, _, _]) rfl rfl rfl ?_
  refine w_iconst (x := Int32.ofNat 0) rfl rfl (by decide) ?_
  refine w_istore_n (L' := [_, _, _, _]) rfl rfl rfl ?_
  refine l_weakest (I := m_z I) hn t1.2.1.2.1 (by omega) ?_ (N 1) 0 (by omega)
  refine w_iload_n rfl rfl rfl ?_
  exact w_iret rfl rfl rfl rfl rfl
theorem c_weakest_no {k : Nat} {I : hI} {J : hJ} {R : hR} {x : Int32} (hx : ¬ (¬ x < 0 ∧ x < I 110 14)) (hk : 2 ≤ k) : ct k 249 [.ref 110, .int x] I J R (some (.int (Int32.ofInt (-1)))) (m_z I) J R := by
  obtain ⟨k, rfl⟩ : ∃ k', k = k' + 1 := ⟨k - 1, by omega⟩
  refine ct_of (q := am_m249) (L := [_, _, _, _]) rfl rfl rfl rfl rfl rfl ?_
  refine w_aload_n rfl rfl rfl ?_
  refine w_iconst (x := Int32.ofNat 0) rfl rfl (by decide) ?_
  refine w_pf rfl rfl rfl sp110 rfl rfl rfl ?_
  refine w_aload_n rfl rfl rfl ?_
  refine w_iload_n rfl rfl rfl ?_
  refine w_cv (q := am_m216) (as := [_]) (rest := []) (st' := [_]) rfl rfl rfl rfl rfl rfl sp110 rfl rfl rfl rfl (c_isShip (by omega)) rfl rfl ?_
  refine w_if_neB (t := 15) (f := 13) rfl rfl rfl (fun c10 => absurd c10 hx) (fun c10 => ?_)
  refine w_iconst (x := Int32.ofInt (-1)) rfl rfl (by decide) ?_
  exact w_iret rfl rfl rfl rfl rfl
def m_c13 (I : hI) (n : Nat) : Int32 := s_for (fun r a => a + I 139 r) n (Int32.ofNat 0)
def m_count (N : Nat → Nat) (I : hI) (w : Int32) : Int32 := if w = Int32.ofNat 0 then I 110 12 else if w = Int32.ofNat 1 then I 110 13 else if w = Int32.ofNat 2 then I 110 14 else if w = Int32.ofNat 3 then I 110 15 else if w = Int32.ofNat 4 then I 110 16 else if w = Int32.ofNat 5 then I 145 0 else if w = Int32.ofNat 6 then m_cR I 0 (N 1) (Int32.ofNat 1) else if w = Int32.ofNat 7 then m_cR I 0 (N 1) (Int32.ofNat 2) else if w = Int32.ofNat 8 then m_cR I 0 (N 1) (Int32.ofNat 3) else if w = Int32.ofNat 9 then m_cS I 0 (N 2) (Int32.ofNat 1) else if w = Int32.ofNat 10 then m_cS I 0 (N 2) (Int32.ofNat 2) else if w = Int32.ofNat 11 then m_hA I 0 (N 2) else if w = Int32.ofNat 12 then I 144 0 else if w = Int32.ofNat 13 then m_c13 I (N 1) else if w = Int32.ofNat 14 then I 110 79 else if w = Int32.ofNat 15 then (if I 110 80 < 0 then I 110 79 else I 110 80) else if w = Int32.ofNat 16 then I 110 84 else Int32.ofInt (-1)
theorem l_count {k : Nat} {I : hI} {J : hJ} {R : hR} {q : Option Value × am_H} {n : Nat} {w : Int32} (hn : n ≤ 8) (h13 : I 110 13 = Int32.ofNat n) (Z : wz k 12 (some .int) am_c285 197 [.ref 110, .int w, .int (m_c13 I n), .int (Int32.ofNat n)] [] I J R q) : ∀ (j r : Nat) , r + j = n → wz k 12 (some .int) am_c285 174 [.ref 110, .int w, .int (m_c13 I r), .int (Int32.ofNat r)] [] I J R q := by
  intro j
  induction j with
  | zero =>
    intro r e
    obtain rfl : n = r := by omega
    refine w_iload_n rfl rfl rfl ?_
    refine w_aload_n rfl rfl rfl ?_
    refine w_gf (t := .int 0) (v := .int _) rfl rfl rfl sp110 rfl (congrArg Value.int h13) rfl ?_
    refine w_ic_geN (t := 197) (f := 182) rfl rfl rfl (by omega) (by omega) (fun c179 => ?_) (fun c179 => absurd c179 (by omega))
    exact Z
  | succ j ih =>
    intro r e
    refine w_iload_n rfl rfl rfl ?_
    refine w_aload_n rfl rfl rfl ?_
    refine w_gf (t := .int 0) (v := .int _) rfl rfl rfl sp110 rfl (congrArg Value.int h13) rfl ?_
    refine w_ic_geN (t := 197) (f := 182) rfl rfl rfl (by omega) (by omega) (fun c179 => absurd c179 (by omega)) (fun c179 => ?_)
    refine w_iload_n rfl rfl rfl ?_
    refine w_aload_n rfl rfl rfl ?_
    refine w_gf (t := .ref (139)) (v := .ref (139)) rfl rfl rfl sp110 rfl rfl rfl ?_
    refine w_iload_n rfl rfl rfl ?_
    refine w_iaload rfl rfl sp139 rfl ⟨by omega, by omega⟩ rfl ?_
    refine w_iadd rfl rfl ?_
    refine w_istore_n (L' := [_, _, _, _]) rfl rfl rfl ?_
    refine w_iinc (L' := [_, _, _, _]) rfl rfl rfl (am_incN 1) rfl ?_
    refine w_goto (pc' := 174) rfl rfl ?_
    exact ih (r + 1) (by omega)
theorem c_count {k : Nat} {I : hI} {J : hJ} {R : hR} {N : Nat → Nat} (t : tok I N) {w : Int32} (hk : 2 ≤ k) : ct k 285 [.ref 110, .int w] I J R (some (.int (m_count N (m_z I) w))) (m_z I) J R := by
  obtain ⟨k, rfl⟩ : ∃ k', k = k' + 1 := ⟨k - 1, by omega⟩
  have hn := t.1.2.1
  have h13 := t.2.1.2.1
  have hn2 := t.1.2.2.1
  have h14 := t.2.1.2.2.1
  have t1 := tok_z t
  refine ct_of (q := am_m285) (L := [_, _, _, _]) rfl rfl rfl rfl rfl rfl ?_
  refine w_aload_n rfl rfl rfl ?_
  refine w_iconst (x := Int32.ofNat 0) rfl rfl (by decide) ?_
  refine w_pf rfl rfl rfl sp110 rfl rfl rfl ?_
  refine w_iconst (x := Int32.ofNat 0) rfl rfl (by decide) ?_
  refine w_istore_n (L' := [_, _, _, _]) rfl rfl rfl ?_
  refine w_iload_n rfl rfl rfl ?_
  refine w_ts (lo := 0) (hi := 16) (d := 214) rfl rfl (by decide) (fun sw => ?_) (fun n h1 h2 sw => ?_)
  · refine w_iconst (x := Int32.ofInt (-1)) rfl rfl (by decide) ?_
    exact w_iret rfl (by unfold m_count; simp only [sw 0 (by decide) (by decide), sw 1 (by decide) (by decide), sw 2 (by decide) (by decide), sw 3 (by decide) (by decide), sw 4 (by decide) (by decide), sw 5 (by decide) (by decide), sw 6 (by decide) (by decide), sw 7 (by decide) (by decide), sw 8 (by decide) (by decide), sw 9 (by decide) (by decide), sw 10 (by decide) (by decide), sw 11 (by decide) (by decide), sw 12 (by decide) (by decide), sw 13 (by decide) (by decide), sw 14 (by decide) (by decide), sw 15 (by decide) (by decide), sw 16 (by decide) (by decide), ite_false]) rfl rfl rfl
  · have h3 : n = 0 ∨ n = 1 ∨ n = 2 ∨ n = 3 ∨ n = 4 ∨ n = 5 ∨ n = 6 ∨ n = 7 ∨ n = 8 ∨ n = 9 ∨ n = 10 ∨ n = 11 ∨ n = 12 ∨ n = 13 ∨ n = 14 ∨ n = 15 ∨ n = 16 := by omega
    rcases h3 with rfl | rfl | rfl | rfl | rfl | rfl | rfl | rfl | rfl | rfl | rfl | rfl | rfl | rfl | rfl | rfl | rfl
    · refine ⟨92, rfl, ?_⟩
      refine w_aload_n rfl rfl rfl ?_
      refine w_gf (t := .int 0) (v := .int _) rfl rfl rfl sp110 rfl (congrArg Value.int (am_u_nk (by decide))) rfl ?_
      exact w_iret rfl (by rw [sw]; rfl) rfl rfl rfl
    · refine ⟨97, rfl, ?_⟩
      refine w_aload_n rfl rfl rfl ?_
      refine w_gf (t := .int 0) (v := .int _) rfl rfl rfl sp110 rfl (congrArg Value.int (am_u_nk (by decide))) rfl ?_
      exact w_iret rfl (by rw [sw]; rfl) rfl rfl rfl
    · refine ⟨102, rfl, ?_⟩
      refine w_aload_n rfl rfl rfl ?_
      refine w_gf (t := .int 0) (v := .int _) rfl rfl rfl sp110 rfl (congrArg Value.int (am_u_nk (by decide))) rfl ?_
      exact w_iret rfl (by rw [sw]; rfl) rfl rfl rfl
    · refine ⟨107, rfl, ?_⟩
      refine w_aload_n rfl rfl rfl ?_
      refine w_gf (t := .int 0) (v := .int _) rfl rfl rfl sp110 rfl (congrArg Value.int (am_u_nk (by decide))) rfl ?_
      exact w_iret rfl (by rw [sw]; rfl) rfl rfl rfl
    · refine ⟨112, rfl, ?_⟩
      refine w_aload_n rfl rfl rfl ?_
      refine w_gf (t := .int 0) (v := .int _) rfl rfl rfl sp110 rfl (congrArg Value.int (am_u_nk (by decide))) rfl ?_
      exact w_iret rfl (by rw [sw]; rfl) rfl rfl rfl
    · refine ⟨117, rfl, ?_⟩
      refine w_aload_n rfl rfl rfl ?_
      refine w_gf (t := .ref (145)) (v := .ref (145)) rfl rfl rfl sp110 rfl rfl rfl ?_
      refine w_iconst (x := Int32.ofNat 0) rfl rfl (by decide) ?_
      refine w_iaload rfl rfl sp145 rfl ⟨by omega, by omega⟩ (congrFun (am_u_ne (by decide)) _) ?_
      exact w_iret rfl (by rw [sw]; rfl) rfl rfl rfl
    · refine ⟨124, rfl, ?_⟩
      refine w_aload_n rfl rfl rfl ?_
      refine w_iconst (x := Int32.ofNat 0) rfl rfl (by decide) ?_
      refine w_iconst (x := Int32.ofNat 1) rfl rfl (by decide) ?_
      refine w_cv (q := am_m233) (as := [_, _]) (rest := []) (st' := [_]) rfl rfl rfl rfl rfl rfl sp110 rfl rfl rfl rfl (c_areRopes (b := 0) (by decide) hn t1.2.1.2.1 (by omega)) rfl rfl ?_
      exact w_iret rfl (by rw [sw]; rfl) rfl rfl rfl
    · refine ⟨131, rfl, ?_⟩
      refine w_aload_n rfl rfl rfl ?_
      refine w_iconst (x := Int32.ofNat 0) rfl rfl (by decide) ?_
      refine w_iconst (x := Int32.ofNat 2) rfl rfl (by decide) ?_
      refine w_cv (q := am_m233) (as := [_, _]) (rest := []) (st' := [_]) rfl rfl rfl rfl rfl rfl sp110 rfl rfl rfl rfl (c_areRopes (b := 0) (by decide) hn t1.2.1.2.1 (by omega)) rfl rfl ?_
      exact w_iret rfl (by rw [sw]; rfl) rfl rfl rfl
    · refine ⟨138, rfl, ?_⟩
      refine w_aload_n rfl rfl rfl ?_
      refine w_iconst (x := Int32.ofNat 0) rfl rfl (by decide) ?_
      refine w_iconst (x := Int32.ofNat 3) rfl rfl (by decide) ?_
      refine w_cv (q := am_m233) (as := [_, _]) (rest := []) (st' := [_]) rfl rfl rfl rfl rfl rfl sp110 rfl rfl rfl rfl (c_areRopes (b := 0) (by decide) hn t1.2.1.2.1 (by omega)) rfl rfl ?_
      exact w_iret rfl (by rw [sw]; rfl) rfl rfl rfl
    · refine ⟨145, rfl, ?_⟩
      refine w_aload_n rfl rfl rfl ?_
      refine w_iconst (x := Int32.ofNat 0) rfl rfl (by decide) ?_
      refine w_iconst (x := Int32.ofNat 1) rfl rfl (by decide) ?_
      refine w_cv (q := am_m234) (as := [_, _]) (rest := []) (st' := [_]) rfl rfl rfl rfl rfl rfl sp110 rfl rfl rfl rfl (c_areShips (b := 0) (by decide) hn2 t1.2.1.2.2.1 (by omega)) rfl rfl ?_
      exact w_iret rfl (by rw [sw]; rfl) rfl rfl rfl
    · refine ⟨152, rfl, ?_⟩
      refine w_aload_n rfl rfl rfl ?_
      refine w_iconst (x := Int32.ofNat 0) rfl rfl (by decide) ?_
      refine w_iconst (x := Int32.ofNat 2) rfl rfl (by decide) ?_
      refine w_cv (q := am_m234) (as := [_, _]) (rest := []) (st' := [_]) rfl rfl rfl rfl rfl rfl sp110 rfl rfl rfl rfl (c_areShips (b := 0) (by decide) hn2 t1.2.1.2.2.1 (by omega)) rfl rfl ?_
      exact w_iret rfl (by rw [sw]; rfl) rfl rfl rfl
    · refine ⟨159, rfl, ?_⟩
      refine w_aload_n rfl rfl rfl ?_
      refine w_iconst (x := Int32.ofNat 0) rfl rfl (by decide) ?_
      refine w_cv (q := am_m235) (as := [_]) (rest := []) (st' := [_]) rfl rfl rfl rfl rfl rfl sp110 rfl rfl rfl rfl (c_homeAll (b := 0) (by decide) hn2 t1.2.1.2.2.1 (by omega)) rfl rfl ?_
      exact w_iret rfl (by rw [sw]; rfl) rfl rfl rfl
    · refine ⟨165, rfl, ?_⟩
      refine w_aload_n rfl rfl rfl ?_
      refine w_gf (t := .ref (144)) (v := .ref (144)) rfl rfl rfl sp110 rfl rfl rfl ?_
      refine w_iconst (x := Int32.ofNat 0) rfl rfl (by decide) ?_
      refine w_iaload rfl rfl sp144 rfl ⟨by omega, by omega⟩ (congrFun (am_u_ne (by decide)) _) ?_
      exact w_iret rfl (by rw [sw]; rfl) rfl rfl rfl
    · refine ⟨172, rfl, ?_⟩
      refine w_iconst (x := Int32.ofNat 0) rfl rfl (by decide) ?_
      refine w_istore_n (L' := [_, _, _, _]) rfl rfl rfl ?_
      refine l_count (I := m_z I) hn t1.2.1.2.1 ?_ (N 1) 0 (by omega)
      refine w_iload_n rfl rfl rfl ?_
      exact w_iret rfl (by rw [sw]; rfl) rfl rfl rfl
    · refine ⟨199, rfl, ?_⟩
      refine w_aload_n rfl rfl rfl ?_
      refine w_gf (t := .int 0) (v := .int _) rfl rfl rfl sp110 rfl (congrArg Value.int (am_u_nk (by decide))) rfl ?_
      exact w_iret rfl (by rw [sw]; rfl) rfl rfl rfl
    · refine ⟨204, rfl, ?_⟩
      refine w_aload_n rfl rfl rfl ?_
      refine w_cv (q := am_m270) (as := []) (rest := []) (st' := [_]) rfl rfl rfl rfl rfl rfl sp110 rfl rfl rfl rfl (c_knownBy (by omega)) rfl rfl ?_
      exact w_iret rfl (by rw [sw]; rfl) rfl rfl rfl
    · refine ⟨209, rfl, ?_⟩
      refine w_aload_n rfl rfl rfl ?_
      refine w_gf (t := .int 0) (v := .int _) rfl rfl rfl sp110 rfl (congrArg Value.int (am_u_nk (by decide))) rfl ?_
      exact w_iret rfl (by rw [sw]; rfl) rfl rfl rfl
def m_tf0 (I : hI) : hI := am_u (am_u (am_u (am_u (am_u (m_lt (m_z I)) 110 65 (Int32.ofNat 1)) 110 66 (Int32.ofNat 0)) 110 69 (Int32.ofInt (-1))) 110 67 (Int32.ofNat 0)) 110 68 (Int32.ofNat 0)
theorem c_tried0 {k : Nat} {I : hI} {J : hJ} {R : hR} {N : Nat → Nat} (t : tok I N) {n : Nat} (hN : n ≤ 200) (hk : 9 ≤ k) : ct k 278 [.ref 110, .int (Int32.ofNat 0), .int (Int32.ofNat 0), .int (Int32.ofNat n)] I J R (some (.int (m_cS (m_pt (m_days N 1 n (m_tf0 I, J)).1) 1 (N 2) (Int32.ofNat 2)))) (m_pt (m_days N 1 n (m_tf0 I, J)).1) ((m_days N 1 n (m_tf0 I, J)).2) R := by
  obtain ⟨k, rfl⟩ : ∃ k', k = k' + 1 := ⟨k - 1, by omega⟩
  have hn := t.1.2.1
  have h13 := t.2.1.2.1
  have hn2 := t.1.2.2.1
  have h14 := t.2.1.2.2.1
  have t1 : tok (m_tf0 I) N := tok_u (by omega) (by omega) (tok_u (by omega) (by omega) (tok_u (by omega) (by omega) (tok_u (by omega) (by omega) (tok_u (by omega) (by omega) (tok_lt (tok_z t))))))
  have s1 : sb (m_tf0 I) := sb_u (by omega) (sb_u (by omega) (sb_u (by omega) (sb_u (by omega) (sb_u (by omega) (sb_lt _)))))
  have t2 : tok (m_pt (m_days N 1 n (m_tf0 I, J)).1) N := tok_pt (tok_F (simF_days N 1 n (m_tf0 I, J)) t1)
  refine ct_of (q := am_m278) (L := [_, _, _, _]) rfl rfl rfl rfl rfl rfl ?_
  refine w_aload_n rfl rfl rfl ?_
  refine w_iconst (x := Int32.ofNat 0) rfl rfl (by decide) ?_
  refine w_pf rfl rfl rfl sp110 rfl rfl rfl ?_
  refine w_iload_n rfl rfl rfl ?_
  refine w_iconst (x := Int32.ofNat 0) rfl rfl (by decide) ?_
  refine w_iconst (x := Int32.ofNat 4) rfl rfl (by decide) ?_
  refine w_cs (q := am_m168) (na := 3) (as := [_, _, _]) (st' := [_]) rfl rfl rfl rfl (by decide) rfl rfl (Nat.le_of_ble_eq_true rfl) rfl rfl rfl (c_isIn (by omega)) rfl rfl ?_
  refine w_if_eqB (t := 45) (f := 14) rfl rfl rfl (fun c11 => absurd c11 (inok (Nat.zero_le _) (by decide) (by decide))) (fun c11 => ?_)
  refine w_iload_n rfl rfl rfl ?_
  refine w_iconst (x := Int32.ofNat 0) rfl rfl (by decide) ?_
  refine w_sipush (x := Int32.ofNat 200) rfl rfl (by decide) ?_
  refine w_cs (q := am_m168) (na := 3) (as := [_, _, _]) (st' := [_]) rfl rfl rfl rfl (by decide) rfl rfl (Nat.le_of_ble_eq_true rfl) rfl rfl rfl (c_isIn (by omega)) rfl rfl ?_
  refine w_if_eqB (t := 45) (f := 25) rfl rfl rfl (fun c22 => absurd c22 (inok (Nat.zero_le _) hN (by decide))) (fun c22 => ?_)
  refine w_iload_n rfl rfl rfl ?_
  refine w_iconst (x := Int32.ofNat 2) rfl rfl (by decide) ?_
  refine w_ic_neN (t := 41) (f := 30) rfl rfl rfl (by omega) (by omega) (fun c27 => ?_) (fun c27 => absurd c27 (by omega))
  refine w_iload_n rfl rfl rfl ?_
  refine w_if_eq (t := 47) (f := 45) rfl rfl rfl (fun c42 => ?_) (fun c42 => absurd c42 (by decide))
  refine w_aload_n rfl rfl rfl ?_
  refine w_cv (q := am_m213) (as := []) (rest := []) (st' := []) rfl rfl rfl rfl rfl rfl sp110 rfl rfl rfl rfl (c_layTried (by omega)) rfl rfl ?_
  refine w_aload_n rfl rfl rfl ?_
  refine w_iload_n rfl rfl rfl ?_
  refine w_if_ne (t := 60) (f := 56) rfl rfl rfl (fun c53 => absurd c53 (by decide)) (fun c53 => ?_)
  refine w_iconst (x := Int32.ofNat 1) rfl rfl (by decide) ?_
  refine w_goto (pc' := 61) rfl rfl ?_
  refine w_pf rfl rfl rfl sp110 rfl rfl rfl ?_
  refine w_aload_n rfl rfl rfl ?_
  refine w_iload_n rfl rfl rfl ?_
  refine w_iconst (x := Int32.ofNat 1) rfl rfl (by decide) ?_
  refine w_ic_neN (t := 74) (f := 70) rfl rfl rfl (by omega) (by omega) (fun c67 => ?_) (fun c67 => absurd c67 (by omega))
  refine w_iconst (x := Int32.ofNat 0) rfl rfl (by decide) ?_
  refine w_pf rfl rfl rfl sp110 rfl rfl rfl ?_
  refine w_aload_n rfl rfl rfl ?_
  refine w_iload_n rfl rfl rfl ?_
  refine w_iconst (x := Int32.ofNat 2) rfl rfl (by decide) ?_
  refine w_ic_neN (t := 88) (f := 84) rfl rfl rfl (by omega) (by omega) (fun c81 => ?_) (fun c81 => absurd c81 (by omega))
  refine w_iconst (x := Int32.ofInt (-1)) rfl rfl (by decide) ?_
  refine w_pf rfl rfl rfl sp110 rfl rfl rfl ?_
  refine w_aload_n rfl rfl rfl ?_
  refine w_iload_n rfl rfl rfl ?_
  refine w_iconst (x := Int32.ofNat 3) rfl rfl (by decide) ?_
  refine w_ic_neN (t := 102) (f := 98) rfl rfl rfl (by omega) (by omega) (fun c95 => ?_) (fun c95 => absurd c95 (by omega))
  refine w_iconst (x := Int32.ofNat 0) rfl rfl (by decide) ?_
  refine w_pf rfl rfl rfl sp110 rfl rfl rfl ?_
  refine w_aload_n rfl rfl rfl ?_
  refine w_iload_n rfl rfl rfl ?_
  refine w_iconst (x := Int32.ofNat 4) rfl rfl (by decide) ?_
  refine w_ic_neN (t := 116) (f := 112) rfl rfl rfl (by omega) (by omega) (fun c109 => ?_) (fun c109 => absurd c109 (by omega))
  refine w_iconst (x := Int32.ofNat 0) rfl rfl (by decide) ?_
  refine w_pf rfl rfl rfl sp110 rfl rfl rfl ?_
  refine w_aload_n rfl rfl rfl ?_
  refine w_iload_n rfl rfl rfl ?_
  refine w_cv (q := am_m232) (as := [_]) (rest := []) (st' := []) rfl rfl rfl rfl rfl rfl sp110 rfl rfl rfl rfl (c_goMany (by omega) t1 s1 (by omega)) rfl rfl ?_
  refine w_aload_n rfl rfl rfl ?_
  refine w_cv (q := am_m212) (as := []) (rest := []) (st' := []) rfl rfl rfl rfl rfl rfl sp110 rfl rfl rfl rfl (c_plainTried (by omega)) rfl rfl ?_
  refine w_aload_n rfl rfl rfl ?_
  refine w_iconst (x := Int32.ofNat 1) rfl rfl (by decide) ?_
  refine w_iconst (x := Int32.ofNat 2) rfl rfl (by decide) ?_
  refine w_cv (q := am_m234) (as := [_, _]) (rest := []) (st' := [_]) rfl rfl rfl rfl rfl rfl sp110 rfl rfl rfl rfl (c_areShips (b := 1) (by decide) hn2 t2.2.1.2.2.1 (by omega)) rfl rfl ?_
  exact w_iret rfl rfl rfl rfl rfl
def m_tf1 (I : hI) : hI := am_u (am_u (am_u (am_u (am_u (m_lt (m_z I)) 110 65 (Int32.ofNat 0)) 110 66 (Int32.ofNat 1)) 110 69 (Int32.ofInt (-1))) 110 67 (Int32.ofNat 0)) 110 68 (Int32.ofNat 0)
theorem c_tried1 {k : Nat} {I : hI} {J : hJ} {R : hR} {N : Nat → Nat} (t : tok I N) {n : Nat} (hN : n ≤ 200) (hk : 9 ≤ k) : ct k 278 [.ref 110, .int (Int32.ofNat 1), .int (Int32.ofNat 0), .int (Int32.ofNat n)] I J R (some (.int (m_cS (m_pt (m_days N 1 n (m_tf1 I, J)).1) 1 (N 2) (Int32.ofNat 2)))) (m_pt (m_days N 1 n (m_tf1 I, J)).1) ((m_days N 1 n (m_tf1 I, J)).2) R := by
  obtain ⟨k, rfl⟩ : ∃ k', k = k' + 1 := ⟨k - 1, by omega⟩
  have hn := t.1.2.1
  have h13 := t.2.1.2.1
  have hn2 := t.1.2.2.1
  have h14 := t.2.1.2.2.1
  have t1 : tok (m_tf1 I) N := tok_u (by omega) (by omega) (tok_u (by omega) (by omega) (tok_u (by omega) (by omega) (tok_u (by omega) (by omega) (tok_u (by omega) (by omega) (tok_lt (tok_z t))))))
  have s1 : sb (m_tf1 I) := sb_u (by omega) (sb_u (by omega) (sb_u (by omega) (sb_u (by omega) (sb_u (by omega) (sb_lt _)))))
  have t2 : tok (m_pt (m_days N 1 n (m_tf1 I, J)).1) N := tok_pt (tok_F (simF_days N 1 n (m_tf1 I, J)) t1)
  refine ct_of (q := am_m278) (L := [_, _, _, _]) rfl rfl rfl rfl rfl rfl ?_
  refine w_aload_n rfl rfl rfl ?_
  refine w_iconst (x := Int32.ofNat 0) rfl rfl (by decide) ?_
  refine w_pf rfl rfl rfl sp110 rfl rfl rfl ?_
  refine w_iload_n rfl rfl rfl ?_
  refine w_iconst (x := Int32.ofNat 0) rfl rfl (by decide) ?_
  refine w_iconst (x := Int32.ofNat 4) rfl rfl (by decide) ?_
  refine w_cs (q := am_m168) (na := 3) (as := [_, _, _]) (st' := [_]) rfl rfl rfl rfl (by decide) rfl rfl (Nat.le_of_ble_eq_true rfl) rfl rfl rfl (c_isIn (by omega)) rfl rfl ?_
  refine w_if_eqB (t := 45) (f := 14) rfl rfl rfl (fun c11 => absurd c11 (inok (Nat.zero_le _) (by decide) (by decide))) (fun c11 => ?_)
  refine w_iload_n rfl rfl rfl ?_
  refine w_iconst (x := Int32.ofNat 0) rfl rfl (by decide) ?_
  refine w_sipush (x := Int32.ofNat 200) rfl rfl (by decide) ?_
  refine w_cs (q := am_m168) (na := 3) (as := [_, _, _]) (st' := [_]) rfl rfl rfl rfl (by decide) rfl rfl (Nat.le_of_ble_eq_true rfl) rfl rfl rfl (c_isIn (by omega)) rfl rfl ?_
  refine w_if_eqB (t := 45) (f := 25) rfl rfl rfl (fun c22 => absurd c22 (inok (Nat.zero_le _) hN (by decide))) (fun c22 => ?_)
  refine w_iload_n rfl rfl rfl ?_
  refine w_iconst (x := Int32.ofNat 2) rfl rfl (by decide) ?_
  refine w_ic_neN (t := 41) (f := 30) rfl rfl rfl (by omega) (by omega) (fun c27 => ?_) (fun c27 => absurd c27 (by omega))
  refine w_iload_n rfl rfl rfl ?_
  refine w_if_eq (t := 47) (f := 45) rfl rfl rfl (fun c42 => ?_) (fun c42 => absurd c42 (by decide))
  refine w_aload_n rfl rfl rfl ?_
  refine w_cv (q := am_m213) (as := []) (rest := []) (st' := []) rfl rfl rfl rfl rfl rfl sp110 rfl rfl rfl rfl (c_layTried (by omega)) rfl rfl ?_
  refine w_aload_n rfl rfl rfl ?_
  refine w_iload_n rfl rfl rfl ?_
  refine w_if_ne (t := 60) (f := 56) rfl rfl rfl (fun c53 => ?_) (fun c53 => absurd c53 (by decide))
  refine w_iconst (x := Int32.ofNat 0) rfl rfl (by decide) ?_
  refine w_pf rfl rfl rfl sp110 rfl rfl rfl ?_
  refine w_aload_n rfl rfl rfl ?_
  refine w_iload_n rfl rfl rfl ?_
  refine w_iconst (x := Int32.ofNat 1) rfl rfl (by decide) ?_
  refine w_ic_neN (t := 74) (f := 70) rfl rfl rfl (by omega) (by omega) (fun c67 => absurd c67 (by omega)) (fun c67 => ?_)
  refine w_iconst (x := Int32.ofNat 1) rfl rfl (by decide) ?_
  refine w_goto (pc' := 75) rfl rfl ?_
  refine w_pf rfl rfl rfl sp110 rfl rfl rfl ?_
  refine w_aload_n rfl rfl rfl ?_
  refine w_iload_n rfl rfl rfl ?_
  refine w_iconst (x := Int32.ofNat 2) rfl rfl (by decide) ?_
  refine w_ic_neN (t := 88) (f := 84) rfl rfl rfl (by omega) (by omega) (fun c81 => ?_) (fun c81 => absurd c81 (by omega))
  refine w_iconst (x := Int32.ofInt (-1)) rfl rfl (by decide) ?_
  refine w_pf rfl rfl rfl sp110 rfl rfl rfl ?_
  refine w_aload_n rfl rfl rfl ?_
  refine w_iload_n rfl rfl rfl ?_
  refine w_iconst (x := Int32.ofNat 3) rfl rfl (by decide) ?_
  refine w_ic_neN (t := 102) (f := 98) rfl rfl rfl (by omega) (by omega) (fun c95 => ?_) (fun c95 => absurd c95 (by omega))
  refine w_iconst (x := Int32.ofNat 0) rfl rfl (by decide) ?_
  refine w_pf rfl rfl rfl sp110 rfl rfl rfl ?_
  refine w_aload_n rfl rfl rfl ?_
  refine w_iload_n rfl rfl rfl ?_
  refine w_iconst (x := Int32.ofNat 4) rfl rfl (by decide) ?_
  refine w_ic_neN (t := 116) (f := 112) rfl rfl rfl (by omega) (by omega) (fun c109 => ?_) (fun c109 => absurd c109 (by omega))
  refine w_iconst (x := Int32.ofNat 0) rfl rfl (by decide) ?_
  refine w_pf rfl rfl rfl sp110 rfl rfl rfl ?_
  refine w_aload_n rfl rfl rfl ?_
  refine w_iload_n rfl rfl rfl ?_
  refine w_cv (q := am_m232) (as := [_]) (rest := []) (st' := []) rfl rfl rfl rfl rfl rfl sp110 rfl rfl rfl rfl (c_goMany (by omega) t1 s1 (by omega)) rfl rfl ?_
  refine w_aload_n rfl rfl rfl ?_
  refine w_cv (q := am_m212) (as := []) (rest := []) (st' := []) rfl rfl rfl rfl rfl rfl sp110 rfl rfl rfl rfl (c_plainTried (by omega)) rfl rfl ?_
  refine w_aload_n rfl rfl rfl ?_
  refine w_iconst (x := Int32.ofNat 1) rfl rfl (by decide) ?_
  refine w_iconst (x := Int32.ofNat 2) rfl rfl (by decide) ?_
  refine w_cv (q := am_m234) (as := [_, _]) (rest := []) (st' := [_]) rfl rfl rfl rfl rfl rfl sp110 rfl rfl rfl rfl (c_areShips (b := 1) (by decide) hn2 t2.2.1.2.2.1 (by omega)) rfl rfl ?_
  exact w_iret rfl rfl rfl rfl rfl
def m_tf2 (I : hI) (i : Nat) : hI := am_u (am_u (am_u (am_u (am_u (m_lt (m_z I)) 110 65 (Int32.ofNat 0)) 110 66 (Int32.ofNat 0)) 110 69 (Int32.ofNat i)) 110 67 (Int32.ofNat 0)) 110 68 (Int32.ofNat 0)
theorem c_tried2 {k : Nat} {I : hI} {J : hJ} {R : hR} {N : Nat → Nat} (t : tok I N) {n i : Nat} (hN : n ≤ 200) (hi : i < N 2) (hk : 9 ≤ k) : ct k 278 [.ref 110, .int (Int32.ofNat 2), .int (Int32.ofNat i), .int (Int32.ofNat n)] I J R (some (.int (m_cS (m_pt (m_days N 1 n (m_tf2 I i, J)).1) 1 (N 2) (Int32.ofNat 2)))) (m_pt (m_days N 1 n (m_tf2 I i, J)).1) ((m_days N 1 n (m_tf2 I i, J)).2) R := by
  obtain ⟨k, rfl⟩ : ∃ k', k = k' + 1 := ⟨k - 1, by omega⟩
  have hn := t.1.2.1
  have h13 := t.2.1.2.1
  have hn2 := t.1.2.2.1
  have h14 := t.2.1.2.2.1
  have t1 : tok (m_tf2 I i) N := tok_u (by omega) (by omega) (tok_u (by omega) (by omega) (tok_u (by omega) (by omega) (tok_u (by omega) (by omega) (tok_u (by omega) (by omega) (tok_lt (tok_z t))))))
  have s1 : sb (m_tf2 I i) := sb_u (by omega) (sb_u (by omega) (sb_u (by omega) (sb_u (by omega) (sb_u (by omega) (sb_lt _)))))
  have t2 : tok (m_pt (m_days N 1 n (m_tf2 I i, J)).1) N := tok_pt (tok_F (simF_days N 1 n (m_tf2 I i, J)) t1)
  refine ct_of (q := am_m278) (L := [_, _, _, _]) rfl rfl rfl rfl rfl rfl ?_
  refine w_aload_n rfl rfl rfl ?_
  refine w_iconst (x := Int32.ofNat 0) rfl rfl (by decide) ?_
  refine w_pf rfl rfl rfl sp110 rfl rfl rfl ?_
  refine w_iload_n rfl rfl rfl ?_
  refine w_iconst (x := Int32.ofNat 0) rfl rfl (by decide) ?_
  refine w_iconst (x := Int32.ofNat 4) rfl rfl (by decide) ?_
  refine w_cs (q := am_m168) (na := 3) (as := [_, _, _]) (st' := [_]) rfl rfl rfl rfl (by decide) rfl rfl (Nat.le_of_ble_eq_true rfl) rfl rfl rfl (c_isIn (by omega)) rfl rfl ?_
  refine w_if_eqB (t := 45) (f := 14) rfl rfl rfl (fun c11 => absurd c11 (inok (Nat.zero_le _) (by decide) (by decide))) (fun c11 => ?_)
  refine w_iload_n rfl rfl rfl ?_
  refine w_iconst (x := Int32.ofNat 0) rfl rfl (by decide) ?_
  refine w_sipush (x := Int32.ofNat 200) rfl rfl (by decide) ?_
  refine w_cs (q := am_m168) (na := 3) (as := [_, _, _]) (st' := [_]) rfl rfl rfl rfl (by decide) rfl rfl (Nat.le_of_ble_eq_true rfl) rfl rfl rfl (c_isIn (by omega)) rfl rfl ?_
  refine w_if_eqB (t := 45) (f := 25) rfl rfl rfl (fun c22 => absurd c22 (inok (Nat.zero_le _) hN (by decide))) (fun c22 => ?_)
  refine w_iload_n rfl rfl rfl ?_
  refine w_iconst (x := Int32.ofNat 2) rfl rfl (by decide) ?_
  refine w_ic_neN (t := 41) (f := 30) rfl rfl rfl (by omega) (by omega) (fun c27 => absurd c27 (by omega)) (fun c27 => ?_)
  refine w_aload_n rfl rfl rfl ?_
  refine w_iload_n rfl rfl rfl ?_
  refine w_cv (q := am_m216) (as := [_]) (rest := []) (st' := [_]) rfl rfl rfl rfl rfl rfl sp110 rfl rfl rfl rfl (c_isShip (by omega)) rfl rfl ?_
  refine w_if_neB (t := 47) (f := 38) rfl rfl rfl (fun c35 => ?_) (fun c35 => absurd c35 (isok hi (by omega) ((am_u_nk (by decide)).trans h14)))
  refine w_aload_n rfl rfl rfl ?_
  refine w_cv (q := am_m213) (as := []) (rest := []) (st' := []) rfl rfl rfl rfl rfl rfl sp110 rfl rfl rfl rfl (c_layTried (by omega)) rfl rfl ?_
  refine w_aload_n rfl rfl rfl ?_
  refine w_iload_n rfl rfl rfl ?_
  refine w_if_ne (t := 60) (f := 56) rfl rfl rfl (fun c53 => ?_) (fun c53 => absurd c53 (by decide))
  refine w_iconst (x := Int32.ofNat 0) rfl rfl (by decide) ?_
  refine w_pf rfl rfl rfl sp110 rfl rfl rfl ?_
  refine w_aload_n rfl rfl rfl ?_
  refine w_iload_n rfl rfl rfl ?_
  refine w_iconst (x := Int32.ofNat 1) rfl rfl (by decide) ?_
  refine w_ic_neN (t := 74) (f := 70) rfl rfl rfl (by omega) (by omega) (fun c67 => ?_) (fun c67 => absurd c67 (by omega))
  refine w_iconst (x := Int32.ofNat 0) rfl rfl (by decide) ?_
  refine w_pf rfl rfl rfl sp110 rfl rfl rfl ?_
  refine w_aload_n rfl rfl rfl ?_
  refine w_iload_n rfl rfl rfl ?_
  refine w_iconst (x := Int32.ofNat 2) rfl rfl (by decide) ?_
  refine w_ic_neN (t := 88) (f := 84) rfl rfl rfl (by omega) (by omega) (fun c81 => absurd c81 (by omega)) (fun c81 => ?_)
  refine w_iload_n rfl rfl rfl ?_
  refine w_goto (pc' := 89) rfl rfl ?_
  refine w_pf rfl rfl rfl sp110 rfl rfl rfl ?_
  refine w_aload_n rfl rfl rfl ?_
  refine w_iload_n rfl rfl rfl ?_
  refine w_iconst (x := Int32.ofNat 3) rfl rfl (by decide) ?_
  refine w_ic_neN (t := 102) (f := 98) rfl rfl rfl (by omega) (by omega) (fun c95 => ?_) (fun c95 => absurd c95 (by omega))
  refine w_iconst (x := Int32.ofNat 0) rfl rfl (by decide) ?_
  refine w_pf rfl rfl rfl sp110 rfl rfl rfl ?_
  refine w_aload_n rfl rfl rfl ?_
  refine w_iload_n rfl rfl rfl ?_
  refine w_iconst (x := Int32.ofNat 4) rfl rfl (by decide) ?_
  refine w_ic_neN (t := 116) (f := 112) rfl rfl rfl (by omega) (by omega) (fun c109 => ?_) (fun c109 => absurd c109 (by omega))
  refine w_iconst (x := Int32.ofNat 0) rfl rfl (by decide) ?_
  refine w_pf rfl rfl rfl sp110 rfl rfl rfl ?_
  refine w_aload_n rfl rfl rfl ?_
  refine w_iload_n rfl rfl rfl ?_
  refine w_cv (q := am_m232) (as := [_]) (rest := []) (st' := []) rfl rfl rfl rfl rfl rfl sp110 rfl rfl rfl rfl (c_goMany (by omega) t1 s1 (by omega)) rfl rfl ?_
  refine w_aload_n rfl rfl rfl ?_
  refine w_cv (q := am_m212) (as := []) (rest := []) (st' := []) rfl rfl rfl rfl rfl rfl sp110 rfl rfl rfl rfl (c_plainTried (by omega)) rfl rfl ?_
  refine w_aload_n rfl rfl rfl ?_
  refine w_iconst (x := Int32.ofNat 1) rfl rfl (by decide) ?_
  refine w_iconst (x := Int32.ofNat 2) rfl rfl (by decide) ?_
  refine w_cv (q := am_m234) (as := [_, _]) (rest := []) (st' := [_]) rfl rfl rfl rfl rfl rfl sp110 rfl rfl rfl rfl (c_areShips (b := 1) (by decide) hn2 t2.2.1.2.2.1 (by omega)) rfl rfl ?_
  exact w_iret rfl rfl rfl rfl rfl
def m_tf3 (I : hI) : hI := am_u (am_u (am_u (am_u (am_u (m_lt (m_z I)) 110 65 (Int32.ofNat 0)) 110 66 (Int32.ofNat 0)) 110 69 (Int32.ofInt (-1))) 110 67 (Int32.ofNat 1)) 110 68 (Int32.ofNat 0)
theorem c_tried3 {k : Nat} {I : hI} {J : hJ} {R : hR} {N : Nat → Nat} (t : tok I N) {n : Nat} (hN : n ≤ 200) (hk : 9 ≤ k) : ct k 278 [.ref 110, .int (Int32.ofNat 3), .int (Int32.ofNat 0), .int (Int32.ofNat n)] I J R (some (.int (m_cS (m_pt (m_days N 1 n (m_tf3 I, J)).1) 1 (N 2) (Int32.ofNat 2)))) (m_pt (m_days N 1 n (m_tf3 I, J)).1) ((m_days N 1 n (m_tf3 I, J)).2) R := by
  obtain ⟨k, rfl⟩ : ∃ k', k = k' + 1 := ⟨k - 1, by omega⟩
  have hn := t.1.2.1
  have h13 := t.2.1.2.1
  have hn2 := t.1.2.2.1
  have h14 := t.2.1.2.2.1
  have t1 : tok (m_tf3 I) N := tok_u (by omega) (by omega) (tok_u (by omega) (by omega) (tok_u (by omega) (by omega) (tok_u (by omega) (by omega) (tok_u (by omega) (by omega) (tok_lt (tok_z t))))))
  have s1 : sb (m_tf3 I) := sb_u (by omega) (sb_u (by omega) (sb_u (by omega) (sb_u (by omega) (sb_u (by omega) (sb_lt _)))))
  have t2 : tok (m_pt (m_days N 1 n (m_tf3 I, J)).1) N := tok_pt (tok_F (simF_days N 1 n (m_tf3 I, J)) t1)
  refine ct_of (q := am_m278) (L := [_, _, _, _]) rfl rfl rfl rfl rfl rfl ?_
  refine w_aload_n rfl rfl rfl ?_
  refine w_iconst (x := Int32.ofNat 0) rfl rfl (by decide) ?_
  refine w_pf rfl rfl rfl sp110 rfl rfl rfl ?_
  refine w_iload_n rfl rfl rfl ?_
  refine w_iconst (x := Int32.ofNat 0) rfl rfl (by decide) ?_
  refine w_iconst (x := Int32.ofNat 4) rfl rfl (by decide) ?_
  refine w_cs (q := am_m168) (na := 3) (as := [_, _, _]) (st' := [_]) rfl rfl rfl rfl (by decide) rfl rfl (Nat.le_of_ble_eq_true rfl) rfl rfl rfl (c_isIn (by omega)) rfl rfl ?_
  refine w_if_eqB (t := 45) (f := 14) rfl rfl rfl (fun c11 => absurd c11 (inok (Nat.zero_le _) (by decide) (by decide))) (fun c11 => ?_)
  refine w_iload_n rfl rfl rfl ?_
  refine w_iconst (x := Int32.ofNat 0) rfl rfl (by decide) ?_
  refine w_sipush (x := Int32.ofNat 200) rfl rfl (by decide) ?_
  refine w_cs (q := am_m168) (na := 3) (as := [_, _, _]) (st' := [_]) rfl rfl rfl rfl (by decide) rfl rfl (Nat.le_of_ble_eq_true rfl) rfl rfl rfl (c_isIn (by omega)) rfl rfl ?_
  refine w_if_eqB (t := 45) (f := 25) rfl rfl rfl (fun c22 => absurd c22 (inok (Nat.zero_le _) hN (by decide))) (fun c22 => ?_)
  refine w_iload_n rfl rfl rfl ?_
  refine w_iconst (x := Int32.ofNat 2) rfl rfl (by decide) ?_
  refine w_ic_neN (t := 41) (f := 30) rfl rfl rfl (by omega) (by omega) (fun c27 => ?_) (fun c27 => absurd c27 (by omega))
  refine w_iload_n rfl rfl rfl ?_
  refine w_if_eq (t := 47) (f := 45) rfl rfl rfl (fun c42 => ?_) (fun c42 => absurd c42 (by decide))
  refine w_aload_n rfl rfl rfl ?_
  refine w_cv (q := am_m213) (as := []) (rest := []) (st' := []) rfl rfl rfl rfl rfl rfl sp110 rfl rfl rfl rfl (c_layTried (by omega)) rfl rfl ?_
  refine w_aload_n rfl rfl rfl ?_
  refine w_iload_n rfl rfl rfl ?_
  refine w_if_ne (t := 60) (f := 56) rfl rfl rfl (fun c53 => ?_) (fun c53 => absurd c53 (by decide))
  refine w_iconst (x := Int32.ofNat 0) rfl rfl (by decide) ?_
  refine w_pf rfl rfl rfl sp110 rfl rfl rfl ?_
  refine w_aload_n rfl rfl rfl ?_
  refine w_iload_n rfl rfl rfl ?_
  refine w_iconst (x := Int32.ofNat 1) rfl rfl (by decide) ?_
  refine w_ic_neN (t := 74) (f := 70) rfl rfl rfl (by omega) (by omega) (fun c67 => ?_) (fun c67 => absurd c67 (by omega))
  refine w_iconst (x := Int32.ofNat 0) rfl rfl (by decide) ?_
  refine w_pf rfl rfl rfl sp110 rfl rfl rfl ?_
  refine w_aload_n rfl rfl rfl ?_
  refine w_iload_n rfl rfl rfl ?_
  refine w_iconst (x := Int32.ofNat 2) rfl rfl (by decide) ?_
  refine w_ic_neN (t := 88) (f := 84) rfl rfl rfl (by omega) (by omega) (fun c81 => ?_) (fun c81 => absurd c81 (by omega))
  refine w_iconst (x := Int32.ofInt (-1)) rfl rfl (by decide) ?_
  refine w_pf rfl rfl rfl sp110 rfl rfl rfl ?_
  refine w_aload_n rfl rfl rfl ?_
  refine w_iload_n rfl rfl rfl ?_
  refine w_iconst (x := Int32.ofNat 3) rfl rfl (by decide) ?_
  refine w_ic_neN (t := 102) (f := 98) rfl rfl rfl (by omega) (by omega) (fun c95 => absurd c95 (by omega)) (fun c95 => ?_)
  refine w_iconst (x := Int32.ofNat 1) rfl rfl (by decide) ?_
  refine w_goto (pc' := 103) rfl rfl ?_
  refine w_pf rfl rfl rfl sp110 rfl rfl rfl ?_
  refine w_aload_n rfl rfl rfl ?_
  refine w_iload_n rfl rfl rfl ?_
  refine w_iconst (x := Int32.ofNat 4) rfl rfl (by decide) ?_
  refine w_ic_neN (t := 116) (f := 112) rfl rfl rfl (by omega) (by omega) (fun c109 => ?_) (fun c109 => absurd c109 (by omega))
  refine w_iconst (x := Int32.ofNat 0) rfl rfl (by decide) ?_
  refine w_pf rfl rfl rfl sp110 rfl rfl rfl ?_
  refine w_aload_n rfl rfl rfl ?_
  refine w_iload_n rfl rfl rfl ?_
  refine w_cv (q := am_m232) (as := [_]) (rest := []) (st' := []) rfl rfl rfl rfl rfl rfl sp110 rfl rfl rfl rfl (c_goMany (by omega) t1 s1 (by omega)) rfl rfl ?_
  refine w_aload_n rfl rfl rfl ?_
  refine w_cv (q := am_m212) (as := []) (rest := []) (st' := []) rfl rfl rfl rfl rfl rfl sp110 rfl rfl rfl rfl (c_plainTried (by omega)) rfl rfl ?_
  refine w_aload_n rfl rfl rfl ?_
  refine w_iconst (x := Int32.ofNat 1) rfl rfl (by decide) ?_
  refine w_iconst (x := Int32.ofNat 2) rfl rfl (by decide) ?_
  refine w_cv (q := am_m234) (as := [_, _]) (rest := []) (st' := [_]) rfl rfl rfl rfl rfl rfl sp110 rfl rfl rfl rfl (c_areShips (b := 1) (by decide) hn2 t2.2.1.2.2.1 (by omega)) rfl rfl ?_
  exact w_iret rfl rfl rfl rfl rfl
def m_tf4 (I : hI) : hI := am_u (am_u (am_u (am_u (am_u (m_lt (m_z I)) 110 65 (Int32.ofNat 0)) 110 66 (Int32.ofNat 0)) 110 69 (Int32.ofInt (-1))) 110 67 (Int32.ofNat 0)) 110 68 (Int32.ofNat 1)
theorem c_tried4 {k : Nat} {I : hI} {J : hJ} {R : hR} {N : Nat → Nat} (t : tok I N) {n : Nat} (hN : n ≤ 200) (hk : 9 ≤ k) : ct k 278 [.ref 110, .int (Int32.ofNat 4), .int (Int32.ofNat 0), .int (Int32.ofNat n)] I J R (some (.int (m_cS (m_pt (m_days N 1 n (m_tf4 I, J)).1) 1 (N 2) (Int32.ofNat 2)))) (m_pt (m_days N 1 n (m_tf4 I, J)).1) ((m_days N 1 n (m_tf4 I, J)).2) R := by
  obtain ⟨k, rfl⟩ : ∃ k', k = k' + 1 := ⟨k - 1, by omega⟩
  have hn := t.1.2.1
  have h13 := t.2.1.2.1
  have hn2 := t.1.2.2.1
  have h14 := t.2.1.2.2.1
  have t1 : tok (m_tf4 I) N := tok_u (by omega) (by omega) (tok_u (by omega) (by omega) (tok_u (by omega) (by omega) (tok_u (by omega) (by omega) (tok_u (by omega) (by omega) (tok_lt (tok_z t))))))
  have s1 : sb (m_tf4 I) := sb_u (by omega) (sb_u (by omega) (sb_u (by omega) (sb_u (by omega) (sb_u (by omega) (sb_lt _)))))
  have t2 : tok (m_pt (m_days N 1 n (m_tf4 I, J)).1) N := tok_pt (tok_F (simF_days N 1 n (m_tf4 I, J)) t1)
  refine ct_of (q := am_m278) (L := [_, _, _, _]) rfl rfl rfl rfl rfl rfl ?_
  refine w_aload_n rfl rfl rfl ?_
  refine w_iconst (x := Int32.ofNat 0) rfl rfl (by decide) ?_
  refine w_pf rfl rfl rfl sp110 rfl rfl rfl ?_
  refine w_iload_n rfl rfl rfl ?_
  refine w_iconst (x := Int32.ofNat 0) rfl rfl (by decide) ?_
  refine w_iconst (x := Int32.ofNat 4) rfl rfl (by decide) ?_
  refine w_cs (q := am_m168) (na := 3) (as := [_, _, _]) (st' := [_]) rfl rfl rfl rfl (by decide) rfl rfl (Nat.le_of_ble_eq_true rfl) rfl rfl rfl (c_isIn (by omega)) rfl rfl ?_
  refine w_if_eqB (t := 45) (f := 14) rfl rfl rfl (fun c11 => absurd c11 (inok (Nat.zero_le _) (by decide) (by decide))) (fun c11 => ?_)
  refine w_iload_n rfl rfl rfl ?_
  refine w_iconst (x := Int32.ofNat 0) rfl rfl (by decide) ?_
  refine w_sipush (x := Int32.ofNat 200) rfl rfl (by decide) ?_
  refine w_cs (q := am_m168) (na := 3) (as := [_, _, _]) (st' := [_]) rfl rfl rfl rfl (by decide) rfl rfl (Nat.le_of_ble_eq_true rfl) rfl rfl rfl (c_isIn (by omega)) rfl rfl ?_
  refine w_if_eqB (t := 45) (f := 25) rfl rfl rfl (fun c22 => absurd c22 (inok (Nat.zero_le _) hN (by decide))) (fun c22 => ?_)
  refine w_iload_n rfl rfl rfl ?_
  refine w_iconst (x := Int32.ofNat 2) rfl rfl (by decide) ?_
  refine w_ic_neN (t := 41) (f := 30) rfl rfl rfl (by omega) (by omega) (fun c27 => ?_) (fun c27 => absurd c27 (by omega))
  refine w_iload_n rfl rfl rfl ?_
  refine w_if_eq (t := 47) (f := 45) rfl rfl rfl (fun c42 => ?_) (fun c42 => absurd c42 (by decide))
  refine w_aload_n rfl rfl rfl ?_
  refine w_cv (q := am_m213) (as := []) (rest := []) (st' := []) rfl rfl rfl rfl rfl rfl sp110 rfl rfl rfl rfl (c_layTried (by omega)) rfl rfl ?_
  refine w_aload_n rfl rfl rfl ?_
  refine w_iload_n rfl rfl rfl ?_
  refine w_if_ne (t := 60) (f := 56) rfl rfl rfl (fun c53 => ?_) (fun c53 => absurd c53 (by decide))
  refine w_iconst (x := Int32.ofNat 0) rfl rfl (by decide) ?_
  refine w_pf rfl rfl rfl sp110 rfl rfl rfl ?_
  refine w_aload_n rfl rfl rfl ?_
  refine w_iload_n rfl rfl rfl ?_
  refine w_iconst (x := Int32.ofNat 1) rfl rfl (by decide) ?_
  refine w_ic_neN (t := 74) (f := 70) rfl rfl rfl (by omega) (by omega) (fun c67 => ?_) (fun c67 => absurd c67 (by omega))
  refine w_iconst (x := Int32.ofNat 0) rfl rfl (by decide) ?_
  refine w_pf rfl rfl rfl sp110 rfl rfl rfl ?_
  refine w_aload_n rfl rfl rfl ?_
  refine w_iload_n rfl rfl rfl ?_
  refine w_iconst (x := Int32.ofNat 2) rfl rfl (by decide) ?_
  refine w_ic_neN (t := 88) (f := 84) rfl rfl rfl (by omega) (by omega) (fun c81 => ?_) (fun c81 => absurd c81 (by omega))
  refine w_iconst (x := Int32.ofInt (-1)) rfl rfl (by decide) ?_
  refine w_pf rfl rfl rfl sp110 rfl rfl rfl ?_
  refine w_aload_n rfl rfl rfl ?_
  refine w_iload_n rfl rfl rfl ?_
  refine w_iconst (x := Int32.ofNat 3) rfl rfl (by decide) ?_
  refine w_ic_neN (t := 102) (f := 98) rfl rfl rfl (by omega) (by omega) (fun c95 => ?_) (fun c95 => absurd c95 (by omega))
  refine w_iconst (x := Int32.ofNat 0) rfl rfl (by decide) ?_
  refine w_pf rfl rfl rfl sp110 rfl rfl rfl ?_
  refine w_aload_n rfl rfl rfl ?_
  refine w_iload_n rfl rfl rfl ?_
  refine w_iconst (x := Int32.ofNat 4) rfl rfl (by decide) ?_
  refine w_ic_neN (t := 116) (f := 112) rfl rfl rfl (by omega) (by omega) (fun c109 => absurd c109 (by omega)) (fun c109 => ?_)
  refine w_iconst (x := Int32.ofNat 1) rfl rfl (by decide) ?_
  refine w_goto (pc' := 117) rfl rfl ?_
  refine w_pf rfl rfl rfl sp110 rfl rfl rfl ?_
  refine w_aload_n rfl rfl rfl ?_
  refine w_iload_n rfl rfl rfl ?_
  refine w_cv (q := am_m232) (as := [_]) (rest := []) (st' := []) rfl rfl rfl rfl rfl rfl sp110 rfl rfl rfl rfl (c_goMany (by omega) t1 s1 (by omega)) rfl rfl ?_
  refine w_aload_n rfl rfl rfl ?_
  refine w_cv (q := am_m212) (as := []) (rest := []) (st' := []) rfl rfl rfl rfl rfl rfl sp110 rfl rfl rfl rfl (c_plainTried (by omega)) rfl rfl ?_
  refine w_aload_n rfl rfl rfl ?_
  refine w_iconst (x := Int32.ofNat 1) rfl rfl (by decide) ?_
  refine w_iconst (x := Int32.ofNat 2) rfl rfl (by decide) ?_
  refine w_cv (q := am_m234) (as := [_, _]) (rest := []) (st' := [_]) rfl rfl rfl rfl rfl rfl sp110 rfl rfl rfl rfl (c_areShips (b := 1) (by decide) hn2 t2.2.1.2.2.1 (by omega)) rfl rfl ?_
  exact w_iret rfl rfl rfl rfl rfl
theorem c_tried_no {k : Nat} {I : hI} {J : hJ} {R : hR} {x y z : Int32} (hx : ¬ ((¬ x < Int32.ofNat 0 ∧ ¬ Int32.ofNat 4 < x) ∧ (¬ z < Int32.ofNat 0 ∧ ¬ Int32.ofNat 200 < z) ∧ (x = Int32.ofNat 2 → ¬ y < 0 ∧ y < I 110 14) ∧ (¬ x = Int32.ofNat 2 → y = 0))) (hk : 2 ≤ k) : ct k 278 [.ref 110, .int x, .int y, .int z] I J R (some (.int (Int32.ofInt (-1)))) (m_z I) J R := by
  obtain ⟨k, rfl⟩ : ∃ k', k = k' + 1 := ⟨k - 1, by omega⟩
  refine ct_of (q := am_m278) (L := [_, _, _, _]) rfl rfl rfl rfl rfl rfl ?_
  refine w_aload_n rfl rfl rfl ?_
  refine w_iconst (x := Int32.ofNat 0) rfl rfl (by decide) ?_
  refine w_pf rfl rfl rfl sp110 rfl rfl rfl ?_
  refine w_iload_n rfl rfl rfl ?_
  refine w_iconst (x := Int32.ofNat 0) rfl rfl (by decide) ?_
  refine w_iconst (x := Int32.ofNat 4) rfl rfl (by decide) ?_
  refine w_cs (q := am_m168) (na := 3) (as := [_, _, _]) (st' := [_]) rfl rfl rfl rfl (by decide) rfl rfl (Nat.le_of_ble_eq_true rfl) rfl rfl rfl (c_isIn (by omega)) rfl rfl ?_
  refine w_if_eqB (t := 45) (f := 14) rfl rfl rfl (fun c11 => ?_) (fun c11 => ?_)
  · refine w_iconst (x := Int32.ofInt (-1)) rfl rfl (by decide) ?_
    exact w_iret rfl rfl rfl rfl rfl
  · refine w_iload_n rfl rfl rfl ?_
    refine w_iconst (x := Int32.ofNat 0) rfl rfl (by decide) ?_
    refine w_sipush (x := Int32.ofNat 200) rfl rfl (by decide) ?_
    refine w_cs (q := am_m168) (na := 3) (as := [_, _, _]) (st' := [_]) rfl rfl rfl rfl (by decide) rfl rfl (Nat.le_of_ble_eq_true rfl) rfl rfl rfl (c_isIn (by omega)) rfl rfl ?_
    refine w_if_eqB (t := 45) (f := 25) rfl rfl rfl (fun c22 => ?_) (fun c22 => ?_)
    · refine w_iconst (x := Int32.ofInt (-1)) rfl rfl (by decide) ?_
      exact w_iret rfl rfl rfl rfl rfl
    · refine w_iload_n rfl rfl rfl ?_
      refine w_iconst (x := Int32.ofNat 2) rfl rfl (by decide) ?_
      refine w_ic_ne (t := 41) (f := 30) rfl rfl rfl (fun c27 => ?_) (fun c27 => ?_)
      · refine w_iload_n rfl rfl rfl ?_
        refine w_if_eq (t := 47) (f := 45) rfl rfl rfl (fun c42 => ?_) (fun c42 => ?_)
        · exact (hx ⟨c11, c22, by first | exact ⟨fun _ => c35, fun z => absurd c27 z⟩ | exact ⟨fun z => absurd z c27, fun _ => c42⟩⟩).elim
        · refine w_iconst (x := Int32.ofInt (-1)) rfl rfl (by decide) ?_
          exact w_iret rfl rfl rfl rfl rfl
      · refine w_aload_n rfl rfl rfl ?_
        refine w_iload_n rfl rfl rfl ?_
        refine w_cv (q := am_m216) (as := [_]) (rest := []) (st' := [_]) rfl rfl rfl rfl rfl rfl sp110 rfl rfl rfl rfl (c_isShip (by omega)) rfl rfl ?_
        refine w_if_neB (t := 47) (f := 38) rfl rfl rfl (fun c35 => ?_) (fun c35 => ?_)
        · exact (hx ⟨c11, c22, by first | exact ⟨fun _ => c35, fun z => absurd c27 z⟩ | exact ⟨fun z => absurd z c27, fun _ => c42⟩⟩).elim
        · refine w_goto (pc' := 45) rfl rfl ?_
          refine w_iconst (x := Int32.ofInt (-1)) rfl rfl (by decide) ?_
          exact w_iret rfl rfl rfl rfl rfl
def m_chS (N : Nat → Nat) (n s : Nat) (q : Int32 × hI × hJ) : Int32 × hI × hJ := (q.1 + (if (m_days N 1 n (am_u (m_lt q.2.1) 110 64 (Int32.ofNat 1), q.2.2)).1 141 (5 + s) = Int32.ofNat 2 then Int32.ofNat 1 else Int32.ofNat 0), m_days N 1 n (am_u (m_lt q.2.1) 110 64 (Int32.ofNat 1), q.2.2))
def m_chL (N : Nat → Nat) (n s r : Nat) (q : Int32 × hI × hJ) : Int32 × hI × hJ := s_for (fun _ q => m_chS N n s q) r q
theorem m_chL_1 (N : Nat → Nat) (n s r : Nat) (q : Int32 × hI × hJ) : (m_chL N n s (r + 1) q).1 = (m_chL N n s r q).1 + (if (m_days N 1 n (am_u (m_lt (m_chL N n s r q).2.1) 110 64 (Int32.ofNat 1), (m_chL N n s r q).2.2)).1 141 (5 + s) = Int32.ofNat 2 then Int32.ofNat 1 else Int32.ofNat 0) := rfl
theorem tok_chL {N : Nat → Nat} {n s : Nat} (r : Nat) (q : Int32 × hI × hJ) (t : tok q.2.1 N) : tok (m_chL N n s r q).2.1 N := by
  induction r with
  | zero => exact t
  | succ r ih => exact tok_F (simF_days N 1 n (am_u (m_lt _) 110 64 (Int32.ofNat 1), _)) (tok_u (by omega) (by omega) (tok_lt ih))
def m_ch (N : Nat → Nat) (n s : Nat) (x : Int32) (I : hI) (J : hJ) : Int32 × hI × hJ := m_chL N n s 10 (Int32.ofNat 0, m_z I, am_u J 110 62 x.toInt64)
theorem l_chance {k : Nat} {R : hR} {q : Option Value × am_H} {N : Nat → Nat} {n s : Nat} {x : Int32} {h : Int64} {q0 : Int32 × hI × hJ} (hn : n ≤ 99) (hs : s < 5) (t : tok q0.2.1 N) (hk : 8 ≤ k) (Z : wz k 12 (some .int) am_c277 96 [.ref 110, .int x, .int (Int32.ofNat n), .int (Int32.ofNat s), .long h, am_un, .int ((m_chL N n s 10 q0).1), .int (Int32.ofNat 10)] [] ((m_chL N n s 10 q0).2.1) ((m_chL N n s 10 q0).2.2) R q) : ∀ (j r : Nat) , r + j = 10 → wz k 12 (some .int) am_c277 47 [.ref 110, .int x, .int (Int32.ofNat n), .int (Int32.ofNat s), .long h, am_un, .int ((m_chL N n s r q0).1), .int (Int32.ofNat r)] [] ((m_chL N n s r q0).2.1) ((m_chL N n s r q0).2.2) R q := by
  intro j
  induction j with
  | zero =>
    intro r e
    obtain rfl : 10 = r := by omega
    have t1 := tok_chL (n := n) (s := s) 10 q0 t
    refine w_iload rfl rfl rfl ?_
    refine w_bipush (x := Int32.ofNat 10) rfl rfl (by decide) ?_
    refine w_ic_geN (t := 96) (f := 54) rfl rfl rfl (by omega) (by omega) (fun c51 => ?_) (fun c51 => absurd c51 (by omega))
    exact Z
  | succ j ih =>
    intro r e
    have t1 := tok_chL (n := n) (s := s) r q0 t
    refine w_iload rfl rfl rfl ?_
    refine w_bipush (x := Int32.ofNat 10) rfl rfl (by decide) ?_
    refine w_ic_geN (t := 96) (f := 54) rfl rfl rfl (by omega) (by omega) (fun c51 => absurd c51 (by omega)) (fun c51 => ?_)
    refine w_aload_n rfl rfl rfl ?_
    refine w_cv (q := am_m213) (as := []) (rest := []) (st' := []) rfl rfl rfl rfl rfl rfl sp110 rfl rfl rfl rfl (c_layTried (by omega)) rfl rfl ?_
    refine w_aload_n rfl rfl rfl ?_
    refine w_iconst (x := Int32.ofNat 1) rfl rfl (by decide) ?_
    refine w_pf rfl rfl rfl sp110 rfl rfl rfl ?_
    refine w_aload_n rfl rfl rfl ?_
    refine w_iload_n rfl rfl rfl ?_
    refine w_cv (q := am_m232) (as := [_]) (rest := []) (st' := []) rfl rfl rfl rfl rfl rfl sp110 rfl rfl rfl rfl (c_goMany (by omega) (tok_u (by omega) (by omega) (tok_lt t1)) (sb_u (by omega) (sb_lt _)) (by omega)) rfl rfl ?_
    refine w_iload rfl rfl rfl ?_
    refine w_aload_n rfl rfl rfl ?_
    refine w_gf (t := .ref (141)) (v := .ref (141)) rfl rfl rfl sp110 rfl rfl rfl ?_
    refine w_iconst (x := Int32.ofNat 5) rfl rfl (by decide) ?_
    refine w_iload_n rfl rfl rfl ?_
    refine w_iaddN rfl rfl ?_
    refine w_iaload rfl rfl sp141 rfl ⟨by omega, by omega⟩ rfl ?_
    refine w_iconst (x := Int32.ofNat 2) rfl rfl (by decide) ?_
    refine w_ic_ne (t := 86) (f := 82) rfl rfl rfl (fun c79 => ?_) (fun c79 => ?_)
    · refine w_iconst (x := Int32.ofNat 0) rfl rfl (by decide) ?_
      refine w_iadd rfl rfl ?_
      refine w_istore (L' := [_, _, _, _, _, _, _, _]) rfl rfl rfl ?_
      refine w_iinc (L' := [_, _, _, _, _, _, _, _]) rfl rfl rfl (am_incN 1) rfl ?_
      refine w_goto (pc' := 47) rfl rfl ?_
      exact wz_L (ih (r + 1) (by omega)) (by rw [m_chL_1]; first | rw [if_pos c79] | rw [if_neg c79])
    · refine w_iconst (x := Int32.ofNat 1) rfl rfl (by decide) ?_
      refine w_goto (pc' := 87) rfl rfl ?_
      refine w_iadd rfl rfl ?_
      refine w_istore (L' := [_, _, _, _, _, _, _, _]) rfl rfl rfl ?_
      refine w_iinc (L' := [_, _, _, _, _, _, _, _]) rfl rfl rfl (am_incN 1) rfl ?_
      refine w_goto (pc' := 47) rfl rfl ?_
      exact wz_L (ih (r + 1) (by omega)) (by rw [m_chL_1]; first | rw [if_pos c79] | rw [if_neg c79])
theorem c_chance {k : Nat} {I : hI} {J : hJ} {R : hR} {N : Nat → Nat} (t : tok I N) {x : Int32} {n s : Nat} (hx : ¬ x < 0) (h1 : 1 ≤ n) (h2 : n ≤ 99) (hs : s < N 2) (hk : 9 ≤ k) : ct k 277 [.ref 110, .int x, .int (Int32.ofNat n), .int (Int32.ofNat s)] I J R (some (.int (m_ch N n s x I J).1)) (am_u (m_ch N n s x I J).2.1 110 64 (Int32.ofNat 0)) (am_u (m_ch N n s x I J).2.2 110 62 (J 110 62)) R := by
  obtain ⟨k, rfl⟩ : ∃ k', k = k' + 1 := ⟨k - 1, by omega⟩
  have hn := t.1.2.1
  have h13 := t.2.1.2.1
  have hn2 := t.1.2.2.1
  have h14 := t.2.1.2.2.1
  refine ct_of (q := am_m277) (L := [_, _, _, _, _, _, _, _]) rfl rfl rfl rfl rfl rfl ?_
  refine w_aload_n rfl rfl rfl ?_
  refine w_iconst (x := Int32.ofNat 0) rfl rfl (by decide) ?_
  refine w_pf rfl rfl rfl sp110 rfl rfl rfl ?_
  refine w_iload_n rfl rfl rfl ?_
  refine w_if_lt (t := 27) (f := 9) rfl rfl rfl (fun c6 => absurd c6 hx) (fun c6 => ?_)
  refine w_iload_n rfl rfl rfl ?_
  refine w_iconst (x := Int32.ofNat 1) rfl rfl (by decide) ?_
  refine w_bipush (x := Int32.ofNat 99) rfl rfl (by decide) ?_
  refine w_cs (q := am_m168) (na := 3) (as := [_, _, _]) (st' := [_]) rfl rfl rfl rfl (by decide) rfl rfl (Nat.le_of_ble_eq_true rfl) rfl rfl rfl (c_isIn (by omega)) rfl rfl ?_
  refine w_if_eqB (t := 27) (f := 19) rfl rfl rfl (fun c16 => absurd c16 (inok h1 h2 (by decide))) (fun c16 => ?_)
  refine w_aload_n rfl rfl rfl ?_
  refine w_iload_n rfl rfl rfl ?_
  refine w_cv (q := am_m216) (as := [_]) (rest := []) (st' := [_]) rfl rfl rfl rfl rfl rfl sp110 rfl rfl rfl rfl (c_isShip (by omega)) rfl rfl ?_
  refine w_if_neB (t := 29) (f := 27) rfl rfl rfl (fun c24 => ?_) (fun c24 => absurd c24 (isok hs (by omega) ((am_u_nk (by decide)).trans h14)))
  refine w_aload_n rfl rfl rfl ?_
  refine w_gf (t := .long 0) (v := .long _) rfl rfl rfl sp110 rfl (congrArg Value.long rfl) rfl ?_
  refine w_lstore (L' := [_, _, _, _, _, _, _, _]) rfl rfl rfl ?_
  refine w_aload_n rfl rfl rfl ?_
  refine w_iload_n rfl rfl rfl ?_
  refine w_i2l rfl rfl ?_
  refine w_pfL rfl rfl rfl sp110 rfl rfl rfl ?_
  refine w_iconst (x := Int32.ofNat 0) rfl rfl (by decide) ?_
  refine w_istore (L' := [_, _, _, _, _, _, _, _]) rfl rfl rfl ?_
  refine w_iconst (x := Int32.ofNat 0) rfl rfl (by decide) ?_
  refine w_istore (L' := [_, _, _, _, _, _, _, _]) rfl rfl rfl ?_
  refine l_chance (q0 := (Int32.ofNat 0, m_z I, am_u J 110 62 x.toInt64)) h2 (by omega) (tok_z t) (by omega) ?_ 10 0 (by omega)
  refine w_aload_n rfl rfl rfl ?_
  refine w_iconst (x := Int32.ofNat 0) rfl rfl (by decide) ?_
  refine w_pf rfl rfl rfl sp110 rfl rfl rfl ?_
  refine w_aload_n rfl rfl rfl ?_
  refine w_lload rfl rfl rfl ?_
  refine w_pfL rfl rfl rfl sp110 rfl rfl rfl ?_
  refine w_iload rfl rfl rfl ?_
  exact w_iret rfl rfl rfl rfl rfl
theorem c_chance_no {k : Nat} {I : hI} {J : hJ} {R : hR} {x y z : Int32} (hx : ¬ (¬ x < 0 ∧ (¬ y < Int32.ofNat 1 ∧ ¬ Int32.ofNat 99 < y) ∧ ¬ z < 0 ∧ z < I 110 14)) (hk : 2 ≤ k) : ct k 277 [.ref 110, .int x, .int y, .int z] I J R (some (.int (Int32.ofInt (-1)))) (m_z I) J R := by
  obtain ⟨k, rfl⟩ : ∃ k', k = k' + 1 := ⟨k - 1, by omega⟩
  refine ct_of (q := am_m277) (L := [_, _, _, _, _, _, _, _]) rfl rfl rfl rfl rfl rfl ?_
  refine w_aload_n rfl rfl rfl ?_
  refine w_iconst (x := Int32.ofNat 0) rfl rfl (by decide) ?_
  refine w_pf rfl rfl rfl sp110 rfl rfl rfl ?_
  refine w_iload_n rfl rfl rfl ?_
  refine w_if_lt (t := 27) (f := 9) rfl rfl rfl (fun c6 => ?_) (fun c6 => ?_)
  · refine w_iconst (x := Int32.ofInt (-1)) rfl rfl (by decide) ?_
    exact w_iret rfl rfl rfl rfl rfl
  · refine w_iload_n rfl rfl rfl ?_
    refine w_iconst (x := Int32.ofNat 1) rfl rfl (by decide) ?_
    refine w_bipush (x := Int32.ofNat 99) rfl rfl (by decide) ?_
    refine w_cs (q := am_m168) (na := 3) (as := [_, _, _]) (st' := [_]) rfl rfl rfl rfl (by decide) rfl rfl (Nat.le_of_ble_eq_true rfl) rfl rfl rfl (c_isIn (by omega)) rfl rfl ?_
    refine w_if_eqB (t := 27) (f := 19) rfl rfl rfl (fun c16 => ?_) (fun c16 => ?_)
    · refine w_iconst (x := Int32.ofInt (-1)) rfl rfl (by decide) ?_
      exact w_iret rfl rfl rfl rfl rfl
    · refine w_aload_n rfl rfl rfl ?_
      refine w_iload_n rfl rfl rfl ?_
      refine w_cv (q := am_m216) (as := [_]) (rest := []) (st' := [_]) rfl rfl rfl rfl rfl rfl sp110 rfl rfl rfl rfl (c_isShip (by omega)) rfl rfl ?_
      refine w_if_neB (t := 29) (f := 27) rfl rfl rfl (fun c24 => ?_) (fun c24 => ?_)
      · exact (hx ⟨c6, c16, c24⟩).elim
      · refine w_iconst (x := Int32.ofInt (-1)) rfl rfl (by decide) ?_
        exact w_iret rfl rfl rfl rfl rfl
