/-! The class: calls (three): counts, trials. -/
def k_ce (f : Nat → Int32) (v : Int32) (n : Nat) : Int32 := s_for (fun r a => if f r = v then a + Int32.ofInt 1 else a) n (Int32.ofNat 0)
theorem k_ce_s (f : Nat → Int32) (v : Int32) (n : Nat) : k_ce f v (n + 1) = if f n = v then k_ce f v n + Int32.ofInt 1 else k_ce f v n := rfl
def k_sm (f : Nat → Int32) (n : Nat) : Int32 := s_for (fun r a => a + f r) n (Int32.ofNat 0)
theorem k_sm_s (f : Nat → Int32) (n : Nat) : k_sm f (n + 1) = k_sm f n + f n := rfl
theorem l_ce8 {k : Nat} {I : hI} {J : hJ} {R : hR} {q : Option Value × am_H} {A n : Nat} (hA : am_shL[A]? = some (.inl (.int, false, 8))) (hn : n ≤ 8) {v : Int32} (Z : wz k 11 (some .int) am_c163 35 [.ref A, .int (Int32.ofNat n), .int v, .int (k_ce (I A) v n), .int (Int32.ofNat n)] [] I J R q) : ∀ (j r : Nat) , r + j = n → wz k 11 (some .int) am_c163 5 [.ref A, .int (Int32.ofNat n), .int v, .int (k_ce (I A) v r), .int (Int32.ofNat r)] [] I J R q := by
  intro j
  induction j with
  | zero =>
    intro r e
    obtain rfl : n = r := by omega
    refine w_iload rfl rfl rfl ?_
    refine w_iload_n rfl rfl rfl ?_
    refine w_ic_geN (t := 35) (f := 11) rfl rfl rfl (by omega) (by omega) (fun c8 => ?_) (fun c8 => absurd c8 (by omega))
    exact Z
  | succ j ih =>
    intro r e
    refine w_iload rfl rfl rfl ?_
    refine w_iload_n rfl rfl rfl ?_
    refine w_ic_geN (t := 35) (f := 11) rfl rfl rfl (by omega) (by omega) (fun c8 => absurd c8 (by omega)) (fun c8 => ?_)
    refine w_iload rfl rfl rfl ?_
    refine w_aload_n rfl rfl rfl ?_
    refine w_alen rfl rfl hA (by decide) ?_
    refine w_ic_geN (t := 35) (f := 18) rfl rfl rfl (by omega) (by omega) (fun c15 => absurd c15 (by omega)) (fun c15 => ?_)
    refine w_aload_n rfl rfl rfl ?_
    refine w_iload rfl rfl rfl ?_
    refine w_iaload rfl rfl hA rfl ⟨by omega, by omega⟩ rfl ?_
    refine w_iload_n rfl rfl rfl ?_
    refine w_ic_ne (t := 29) (f := 26) rfl rfl rfl (fun c23 => ?_) (fun c23 => ?_)
    · refine w_iinc (L' := [_, _, _, _, _]) rfl rfl rfl (am_incN 1) rfl ?_
      refine w_goto (pc' := 5) rfl rfl ?_
      (try (have e1 := k_ce_s (I A) v r; rw [if_pos c23] at e1; rw [← e1])); (try (have e1 := k_ce_s (I A) v r; rw [if_neg c23] at e1; rw [← e1])); exact ih (r + 1) (by omega)
    · refine w_iinc (L' := [_, _, _, _, _]) rfl rfl rfl rfl rfl ?_
      refine w_iinc (L' := [_, _, _, _, _]) rfl rfl rfl (am_incN 1) rfl ?_
      refine w_goto (pc' := 5) rfl rfl ?_
      (try (have e1 := k_ce_s (I A) v r; rw [if_pos c23] at e1; rw [← e1])); (try (have e1 := k_ce_s (I A) v r; rw [if_neg c23] at e1; rw [← e1])); exact ih (r + 1) (by omega)
theorem d_countEqual8 {k : Nat} {I : hI} {J : hJ} {R : hR} {A n : Nat} (hA : am_shL[A]? = some (.inl (.int, false, 8))) (hn : n ≤ 8) {v : Int32} (hk : 1 ≤ k) : ct k 163 [.ref A, .int (Int32.ofNat n), .int v] I J R (some (.int (k_ce (I A) v n))) I J R := by
  obtain ⟨k, rfl⟩ : ∃ k', k = k' + 1 := ⟨k - 1, by omega⟩
  refine ct_of (q := am_m163) (o := 11) (rt := (some .int)) (co := am_c163) (L := [_, _, _, _, _]) rfl rfl rfl rfl rfl rfl ?_
  refine w_iconst (x := Int32.ofNat 0) rfl rfl (by decide) ?_
  refine w_istore_n (L' := [_, _, _, _, _]) rfl rfl rfl ?_
  refine w_iconst (x := Int32.ofNat 0) rfl rfl (by decide) ?_
  refine w_istore (L' := [_, _, _, _, _]) rfl rfl rfl ?_
  refine l_ce8 hA hn ?_ n 0 (by omega)
  refine w_iload_n rfl rfl rfl ?_
  exact w_iret rfl rfl rfl rfl rfl
theorem l_sm8 {k : Nat} {I : hI} {J : hJ} {R : hR} {q : Option Value × am_H} {A n : Nat} (hA : am_shL[A]? = some (.inl (.int, false, 8))) (hn : n ≤ 8) (Z : wz k 11 (some .int) am_c164 27 [.ref A, .int (Int32.ofNat n), .int (k_sm (I A) n), .int (Int32.ofNat n)] [] I J R q) : ∀ (j r : Nat) , r + j = n → wz k 11 (some .int) am_c164 4 [.ref A, .int (Int32.ofNat n), .int (k_sm (I A) r), .int (Int32.ofNat r)] [] I J R q := by
  intro j
  induction j with
  | zero =>
    intro r e
    obtain rfl : n = r := by omega
    refine w_iload_n rfl rfl rfl ?_
    refine w_iload_n rfl rfl rfl ?_
    refine w_ic_geN (t := 27) (f := 9) rfl rfl rfl (by omega) (by omega) (fun c6 => ?_) (fun c6 => absurd c6 (by omega))
    exact Z
  | succ j ih =>
    intro r e
    refine w_iload_n rfl rfl rfl ?_
    refine w_iload_n rfl rfl rfl ?_
    refine w_ic_geN (t := 27) (f := 9) rfl rfl rfl (by omega) (by omega) (fun c6 => absurd c6 (by omega)) (fun c6 => ?_)
    refine w_iload_n rfl rfl rfl ?_
    refine w_aload_n rfl rfl rfl ?_
    refine w_alen rfl rfl hA (by decide) ?_
    refine w_ic_geN (t := 27) (f := 15) rfl rfl rfl (by omega) (by omega) (fun c12 => absurd c12 (by omega)) (fun c12 => ?_)
    refine w_iload_n rfl rfl rfl ?_
    refine w_aload_n rfl rfl rfl ?_
    refine w_iload_n rfl rfl rfl ?_
    refine w_iaload rfl rfl hA rfl ⟨by omega, by omega⟩ rfl ?_
    refine w_iadd rfl rfl ?_
    refine w_istore_n (L' := [_, _, _, _]) rfl rfl rfl ?_
    refine w_iinc (L' := [_, _, _, _]) rfl rfl rfl (am_incN 1) rfl ?_
    refine w_goto (pc' := 4) rfl rfl ?_
    exact ih (r + 1) (by omega)
theorem d_sum8 {k : Nat} {I : hI} {J : hJ} {R : hR} {A n : Nat} (hA : am_shL[A]? = some (.inl (.int, false, 8))) (hn : n ≤ 8) (hk : 1 ≤ k) : ct k 164 [.ref A, .int (Int32.ofNat n)] I J R (some (.int (k_sm (I A) n))) I J R := by
  obtain ⟨k, rfl⟩ : ∃ k', k = k' + 1 := ⟨k - 1, by omega⟩
  refine ct_of (q := am_m164) (o := 11) (rt := (some .int)) (co := am_c164) (L := [_, _, _, _]) rfl rfl rfl rfl rfl rfl ?_
  refine w_iconst (x := Int32.ofNat 0) rfl rfl (by decide) ?_
  refine w_istore_n (L' := [_, _, _, _]) rfl rfl rfl ?_
  refine w_iconst (x := Int32.ofNat 0) rfl rfl (by decide) ?_
  refine w_istore_n (L' := [_, _, _, _]) rfl rfl rfl ?_
  refine l_sm8 hA hn ?_ n 0 (by omega)
  refine w_iload_n rfl rfl rfl ?_
  exact w_iret rfl rfl rfl rfl rfl
theorem l_ce5 {k : Nat} {I : hI} {J : hJ} {R : hR} {q : Option Value × am_H} {A n : Nat} (hA : am_shL[A]? = some (.inl (.int, false, 5))) (hn : n ≤ 5) {v : Int32} (Z : wz k 11 (some .int) am_c163 35 [.ref A, .int (Int32.ofNat n), .int v, .int (k_ce (I A) v n), .int (Int32.ofNat n)] [] I J R q) : ∀ (j r : Nat) , r + j = n → wz k 11 (some .int) am_c163 5 [.ref A, .int (Int32.ofNat n), .int v, .int (k_ce (I A) v r), .int (Int32.ofNat r)] [] I J R q := by
  intro j
  induction j with
  | zero =>
    intro r e
    obtain rfl : n = r := by omega
    refine w_iload rfl rfl rfl ?_
    refine w_iload_n rfl rfl rfl ?_
    refine w_ic_geN (t := 35) (f := 11) rfl rfl rfl (by omega) (by omega) (fun c8 => ?_) (fun c8 => absurd c8 (by omega))
    exact Z
  | succ j ih =>
    intro r e
    refine w_iload rfl rfl rfl ?_
    refine w_iload_n rfl rfl rfl ?_
    refine w_ic_geN (t := 35) (f := 11) rfl rfl rfl (by omega) (by omega) (fun c8 => absurd c8 (by omega)) (fun c8 => ?_)
    refine w_iload rfl rfl rfl ?_
    refine w_aload_n rfl rfl rfl ?_
    refine w_alen rfl rfl hA (by decide) ?_
    refine w_ic_geN (t := 35) (f := 18) rfl rfl rfl (by omega) (by omega) (fun c15 => absurd c15 (by omega)) (fun c15 => ?_)
    refine w_aload_n rfl rfl rfl ?_
    refine w_iload rfl rfl rfl ?_
    refine w_iaload rfl rfl hA rfl ⟨by omega, by omega⟩ rfl ?_
    refine w_iload_n rfl rfl rfl ?_
    refine w_ic_ne (t := 29) (f := 26) rfl rfl rfl (fun c23 => ?_) (fun c23 => ?_)
    · refine w_iinc (L' := [_, _, _, _, _]) rfl rfl rfl (am_incN 1) rfl ?_
      refine w_goto (pc' := 5) rfl rfl ?_
      (try (have e1 := k_ce_s (I A) v r; rw [if_pos c23] at e1; rw [← e1])); (try (have e1 := k_ce_s (I A) v r; rw [if_neg c23] at e1; rw [← e1])); exact ih (r + 1) (by omega)
    · refine w_iinc (L' := [_, _, _, _, _]) rfl rfl rfl rfl rfl ?_
      refine w_iinc (L' := [_, _, _, _, _]) rfl rfl rfl (am_incN 1) rfl ?_
      refine w_goto (pc' := 5) rfl rfl ?_
      (try (have e1 := k_ce_s (I A) v r; rw [if_pos c23] at e1; rw [← e1])); (try (have e1 := k_ce_s (I A) v r; rw [if_neg c23] at e1; rw [← e1])); exact ih (r + 1) (by omega)
theorem d_countEqual5 {k : Nat} {I : hI} {J : hJ} {R : hR} {A n : Nat} (hA : am_shL[A]? = some (.inl (.int, false, 5))) (hn : n ≤ 5) {v : Int32} (hk : 1 ≤ k) : ct k 163 [.ref A, .int (Int32.ofNat n), .int v] I J R (some (.int (k_ce (I A) v n))) I J R := by
  obtain ⟨k, rfl⟩ : ∃ k', k = k' + 1 := ⟨k - 1, by omega⟩
  refine ct_of (q := am_m163) (o := 11) (rt := (some .int)) (co := am_c163) (L := [_, _, _, _, _]) rfl rfl rfl rfl rfl rfl ?_
  refine w_iconst (x := Int32.ofNat 0) rfl rfl (by decide) ?_
  refine w_istore_n (L' := [_, _, _, _, _]) rfl rfl rfl ?_
  refine w_iconst (x := Int32.ofNat 0) rfl rfl (by decide) ?_
  refine w_istore (L' := [_, _, _, _, _]) rfl rfl rfl ?_
  refine l_ce5 hA hn ?_ n 0 (by omega)
  refine w_iload_n rfl rfl rfl ?_
  exact w_iret rfl rfl rfl rfl rfl
theorem l_sm5 {k : Nat} {I : hI} {J : hJ} {R : hR} {q : Option Value × am_H} {A n : Nat} (hA : am_shL[A]? = some (.inl (.int, false, 5))) (hn : n ≤ 5) (Z : wz k 11 (some .int) am_c164 27 [.ref A, .int (Int32.ofNat n), .int (k_sm (I A) n), .int (Int32.ofNat n)] [] I J R q) : ∀ (j r : Nat) , r + j = n → wz k 11 (some .int) am_c164 4 [.ref A, .int (Int32.ofNat n), .int (k_sm (I A) r), .int (Int32.ofNat r)] [] I J R q := by
  intro j
  induction j with
  | zero =>
    intro r e
    obtain rfl : n = r := by omega
    refine w_iload_n rfl rfl rfl ?_
    refine w_iload_n rfl rfl rfl ?_
    refine w_ic_geN (t := 27) (f := 9) rfl rfl rfl (by omega) (by omega) (fun c6 => ?_) (fun c6 => absurd c6 (by omega))
    exact Z
  | succ j ih =>
    intro r e
    refine w_iload_n rfl rfl rfl ?_
    refine w_iload_n rfl rfl rfl ?_
    refine w_ic_geN (t := 27) (f := 9) rfl rfl rfl (by omega) (by omega) (fun c6 => absurd c6 (by omega)) (fun c6 => ?_)
    refine w_iload_n rfl rfl rfl ?_
    refine w_aload_n rfl rfl rfl ?_
    refine w_alen rfl rfl hA (by decide) ?_
    refine w_ic_geN (t := 27) (f := 15) rfl rfl rfl (by omega) (by omega) (fun c12 => absurd c12 (by omega)) (fun c12 => ?_)
    refine w_iload_n rfl rfl rfl ?_
    refine w_aload_n rfl rfl rfl ?_
    refine w_iload_n rfl rfl rfl ?_
    refine w_iaload rfl rfl hA rfl ⟨by omega, by omega⟩ rfl ?_
    refine w_iadd rfl rfl ?_
    refine w_istore_n (L' := [_, _, _, _]) rfl rfl rfl ?_
    refine w_iinc (L' := [_, _, _, _]) rfl rfl rfl (am_incN 1) rfl ?_
    refine w_goto (pc' := 4) rfl rfl ?_
    exact ih (r + 1) (by omega)
theorem d_sum5 {k : Nat} {I : hI} {J : hJ} {R : hR} {A n : Nat} (hA : am_shL[A]? = some (.inl (.int, false, 5))) (hn : n ≤ 5) (hk : 1 ≤ k) : ct k 164 [.ref A, .int (Int32.ofNat n)] I J R (some (.int (k_sm (I A) n))) I J R := by
  obtain ⟨k, rfl⟩ : ∃ k', k = k' + 1 := ⟨k - 1, by omega⟩
  refine ct_of (q := am_m164) (o := 11) (rt := (some .int)) (co := am_c164) (L := [_, _, _, _]) rfl rfl rfl rfl rfl rfl ?_
  refine w_iconst (x := Int32.ofNat 0) rfl rfl (by decide) ?_
  refine w_istore_n (L' := [_, _, _, _]) rfl rfl rfl ?_
  refine w_iconst (x := Int32.ofNat 0) rfl rfl (by decide) ?_
  refine w_istore_n (L' := [_, _, _, _]) rfl rfl rfl ?_
  refine l_sm5 hA hn ?_ n 0 (by omega)
  refine w_iload_n rfl rfl rfl ?_
  exact w_iret rfl rfl rfl rfl rfl
def k_cst (I : hI) (N : Nat → Nat) (w : Int32) : Int32 := if w = Int32.ofNat 6 then k_ce (I 64) (Int32.ofNat 1) (N 1) else if w = Int32.ofNat 7 then k_ce (I 64) (Int32.ofNat 2) (N 1) else if w = Int32.ofNat 8 then k_ce (I 64) (Int32.ofNat 3) (N 1) else if w = Int32.ofNat 9 then k_ce (I 67) (Int32.ofNat 1) (N 2) else if w = Int32.ofNat 10 then k_ce (I 67) (Int32.ofNat 2) (N 2) else if w = Int32.ofNat 11 then k_sm (I 69) (N 2) else if w = Int32.ofNat 13 then k_sm (I 65) (N 1) else Int32.ofInt (-1)
def k_cnt (I : hI) (T : Nat) (N : Nat → Nat) (w : Int32) : Int32 := if w = Int32.ofNat 0 then I (T + 1) 1 else if w = Int32.ofNat 1 then I (T + 5) 1 else if w = Int32.ofNat 2 then I (T + 11) 1 else if w = Int32.ofNat 3 then I T 11 else if w = Int32.ofNat 4 then Int32.ofNat (N 4 + N 5 + N 6) else if w = Int32.ofNat 5 then I 63 0 else if w = Int32.ofNat 12 then I 63 2 else if w = Int32.ofNat 14 then I 88 0 else if w = Int32.ofNat 15 then k_kn I else if w = Int32.ofNat 16 then I 96 0 else k_cst I N w
theorem d_countState {k : Nat} {I : hI} {J : hJ} {R : hR} {T : Nat} (hT : T = 9 ∨ T = 36) (h0 : R 0 3 = T) {N : Nat → Nat} (t : ctk I T N) {w : Int32} (hk : 2 ≤ k) : ct k 159 [.ref 0, .int w] I J R (some (.int (k_cst I N w))) I J R := by
  obtain ⟨k, rfl⟩ : ∃ k', k = k' + 1 := ⟨k - 1, by omega⟩
  obtain ⟨⟨l1, l2, l3⟩, ⟨e5, e11, e3⟩, rM, tH, sM, ⟨e18, l18⟩, ⟨e21, l21⟩, ⟨e24, l24⟩⟩ := id t
  refine ct_of (q := am_m159) (o := 11) (rt := (some .int)) (co := am_c159) (L := [_, _]) rfl rfl rfl rfl rfl rfl ?_
  refine w_iload_n rfl rfl rfl ?_
  refine w_ts (lo := 6) (hi := 13) (d := 200) rfl rfl (by decide) (fun sw => ?_) (fun n h1 h2 sw => ?_)
  · refine w_iconst (x := Int32.ofInt (-1)) rfl rfl (by decide) ?_
    exact w_iret rfl (by unfold k_cst; first | (simp +decide only [sw, ite_true, ite_false]) | (simp only [sw 6 (by decide) (by decide), sw 7 (by decide) (by decide), sw 8 (by decide) (by decide), sw 9 (by decide) (by decide), sw 10 (by decide) (by decide), sw 11 (by decide) (by decide), sw 12 (by decide) (by decide), sw 13 (by decide) (by decide), ite_false])) rfl rfl rfl
  · have h3 : n = 6 ∨ n = 7 ∨ n = 8 ∨ n = 9 ∨ n = 10 ∨ n = 11 ∨ n = 12 ∨ n = 13 := by omega
    rcases h3 with rfl | rfl | rfl | rfl | rfl | rfl | rfl | rfl
    · refine ⟨48, rfl, ?_⟩
      refine w_aload_n rfl rfl rfl ?_
      refine w_gf (t := .ref (63)) (v := .ref (63)) rfl rfl rfl sp0 rfl rfl rfl ?_
      refine w_gf (t := .ref (64)) (v := .ref (64)) rfl rfl rfl sp63 rfl rfl rfl ?_
      refine w_aload_n rfl rfl rfl ?_
      refine w_gf (t := .retAddr 0) (v := .ref (T)) rfl rfl rfl sp0 rfl (congrArg Value.ref (by first | exact h0 | exact (am_u_na (by decide)).trans h0)) rfl ?_
      refine w_gf (t := .ref (T + 5)) (v := .ref (T + 5)) rfl rfl rfl (shT_0 hT) rfl rfl rfl ?_
      refine w_gf (t := .int 0) (v := .int _) rfl rfl rfl (shT_5 hT) rfl (congrArg Value.int e5) rfl ?_
      refine w_iconst (x := Int32.ofNat 1) rfl rfl (by decide) ?_
      refine w_cs (q := am_m163) (na := 3) (as := [_, _, _]) (st' := [_]) rfl rfl rfl rfl (by decide) rfl rfl (Nat.le_of_ble_eq_true rfl) rfl rfl rfl (d_countEqual8 sp64 l1 (by omega)) rfl rfl ?_
      exact w_iret rfl (by unfold k_cst; first | (simp +decide only [sw, ite_true, ite_false]) | (simp only [sw 6 (by decide) (by decide), sw 7 (by decide) (by decide), sw 8 (by decide) (by decide), sw 9 (by decide) (by decide), sw 10 (by decide) (by decide), sw 11 (by decide) (by decide), sw 12 (by decide) (by decide), sw 13 (by decide) (by decide), ite_false])) rfl rfl rfl
    · refine ⟨70, rfl, ?_⟩
      refine w_aload_n rfl rfl rfl ?_
      refine w_gf (t := .ref (63)) (v := .ref (63)) rfl rfl rfl sp0 rfl rfl rfl ?_
      refine w_gf (t := .ref (64)) (v := .ref (64)) rfl rfl rfl sp63 rfl rfl rfl ?_
      refine w_aload_n rfl rfl rfl ?_
      refine w_gf (t := .retAddr 0) (v := .ref (T)) rfl rfl rfl sp0 rfl (congrArg Value.ref (by first | exact h0 | exact (am_u_na (by decide)).trans h0)) rfl ?_
      refine w_gf (t := .ref (T + 5)) (v := .ref (T + 5)) rfl rfl rfl (shT_0 hT) rfl rfl rfl ?_
      refine w_gf (t := .int 0) (v := .int _) rfl rfl rfl (shT_5 hT) rfl (congrArg Value.int e5) rfl ?_
      refine w_iconst (x := Int32.ofNat 2) rfl rfl (by decide) ?_
      refine w_cs (q := am_m163) (na := 3) (as := [_, _, _]) (st' := [_]) rfl rfl rfl rfl (by decide) rfl rfl (Nat.le_of_ble_eq_true rfl) rfl rfl rfl (d_countEqual8 sp64 l1 (by omega)) rfl rfl ?_
      exact w_iret rfl (by unfold k_cst; first | (simp +decide only [sw, ite_true, ite_false]) | (simp only [sw 6 (by decide) (by decide), sw 7 (by decide) (by decide), sw 8 (by decide) (by decide), sw 9 (by decide) (by decide), sw 10 (by decide) (by decide), sw 11 (by decide) (by decide), sw 12 (by decide) (by decide), sw 13 (by decide) (by decide), ite_false])) rfl rfl rfl
    · refine ⟨92, rfl, ?_⟩
      refine w_aload_n rfl rfl rfl ?_
      refine w_gf (t := .ref (63)) (v := .ref (63)) rfl rfl rfl sp0 rfl rfl rfl ?_
      refine w_gf (t := .ref (64)) (v := .ref (64)) rfl rfl rfl sp63 rfl rfl rfl ?_
      refine w_aload_n rfl rfl rfl ?_
      refine w_gf (t := .retAddr 0) (v := .ref (T)) rfl rfl rfl sp0 rfl (congrArg Value.ref (by first | exact h0 | exact (am_u_na (by decide)).trans h0)) rfl ?_
      refine w_gf (t := .ref (T + 5)) (v := .ref (T + 5)) rfl rfl rfl (shT_0 hT) rfl rfl rfl ?_
      refine w_gf (t := .int 0) (v := .int _) rfl rfl rfl (shT_5 hT) rfl (congrArg Value.int e5) rfl ?_
      refine w_iconst (x := Int32.ofNat 3) rfl rfl (by decide) ?_
      refine w_cs (q := am_m163) (na := 3) (as := [_, _, _]) (st' := [_]) rfl rfl rfl rfl (by decide) rfl rfl (Nat.le_of_ble_eq_true rfl) rfl rfl rfl (d_countEqual8 sp64 l1 (by omega)) rfl rfl ?_
      exact w_iret rfl (by unfold k_cst; first | (simp +decide only [sw, ite_true, ite_false]) | (simp only [sw 6 (by decide) (by decide), sw 7 (by decide) (by decide), sw 8 (by decide) (by decide), sw 9 (by decide) (by decide), sw 10 (by decide) (by decide), sw 11 (by decide) (by decide), sw 12 (by decide) (by decide), sw 13 (by decide) (by decide), ite_false])) rfl rfl rfl
    · refine ⟨114, rfl, ?_⟩
      refine w_aload_n rfl rfl rfl ?_
      refine w_gf (t := .ref (63)) (v := .ref (63)) rfl rfl rfl sp0 rfl rfl rfl ?_
      refine w_gf (t := .ref (67)) (v := .ref (67)) rfl rfl rfl sp63 rfl rfl rfl ?_
      refine w_aload_n rfl rfl rfl ?_
      refine w_gf (t := .retAddr 0) (v := .ref (T)) rfl rfl rfl sp0 rfl (congrArg Value.ref (by first | exact h0 | exact (am_u_na (by decide)).trans h0)) rfl ?_
      refine w_gf (t := .ref (T + 11)) (v := .ref (T + 11)) rfl rfl rfl (shT_0 hT) rfl rfl rfl ?_
      refine w_gf (t := .int 0) (v := .int _) rfl rfl rfl (shT_11 hT) rfl (congrArg Value.int e11) rfl ?_
      refine w_iconst (x := Int32.ofNat 1) rfl rfl (by decide) ?_
      refine w_cs (q := am_m163) (na := 3) (as := [_, _, _]) (st' := [_]) rfl rfl rfl rfl (by decide) rfl rfl (Nat.le_of_ble_eq_true rfl) rfl rfl rfl (d_countEqual5 sp67 l2 (by omega)) rfl rfl ?_
      exact w_iret rfl (by unfold k_cst; first | (simp +decide only [sw, ite_true, ite_false]) | (simp only [sw 6 (by decide) (by decide), sw 7 (by decide) (by decide), sw 8 (by decide) (by decide), sw 9 (by decide) (by decide), sw 10 (by decide) (by decide), sw 11 (by decide) (by decide), sw 12 (by decide) (by decide), sw 13 (by decide) (by decide), ite_false])) rfl rfl rfl
    · refine ⟨136, rfl, ?_⟩
      refine w_aload_n rfl rfl rfl ?_
      refine w_gf (t := .ref (63)) (v := .ref (63)) rfl rfl rfl sp0 rfl rfl rfl ?_
      refine w_gf (t := .ref (67)) (v := .ref (67)) rfl rfl rfl sp63 rfl rfl rfl ?_
      refine w_aload_n rfl rfl rfl ?_
      refine w_gf (t := .retAddr 0) (v := .ref (T)) rfl rfl rfl sp0 rfl (congrArg Value.ref (by first | exact h0 | exact (am_u_na (by decide)).trans h0)) rfl ?_
      refine w_gf (t := .ref (T + 11)) (v := .ref (T + 11)) rfl rfl rfl (shT_0 hT) rfl rfl rfl ?_
      refine w_gf (t := .int 0) (v := .int _) rfl rfl rfl (shT_11 hT) rfl (congrArg Value.int e11) rfl ?_
      refine w_iconst (x := Int32.ofNat 2) rfl rfl (by decide) ?_
      refine w_cs (q := am_m163) (na := 3) (as := [_, _, _]) (st' := [_]) rfl rfl rfl rfl (by decide) rfl rfl (Nat.le_of_ble_eq_true rfl) rfl rfl rfl (d_countEqual5 sp67 l2 (by omega)) rfl rfl ?_
      exact w_iret rfl (by unfold k_cst; first | (simp +decide only [sw, ite_true, ite_false]) | (simp only [sw 6 (by decide) (by decide), sw 7 (by decide) (by decide), sw 8 (by decide) (by decide), sw 9 (by decide) (by decide), sw 10 (by decide) (by decide), sw 11 (by decide) (by decide), sw 12 (by decide) (by decide), sw 13 (by decide) (by decide), ite_false])) rfl rfl rfl
    · refine ⟨158, rfl, ?_⟩
      refine w_aload_n rfl rfl rfl ?_
      refine w_gf (t := .ref (63)) (v := .ref (63)) rfl rfl rfl sp0 rfl rfl rfl ?_
      refine w_gf (t := .ref (69)) (v := .ref (69)) rfl rfl rfl sp63 rfl rfl rfl ?_
      refine w_aload_n rfl rfl rfl ?_
      refine w_gf (t := .retAddr 0) (v := .ref (T)) rfl rfl rfl sp0 rfl (congrArg Value.ref (by first | exact h0 | exact (am_u_na (by decide)).trans h0)) rfl ?_
      refine w_gf (t := .ref (T + 11)) (v := .ref (T + 11)) rfl rfl rfl (shT_0 hT) rfl rfl rfl ?_
      refine w_gf (t := .int 0) (v := .int _) rfl rfl rfl (shT_11 hT) rfl (congrArg Value.int e11) rfl ?_
      refine w_cs (q := am_m164) (na := 2) (as := [_, _]) (st' := [_]) rfl rfl rfl rfl (by decide) rfl rfl (Nat.le_of_ble_eq_true rfl) rfl rfl rfl (d_sum5 sp69 l2 (by omega)) rfl rfl ?_
      exact w_iret rfl (by unfold k_cst; first | (simp +decide only [sw, ite_true, ite_false]) | (simp only [sw 6 (by decide) (by decide), sw 7 (by decide) (by decide), sw 8 (by decide) (by decide), sw 9 (by decide) (by decide), sw 10 (by decide) (by decide), sw 11 (by decide) (by decide), sw 12 (by decide) (by decide), sw 13 (by decide) (by decide), ite_false])) rfl rfl rfl
    · refine ⟨200, rfl, ?_⟩
      refine w_iconst (x := Int32.ofInt (-1)) rfl rfl (by decide) ?_
      exact w_iret rfl (by unfold k_cst; first | (simp +decide only [sw, ite_true, ite_false]) | (simp only [sw 6 (by decide) (by decide), sw 7 (by decide) (by decide), sw 8 (by decide) (by decide), sw 9 (by decide) (by decide), sw 10 (by decide) (by decide), sw 11 (by decide) (by decide), sw 12 (by decide) (by decide), sw 13 (by decide) (by decide), ite_false])) rfl rfl rfl
    · refine ⟨179, rfl, ?_⟩
      refine w_aload_n rfl rfl rfl ?_
      refine w_gf (t := .ref (63)) (v := .ref (63)) rfl rfl rfl sp0 rfl rfl rfl ?_
      refine w_gf (t := .ref (65)) (v := .ref (65)) rfl rfl rfl sp63 rfl rfl rfl ?_
      refine w_aload_n rfl rfl rfl ?_
      refine w_gf (t := .retAddr 0) (v := .ref (T)) rfl rfl rfl sp0 rfl (congrArg Value.ref (by first | exact h0 | exact (am_u_na (by decide)).trans h0)) rfl ?_
      refine w_gf (t := .ref (T + 5)) (v := .ref (T + 5)) rfl rfl rfl (shT_0 hT) rfl rfl rfl ?_
      refine w_gf (t := .int 0) (v := .int _) rfl rfl rfl (shT_5 hT) rfl (congrArg Value.int e5) rfl ?_
      refine w_cs (q := am_m164) (na := 2) (as := [_, _]) (st' := [_]) rfl rfl rfl rfl (by decide) rfl rfl (Nat.le_of_ble_eq_true rfl) rfl rfl rfl (d_sum8 sp65 l1 (by omega)) rfl rfl ?_
      exact w_iret rfl (by unfold k_cst; first | (simp +decide only [sw, ite_true, ite_false]) | (simp only [sw 6 (by decide) (by decide), sw 7 (by decide) (by decide), sw 8 (by decide) (by decide), sw 9 (by decide) (by decide), sw 10 (by decide) (by decide), sw 11 (by decide) (by decide), sw 12 (by decide) (by decide), sw 13 (by decide) (by decide), ite_false])) rfl rfl rfl
theorem d_count {k : Nat} {I : hI} {J : hJ} {R : hR} {T : Nat} (hT : T = 9 ∨ T = 36) (h0 : R 0 3 = T) {N : Nat → Nat} (t : ctk I T N) {w : Int32} (hk : 3 ≤ k) : ct k 158 [.ref 0, .int w] I J R (some (.int (k_cnt I T N w))) I J R := by
  obtain ⟨k, rfl⟩ : ∃ k', k = k' + 1 := ⟨k - 1, by omega⟩
  obtain ⟨⟨l1, l2, l3⟩, ⟨e5, e11, e3⟩, rM, tH, sM, ⟨e18, l18⟩, ⟨e21, l21⟩, ⟨e24, l24⟩⟩ := id t
  refine ct_of (q := am_m158) (o := 11) (rt := (some .int)) (co := am_c158) (L := [_, _]) rfl rfl rfl rfl rfl rfl ?_
  refine w_iload_n rfl rfl rfl ?_
  refine w_ts (lo := 0) (hi := 16) (d := 173) rfl rfl (by decide) (fun sw => ?_) (fun n h1 h2 sw => ?_)
  · refine w_aload_n rfl rfl rfl ?_
    refine w_iload_n rfl rfl rfl ?_
    refine w_cv (q := am_m159) (as := [_]) (rest := []) (st' := [_]) rfl rfl rfl rfl rfl rfl sp0 rfl rfl rfl rfl (d_countState hT h0 t (by omega)) rfl rfl ?_
    exact w_iret rfl (by unfold k_cnt; first | (simp +decide only [sw, ite_true, ite_false]) | (simp only [sw 0 (by decide) (by decide), sw 1 (by decide) (by decide), sw 2 (by decide) (by decide), sw 3 (by decide) (by decide), sw 4 (by decide) (by decide), sw 5 (by decide) (by decide), sw 6 (by decide) (by decide), sw 7 (by decide) (by decide), sw 8 (by decide) (by decide), sw 9 (by decide) (by decide), sw 10 (by decide) (by decide), sw 11 (by decide) (by decide), sw 12 (by decide) (by decide), sw 13 (by decide) (by decide), sw 14 (by decide) (by decide), sw 15 (by decide) (by decide), sw 16 (by decide) (by decide), ite_false])) rfl rfl rfl
  · have h3 : n = 0 ∨ n = 1 ∨ n = 2 ∨ n = 3 ∨ n = 4 ∨ n = 5 ∨ n = 6 ∨ n = 7 ∨ n = 8 ∨ n = 9 ∨ n = 10 ∨ n = 11 ∨ n = 12 ∨ n = 13 ∨ n = 14 ∨ n = 15 ∨ n = 16 := by omega
    rcases h3 with rfl | rfl | rfl | rfl | rfl | rfl | rfl | rfl | rfl | rfl | rfl | rfl | rfl | rfl | rfl | rfl | rfl
    · refine ⟨84, rfl, ?_⟩
      refine w_aload_n rfl rfl rfl ?_
      refine w_gf (t := .retAddr 0) (v := .ref (T)) rfl rfl rfl sp0 rfl (congrArg Value.ref (by first | exact h0 | exact (am_u_na (by decide)).trans h0)) rfl ?_
      refine w_gf (t := .ref (T + 1)) (v := .ref (T + 1)) rfl rfl rfl (shT_0 hT) rfl rfl rfl ?_
      refine w_gf (t := .int 0) (v := .int _) rfl rfl rfl (shT_1 hT) rfl (congrArg Value.int rfl) rfl ?_
      exact w_iret rfl (by unfold k_cnt; first | (simp +decide only [sw, ite_true, ite_false]) | (simp only [sw 0 (by decide) (by decide), sw 1 (by decide) (by decide), sw 2 (by decide) (by decide), sw 3 (by decide) (by decide), sw 4 (by decide) (by decide), sw 5 (by decide) (by decide), sw 6 (by decide) (by decide), sw 7 (by decide) (by decide), sw 8 (by decide) (by decide), sw 9 (by decide) (by decide), sw 10 (by decide) (by decide), sw 11 (by decide) (by decide), sw 12 (by decide) (by decide), sw 13 (by decide) (by decide), sw 14 (by decide) (by decide), sw 15 (by decide) (by decide), sw 16 (by decide) (by decide), ite_false])) rfl rfl rfl
    · refine ⟨95, rfl, ?_⟩
      refine w_aload_n rfl rfl rfl ?_
      refine w_gf (t := .retAddr 0) (v := .ref (T)) rfl rfl rfl sp0 rfl (congrArg Value.ref (by first | exact h0 | exact (am_u_na (by decide)).trans h0)) rfl ?_
      refine w_gf (t := .ref (T + 5)) (v := .ref (T + 5)) rfl rfl rfl (shT_0 hT) rfl rfl rfl ?_
      refine w_gf (t := .int 0) (v := .int _) rfl rfl rfl (shT_5 hT) rfl (congrArg Value.int rfl) rfl ?_
      exact w_iret rfl (by unfold k_cnt; first | (simp +decide only [sw, ite_true, ite_false]) | (simp only [sw 0 (by decide) (by decide), sw 1 (by decide) (by decide), sw 2 (by decide) (by decide), sw 3 (by decide) (by decide), sw 4 (by decide) (by decide), sw 5 (by decide) (by decide), sw 6 (by decide) (by decide), sw 7 (by decide) (by decide), sw 8 (by decide) (by decide), sw 9 (by decide) (by decide), sw 10 (by decide) (by decide), sw 11 (by decide) (by decide), sw 12 (by decide) (by decide), sw 13 (by decide) (by decide), sw 14 (by decide) (by decide), sw 15 (by decide) (by decide), sw 16 (by decide) (by decide), ite_false])) rfl rfl rfl
    · refine ⟨106, rfl, ?_⟩
      refine w_aload_n rfl rfl rfl ?_
      refine w_gf (t := .retAddr 0) (v := .ref (T)) rfl rfl rfl sp0 rfl (congrArg Value.ref (by first | exact h0 | exact (am_u_na (by decide)).trans h0)) rfl ?_
      refine w_gf (t := .ref (T + 11)) (v := .ref (T + 11)) rfl rfl rfl (shT_0 hT) rfl rfl rfl ?_
      refine w_gf (t := .int 0) (v := .int _) rfl rfl rfl (shT_11 hT) rfl (congrArg Value.int rfl) rfl ?_
      exact w_iret rfl (by unfold k_cnt; first | (simp +decide only [sw, ite_true, ite_false]) | (simp only [sw 0 (by decide) (by decide), sw 1 (by decide) (by decide), sw 2 (by decide) (by decide), sw 3 (by decide) (by decide), sw 4 (by decide) (by decide), sw 5 (by decide) (by decide), sw 6 (by decide) (by decide), sw 7 (by decide) (by decide), sw 8 (by decide) (by decide), sw 9 (by decide) (by decide), sw 10 (by decide) (by decide), sw 11 (by decide) (by decide), sw 12 (by decide) (by decide), sw 13 (by decide) (by decide), sw 14 (by decide) (by decide), sw 15 (by decide) (by decide), sw 16 (by decide) (by decide), ite_false])) rfl rfl rfl
    · refine ⟨117, rfl, ?_⟩
      refine w_aload_n rfl rfl rfl ?_
      refine w_gf (t := .retAddr 0) (v := .ref (T)) rfl rfl rfl sp0 rfl (congrArg Value.ref (by first | exact h0 | exact (am_u_na (by decide)).trans h0)) rfl ?_
      refine w_gf (t := .int 0) (v := .int _) rfl rfl rfl (shT_0 hT) rfl (congrArg Value.int rfl) rfl ?_
      exact w_iret rfl (by unfold k_cnt; first | (simp +decide only [sw, ite_true, ite_false]) | (simp only [sw 0 (by decide) (by decide), sw 1 (by decide) (by decide), sw 2 (by decide) (by decide), sw 3 (by decide) (by decide), sw 4 (by decide) (by decide), sw 5 (by decide) (by decide), sw 6 (by decide) (by decide), sw 7 (by decide) (by decide), sw 8 (by decide) (by decide), sw 9 (by decide) (by decide), sw 10 (by decide) (by decide), sw 11 (by decide) (by decide), sw 12 (by decide) (by decide), sw 13 (by decide) (by decide), sw 14 (by decide) (by decide), sw 15 (by decide) (by decide), sw 16 (by decide) (by decide), ite_false])) rfl rfl rfl
    · refine ⟨125, rfl, ?_⟩
      refine w_aload_n rfl rfl rfl ?_
      refine w_gf (t := .retAddr 0) (v := .ref (T)) rfl rfl rfl sp0 rfl (congrArg Value.ref (by first | exact h0 | exact (am_u_na (by decide)).trans h0)) rfl ?_
      refine w_cv (q := am_m104) (as := []) (rest := []) (st' := [_]) rfl rfl rfl rfl rfl rfl (shT_0 hT) rfl rfl rfl rfl (d_knots hT e18 e21 e24 (by omega)) rfl rfl ?_
      exact w_iret rfl (by unfold k_cnt; first | (simp +decide only [sw, ite_true, ite_false]) | (simp only [sw 0 (by decide) (by decide), sw 1 (by decide) (by decide), sw 2 (by decide) (by decide), sw 3 (by decide) (by decide), sw 4 (by decide) (by decide), sw 5 (by decide) (by decide), sw 6 (by decide) (by decide), sw 7 (by decide) (by decide), sw 8 (by decide) (by decide), sw 9 (by decide) (by decide), sw 10 (by decide) (by decide), sw 11 (by decide) (by decide), sw 12 (by decide) (by decide), sw 13 (by decide) (by decide), sw 14 (by decide) (by decide), sw 15 (by decide) (by decide), sw 16 (by decide) (by decide), ite_false])) rfl rfl rfl
    · refine ⟨133, rfl, ?_⟩
      refine w_aload_n rfl rfl rfl ?_
      refine w_gf (t := .ref (63)) (v := .ref (63)) rfl rfl rfl sp0 rfl rfl rfl ?_
      refine w_gf (t := .int 0) (v := .int _) rfl rfl rfl sp63 rfl (congrArg Value.int rfl) rfl ?_
      exact w_iret rfl (by unfold k_cnt; first | (simp +decide only [sw, ite_true, ite_false]) | (simp only [sw 0 (by decide) (by decide), sw 1 (by decide) (by decide), sw 2 (by decide) (by decide), sw 3 (by decide) (by decide), sw 4 (by decide) (by decide), sw 5 (by decide) (by decide), sw 6 (by decide) (by decide), sw 7 (by decide) (by decide), sw 8 (by decide) (by decide), sw 9 (by decide) (by decide), sw 10 (by decide) (by decide), sw 11 (by decide) (by decide), sw 12 (by decide) (by decide), sw 13 (by decide) (by decide), sw 14 (by decide) (by decide), sw 15 (by decide) (by decide), sw 16 (by decide) (by decide), ite_false])) rfl rfl rfl
    · refine ⟨173, rfl, ?_⟩
      refine w_aload_n rfl rfl rfl ?_
      refine w_iload_n rfl rfl rfl ?_
      refine w_cv (q := am_m159) (as := [_]) (rest := []) (st' := [_]) rfl rfl rfl rfl rfl rfl sp0 rfl rfl rfl rfl (d_countState hT h0 t (by omega)) rfl rfl ?_
      exact w_iret rfl (by unfold k_cnt; first | (simp +decide only [sw, ite_true, ite_false]) | (simp only [sw 0 (by decide) (by decide), sw 1 (by decide) (by decide), sw 2 (by decide) (by decide), sw 3 (by decide) (by decide), sw 4 (by decide) (by decide), sw 5 (by decide) (by decide), sw 6 (by decide) (by decide), sw 7 (by decide) (by decide), sw 8 (by decide) (by decide), sw 9 (by decide) (by decide), sw 10 (by decide) (by decide), sw 11 (by decide) (by decide), sw 12 (by decide) (by decide), sw 13 (by decide) (by decide), sw 14 (by decide) (by decide), sw 15 (by decide) (by decide), sw 16 (by decide) (by decide), ite_false])) rfl rfl rfl
    · refine ⟨173, rfl, ?_⟩
      refine w_aload_n rfl rfl rfl ?_
      refine w_iload_n rfl rfl rfl ?_
      refine w_cv (q := am_m159) (as := [_]) (rest := []) (st' := [_]) rfl rfl rfl rfl rfl rfl sp0 rfl rfl rfl rfl (d_countState hT h0 t (by omega)) rfl rfl ?_
      exact w_iret rfl (by unfold k_cnt; first | (simp +decide only [sw, ite_true, ite_false]) | (simp only [sw 0 (by decide) (by decide), sw 1 (by decide) (by decide), sw 2 (by decide) (by decide), sw 3 (by decide) (by decide), sw 4 (by decide) (by decide), sw 5 (by decide) (by decide), sw 6 (by decide) (by decide), sw 7 (by decide) (by decide), sw 8 (by decide) (by decide), sw 9 (by decide) (by decide), sw 10 (by decide) (by decide), sw 11 (by decide) (by decide), sw 12 (by decide) (by decide), sw 13 (by decide) (by decide), sw 14 (by decide) (by decide), sw 15 (by decide) (by decide), sw 16 (by decide) (by decide), ite_false])) rfl rfl rfl
    · refine ⟨173, rfl, ?_⟩
      refine w_aload_n rfl rfl rfl ?_
      refine w_iload_n rfl rfl rfl ?_
      refine w_cv (q := am_m159) (as := [_]) (rest := []) (st' := [_]) rfl rfl rfl rfl rfl rfl sp0 rfl rfl rfl rfl (d_countState hT h0 t (by omega)) rfl rfl ?_
      exact w_iret rfl (by unfold k_cnt; first | (simp +decide only [sw, ite_true, ite_false]) | (simp only [sw 0 (by decide) (by decide), sw 1 (by decide) (by decide), sw 2 (by decide) (by decide), sw 3 (by decide) (by decide), sw 4 (by decide) (by decide), sw 5 (by decide) (by decide), sw 6 (by decide) (by decide), sw 7 (by decide) (by decide), sw 8 (by decide) (by decide), sw 9 (by decide) (by decide), sw 10 (by decide) (by decide), sw 11 (by decide) (by decide), sw 12 (by decide) (by decide), sw 13 (by decide) (by decide), sw 14 (by decide) (by decide), sw 15 (by decide) (by decide), sw 16 (by decide) (by decide), ite_false])) rfl rfl rfl
    · refine ⟨173, rfl, ?_⟩
      refine w_aload_n rfl rfl rfl ?_
      refine w_iload_n rfl rfl rfl ?_
      refine w_cv (q := am_m159) (as := [_]) (rest := []) (st' := [_]) rfl rfl rfl rfl rfl rfl sp0 rfl rfl rfl rfl (d_countState hT h0 t (by omega)) rfl rfl ?_
      exact w_iret rfl (by unfold k_cnt; first | (simp +decide only [sw, ite_true, ite_false]) | (simp only [sw 0 (by decide) (by decide), sw 1 (by decide) (by decide), sw 2 (by decide) (by decide), sw 3 (by decide) (by decide), sw 4 (by decide) (by decide), sw 5 (by decide) (by decide), sw 6 (by decide) (by decide), sw 7 (by decide) (by decide), sw 8 (by decide) (by decide), sw 9 (by decide) (by decide), sw 10 (by decide) (by decide), sw 11 (by decide) (by decide), sw 12 (by decide) (by decide), sw 13 (by decide) (by decide), sw 14 (by decide) (by decide), sw 15 (by decide) (by decide), sw 16 (by decide) (by decide), ite_false])) rfl rfl rfl
    · refine ⟨173, rfl, ?_⟩
      refine w_aload_n rfl rfl rfl ?_
      refine w_iload_n rfl rfl rfl ?_
      refine w_cv (q := am_m159) (as := [_]) (rest := []) (st' := [_]) rfl rfl rfl rfl rfl rfl sp0 rfl rfl rfl rfl (d_countState hT h0 t (by omega)) rfl rfl ?_
      exact w_iret rfl (by unfold k_cnt; first | (simp +decide only [sw, ite_true, ite_false]) | (simp only [sw 0 (by decide) (by decide), sw 1 (by decide) (by decide), sw 2 (by decide) (by decide), sw 3 (by decide) (by decide), sw 4 (by decide) (by decide), sw 5 (by decide) (by decide), sw 6 (by decide) (by decide), sw 7 (by decide) (by decide), sw 8 (by decide) (by decide), sw 9 (by decide) (by decide), sw 10 (by decide) (by decide), sw 11 (by decide) (by decide), sw 12 (by decide) (by decide), sw 13 (by decide) (by decide), sw 14 (by decide) (by decide), sw 15 (by decide) (by decide), sw 16 (by decide) (by decide), ite_false])) rfl rfl rfl
    · refine ⟨173, rfl, ?_⟩
      refine w_aload_n rfl rfl rfl ?_
      refine w_iload_n rfl rfl rfl ?_
      refine w_cv (q := am_m159) (as := [_]) (rest := []) (st' := [_]) rfl rfl rfl rfl rfl rfl sp0 rfl rfl rfl rfl (d_countState hT h0 t (by omega)) rfl rfl ?_
      exact w_iret rfl (by unfold k_cnt; first | (simp +decide only [sw, ite_true, ite_false]) | (simp only [sw 0 (by decide) (by decide), sw 1 (by decide) (by decide), sw 2 (by decide) (by decide), sw 3 (by decide) (by decide), sw 4 (by decide) (by decide), sw 5 (by decide) (by decide), sw 6 (by decide) (by decide), sw 7 (by decide) (by decide), sw 8 (by decide) (by decide), sw 9 (by decide) (by decide), sw 10 (by decide) (by decide), sw 11 (by decide) (by decide), sw 12 (by decide) (by decide), sw 13 (by decide) (by decide), sw 14 (by decide) (by decide), sw 15 (by decide) (by decide), sw 16 (by decide) (by decide), ite_false])) rfl rfl rfl
    · refine ⟨141, rfl, ?_⟩
      refine w_aload_n rfl rfl rfl ?_
      refine w_gf (t := .ref (63)) (v := .ref (63)) rfl rfl rfl sp0 rfl rfl rfl ?_
      refine w_gf (t := .int 0) (v := .int _) rfl rfl rfl sp63 rfl (congrArg Value.int rfl) rfl ?_
      exact w_iret rfl (by unfold k_cnt; first | (simp +decide only [sw, ite_true, ite_false]) | (simp only [sw 0 (by decide) (by decide), sw 1 (by decide) (by decide), sw 2 (by decide) (by decide), sw 3 (by decide) (by decide), sw 4 (by decide) (by decide), sw 5 (by decide) (by decide), sw 6 (by decide) (by decide), sw 7 (by decide) (by decide), sw 8 (by decide) (by decide), sw 9 (by decide) (by decide), sw 10 (by decide) (by decide), sw 11 (by decide) (by decide), sw 12 (by decide) (by decide), sw 13 (by decide) (by decide), sw 14 (by decide) (by decide), sw 15 (by decide) (by decide), sw 16 (by decide) (by decide), ite_false])) rfl rfl rfl
    · refine ⟨173, rfl, ?_⟩
      refine w_aload_n rfl rfl rfl ?_
      refine w_iload_n rfl rfl rfl ?_
      refine w_cv (q := am_m159) (as := [_]) (rest := []) (st' := [_]) rfl rfl rfl rfl rfl rfl sp0 rfl rfl rfl rfl (d_countState hT h0 t (by omega)) rfl rfl ?_
      exact w_iret rfl (by unfold k_cnt; first | (simp +decide only [sw, ite_true, ite_false]) | (simp only [sw 0 (by decide) (by decide), sw 1 (by decide) (by decide), sw 2 (by decide) (by decide), sw 3 (by decide) (by decide), sw 4 (by decide) (by decide), sw 5 (by decide) (by decide), sw 6 (by decide) (by decide), sw 7 (by decide) (by decide), sw 8 (by decide) (by decide), sw 9 (by decide) (by decide), sw 10 (by decide) (by decide), sw 11 (by decide) (by decide), sw 12 (by decide) (by decide), sw 13 (by decide) (by decide), sw 14 (by decide) (by decide), sw 15 (by decide) (by decide), sw 16 (by decide) (by decide), ite_false])) rfl rfl rfl
    · refine ⟨149, rfl, ?_⟩
      refine w_aload_n rfl rfl rfl ?_
      refine w_gf (t := .ref (88)) (v := .ref (88)) rfl rfl rfl sp0 rfl rfl rfl ?_
      refine w_gf (t := .int 0) (v := .int _) rfl rfl rfl sp88 rfl (congrArg Value.int rfl) rfl ?_
      exact w_iret rfl (by unfold k_cnt; first | (simp +decide only [sw, ite_true, ite_false]) | (simp only [sw 0 (by decide) (by decide), sw 1 (by decide) (by decide), sw 2 (by decide) (by decide), sw 3 (by decide) (by decide), sw 4 (by decide) (by decide), sw 5 (by decide) (by decide), sw 6 (by decide) (by decide), sw 7 (by decide) (by decide), sw 8 (by decide) (by decide), sw 9 (by decide) (by decide), sw 10 (by decide) (by decide), sw 11 (by decide) (by decide), sw 12 (by decide) (by decide), sw 13 (by decide) (by decide), sw 14 (by decide) (by decide), sw 15 (by decide) (by decide), sw 16 (by decide) (by decide), ite_false])) rfl rfl rfl
    · refine ⟨157, rfl, ?_⟩
      refine w_aload_n rfl rfl rfl ?_
      refine w_gf (t := .ref (88)) (v := .ref (88)) rfl rfl rfl sp0 rfl rfl rfl ?_
      refine w_cv (q := am_m53) (as := []) (rest := []) (st' := [_]) rfl rfl rfl rfl rfl rfl sp88 rfl rfl rfl rfl (d_knownSize (by omega)) rfl rfl ?_
      exact w_iret rfl (by unfold k_cnt; first | (simp +decide only [sw, ite_true, ite_false]) | (simp only [sw 0 (by decide) (by decide), sw 1 (by decide) (by decide), sw 2 (by decide) (by decide), sw 3 (by decide) (by decide), sw 4 (by decide) (by decide), sw 5 (by decide) (by decide), sw 6 (by decide) (by decide), sw 7 (by decide) (by decide), sw 8 (by decide) (by decide), sw 9 (by decide) (by decide), sw 10 (by decide) (by decide), sw 11 (by decide) (by decide), sw 12 (by decide) (by decide), sw 13 (by decide) (by decide), sw 14 (by decide) (by decide), sw 15 (by decide) (by decide), sw 16 (by decide) (by decide), ite_false])) rfl rfl rfl
    · refine ⟨165, rfl, ?_⟩
      refine w_aload_n rfl rfl rfl ?_
      refine w_gf (t := .ref (96)) (v := .ref (96)) rfl rfl rfl sp0 rfl rfl rfl ?_
      refine w_gf (t := .int 0) (v := .int _) rfl rfl rfl sp96 rfl (congrArg Value.int rfl) rfl ?_
      exact w_iret rfl (by unfold k_cnt; first | (simp +decide only [sw, ite_true, ite_false]) | (simp only [sw 0 (by decide) (by decide), sw 1 (by decide) (by decide), sw 2 (by decide) (by decide), sw 3 (by decide) (by decide), sw 4 (by decide) (by decide), sw 5 (by decide) (by decide), sw 6 (by decide) (by decide), sw 7 (by decide) (by decide), sw 8 (by decide) (by decide), sw 9 (by decide) (by decide), sw 10 (by decide) (by decide), sw 11 (by decide) (by decide), sw 12 (by decide) (by decide), sw 13 (by decide) (by decide), sw 14 (by decide) (by decide), sw 15 (by decide) (by decide), sw 16 (by decide) (by decide), ite_false])) rfl rfl rfl
def k_stt (I : hI) (T : Nat) (x b : Int32) : hI := am_u (k_db (k_copy I 77 63) T b) 84 8 x
theorem cF_copy {I : hI} {S F : Nat} (hS : S = 63 ∨ S = 70 ∨ S = 77) : cF I (k_copy I S F) := by
  have h : ∀ {I : hI} {a0 sp j dp n : Nat}, j < 7 → cF I (am_cq I a0 sp (S + j) dp n) := fun {I a0 sp j dp n} hj => cF_cq (by omega)
  exact cF_tr (cF_tr (cF_tr (cF_tr (cF_tr (cF_tr (cF_tr (cF_u (by omega)) (cF_u (by omega))) (h (by omega))) (h (by omega))) (h (by omega))) (h (by omega))) (h (by omega))) (h (by omega))
theorem cF_stt {I : hI} {T : Nat} {x b : Int32} : cF I (k_stt I T x b) := cF_tr (cF_tr (cF_copy (Or.inr (Or.inr rfl))) cF_db) (cF_u (by omega))
theorem d_startTrial {k : Nat} {I : hI} {J : hJ} {R : hR} {T : Nat} (hT : T = 9 ∨ T = 36) (h0 : R 0 3 = T) {x b : Int32} (hk : 2 ≤ k) : ct k 124 [.ref 0, .int x, .int b] I J R none (k_stt I T x b) (am_u J 77 1 (J 63 1)) (am_u R 84 3 T) := by
  obtain ⟨k, rfl⟩ : ∃ k', k = k' + 1 := ⟨k - 1, by omega⟩
  refine ct_of (q := am_m124) (o := 11) (rt := none) (co := am_c124) (L := [_, _, _]) rfl rfl rfl rfl rfl rfl ?_
  refine w_aload_n rfl rfl rfl ?_
  refine w_gf (t := .ref (77)) (v := .ref (77)) rfl rfl rfl sp0 rfl rfl rfl ?_
  refine w_aload_n rfl rfl rfl ?_
  refine w_gf (t := .ref (63)) (v := .ref (63)) rfl rfl rfl sp0 rfl rfl rfl ?_
  refine w_cv (q := am_m65) (as := [_]) (rest := []) (st' := []) rfl rfl rfl rfl rfl rfl sp77 rfl rfl rfl rfl (d_copy (Or.inr (Or.inr rfl)) (Or.inl rfl) (by decide) (by omega)) rfl rfl ?_
  refine w_aload_n rfl rfl rfl ?_
  refine w_gf (t := .ref (84)) (v := .ref (84)) rfl rfl rfl sp0 rfl rfl rfl ?_
  refine w_aload_n rfl rfl rfl ?_
  refine w_gf (t := .retAddr 0) (v := .ref (T)) rfl rfl rfl sp0 rfl (congrArg Value.ref (by first | exact h0 | exact (am_u_na (by decide)).trans h0)) rfl ?_
  refine w_iload_n rfl rfl rfl ?_
  refine w_cv (q := am_m13) (as := [_, _]) (rest := []) (st' := []) rfl rfl rfl rfl rfl rfl sp84 rfl rfl rfl rfl (d_dbegin hT (by omega)) rfl rfl ?_
  refine w_aload_n rfl rfl rfl ?_
  refine w_gf (t := .ref (84)) (v := .ref (84)) rfl rfl rfl sp0 rfl rfl rfl ?_
  refine w_iload_n rfl rfl rfl ?_
  refine w_pf rfl rfl rfl sp84 rfl rfl rfl ?_
  exact w_ret rfl rfl rfl rfl
def k_ahP (I : hI) (J : hJ) (T : Nat) (N : Nat → Nat) (n : Nat) (x : Int32) : hI × hJ := k_days T 77 N n (k_stt I T x (Int32.ofNat 1), am_u J 77 1 (J 63 1))
def k_ah4 (I : hI) (N : Nat → Nat) (w : Nat) : Int32 := if w = 0 then k_ce (I 81) (Int32.ofNat 2) (N 2) else if w = 1 then k_sm (I 83) (N 2) - k_sm (I 69) (N 2) else if w = 2 then k_ce (I 78) (Int32.ofNat 2) (N 1) else I 77 2 - I 63 2
theorem d_ahead {k : Nat} {I : hI} {J : hJ} {R : hR} {T : Nat} (hT : T = 9 ∨ T = 36) (h0 : R 0 3 = T) {N : Nat → Nat} (t : ctk I T N) {n w : Nat} {y : Int32} (hn : n ≤ 200) (hw : w < 4) (hk : 8 ≤ k) : ct k 123 [.ref 0, .int (Int32.ofNat n), .int (Int32.ofNat w), .int y] I J R (some (.int (k_ah4 (k_ahP I J T N n (Int32.ofInt (-1))).1 N w))) ((k_ahP I J T N n (Int32.ofInt (-1))).1) ((k_ahP I J T N n (Int32.ofInt (-1))).2) (am_u R 84 3 T) := by
  obtain ⟨k, rfl⟩ : ∃ k', k = k' + 1 := ⟨k - 1, by omega⟩
  obtain ⟨⟨l1, l2, l3⟩, ⟨e5, e11, e3⟩, rM, tH, sM, ⟨e18, l18⟩, ⟨e21, l21⟩, ⟨e24, l24⟩⟩ := id t
  have t1 : ctk (k_stt I T (Int32.ofInt (-1)) (Int32.ofNat 1)) T N := ctk_F hT cF_stt t
  have t2 : ctk (k_ahP I J T N n (Int32.ofInt (-1))).1 T N := ctk_F hT (cF_days (Or.inr (Or.inr rfl))) t1
  obtain ⟨_, ⟨f5, f11, f3⟩, _⟩ := id t2
  refine ct_of (q := am_m123) (o := 11) (rt := (some .int)) (co := am_c123) (L := [_, _, _, _]) rfl rfl rfl rfl rfl rfl ?_
  refine w_iload_n rfl rfl rfl ?_
  refine w_if_lt (t := 33) (f := 4) rfl rfl rfl (fun c1 => absurd c1 (fun c => absurd ((am_ltN (y := 0) (by omega) (by omega)).mp c) (Nat.not_lt_zero n))) (fun c1 => ?_)
  refine w_iload_n rfl rfl rfl ?_
  refine w_sipush (x := Int32.ofNat 200) rfl rfl (by decide) ?_
  refine w_ic_gtN (t := 33) (f := 11) rfl rfl rfl (by omega) (by omega) (fun c8 => absurd c8 (by omega)) (fun c8 => ?_)
  refine w_iload_n rfl rfl rfl ?_
  refine w_if_lt (t := 33) (f := 15) rfl rfl rfl (fun c12 => absurd c12 (fun c => absurd ((am_ltN (y := 0) (by omega) (by omega)).mp c) (Nat.not_lt_zero w))) (fun c12 => ?_)
  refine w_iload_n rfl rfl rfl ?_
  refine w_iconst (x := Int32.ofNat 4) rfl rfl (by decide) ?_
  refine w_ic_gtN (t := 33) (f := 20) rfl rfl rfl (by omega) (by omega) (fun c17 => absurd c17 (by omega)) (fun c17 => ?_)
  refine w_iload_n rfl rfl rfl ?_
  refine w_iconst (x := Int32.ofNat 4) rfl rfl (by decide) ?_
  refine w_ic_neN (t := 35) (f := 25) rfl rfl rfl (by omega) (by omega) (fun c22 => ?_) (fun c22 => absurd c22 (by omega))
  refine w_aload_n rfl rfl rfl ?_
  refine w_iload_n rfl rfl rfl ?_
  refine w_iconst (x := Int32.ofNat 4) rfl rfl (by decide) ?_
  refine w_ic_neN (t := 45) (f := 41) rfl rfl rfl (by omega) (by omega) (fun c38 => ?_) (fun c38 => absurd c38 (by omega))
  refine w_iconst (x := Int32.ofInt (-1)) rfl rfl (by decide) ?_
  refine w_iconst (x := Int32.ofNat 1) rfl rfl (by decide) ?_
  refine w_cv (q := am_m124) (as := [_, _]) (rest := []) (st' := []) rfl rfl rfl rfl rfl rfl sp0 rfl rfl rfl rfl (d_startTrial hT h0 (by omega)) rfl rfl ?_
  refine w_aload_n rfl rfl rfl ?_
  refine w_gf (t := .ref (84)) (v := .ref (84)) rfl rfl rfl sp0 rfl rfl rfl ?_
  refine w_aload_n rfl rfl rfl ?_
  refine w_gf (t := .ref (77)) (v := .ref (77)) rfl rfl rfl sp0 rfl rfl rfl ?_
  refine w_iload_n rfl rfl rfl ?_
  refine w_cv (q := am_m14) (as := [_, _]) (rest := []) (st' := []) rfl rfl rfl rfl rfl rfl sp84 rfl rfl rfl rfl (d_passMany hT am_u_at (Or.inr (Or.inr rfl)) t1 (by omega) (by omega)) rfl rfl ?_
  refine w_iload_n rfl rfl rfl ?_
  refine w_ts (lo := 0) (hi := 3) (d := 194) rfl rfl (by decide) (fun sw => ?_) (fun n h1 h2 sw => ?_)
  · have h0 := sw 0 (by decide) (by decide)
    have h1 := sw 1 (by decide) (by decide)
    have h2 := sw 2 (by decide) (by decide)
    have h3 := sw 3 (by decide) (by decide)
    have : ¬ w = 0 := fun z => h0 (by rw [z])
    have : ¬ w = 1 := fun z => h1 (by rw [z])
    have : ¬ w = 2 := fun z => h2 (by rw [z])
    have : ¬ w = 3 := fun z => h3 (by rw [z])
    omega
  · have h3 : n = 0 ∨ n = 1 ∨ n = 2 ∨ n = 3 := by omega
    rcases h3 with rfl | rfl | rfl | rfl
    · refine ⟨92, rfl, ?_⟩
      refine w_aload_n rfl rfl rfl ?_
      refine w_gf (t := .ref (77)) (v := .ref (77)) rfl rfl rfl sp0 rfl rfl rfl ?_
      refine w_gf (t := .ref (81)) (v := .ref (81)) rfl rfl rfl sp77 rfl rfl rfl ?_
      refine w_aload_n rfl rfl rfl ?_
      refine w_gf (t := .retAddr 0) (v := .ref (T)) rfl rfl rfl sp0 rfl (congrArg Value.ref (by first | exact h0 | exact (am_u_na (by decide)).trans h0)) rfl ?_
      refine w_gf (t := .ref (T + 11)) (v := .ref (T + 11)) rfl rfl rfl (shT_0 hT) rfl rfl rfl ?_
      refine w_gf (t := .int 0) (v := .int _) rfl rfl rfl (shT_11 hT) rfl (congrArg Value.int f11) rfl ?_
      refine w_iconst (x := Int32.ofNat 2) rfl rfl (by decide) ?_
      refine w_cs (q := am_m163) (na := 3) (as := [_, _, _]) (st' := [_]) rfl rfl rfl rfl (by decide) rfl rfl (Nat.le_of_ble_eq_true rfl) rfl rfl rfl (d_countEqual5 sp81 l2 (by omega)) rfl rfl ?_
      exact w_iret rfl (by have e5 : w = 0 := am_swN (n := 0) sw (by omega) (by decide); subst e5; rfl) rfl rfl rfl
    · refine ⟨114, rfl, ?_⟩
      refine w_aload_n rfl rfl rfl ?_
      refine w_gf (t := .ref (77)) (v := .ref (77)) rfl rfl rfl sp0 rfl rfl rfl ?_
      refine w_gf (t := .ref (83)) (v := .ref (83)) rfl rfl rfl sp77 rfl rfl rfl ?_
      refine w_aload_n rfl rfl rfl ?_
      refine w_gf (t := .retAddr 0) (v := .ref (T)) rfl rfl rfl sp0 rfl (congrArg Value.ref (by first | exact h0 | exact (am_u_na (by decide)).trans h0)) rfl ?_
      refine w_gf (t := .ref (T + 11)) (v := .ref (T + 11)) rfl rfl rfl (shT_0 hT) rfl rfl rfl ?_
      refine w_gf (t := .int 0) (v := .int _) rfl rfl rfl (shT_11 hT) rfl (congrArg Value.int f11) rfl ?_
      refine w_cs (q := am_m164) (na := 2) (as := [_, _]) (st' := [_]) rfl rfl rfl rfl (by decide) rfl rfl (Nat.le_of_ble_eq_true rfl) rfl rfl rfl (d_sum5 sp83 l2 (by omega)) rfl rfl ?_
      refine w_aload_n rfl rfl rfl ?_
      refine w_gf (t := .ref (63)) (v := .ref (63)) rfl rfl rfl sp0 rfl rfl rfl ?_
      refine w_gf (t := .ref (69)) (v := .ref (69)) rfl rfl rfl sp63 rfl rfl rfl ?_
      refine w_aload_n rfl rfl rfl ?_
      refine w_gf (t := .retAddr 0) (v := .ref (T)) rfl rfl rfl sp0 rfl (congrArg Value.ref (by first | exact h0 | exact (am_u_na (by decide)).trans h0)) rfl ?_
      refine w_gf (t := .ref (T + 11)) (v := .ref (T + 11)) rfl rfl rfl (shT_0 hT) rfl rfl rfl ?_
      refine w_gf (t := .int 0) (v := .int _) rfl rfl rfl (shT_11 hT) rfl (congrArg Value.int f11) rfl ?_
      refine w_cs (q := am_m164) (na := 2) (as := [_, _]) (st' := [_, _]) rfl rfl rfl rfl (by decide) rfl rfl (Nat.le_of_ble_eq_true rfl) rfl rfl rfl (d_sum5 sp69 l2 (by omega)) rfl rfl ?_
      refine w_isub rfl rfl ?_
      exact w_iret rfl (by have e5 : w = 1 := am_swN (n := 0) sw (by omega) (by decide); subst e5; rfl) rfl rfl rfl
    · refine ⟨156, rfl, ?_⟩
      refine w_aload_n rfl rfl rfl ?_
      refine w_gf (t := .ref (77)) (v := .ref (77)) rfl rfl rfl sp0 rfl rfl rfl ?_
      refine w_gf (t := .ref (78)) (v := .ref (78)) rfl rfl rfl sp77 rfl rfl rfl ?_
      refine w_aload_n rfl rfl rfl ?_
      refine w_gf (t := .retAddr 0) (v := .ref (T)) rfl rfl rfl sp0 rfl (congrArg Value.ref (by first | exact h0 | exact (am_u_na (by decide)).trans h0)) rfl ?_
      refine w_gf (t := .ref (T + 5)) (v := .ref (T + 5)) rfl rfl rfl (shT_0 hT) rfl rfl rfl ?_
      refine w_gf (t := .int 0) (v := .int _) rfl rfl rfl (shT_5 hT) rfl (congrArg Value.int f5) rfl ?_
      refine w_iconst (x := Int32.ofNat 2) rfl rfl (by decide) ?_
      refine w_cs (q := am_m163) (na := 3) (as := [_, _, _]) (st' := [_]) rfl rfl rfl rfl (by decide) rfl rfl (Nat.le_of_ble_eq_true rfl) rfl rfl rfl (d_countEqual8 sp78 l1 (by omega)) rfl rfl ?_
      exact w_iret rfl (by have e5 : w = 2 := am_swN (n := 0) sw (by omega) (by decide); subst e5; rfl) rfl rfl rfl
    · refine ⟨178, rfl, ?_⟩
      refine w_aload_n rfl rfl rfl ?_
      refine w_gf (t := .ref (77)) (v := .ref (77)) rfl rfl rfl sp0 rfl rfl rfl ?_
      refine w_gf (t := .int 0) (v := .int _) rfl rfl rfl sp77 rfl (congrArg Value.int rfl) rfl ?_
      refine w_aload_n rfl rfl rfl ?_
      refine w_gf (t := .ref (63)) (v := .ref (63)) rfl rfl rfl sp0 rfl rfl rfl ?_
      refine w_gf (t := .int 0) (v := .int _) rfl rfl rfl sp63 rfl (congrArg Value.int rfl) rfl ?_
      refine w_isub rfl rfl ?_
      exact w_iret rfl (by have e5 : w = 3 := am_swN (n := 0) sw (by omega) (by decide); subst e5; rfl) rfl rfl rfl
theorem d_ahead4 {k : Nat} {I : hI} {J : hJ} {R : hR} {T : Nat} (hT : T = 9 ∨ T = 36) (h0 : R 0 3 = T) {N : Nat → Nat} (t : ctk I T N) {n : Nat} (hn : n ≤ 200) {s : Nat} (hs : s < N 2) (hk : 8 ≤ k) : ct k 123 [.ref 0, .int (Int32.ofNat n), .int (Int32.ofNat 4), .int (Int32.ofNat s)] I J R (some (.int (k_bear (k_ahP I J T N n (Int32.ofNat s)).1 77 (Int32.ofNat s) 8))) ((k_ahP I J T N n (Int32.ofNat s)).1) ((k_ahP I J T N n (Int32.ofNat s)).2) (am_u R 84 3 T) := by
  obtain ⟨k, rfl⟩ : ∃ k', k = k' + 1 := ⟨k - 1, by omega⟩
  obtain ⟨⟨l1, l2, l3⟩, ⟨e5, e11, e3⟩, rM, tH, sM, ⟨e18, l18⟩, ⟨e21, l21⟩, ⟨e24, l24⟩⟩ := id t
  have t1 : ctk (k_stt I T (Int32.ofNat s) (Int32.ofNat 1)) T N := ctk_F hT cF_stt t
  have t2 : ctk (k_ahP I J T N n (Int32.ofNat s)).1 T N := ctk_F hT (cF_days (Or.inr (Or.inr rfl))) t1
  obtain ⟨_, ⟨f5, f11, f3⟩, _⟩ := id t2
  refine ct_of (q := am_m123) (o := 11) (rt := (some .int)) (co := am_c123) (L := [_, _, _, _]) rfl rfl rfl rfl rfl rfl ?_
  refine w_iload_n rfl rfl rfl ?_
  refine w_if_lt (t := 33) (f := 4) rfl rfl rfl (fun c1 => absurd c1 (fun c => absurd ((am_ltN (y := 0) (by omega) (by omega)).mp c) (Nat.not_lt_zero n))) (fun c1 => ?_)
  refine w_iload_n rfl rfl rfl ?_
  refine w_sipush (x := Int32.ofNat 200) rfl rfl (by decide) ?_
  refine w_ic_gtN (t := 33) (f := 11) rfl rfl rfl (by omega) (by omega) (fun c8 => absurd c8 (by omega)) (fun c8 => ?_)
  refine w_iload_n rfl rfl rfl ?_
  refine w_if_lt (t := 33) (f := 15) rfl rfl rfl (fun c12 => absurd c12 (by decide)) (fun c12 => ?_)
  refine w_iload_n rfl rfl rfl ?_
  refine w_iconst (x := Int32.ofNat 4) rfl rfl (by decide) ?_
  refine w_ic_gtN (t := 33) (f := 20) rfl rfl rfl (by omega) (by omega) (fun c17 => absurd c17 (by omega)) (fun c17 => ?_)
  refine w_iload_n rfl rfl rfl ?_
  refine w_iconst (x := Int32.ofNat 4) rfl rfl (by decide) ?_
  refine w_ic_neN (t := 35) (f := 25) rfl rfl rfl (by omega) (by omega) (fun c22 => absurd c22 (by omega)) (fun c22 => ?_)
  refine w_aload_n rfl rfl rfl ?_
  refine w_iload_n rfl rfl rfl ?_
  refine w_cv (q := am_m162) (as := [_]) (rest := []) (st' := [_]) rfl rfl rfl rfl rfl rfl sp0 rfl rfl rfl rfl (d_isShip hT h0 (by omega)) rfl rfl ?_
  refine w_if_neB (t := 35) (f := 33) rfl rfl rfl (fun c30 => ?_) (fun c30 => absurd c30 (k_isok hs (by omega) e11))
  refine w_aload_n rfl rfl rfl ?_
  refine w_iload_n rfl rfl rfl ?_
  refine w_iconst (x := Int32.ofNat 4) rfl rfl (by decide) ?_
  refine w_ic_neN (t := 45) (f := 41) rfl rfl rfl (by omega) (by omega) (fun c38 => absurd c38 (by omega)) (fun c38 => ?_)
  refine w_iload_n rfl rfl rfl ?_
  refine w_goto (pc' := 46) rfl rfl ?_
  refine w_iconst (x := Int32.ofNat 1) rfl rfl (by decide) ?_
  refine w_cv (q := am_m124) (as := [_, _]) (rest := []) (st' := []) rfl rfl rfl rfl rfl rfl sp0 rfl rfl rfl rfl (d_startTrial hT h0 (by omega)) rfl rfl ?_
  refine w_aload_n rfl rfl rfl ?_
  refine w_gf (t := .ref (84)) (v := .ref (84)) rfl rfl rfl sp0 rfl rfl rfl ?_
  refine w_aload_n rfl rfl rfl ?_
  refine w_gf (t := .ref (77)) (v := .ref (77)) rfl rfl rfl sp0 rfl rfl rfl ?_
  refine w_iload_n rfl rfl rfl ?_
  refine w_cv (q := am_m14) (as := [_, _]) (rest := []) (st' := []) rfl rfl rfl rfl rfl rfl sp84 rfl rfl rfl rfl (d_passMany hT am_u_at (Or.inr (Or.inr rfl)) t1 (by omega) (by omega)) rfl rfl ?_
  refine w_iload_n rfl rfl rfl ?_
  refine w_ts (lo := 0) (hi := 3) (d := 194) rfl rfl (by decide) (fun sw => ?_) (fun n h1 h2 sw => ?_)
  · refine w_aload_n rfl rfl rfl ?_
    refine w_gf (t := .ref (77)) (v := .ref (77)) rfl rfl rfl sp0 rfl rfl rfl ?_
    refine w_iload_n rfl rfl rfl ?_
    refine w_cv (q := am_m66) (as := [_]) (rest := []) (st' := [_]) rfl rfl rfl rfl rfl rfl sp77 rfl rfl rfl rfl (d_bear (Or.inr (Or.inr rfl)) (by omega)) rfl rfl ?_
    exact w_iret rfl rfl rfl rfl rfl
  · have h3 : n = 0 ∨ n = 1 ∨ n = 2 ∨ n = 3 := by omega
    rcases h3 with rfl | rfl | rfl | rfl
    · refine ⟨92, rfl, ?_⟩
      exact absurd sw (by decide)
    · refine ⟨114, rfl, ?_⟩
      exact absurd sw (by decide)
    · refine ⟨156, rfl, ?_⟩
      exact absurd sw (by decide)
    · refine ⟨178, rfl, ?_⟩
      exact absurd sw (by decide)
theorem d_ahead_no {k : Nat} {I : hI} {J : hJ} {R : hR} {T : Nat} (hT : T = 9 ∨ T = 36) (h0 : R 0 3 = T) {x y z : Int32} (hx : ¬ ((¬ x < Int32.ofNat 0 ∧ ¬ Int32.ofNat 200 < x) ∧ (¬ y < Int32.ofNat 0 ∧ ¬ Int32.ofNat 4 < y) ∧ (y = Int32.ofNat 4 → (¬ z < 0 ∧ z < I (T + 11) 1)))) (hk : 2 ≤ k) : ct k 123 [.ref 0, .int x, .int y, .int z] I J R (some (.int (Int32.ofInt (-1)))) I J R := by
  obtain ⟨k, rfl⟩ : ∃ k', k = k' + 1 := ⟨k - 1, by omega⟩
  refine ct_of (q := am_m123) (o := 11) (rt := (some .int)) (co := am_c123) (L := [_, _, _, _]) rfl rfl rfl rfl rfl rfl ?_
  refine w_iload_n rfl rfl rfl ?_
  refine w_if_lt (t := 33) (f := 4) rfl rfl rfl (fun c1 => ?_) (fun c1 => ?_)
  · refine w_iconst (x := Int32.ofInt (-1)) rfl rfl (by decide) ?_
    exact w_iret rfl rfl rfl rfl rfl
  · refine w_iload_n rfl rfl rfl ?_
    refine w_sipush (x := Int32.ofNat 200) rfl rfl (by decide) ?_
    refine w_ic_gt (t := 33) (f := 11) rfl rfl rfl (fun c8 => ?_) (fun c8 => ?_)
    · refine w_iconst (x := Int32.ofInt (-1)) rfl rfl (by decide) ?_
      exact w_iret rfl rfl rfl rfl rfl
    · refine w_iload_n rfl rfl rfl ?_
      refine w_if_lt (t := 33) (f := 15) rfl rfl rfl (fun c12 => ?_) (fun c12 => ?_)
      · refine w_iconst (x := Int32.ofInt (-1)) rfl rfl (by decide) ?_
        exact w_iret rfl rfl rfl rfl rfl
      · refine w_iload_n rfl rfl rfl ?_
        refine w_iconst (x := Int32.ofNat 4) rfl rfl (by decide) ?_
        refine w_ic_gt (t := 33) (f := 20) rfl rfl rfl (fun c17 => ?_) (fun c17 => ?_)
        · refine w_iconst (x := Int32.ofInt (-1)) rfl rfl (by decide) ?_
          exact w_iret rfl rfl rfl rfl rfl
        · refine w_iload_n rfl rfl rfl ?_
          refine w_iconst (x := Int32.ofNat 4) rfl rfl (by decide) ?_
          refine w_ic_ne (t := 35) (f := 25) rfl rfl rfl (fun c22 => ?_) (fun c22 => ?_)
          · exact (hx ⟨⟨c1, c8⟩, ⟨c12, c17⟩, fun e => by first | exact absurd e c22 | exact c30⟩).elim
          · refine w_aload_n rfl rfl rfl ?_
            refine w_iload_n rfl rfl rfl ?_
            refine w_cv (q := am_m162) (as := [_]) (rest := []) (st' := [_]) rfl rfl rfl rfl rfl rfl sp0 rfl rfl rfl rfl (d_isShip hT h0 (by omega)) rfl rfl ?_
            refine w_if_neB (t := 35) (f := 33) rfl rfl rfl (fun c30 => ?_) (fun c30 => ?_)
            · exact (hx ⟨⟨c1, c8⟩, ⟨c12, c17⟩, fun e => by first | exact absurd e c22 | exact c30⟩).elim
            · refine w_iconst (x := Int32.ofInt (-1)) rfl rfl (by decide) ?_
              exact w_iret rfl rfl rfl rfl rfl
def k_trI (I : hI) (T : Nat) (b u w e : Int32) : hI := am_u (am_u (am_u (k_stt I T (Int32.ofInt (-1)) b) 84 6 u) 84 9 w) 84 10 e
def k_trP (I : hI) (J : hJ) (T : Nat) (N : Nat → Nat) (n : Nat) (b u w e : Int32) : hI × hJ := k_days T 77 N n (k_trI I T b u w e, am_u J 77 1 (J 63 1))
theorem d_tried0 {k : Nat} {I : hI} {J : hJ} {R : hR} {T : Nat} (hT : T = 9 ∨ T = 36) (h0 : R 0 3 = T) {N : Nat → Nat} (t : ctk I T N) {n : Nat} (hn : n ≤ 200) (hk : 8 ≤ k) : ct k 154 [.ref 0, .int (Int32.ofNat 0), .int (Int32.ofNat 0), .int (Int32.ofNat n)] I J R (some (.int (k_ce ((k_trP I J T N n (Int32.ofNat 2) (Int32.ofNat 0) (Int32.ofNat 1) (Int32.ofNat 0)).1 81) (Int32.ofNat 2) (N 2)))) ((k_trP I J T N n (Int32.ofNat 2) (Int32.ofNat 0) (Int32.ofNat 1) (Int32.ofNat 0)).1) ((k_trP I J T N n (Int32.ofNat 2) (Int32.ofNat 0) (Int32.ofNat 1) (Int32.ofNat 0)).2) (am_u R 84 3 T) := by
  obtain ⟨k, rfl⟩ : ∃ k', k = k' + 1 := ⟨k - 1, by omega⟩
  obtain ⟨⟨l1, l2, l3⟩, ⟨e5, e11, e3⟩, rM, tH, sM, ⟨e18, l18⟩, ⟨e21, l21⟩, ⟨e24, l24⟩⟩ := id t
  have t0 : ctk (k_stt I T (Int32.ofInt (-1)) (Int32.ofNat 2)) T N := ctk_F hT cF_stt t
  have t1 : ctk (k_trI I T (Int32.ofNat 2) (Int32.ofNat 0) (Int32.ofNat 1) (Int32.ofNat 0)) T N := ctk_F hT (cF_tr (cF_tr (cF_tr cF_stt (cF_u (by omega))) (cF_u (by omega))) (cF_u (by omega))) t
  have t2 : ctk (k_trP I J T N n (Int32.ofNat 2) (Int32.ofNat 0) (Int32.ofNat 1) (Int32.ofNat 0)).1 T N := ctk_F hT (cF_days (Or.inr (Or.inr rfl))) t1
  obtain ⟨_, ⟨f5, f11, f3⟩, _⟩ := id t2
  refine ct_of (q := am_m154) (o := 11) (rt := (some .int)) (co := am_c154) (L := [_, _, _, _, _]) rfl rfl rfl rfl rfl rfl ?_
  refine w_iload_n rfl rfl rfl ?_
  refine w_iconst (x := Int32.ofNat 2) rfl rfl (by decide) ?_
  refine w_ic_neN (t := 13) (f := 5) rfl rfl rfl (by omega) (by omega) (fun c2 => ?_) (fun c2 => absurd c2 (by omega))
  clear c2
  refine w_iload_n rfl rfl rfl ?_
  refine w_if_ne (t := 21) (f := 17) rfl rfl rfl (fun c14 => absurd c14 (by decide)) (fun c14 => ?_)
  clear c14
  refine w_iconst (x := Int32.ofNat 1) rfl rfl (by decide) ?_
  refine w_goto (pc' := 22) rfl rfl ?_
  refine w_istore (L' := [_, _, _, _, _]) rfl rfl rfl ?_
  refine w_iload_n rfl rfl rfl ?_
  refine w_if_lt (t := 49) (f := 28) rfl rfl rfl (fun c25 => absurd c25 (by decide)) (fun c25 => ?_)
  clear c25
  refine w_iload_n rfl rfl rfl ?_
  refine w_iconst (x := Int32.ofNat 4) rfl rfl (by decide) ?_
  refine w_ic_gtN (t := 49) (f := 33) rfl rfl rfl (by omega) (by omega) (fun c30 => absurd c30 (by omega)) (fun c30 => ?_)
  refine w_iload_n rfl rfl rfl ?_
  refine w_if_lt (t := 49) (f := 37) rfl rfl rfl (fun c34 => absurd c34 (fun c => absurd ((am_ltN (y := 0) (by omega) (by omega)).mp c) (Nat.not_lt_zero n))) (fun c34 => ?_)
  refine w_iload_n rfl rfl rfl ?_
  refine w_sipush (x := Int32.ofNat 200) rfl rfl (by decide) ?_
  refine w_ic_gtN (t := 49) (f := 44) rfl rfl rfl (by omega) (by omega) (fun c41 => absurd c41 (by omega)) (fun c41 => ?_)
  refine w_iload rfl rfl rfl ?_
  refine w_if_ne (t := 51) (f := 49) rfl rfl rfl (fun c46 => ?_) (fun c46 => absurd c46 (by decide))
  clear c46
  refine w_iload_n rfl rfl rfl ?_
  refine w_iconst (x := Int32.ofNat 2) rfl rfl (by decide) ?_
  refine w_ic_geN (t := 73) (f := 56) rfl rfl rfl (by omega) (by omega) (fun c53 => absurd c53 (by omega)) (fun c53 => ?_)
  clear c53
  refine w_aload_n rfl rfl rfl ?_
  refine w_iconst (x := Int32.ofInt (-1)) rfl rfl (by decide) ?_
  refine w_iload_n rfl rfl rfl ?_
  refine w_if_ne (t := 66) (f := 62) rfl rfl rfl (fun c59 => absurd c59 (by decide)) (fun c59 => ?_)
  clear c59
  refine w_iconst (x := Int32.ofNat 2) rfl rfl (by decide) ?_
  refine w_goto (pc' := 67) rfl rfl ?_
  refine w_cv (q := am_m124) (as := [_, _]) (rest := []) (st' := []) rfl rfl rfl rfl rfl rfl sp0 rfl rfl rfl rfl (d_startTrial hT h0 (by omega)) rfl rfl ?_
  refine w_goto (pc' := 79) rfl rfl ?_
  refine w_aload_n rfl rfl rfl ?_
  refine w_gf (t := .ref (84)) (v := .ref (84)) rfl rfl rfl sp0 rfl rfl rfl ?_
  refine w_iload_n rfl rfl rfl ?_
  refine w_iconst (x := Int32.ofNat 2) rfl rfl (by decide) ?_
  refine w_ic_neN (t := 103) (f := 88) rfl rfl rfl (by omega) (by omega) (fun c85 => ?_) (fun c85 => absurd c85 (by omega))
  clear c85
  refine w_iconst (x := Int32.ofNat 0) rfl rfl (by decide) ?_
  refine w_pf rfl rfl rfl sp84 rfl rfl rfl ?_
  refine w_aload_n rfl rfl rfl ?_
  refine w_gf (t := .ref (84)) (v := .ref (84)) rfl rfl rfl sp0 rfl rfl rfl ?_
  refine w_iload_n rfl rfl rfl ?_
  refine w_iconst (x := Int32.ofNat 3) rfl rfl (by decide) ?_
  refine w_ic_eqN (t := 120) (f := 116) rfl rfl rfl (by omega) (by omega) (fun c113 => absurd c113 (by omega)) (fun c113 => ?_)
  clear c113
  refine w_iconst (x := Int32.ofNat 1) rfl rfl (by decide) ?_
  refine w_goto (pc' := 121) rfl rfl ?_
  refine w_pf rfl rfl rfl sp84 rfl rfl rfl ?_
  refine w_aload_n rfl rfl rfl ?_
  refine w_gf (t := .ref (84)) (v := .ref (84)) rfl rfl rfl sp0 rfl rfl rfl ?_
  refine w_iload_n rfl rfl rfl ?_
  refine w_iconst (x := Int32.ofNat 4) rfl rfl (by decide) ?_
  refine w_ic_neN (t := 137) (f := 133) rfl rfl rfl (by omega) (by omega) (fun c130 => ?_) (fun c130 => absurd c130 (by omega))
  clear c130
  refine w_iconst (x := Int32.ofNat 0) rfl rfl (by decide) ?_
  refine w_pf rfl rfl rfl sp84 rfl rfl rfl ?_
  refine w_aload_n rfl rfl rfl ?_
  refine w_gf (t := .ref (84)) (v := .ref (84)) rfl rfl rfl sp0 rfl rfl rfl ?_
  refine w_aload_n rfl rfl rfl ?_
  refine w_gf (t := .ref (77)) (v := .ref (77)) rfl rfl rfl sp0 rfl rfl rfl ?_
  refine w_iload_n rfl rfl rfl ?_
  refine w_cv (q := am_m14) (as := [_, _]) (rest := []) (st' := []) rfl rfl rfl rfl rfl rfl sp84 rfl rfl rfl rfl (d_passMany hT am_u_at (Or.inr (Or.inr rfl)) t1 (by omega) (by omega)) rfl rfl ?_
  refine w_aload_n rfl rfl rfl ?_
  refine w_gf (t := .ref (77)) (v := .ref (77)) rfl rfl rfl sp0 rfl rfl rfl ?_
  refine w_gf (t := .ref (81)) (v := .ref (81)) rfl rfl rfl sp77 rfl rfl rfl ?_
  refine w_aload_n rfl rfl rfl ?_
  refine w_gf (t := .retAddr 0) (v := .ref (T)) rfl rfl rfl sp0 rfl (congrArg Value.ref (by first | exact h0 | exact (am_u_na (by decide)).trans h0)) rfl ?_
  refine w_gf (t := .ref (T + 11)) (v := .ref (T + 11)) rfl rfl rfl (shT_0 hT) rfl rfl rfl ?_
  refine w_gf (t := .int 0) (v := .int _) rfl rfl rfl (shT_11 hT) rfl (congrArg Value.int f11) rfl ?_
  refine w_iconst (x := Int32.ofNat 2) rfl rfl (by decide) ?_
  refine w_cs (q := am_m163) (na := 3) (as := [_, _, _]) (st' := [_]) rfl rfl rfl rfl (by decide) rfl rfl (Nat.le_of_ble_eq_true rfl) rfl rfl rfl (d_countEqual5 sp81 l2 (by omega)) rfl rfl ?_
  exact w_iret rfl rfl rfl rfl rfl
theorem d_tried1 {k : Nat} {I : hI} {J : hJ} {R : hR} {T : Nat} (hT : T = 9 ∨ T = 36) (h0 : R 0 3 = T) {N : Nat → Nat} (t : ctk I T N) {n : Nat} (hn : n ≤ 200) (hk : 8 ≤ k) : ct k 154 [.ref 0, .int (Int32.ofNat 1), .int (Int32.ofNat 0), .int (Int32.ofNat n)] I J R (some (.int (k_ce ((k_trP I J T N n (Int32.ofNat 3) (Int32.ofNat 0) (Int32.ofNat 1) (Int32.ofNat 0)).1 81) (Int32.ofNat 2) (N 2)))) ((k_trP I J T N n (Int32.ofNat 3) (Int32.ofNat 0) (Int32.ofNat 1) (Int32.ofNat 0)).1) ((k_trP I J T N n (Int32.ofNat 3) (Int32.ofNat 0) (Int32.ofNat 1) (Int32.ofNat 0)).2) (am_u R 84 3 T) := by
  obtain ⟨k, rfl⟩ : ∃ k', k = k' + 1 := ⟨k - 1, by omega⟩
  obtain ⟨⟨l1, l2, l3⟩, ⟨e5, e11, e3⟩, rM, tH, sM, ⟨e18, l18⟩, ⟨e21, l21⟩, ⟨e24, l24⟩⟩ := id t
  have t0 : ctk (k_stt I T (Int32.ofInt (-1)) (Int32.ofNat 3)) T N := ctk_F hT cF_stt t
  have t1 : ctk (k_trI I T (Int32.ofNat 3) (Int32.ofNat 0) (Int32.ofNat 1) (Int32.ofNat 0)) T N := ctk_F hT (cF_tr (cF_tr (cF_tr cF_stt (cF_u (by omega))) (cF_u (by omega))) (cF_u (by omega))) t
  have t2 : ctk (k_trP I J T N n (Int32.ofNat 3) (Int32.ofNat 0) (Int32.ofNat 1) (Int32.ofNat 0)).1 T N := ctk_F hT (cF_days (Or.inr (Or.inr rfl))) t1
  obtain ⟨_, ⟨f5, f11, f3⟩, _⟩ := id t2
  refine ct_of (q := am_m154) (o := 11) (rt := (some .int)) (co := am_c154) (L := [_, _, _, _, _]) rfl rfl rfl rfl rfl rfl ?_
  refine w_iload_n rfl rfl rfl ?_
  refine w_iconst (x := Int32.ofNat 2) rfl rfl (by decide) ?_
  refine w_ic_neN (t := 13) (f := 5) rfl rfl rfl (by omega) (by omega) (fun c2 => ?_) (fun c2 => absurd c2 (by omega))
  clear c2
  refine w_iload_n rfl rfl rfl ?_
  refine w_if_ne (t := 21) (f := 17) rfl rfl rfl (fun c14 => absurd c14 (by decide)) (fun c14 => ?_)
  clear c14
  refine w_iconst (x := Int32.ofNat 1) rfl rfl (by decide) ?_
  refine w_goto (pc' := 22) rfl rfl ?_
  refine w_istore (L' := [_, _, _, _, _]) rfl rfl rfl ?_
  refine w_iload_n rfl rfl rfl ?_
  refine w_if_lt (t := 49) (f := 28) rfl rfl rfl (fun c25 => absurd c25 (by decide)) (fun c25 => ?_)
  clear c25
  refine w_iload_n rfl rfl rfl ?_
  refine w_iconst (x := Int32.ofNat 4) rfl rfl (by decide) ?_
  refine w_ic_gtN (t := 49) (f := 33) rfl rfl rfl (by omega) (by omega) (fun c30 => absurd c30 (by omega)) (fun c30 => ?_)
  refine w_iload_n rfl rfl rfl ?_
  refine w_if_lt (t := 49) (f := 37) rfl rfl rfl (fun c34 => absurd c34 (fun c => absurd ((am_ltN (y := 0) (by omega) (by omega)).mp c) (Nat.not_lt_zero n))) (fun c34 => ?_)
  refine w_iload_n rfl rfl rfl ?_
  refine w_sipush (x := Int32.ofNat 200) rfl rfl (by decide) ?_
  refine w_ic_gtN (t := 49) (f := 44) rfl rfl rfl (by omega) (by omega) (fun c41 => absurd c41 (by omega)) (fun c41 => ?_)
  refine w_iload rfl rfl rfl ?_
  refine w_if_ne (t := 51) (f := 49) rfl rfl rfl (fun c46 => ?_) (fun c46 => absurd c46 (by decide))
  clear c46
  refine w_iload_n rfl rfl rfl ?_
  refine w_iconst (x := Int32.ofNat 2) rfl rfl (by decide) ?_
  refine w_ic_geN (t := 73) (f := 56) rfl rfl rfl (by omega) (by omega) (fun c53 => absurd c53 (by omega)) (fun c53 => ?_)
  clear c53
  refine w_aload_n rfl rfl rfl ?_
  refine w_iconst (x := Int32.ofInt (-1)) rfl rfl (by decide) ?_
  refine w_iload_n rfl rfl rfl ?_
  refine w_if_ne (t := 66) (f := 62) rfl rfl rfl (fun c59 => ?_) (fun c59 => absurd c59 (by decide))
  clear c59
  refine w_iconst (x := Int32.ofNat 3) rfl rfl (by decide) ?_
  refine w_cv (q := am_m124) (as := [_, _]) (rest := []) (st' := []) rfl rfl rfl rfl rfl rfl sp0 rfl rfl rfl rfl (d_startTrial hT h0 (by omega)) rfl rfl ?_
  refine w_goto (pc' := 79) rfl rfl ?_
  refine w_aload_n rfl rfl rfl ?_
  refine w_gf (t := .ref (84)) (v := .ref (84)) rfl rfl rfl sp0 rfl rfl rfl ?_
  refine w_iload_n rfl rfl rfl ?_
  refine w_iconst (x := Int32.ofNat 2) rfl rfl (by decide) ?_
  refine w_ic_neN (t := 103) (f := 88) rfl rfl rfl (by omega) (by omega) (fun c85 => ?_) (fun c85 => absurd c85 (by omega))
  clear c85
  refine w_iconst (x := Int32.ofNat 0) rfl rfl (by decide) ?_
  refine w_pf rfl rfl rfl sp84 rfl rfl rfl ?_
  refine w_aload_n rfl rfl rfl ?_
  refine w_gf (t := .ref (84)) (v := .ref (84)) rfl rfl rfl sp0 rfl rfl rfl ?_
  refine w_iload_n rfl rfl rfl ?_
  refine w_iconst (x := Int32.ofNat 3) rfl rfl (by decide) ?_
  refine w_ic_eqN (t := 120) (f := 116) rfl rfl rfl (by omega) (by omega) (fun c113 => absurd c113 (by omega)) (fun c113 => ?_)
  clear c113
  refine w_iconst (x := Int32.ofNat 1) rfl rfl (by decide) ?_
  refine w_goto (pc' := 121) rfl rfl ?_
  refine w_pf rfl rfl rfl sp84 rfl rfl rfl ?_
  refine w_aload_n rfl rfl rfl ?_
  refine w_gf (t := .ref (84)) (v := .ref (84)) rfl rfl rfl sp0 rfl rfl rfl ?_
  refine w_iload_n rfl rfl rfl ?_
  refine w_iconst (x := Int32.ofNat 4) rfl rfl (by decide) ?_
  refine w_ic_neN (t := 137) (f := 133) rfl rfl rfl (by omega) (by omega) (fun c130 => ?_) (fun c130 => absurd c130 (by omega))
  clear c130
  refine w_iconst (x := Int32.ofNat 0) rfl rfl (by decide) ?_
  refine w_pf rfl rfl rfl sp84 rfl rfl rfl ?_
  refine w_aload_n rfl rfl rfl ?_
  refine w_gf (t := .ref (84)) (v := .ref (84)) rfl rfl rfl sp0 rfl rfl rfl ?_
  refine w_aload_n rfl rfl rfl ?_
  refine w_gf (t := .ref (77)) (v := .ref (77)) rfl rfl rfl sp0 rfl rfl rfl ?_
  refine w_iload_n rfl rfl rfl ?_
  refine w_cv (q := am_m14) (as := [_, _]) (rest := []) (st' := []) rfl rfl rfl rfl rfl rfl sp84 rfl rfl rfl rfl (d_passMany hT am_u_at (Or.inr (Or.inr rfl)) t1 (by omega) (by omega)) rfl rfl ?_
  refine w_aload_n rfl rfl rfl ?_
  refine w_gf (t := .ref (77)) (v := .ref (77)) rfl rfl rfl sp0 rfl rfl rfl ?_
  refine w_gf (t := .ref (81)) (v := .ref (81)) rfl rfl rfl sp77 rfl rfl rfl ?_
  refine w_aload_n rfl rfl rfl ?_
  refine w_gf (t := .retAddr 0) (v := .ref (T)) rfl rfl rfl sp0 rfl (congrArg Value.ref (by first | exact h0 | exact (am_u_na (by decide)).trans h0)) rfl ?_
  refine w_gf (t := .ref (T + 11)) (v := .ref (T + 11)) rfl rfl rfl (shT_0 hT) rfl rfl rfl ?_
  refine w_gf (t := .int 0) (v := .int _) rfl rfl rfl (shT_11 hT) rfl (congrArg Value.int f11) rfl ?_
  refine w_iconst (x := Int32.ofNat 2) rfl rfl (by decide) ?_
  refine w_cs (q := am_m163) (na := 3) (as := [_, _, _]) (st' := [_]) rfl rfl rfl rfl (by decide) rfl rfl (Nat.le_of_ble_eq_true rfl) rfl rfl rfl (d_countEqual5 sp81 l2 (by omega)) rfl rfl ?_
  exact w_iret rfl rfl rfl rfl rfl
theorem d_tried2 {k : Nat} {I : hI} {J : hJ} {R : hR} {T : Nat} (hT : T = 9 ∨ T = 36) (h0 : R 0 3 = T) {N : Nat → Nat} (t : ctk I T N) {n : Nat} (hn : n ≤ 200) {s : Nat} (hs : s < N 2) (hk : 8 ≤ k) : ct k 154 [.ref 0, .int (Int32.ofNat 2), .int (Int32.ofNat s), .int (Int32.ofNat n)] I J R (some (.int (k_ce ((k_trP I J T N n (Int32.ofNat 1) (k_voy (k_stt I T (Int32.ofInt (-1)) (Int32.ofNat 1)) T (Int32.ofNat s) (Int32.ofNat 0) (Int32.ofNat 9000) (N 3)) (Int32.ofNat 1) (Int32.ofNat 0)).1 81) (Int32.ofNat 2) (N 2)))) ((k_trP I J T N n (Int32.ofNat 1) (k_voy (k_stt I T (Int32.ofInt (-1)) (Int32.ofNat 1)) T (Int32.ofNat s) (Int32.ofNat 0) (Int32.ofNat 9000) (N 3)) (Int32.ofNat 1) (Int32.ofNat 0)).1) ((k_trP I J T N n (Int32.ofNat 1) (k_voy (k_stt I T (Int32.ofInt (-1)) (Int32.ofNat 1)) T (Int32.ofNat s) (Int32.ofNat 0) (Int32.ofNat 9000) (N 3)) (Int32.ofNat 1) (Int32.ofNat 0)).2) (am_u R 84 3 T) := by
  obtain ⟨k, rfl⟩ : ∃ k', k = k' + 1 := ⟨k - 1, by omega⟩
  obtain ⟨⟨l1, l2, l3⟩, ⟨e5, e11, e3⟩, rM, tH, sM, ⟨e18, l18⟩, ⟨e21, l21⟩, ⟨e24, l24⟩⟩ := id t
  have t0 : ctk (k_stt I T (Int32.ofInt (-1)) (Int32.ofNat 1)) T N := ctk_F hT cF_stt t
  have t1 : ctk (k_trI I T (Int32.ofNat 1) (k_voy (k_stt I T (Int32.ofInt (-1)) (Int32.ofNat 1)) T (Int32.ofNat s) (Int32.ofNat 0) (Int32.ofNat 9000) (N 3)) (Int32.ofNat 1) (Int32.ofNat 0)) T N := ctk_F hT (cF_tr (cF_tr (cF_tr cF_stt (cF_u (by omega))) (cF_u (by omega))) (cF_u (by omega))) t
  have t2 : ctk (k_trP I J T N n (Int32.ofNat 1) (k_voy (k_stt I T (Int32.ofInt (-1)) (Int32.ofNat 1)) T (Int32.ofNat s) (Int32.ofNat 0) (Int32.ofNat 9000) (N 3)) (Int32.ofNat 1) (Int32.ofNat 0)).1 T N := ctk_F hT (cF_days (Or.inr (Or.inr rfl))) t1
  obtain ⟨_, ⟨f5, f11, f3⟩, _⟩ := id t2
  refine ct_of (q := am_m154) (o := 11) (rt := (some .int)) (co := am_c154) (L := [_, _, _, _, _]) rfl rfl rfl rfl rfl rfl ?_
  refine w_iload_n rfl rfl rfl ?_
  refine w_iconst (x := Int32.ofNat 2) rfl rfl (by decide) ?_
  refine w_ic_neN (t := 13) (f := 5) rfl rfl rfl (by omega) (by omega) (fun c2 => absurd c2 (by omega)) (fun c2 => ?_)
  clear c2
  refine w_aload_n rfl rfl rfl ?_
  refine w_iload_n rfl rfl rfl ?_
  refine w_cv (q := am_m162) (as := [_]) (rest := []) (st' := [_]) rfl rfl rfl rfl rfl rfl sp0 rfl rfl rfl rfl (d_isShip hT h0 (by omega)) rfl rfl ?_
  refine w_goto (pc' := 22) rfl rfl ?_
  refine w_istore (L' := [_, _, _, _, _]) rfl rfl rfl ?_
  refine w_iload_n rfl rfl rfl ?_
  refine w_if_lt (t := 49) (f := 28) rfl rfl rfl (fun c25 => absurd c25 (by decide)) (fun c25 => ?_)
  clear c25
  refine w_iload_n rfl rfl rfl ?_
  refine w_iconst (x := Int32.ofNat 4) rfl rfl (by decide) ?_
  refine w_ic_gtN (t := 49) (f := 33) rfl rfl rfl (by omega) (by omega) (fun c30 => absurd c30 (by omega)) (fun c30 => ?_)
  refine w_iload_n rfl rfl rfl ?_
  refine w_if_lt (t := 49) (f := 37) rfl rfl rfl (fun c34 => absurd c34 (fun c => absurd ((am_ltN (y := 0) (by omega) (by omega)).mp c) (Nat.not_lt_zero n))) (fun c34 => ?_)
  refine w_iload_n rfl rfl rfl ?_
  refine w_sipush (x := Int32.ofNat 200) rfl rfl (by decide) ?_
  refine w_ic_gtN (t := 49) (f := 44) rfl rfl rfl (by omega) (by omega) (fun c41 => absurd c41 (by omega)) (fun c41 => ?_)
  refine w_iload rfl rfl rfl ?_
  refine w_if_neB (t := 51) (f := 49) rfl rfl rfl (fun c46 => ?_) (fun c46 => absurd c46 (k_isok hs (by omega) e11))
  refine w_iload_n rfl rfl rfl ?_
  refine w_iconst (x := Int32.ofNat 2) rfl rfl (by decide) ?_
  refine w_ic_geN (t := 73) (f := 56) rfl rfl rfl (by omega) (by omega) (fun c53 => ?_) (fun c53 => absurd c53 (by omega))
  clear c53
  refine w_aload_n rfl rfl rfl ?_
  refine w_iconst (x := Int32.ofInt (-1)) rfl rfl (by decide) ?_
  refine w_iconst (x := Int32.ofNat 1) rfl rfl (by decide) ?_
  refine w_cv (q := am_m124) (as := [_, _]) (rest := []) (st' := []) rfl rfl rfl rfl rfl rfl sp0 rfl rfl rfl rfl (d_startTrial hT h0 (by omega)) rfl rfl ?_
  refine w_aload_n rfl rfl rfl ?_
  refine w_gf (t := .ref (84)) (v := .ref (84)) rfl rfl rfl sp0 rfl rfl rfl ?_
  refine w_iload_n rfl rfl rfl ?_
  refine w_iconst (x := Int32.ofNat 2) rfl rfl (by decide) ?_
  refine w_ic_neN (t := 103) (f := 88) rfl rfl rfl (by omega) (by omega) (fun c85 => absurd c85 (by omega)) (fun c85 => ?_)
  clear c85
  refine w_aload_n rfl rfl rfl ?_
  refine w_gf (t := .retAddr 0) (v := .ref (T)) rfl rfl rfl sp0 rfl (congrArg Value.ref (by first | exact h0 | exact (am_u_na (by decide)).trans h0)) rfl ?_
  refine w_iload_n rfl rfl rfl ?_
  refine w_iconst (x := Int32.ofNat 0) rfl rfl (by decide) ?_
  refine w_sipush (x := Int32.ofNat 9000) rfl rfl (by decide) ?_
  refine w_cv (q := am_m105) (as := [_, _, _]) (rest := [_]) (st' := [_, _]) rfl rfl rfl rfl rfl rfl (shT_0 hT) rfl rfl rfl rfl (d_voyagesOf hT l3 t0.2.1.2.2 (by omega)) rfl rfl ?_
  refine w_goto (pc' := 104) rfl rfl ?_
  refine w_pf rfl rfl rfl sp84 rfl rfl rfl ?_
  refine w_aload_n rfl rfl rfl ?_
  refine w_gf (t := .ref (84)) (v := .ref (84)) rfl rfl rfl sp0 rfl rfl rfl ?_
  refine w_iload_n rfl rfl rfl ?_
  refine w_iconst (x := Int32.ofNat 3) rfl rfl (by decide) ?_
  refine w_ic_eqN (t := 120) (f := 116) rfl rfl rfl (by omega) (by omega) (fun c113 => absurd c113 (by omega)) (fun c113 => ?_)
  clear c113
  refine w_iconst (x := Int32.ofNat 1) rfl rfl (by decide) ?_
  refine w_goto (pc' := 121) rfl rfl ?_
  refine w_pf rfl rfl rfl sp84 rfl rfl rfl ?_
  refine w_aload_n rfl rfl rfl ?_
  refine w_gf (t := .ref (84)) (v := .ref (84)) rfl rfl rfl sp0 rfl rfl rfl ?_
  refine w_iload_n rfl rfl rfl ?_
  refine w_iconst (x := Int32.ofNat 4) rfl rfl (by decide) ?_
  refine w_ic_neN (t := 137) (f := 133) rfl rfl rfl (by omega) (by omega) (fun c130 => ?_) (fun c130 => absurd c130 (by omega))
  clear c130
  refine w_iconst (x := Int32.ofNat 0) rfl rfl (by decide) ?_
  refine w_pf rfl rfl rfl sp84 rfl rfl rfl ?_
  refine w_aload_n rfl rfl rfl ?_
  refine w_gf (t := .ref (84)) (v := .ref (84)) rfl rfl rfl sp0 rfl rfl rfl ?_
  refine w_aload_n rfl rfl rfl ?_
  refine w_gf (t := .ref (77)) (v := .ref (77)) rfl rfl rfl sp0 rfl rfl rfl ?_
  refine w_iload_n rfl rfl rfl ?_
  refine w_cv (q := am_m14) (as := [_, _]) (rest := []) (st' := []) rfl rfl rfl rfl rfl rfl sp84 rfl rfl rfl rfl (d_passMany hT am_u_at (Or.inr (Or.inr rfl)) t1 (by omega) (by omega)) rfl rfl ?_
  refine w_aload_n rfl rfl rfl ?_
  refine w_gf (t := .ref (77)) (v := .ref (77)) rfl rfl rfl sp0 rfl rfl rfl ?_
  refine w_gf (t := .ref (81)) (v := .ref (81)) rfl rfl rfl sp77 rfl rfl rfl ?_
  refine w_aload_n rfl rfl rfl ?_
  refine w_gf (t := .retAddr 0) (v := .ref (T)) rfl rfl rfl sp0 rfl (congrArg Value.ref (by first | exact h0 | exact (am_u_na (by decide)).trans h0)) rfl ?_
  refine w_gf (t := .ref (T + 11)) (v := .ref (T + 11)) rfl rfl rfl (shT_0 hT) rfl rfl rfl ?_
  refine w_gf (t := .int 0) (v := .int _) rfl rfl rfl (shT_11 hT) rfl (congrArg Value.int f11) rfl ?_
  refine w_iconst (x := Int32.ofNat 2) rfl rfl (by decide) ?_
  refine w_cs (q := am_m163) (na := 3) (as := [_, _, _]) (st' := [_]) rfl rfl rfl rfl (by decide) rfl rfl (Nat.le_of_ble_eq_true rfl) rfl rfl rfl (d_countEqual5 sp81 l2 (by omega)) rfl rfl ?_
  exact w_iret rfl rfl rfl rfl rfl
theorem d_tried3 {k : Nat} {I : hI} {J : hJ} {R : hR} {T : Nat} (hT : T = 9 ∨ T = 36) (h0 : R 0 3 = T) {N : Nat → Nat} (t : ctk I T N) {n : Nat} (hn : n ≤ 200) (hk : 8 ≤ k) : ct k 154 [.ref 0, .int (Int32.ofNat 3), .int (Int32.ofNat 0), .int (Int32.ofNat n)] I J R (some (.int (k_ce ((k_trP I J T N n (Int32.ofNat 1) (Int32.ofNat 0) (Int32.ofNat 0) (Int32.ofNat 0)).1 81) (Int32.ofNat 2) (N 2)))) ((k_trP I J T N n (Int32.ofNat 1) (Int32.ofNat 0) (Int32.ofNat 0) (Int32.ofNat 0)).1) ((k_trP I J T N n (Int32.ofNat 1) (Int32.ofNat 0) (Int32.ofNat 0) (Int32.ofNat 0)).2) (am_u R 84 3 T) := by
  obtain ⟨k, rfl⟩ : ∃ k', k = k' + 1 := ⟨k - 1, by omega⟩
  obtain ⟨⟨l1, l2, l3⟩, ⟨e5, e11, e3⟩, rM, tH, sM, ⟨e18, l18⟩, ⟨e21, l21⟩, ⟨e24, l24⟩⟩ := id t
  have t0 : ctk (k_stt I T (Int32.ofInt (-1)) (Int32.ofNat 1)) T N := ctk_F hT cF_stt t
  have t1 : ctk (k_trI I T (Int32.ofNat 1) (Int32.ofNat 0) (Int32.ofNat 0) (Int32.ofNat 0)) T N := ctk_F hT (cF_tr (cF_tr (cF_tr cF_stt (cF_u (by omega))) (cF_u (by omega))) (cF_u (by omega))) t
  have t2 : ctk (k_trP I J T N n (Int32.ofNat 1) (Int32.ofNat 0) (Int32.ofNat 0) (Int32.ofNat 0)).1 T N := ctk_F hT (cF_days (Or.inr (Or.inr rfl))) t1
  obtain ⟨_, ⟨f5, f11, f3⟩, _⟩ := id t2
  refine ct_of (q := am_m154) (o := 11) (rt := (some .int)) (co := am_c154) (L := [_, _, _, _, _]) rfl rfl rfl rfl rfl rfl ?_
  refine w_iload_n rfl rfl rfl ?_
  refine w_iconst (x := Int32.ofNat 2) rfl rfl (by decide) ?_
  refine w_ic_neN (t := 13) (f := 5) rfl rfl rfl (by omega) (by omega) (fun c2 => ?_) (fun c2 => absurd c2 (by omega))
  clear c2
  refine w_iload_n rfl rfl rfl ?_
  refine w_if_ne (t := 21) (f := 17) rfl rfl rfl (fun c14 => absurd c14 (by decide)) (fun c14 => ?_)
  clear c14
  refine w_iconst (x := Int32.ofNat 1) rfl rfl (by decide) ?_
  refine w_goto (pc' := 22) rfl rfl ?_
  refine w_istore (L' := [_, _, _, _, _]) rfl rfl rfl ?_
  refine w_iload_n rfl rfl rfl ?_
  refine w_if_lt (t := 49) (f := 28) rfl rfl rfl (fun c25 => absurd c25 (by decide)) (fun c25 => ?_)
  clear c25
  refine w_iload_n rfl rfl rfl ?_
  refine w_iconst (x := Int32.ofNat 4) rfl rfl (by decide) ?_
  refine w_ic_gtN (t := 49) (f := 33) rfl rfl rfl (by omega) (by omega) (fun c30 => absurd c30 (by omega)) (fun c30 => ?_)
  refine w_iload_n rfl rfl rfl ?_
  refine w_if_lt (t := 49) (f := 37) rfl rfl rfl (fun c34 => absurd c34 (fun c => absurd ((am_ltN (y := 0) (by omega) (by omega)).mp c) (Nat.not_lt_zero n))) (fun c34 => ?_)
  refine w_iload_n rfl rfl rfl ?_
  refine w_sipush (x := Int32.ofNat 200) rfl rfl (by decide) ?_
  refine w_ic_gtN (t := 49) (f := 44) rfl rfl rfl (by omega) (by omega) (fun c41 => absurd c41 (by omega)) (fun c41 => ?_)
  refine w_iload rfl rfl rfl ?_
  refine w_if_ne (t := 51) (f := 49) rfl rfl rfl (fun c46 => ?_) (fun c46 => absurd c46 (by decide))
  clear c46
  refine w_iload_n rfl rfl rfl ?_
  refine w_iconst (x := Int32.ofNat 2) rfl rfl (by decide) ?_
  refine w_ic_geN (t := 73) (f := 56) rfl rfl rfl (by omega) (by omega) (fun c53 => ?_) (fun c53 => absurd c53 (by omega))
  clear c53
  refine w_aload_n rfl rfl rfl ?_
  refine w_iconst (x := Int32.ofInt (-1)) rfl rfl (by decide) ?_
  refine w_iconst (x := Int32.ofNat 1) rfl rfl (by decide) ?_
  refine w_cv (q := am_m124) (as := [_, _]) (rest := []) (st' := []) rfl rfl rfl rfl rfl rfl sp0 rfl rfl rfl rfl (d_startTrial hT h0 (by omega)) rfl rfl ?_
  refine w_aload_n rfl rfl rfl ?_
  refine w_gf (t := .ref (84)) (v := .ref (84)) rfl rfl rfl sp0 rfl rfl rfl ?_
  refine w_iload_n rfl rfl rfl ?_
  refine w_iconst (x := Int32.ofNat 2) rfl rfl (by decide) ?_
  refine w_ic_neN (t := 103) (f := 88) rfl rfl rfl (by omega) (by omega) (fun c85 => ?_) (fun c85 => absurd c85 (by omega))
  clear c85
  refine w_iconst (x := Int32.ofNat 0) rfl rfl (by decide) ?_
  refine w_pf rfl rfl rfl sp84 rfl rfl rfl ?_
  refine w_aload_n rfl rfl rfl ?_
  refine w_gf (t := .ref (84)) (v := .ref (84)) rfl rfl rfl sp0 rfl rfl rfl ?_
  refine w_iload_n rfl rfl rfl ?_
  refine w_iconst (x := Int32.ofNat 3) rfl rfl (by decide) ?_
  refine w_ic_eqN (t := 120) (f := 116) rfl rfl rfl (by omega) (by omega) (fun c113 => ?_) (fun c113 => absurd c113 (by omega))
  clear c113
  refine w_iconst (x := Int32.ofNat 0) rfl rfl (by decide) ?_
  refine w_pf rfl rfl rfl sp84 rfl rfl rfl ?_
  refine w_aload_n rfl rfl rfl ?_
  refine w_gf (t := .ref (84)) (v := .ref (84)) rfl rfl rfl sp0 rfl rfl rfl ?_
  refine w_iload_n rfl rfl rfl ?_
  refine w_iconst (x := Int32.ofNat 4) rfl rfl (by decide) ?_
  refine w_ic_neN (t := 137) (f := 133) rfl rfl rfl (by omega) (by omega) (fun c130 => ?_) (fun c130 => absurd c130 (by omega))
  clear c130
  refine w_iconst (x := Int32.ofNat 0) rfl rfl (by decide) ?_
  refine w_pf rfl rfl rfl sp84 rfl rfl rfl ?_
  refine w_aload_n rfl rfl rfl ?_
  refine w_gf (t := .ref (84)) (v := .ref (84)) rfl rfl rfl sp0 rfl rfl rfl ?_
  refine w_aload_n rfl rfl rfl ?_
  refine w_gf (t := .ref (77)) (v := .ref (77)) rfl rfl rfl sp0 rfl rfl rfl ?_
  refine w_iload_n rfl rfl rfl ?_
  refine w_cv (q := am_m14) (as := [_, _]) (rest := []) (st' := []) rfl rfl rfl rfl rfl rfl sp84 rfl rfl rfl rfl (d_passMany hT am_u_at (Or.inr (Or.inr rfl)) t1 (by omega) (by omega)) rfl rfl ?_
  refine w_aload_n rfl rfl rfl ?_
  refine w_gf (t := .ref (77)) (v := .ref (77)) rfl rfl rfl sp0 rfl rfl rfl ?_
  refine w_gf (t := .ref (81)) (v := .ref (81)) rfl rfl rfl sp77 rfl rfl rfl ?_
  refine w_aload_n rfl rfl rfl ?_
  refine w_gf (t := .retAddr 0) (v := .ref (T)) rfl rfl rfl sp0 rfl (congrArg Value.ref (by first | exact h0 | exact (am_u_na (by decide)).trans h0)) rfl ?_
  refine w_gf (t := .ref (T + 11)) (v := .ref (T + 11)) rfl rfl rfl (shT_0 hT) rfl rfl rfl ?_
  refine w_gf (t := .int 0) (v := .int _) rfl rfl rfl (shT_11 hT) rfl (congrArg Value.int f11) rfl ?_
  refine w_iconst (x := Int32.ofNat 2) rfl rfl (by decide) ?_
  refine w_cs (q := am_m163) (na := 3) (as := [_, _, _]) (st' := [_]) rfl rfl rfl rfl (by decide) rfl rfl (Nat.le_of_ble_eq_true rfl) rfl rfl rfl (d_countEqual5 sp81 l2 (by omega)) rfl rfl ?_
  exact w_iret rfl rfl rfl rfl rfl
theorem d_tried4 {k : Nat} {I : hI} {J : hJ} {R : hR} {T : Nat} (hT : T = 9 ∨ T = 36) (h0 : R 0 3 = T) {N : Nat → Nat} (t : ctk I T N) {n : Nat} (hn : n ≤ 200) (hk : 8 ≤ k) : ct k 154 [.ref 0, .int (Int32.ofNat 4), .int (Int32.ofNat 0), .int (Int32.ofNat n)] I J R (some (.int (k_ce ((k_trP I J T N n (Int32.ofNat 1) (Int32.ofNat 0) (Int32.ofNat 1) (Int32.ofNat 1)).1 81) (Int32.ofNat 2) (N 2)))) ((k_trP I J T N n (Int32.ofNat 1) (Int32.ofNat 0) (Int32.ofNat 1) (Int32.ofNat 1)).1) ((k_trP I J T N n (Int32.ofNat 1) (Int32.ofNat 0) (Int32.ofNat 1) (Int32.ofNat 1)).2) (am_u R 84 3 T) := by
  obtain ⟨k, rfl⟩ : ∃ k', k = k' + 1 := ⟨k - 1, by omega⟩
  obtain ⟨⟨l1, l2, l3⟩, ⟨e5, e11, e3⟩, rM, tH, sM, ⟨e18, l18⟩, ⟨e21, l21⟩, ⟨e24, l24⟩⟩ := id t
  have t0 : ctk (k_stt I T (Int32.ofInt (-1)) (Int32.ofNat 1)) T N := ctk_F hT cF_stt t
  have t1 : ctk (k_trI I T (Int32.ofNat 1) (Int32.ofNat 0) (Int32.ofNat 1) (Int32.ofNat 1)) T N := ctk_F hT (cF_tr (cF_tr (cF_tr cF_stt (cF_u (by omega))) (cF_u (by omega))) (cF_u (by omega))) t
  have t2 : ctk (k_trP I J T N n (Int32.ofNat 1) (Int32.ofNat 0) (Int32.ofNat 1) (Int32.ofNat 1)).1 T N := ctk_F hT (cF_days (Or.inr (Or.inr rfl))) t1
  obtain ⟨_, ⟨f5, f11, f3⟩, _⟩ := id t2
  refine ct_of (q := am_m154) (o := 11) (rt := (some .int)) (co := am_c154) (L := [_, _, _, _, _]) rfl rfl rfl rfl rfl rfl ?_
  refine w_iload_n rfl rfl rfl ?_
  refine w_iconst (x := Int32.ofNat 2) rfl rfl (by decide) ?_
  refine w_ic_neN (t := 13) (f := 5) rfl rfl rfl (by omega) (by omega) (fun c2 => ?_) (fun c2 => absurd c2 (by omega))
  clear c2
  refine w_iload_n rfl rfl rfl ?_
  refine w_if_ne (t := 21) (f := 17) rfl rfl rfl (fun c14 => absurd c14 (by decide)) (fun c14 => ?_)
  clear c14
  refine w_iconst (x := Int32.ofNat 1) rfl rfl (by decide) ?_
  refine w_goto (pc' := 22) rfl rfl ?_
  refine w_istore (L' := [_, _, _, _, _]) rfl rfl rfl ?_
  refine w_iload_n rfl rfl rfl ?_
  refine w_if_lt (t := 49) (f := 28) rfl rfl rfl (fun c25 => absurd c25 (by decide)) (fun c25 => ?_)
  clear c25
  refine w_iload_n rfl rfl rfl ?_
  refine w_iconst (x := Int32.ofNat 4) rfl rfl (by decide) ?_
  refine w_ic_gtN (t := 49) (f := 33) rfl rfl rfl (by omega) (by omega) (fun c30 => absurd c30 (by omega)) (fun c30 => ?_)
  refine w_iload_n rfl rfl rfl ?_
  refine w_if_lt (t := 49) (f := 37) rfl rfl rfl (fun c34 => absurd c34 (fun c => absurd ((am_ltN (y := 0) (by omega) (by omega)).mp c) (Nat.not_lt_zero n))) (fun c34 => ?_)
  refine w_iload_n rfl rfl rfl ?_
  refine w_sipush (x := Int32.ofNat 200) rfl rfl (by decide) ?_
  refine w_ic_gtN (t := 49) (f := 44) rfl rfl rfl (by omega) (by omega) (fun c41 => absurd c41 (by omega)) (fun c41 => ?_)
  refine w_iload rfl rfl rfl ?_
  refine w_if_ne (t := 51) (f := 49) rfl rfl rfl (fun c46 => ?_) (fun c46 => absurd c46 (by decide))
  clear c46
  refine w_iload_n rfl rfl rfl ?_
  refine w_iconst (x := Int32.ofNat 2) rfl rfl (by decide) ?_
  refine w_ic_geN (t := 73) (f := 56) rfl rfl rfl (by omega) (by omega) (fun c53 => ?_) (fun c53 => absurd c53 (by omega))
  clear c53
  refine w_aload_n rfl rfl rfl ?_
  refine w_iconst (x := Int32.ofInt (-1)) rfl rfl (by decide) ?_
  refine w_iconst (x := Int32.ofNat 1) rfl rfl (by decide) ?_
  refine w_cv (q := am_m124) (as := [_, _]) (rest := []) (st' := []) rfl rfl rfl rfl rfl rfl sp0 rfl rfl rfl rfl (d_startTrial hT h0 (by omega)) rfl rfl ?_
  refine w_aload_n rfl rfl rfl ?_
  refine w_gf (t := .ref (84)) (v := .ref (84)) rfl rfl rfl sp0 rfl rfl rfl ?_
  refine w_iload_n rfl rfl rfl ?_
  refine w_iconst (x := Int32.ofNat 2) rfl rfl (by decide) ?_
  refine w_ic_neN (t := 103) (f := 88) rfl rfl rfl (by omega) (by omega) (fun c85 => ?_) (fun c85 => absurd c85 (by omega))
  clear c85
  refine w_iconst (x := Int32.ofNat 0) rfl rfl (by decide) ?_
  refine w_pf rfl rfl rfl sp84 rfl rfl rfl ?_
  refine w_aload_n rfl rfl rfl ?_
  refine w_gf (t := .ref (84)) (v := .ref (84)) rfl rfl rfl sp0 rfl rfl rfl ?_
  refine w_iload_n rfl rfl rfl ?_
  refine w_iconst (x := Int32.ofNat 3) rfl rfl (by decide) ?_
  refine w_ic_eqN (t := 120) (f := 116) rfl rfl rfl (by omega) (by omega) (fun c113 => absurd c113 (by omega)) (fun c113 => ?_)
  clear c113
  refine w_iconst (x := Int32.ofNat 1) rfl rfl (by decide) ?_
  refine w_goto (pc' := 121) rfl rfl ?_
  refine w_pf rfl rfl rfl sp84 rfl rfl rfl ?_
  refine w_aload_n rfl rfl rfl ?_
  refine w_gf (t := .ref (84)) (v := .ref (84)) rfl rfl rfl sp0 rfl rfl rfl ?_
  refine w_iload_n rfl rfl rfl ?_
  refine w_iconst (x := Int32.ofNat 4) rfl rfl (by decide) ?_
  refine w_ic_neN (t := 137) (f := 133) rfl rfl rfl (by omega) (by omega) (fun c130 => absurd c130 (by omega)) (fun c130 => ?_)
  clear c130
  refine w_iconst (x := Int32.ofNat 1) rfl rfl (by decide) ?_
  refine w_goto (pc' := 138) rfl rfl ?_
  refine w_pf rfl rfl rfl sp84 rfl rfl rfl ?_
  refine w_aload_n rfl rfl rfl ?_
  refine w_gf (t := .ref (84)) (v := .ref (84)) rfl rfl rfl sp0 rfl rfl rfl ?_
  refine w_aload_n rfl rfl rfl ?_
  refine w_gf (t := .ref (77)) (v := .ref (77)) rfl rfl rfl sp0 rfl rfl rfl ?_
  refine w_iload_n rfl rfl rfl ?_
  refine w_cv (q := am_m14) (as := [_, _]) (rest := []) (st' := []) rfl rfl rfl rfl rfl rfl sp84 rfl rfl rfl rfl (d_passMany hT am_u_at (Or.inr (Or.inr rfl)) t1 (by omega) (by omega)) rfl rfl ?_
  refine w_aload_n rfl rfl rfl ?_
  refine w_gf (t := .ref (77)) (v := .ref (77)) rfl rfl rfl sp0 rfl rfl rfl ?_
  refine w_gf (t := .ref (81)) (v := .ref (81)) rfl rfl rfl sp77 rfl rfl rfl ?_
  refine w_aload_n rfl rfl rfl ?_
  refine w_gf (t := .retAddr 0) (v := .ref (T)) rfl rfl rfl sp0 rfl (congrArg Value.ref (by first | exact h0 | exact (am_u_na (by decide)).trans h0)) rfl ?_
  refine w_gf (t := .ref (T + 11)) (v := .ref (T + 11)) rfl rfl rfl (shT_0 hT) rfl rfl rfl ?_
  refine w_gf (t := .int 0) (v := .int _) rfl rfl rfl (shT_11 hT) rfl (congrArg Value.int f11) rfl ?_
  refine w_iconst (x := Int32.ofNat 2) rfl rfl (by decide) ?_
  refine w_cs (q := am_m163) (na := 3) (as := [_, _, _]) (st' := [_]) rfl rfl rfl rfl (by decide) rfl rfl (Nat.le_of_ble_eq_true rfl) rfl rfl rfl (d_countEqual5 sp81 l2 (by omega)) rfl rfl ?_
  exact w_iret rfl rfl rfl rfl rfl
theorem d_tried_no {k : Nat} {I : hI} {J : hJ} {R : hR} {T : Nat} (hT : T = 9 ∨ T = 36) (h0 : R 0 3 = T) {x y z : Int32} (hx : ¬ ((¬ x < Int32.ofNat 0 ∧ ¬ Int32.ofNat 4 < x) ∧ (¬ z < Int32.ofNat 0 ∧ ¬ Int32.ofNat 200 < z) ∧ (x = Int32.ofNat 2 → (¬ y < 0 ∧ y < I (T + 11) 1)) ∧ (¬ x = Int32.ofNat 2 → y = 0))) (hk : 2 ≤ k) : ct k 154 [.ref 0, .int x, .int y, .int z] I J R (some (.int (Int32.ofInt (-1)))) I J R := by
  obtain ⟨k, rfl⟩ : ∃ k', k = k' + 1 := ⟨k - 1, by omega⟩
  refine ct_of (q := am_m154) (o := 11) (rt := (some .int)) (co := am_c154) (L := [_, _, _, _, _]) rfl rfl rfl rfl rfl rfl ?_
  refine w_iload_n rfl rfl rfl ?_
  refine w_iconst (x := Int32.ofNat 2) rfl rfl (by decide) ?_
  refine w_ic_ne (t := 13) (f := 5) rfl rfl rfl (fun c2 => ?_) (fun c2 => ?_)
  · refine w_iload_n rfl rfl rfl ?_
    refine w_if_ne (t := 21) (f := 17) rfl rfl rfl (fun c14 => ?_) (fun c14 => ?_)
    · refine w_iconst (x := Int32.ofNat 0) rfl rfl (by decide) ?_
      refine w_istore (L' := [_, _, _, _, _]) rfl rfl rfl ?_
      refine w_iload_n rfl rfl rfl ?_
      refine w_if_lt (t := 49) (f := 28) rfl rfl rfl (fun c25 => ?_) (fun c25 => ?_)
      · refine w_iconst (x := Int32.ofInt (-1)) rfl rfl (by decide) ?_
        exact w_iret rfl rfl rfl rfl rfl
      · refine w_iload_n rfl rfl rfl ?_
        refine w_iconst (x := Int32.ofNat 4) rfl rfl (by decide) ?_
        refine w_ic_gt (t := 49) (f := 33) rfl rfl rfl (fun c30 => ?_) (fun c30 => ?_)
        · refine w_iconst (x := Int32.ofInt (-1)) rfl rfl (by decide) ?_
          exact w_iret rfl rfl rfl rfl rfl
        · refine w_iload_n rfl rfl rfl ?_
          refine w_if_lt (t := 49) (f := 37) rfl rfl rfl (fun c34 => ?_) (fun c34 => ?_)
          · refine w_iconst (x := Int32.ofInt (-1)) rfl rfl (by decide) ?_
            exact w_iret rfl rfl rfl rfl rfl
          · refine w_iload_n rfl rfl rfl ?_
            refine w_sipush (x := Int32.ofNat 200) rfl rfl (by decide) ?_
            refine w_ic_gt (t := 49) (f := 44) rfl rfl rfl (fun c41 => ?_) (fun c41 => ?_)
            · refine w_iconst (x := Int32.ofInt (-1)) rfl rfl (by decide) ?_
              exact w_iret rfl rfl rfl rfl rfl
            · refine w_iload rfl rfl rfl ?_
              refine w_if_ne (t := 51) (f := 49) rfl rfl rfl (fun c46 => absurd c46 (by decide)) (fun c46 => ?_)
              clear c46
              refine w_iconst (x := Int32.ofInt (-1)) rfl rfl (by decide) ?_
              exact w_iret rfl rfl rfl rfl rfl
    · refine w_iconst (x := Int32.ofNat 1) rfl rfl (by decide) ?_
      refine w_goto (pc' := 22) rfl rfl ?_
      refine w_istore (L' := [_, _, _, _, _]) rfl rfl rfl ?_
      refine w_iload_n rfl rfl rfl ?_
      refine w_if_lt (t := 49) (f := 28) rfl rfl rfl (fun c25 => ?_) (fun c25 => ?_)
      · refine w_iconst (x := Int32.ofInt (-1)) rfl rfl (by decide) ?_
        exact w_iret rfl rfl rfl rfl rfl
      · refine w_iload_n rfl rfl rfl ?_
        refine w_iconst (x := Int32.ofNat 4) rfl rfl (by decide) ?_
        refine w_ic_gt (t := 49) (f := 33) rfl rfl rfl (fun c30 => ?_) (fun c30 => ?_)
        · refine w_iconst (x := Int32.ofInt (-1)) rfl rfl (by decide) ?_
          exact w_iret rfl rfl rfl rfl rfl
        · refine w_iload_n rfl rfl rfl ?_
          refine w_if_lt (t := 49) (f := 37) rfl rfl rfl (fun c34 => ?_) (fun c34 => ?_)
          · refine w_iconst (x := Int32.ofInt (-1)) rfl rfl (by decide) ?_
            exact w_iret rfl rfl rfl rfl rfl
          · refine w_iload_n rfl rfl rfl ?_
            refine w_sipush (x := Int32.ofNat 200) rfl rfl (by decide) ?_
            refine w_ic_gt (t := 49) (f := 44) rfl rfl rfl (fun c41 => ?_) (fun c41 => ?_)
            · refine w_iconst (x := Int32.ofInt (-1)) rfl rfl (by decide) ?_
              exact w_iret rfl rfl rfl rfl rfl
            · refine w_iload rfl rfl rfl ?_
              refine w_if_ne (t := 51) (f := 49) rfl rfl rfl (fun c46 => ?_) (fun c46 => absurd c46 (by decide))
              clear c46
              exact (hx ⟨⟨c25, c30⟩, ⟨c34, c41⟩, fun e => by first | exact absurd e c2 | exact c46, fun e => by first | exact absurd c2 e | exact c14⟩).elim
  · refine w_aload_n rfl rfl rfl ?_
    refine w_iload_n rfl rfl rfl ?_
    refine w_cv (q := am_m162) (as := [_]) (rest := []) (st' := [_]) rfl rfl rfl rfl rfl rfl sp0 rfl rfl rfl rfl (d_isShip hT h0 (by omega)) rfl rfl ?_
    refine w_goto (pc' := 22) rfl rfl ?_
    refine w_istore (L' := [_, _, _, _, _]) rfl rfl rfl ?_
    refine w_iload_n rfl rfl rfl ?_
    refine w_if_lt (t := 49) (f := 28) rfl rfl rfl (fun c25 => ?_) (fun c25 => ?_)
    · refine w_iconst (x := Int32.ofInt (-1)) rfl rfl (by decide) ?_
      exact w_iret rfl rfl rfl rfl rfl
    · refine w_iload_n rfl rfl rfl ?_
      refine w_iconst (x := Int32.ofNat 4) rfl rfl (by decide) ?_
      refine w_ic_gt (t := 49) (f := 33) rfl rfl rfl (fun c30 => ?_) (fun c30 => ?_)
      · refine w_iconst (x := Int32.ofInt (-1)) rfl rfl (by decide) ?_
        exact w_iret rfl rfl rfl rfl rfl
      · refine w_iload_n rfl rfl rfl ?_
        refine w_if_lt (t := 49) (f := 37) rfl rfl rfl (fun c34 => ?_) (fun c34 => ?_)
        · refine w_iconst (x := Int32.ofInt (-1)) rfl rfl (by decide) ?_
          exact w_iret rfl rfl rfl rfl rfl
        · refine w_iload_n rfl rfl rfl ?_
          refine w_sipush (x := Int32.ofNat 200) rfl rfl (by decide) ?_
          refine w_ic_gt (t := 49) (f := 44) rfl rfl rfl (fun c41 => ?_) (fun c41 => ?_)
          · refine w_iconst (x := Int32.ofInt (-1)) rfl rfl (by decide) ?_
            exact w_iret rfl rfl rfl rfl rfl
          · refine w_iload rfl rfl rfl ?_
            refine w_if_neB (t := 51) (f := 49) rfl rfl rfl (fun c46 => ?_) (fun c46 => ?_)
            · exact (hx ⟨⟨c25, c30⟩, ⟨c34, c41⟩, fun e => by first | exact absurd e c2 | exact c46, fun e => by first | exact absurd c2 e | exact c14⟩).elim
            · refine w_iconst (x := Int32.ofInt (-1)) rfl rfl (by decide) ?_
              exact w_iret rfl rfl rfl rfl rfl
def k_chS (T : Nat) (N : Nat → Nat) (n s : Nat) (p : Int32 × Int64 × hI × hJ) : Int32 × Int64 × hI × hJ :=
  (fun (q : hI × hJ) => ((if q.1 81 s = Int32.ofNat 2 then p.1 + Int32.ofInt 1 else p.1), q.2 77 1, q)) (k_days T 77 N n (k_stt p.2.2.1 T (Int32.ofNat s) (Int32.ofNat 0), am_u (am_u p.2.2.2 77 1 (p.2.2.2 63 1)) 77 1 p.2.1))
def k_chL (T : Nat) (N : Nat → Nat) (n s : Nat) (j : Nat) (p : Int32 × Int64 × hI × hJ) : Int32 × Int64 × hI × hJ := s_for (fun _ p => k_chS T N n s p) j p
theorem k_chL_s (T : Nat) (N : Nat → Nat) (n s : Nat) (j : Nat) (p : Int32 × Int64 × hI × hJ) : k_chL T N n s (j + 1) p = k_chS T N n s (k_chL T N n s j p) := rfl
theorem k_chL_t {T : Nat} {N : Nat → Nat} {n s : Nat} {p : Int32 × Int64 × hI × hJ} (hT : T = 9 ∨ T = 36) (t : ctk p.2.2.1 T N) : ∀ j, ctk (k_chL T N n s j p).2.2.1 T N := by
  intro j
  induction j with
  | zero => exact t
  | succ j ih => exact ctk_F hT (cF_tr cF_stt (cF_days (Or.inr (Or.inr rfl)))) ih
