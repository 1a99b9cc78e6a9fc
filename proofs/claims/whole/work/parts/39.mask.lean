/-! The reference: counted things, a trial laid, what is told of one thing. -/
theorem am_oN0 {r : Nat} (h : r < 2147483648) : ¬ Int32.ofNat r < 0 := by
  rw [Int32.lt_iff_toInt_lt, Int32.toInt_ofNat_of_lt h]
  show ¬ (r : Int) < 0
  omega
theorem isok {x : Int32} {r n : Nat} (hr : r < n) (hn : n ≤ 1000) (h : x = Int32.ofNat n) : ¬ ¬ (¬ Int32.ofNat r < 0 ∧ Int32.ofNat r < x) := by
  subst h
  exact not_not_intro ⟨am_oN0 (by omega), (am_ltN (by omega) (by omega)).mpr hr⟩
theorem inok {a r c : Nat} (h1 : a ≤ r) (h2 : r ≤ c) (hn : c < 2147483648) : ¬ ¬ (¬ Int32.ofNat r < Int32.ofNat a ∧ ¬ Int32.ofNat c < Int32.ofNat r) := not_not_intro ⟨fun z => absurd ((am_ltN (by omega) (by omega)).mp z) (by omega), fun z => absurd ((am_ltN (by omega) (by omega)).mp z) (by omega)⟩
def m_z (I : hI) : hI := am_u I 110 2 (Int32.ofNat 0)
theorem tok_z {I : hI} {N : Nat → Nat} (t : tok I N) : tok (m_z I) N := tok_c (fun a i z => by unfold m_z am_u; rw [if_neg (by omega)]) t
def m_cR (I : hI) (b n : Nat) (x : Int32) : Int32 := s_for (fun r a => a + (if I 138 (8 * b + r) = x then Int32.ofNat 1 else Int32.ofNat 0)) n (Int32.ofNat 0)
def m_cS (I : hI) (b n : Nat) (x : Int32) : Int32 := s_for (fun r a => a + (if I 141 (5 * b + r) = x then Int32.ofNat 1 else Int32.ofNat 0)) n (Int32.ofNat 0)
def m_hA (I : hI) (b n : Nat) : Int32 := s_for (fun r a => a + I 143 (5 * b + r)) n (Int32.ofNat 0)
theorem l_areRopes {k : Nat} {I : hI} {J : hJ} {R : hR} {q : Option Value × am_H} {b n : Nat} {x : Int32} (hb : b ≤ 1) (hn : n ≤ 8) (h13 : I 110 13 = Int32.ofNat n) (Z : wz k 12 (some .int) am_c233 44 [.ref 110, .int (Int32.ofNat b), .int x, .int (m_cR I b n x), .int (Int32.ofNat n)] [] I J R q) : ∀ (j r : Nat) , r + j = n → wz k 12 (some .int) am_c233 5 [.ref 110, .int (Int32.ofNat b), .int x, .int (m_cR I b r x), .int (Int32.ofNat r)] [] I J R q := by
  intro j
  induction j with
  | zero =>
    intro r e
    obtain rfl : n = r := by omega
    refine w_iload rfl rfl rfl ?_
    refine w_aload_n rfl rfl rfl ?_
    refine w_gf (t := .int 0) (v := .int _) rfl rfl rfl sp110 rfl (congrArg Value.int h13) rfl ?_
    refine w_ic_geN (t := 44) (f := 14) rfl rfl rfl (by omega) (by omega) (fun c11 => ?_) (fun c11 => absurd c11 (by omega))
    exact Z
  | succ j ih =>
    intro r e
    refine w_iload rfl rfl rfl ?_
    refine w_aload_n rfl rfl rfl ?_
    refine w_gf (t := .int 0) (v := .int _) rfl rfl rfl sp110 rfl (congrArg Value.int h13) rfl ?_
    refine w_ic_geN (t := 44) (f := 14) rfl rfl rfl (by omega) (by omega) (fun c11 => absurd c11 (by omega)) (fun c11 => ?_)
    refine w_iload_n rfl rfl rfl ?_
    refine w_aload_n rfl rfl rfl ?_
    refine w_gf (t := .ref (138)) (v := .ref (138)) rfl rfl rfl sp110 rfl rfl rfl ?_
    refine w_bipush (x := Int32.ofNat 8) rfl rfl (by decide) ?_
    refine w_iload_n rfl rfl rfl ?_
    refine w_imulN rfl rfl ?_
    refine w_iload rfl rfl rfl ?_
    refine w_iaddN rfl rfl ?_
    refine w_iaload rfl rfl sp138 rfl ⟨by omega, by omega⟩ rfl ?_
    refine w_iload_n rfl rfl rfl ?_
    refine w_ic_ne (t := 35) (f := 31) rfl rfl rfl (fun c28 => ?_) (fun c28 => ?_)
    · refine w_iconst (x := Int32.ofNat 0) rfl rfl (by decide) ?_
      refine w_iadd rfl rfl ?_
      refine w_istore_n (L' := [_, _, _, _, _]) rfl rfl rfl ?_
      refine w_iinc (L' := [_, _, _, _, _]) rfl rfl rfl (am_incN 1) rfl ?_
      refine w_goto (pc' := 5) rfl rfl ?_
      exact wz_L (ih (r + 1) (by omega)) (by simp only [m_cR, s_for, c28, ite_true, ite_false])
    · refine w_iconst (x := Int32.ofNat 1) rfl rfl (by decide) ?_
      refine w_goto (pc' := 36) rfl rfl ?_
      refine w_iadd rfl rfl ?_
      refine w_istore_n (L' := [_, _, _, _, _]) rfl rfl rfl ?_
      refine w_iinc (L' := [_, _, _, _, _]) rfl rfl rfl (am_incN 1) rfl ?_
      refine w_goto (pc' := 5) rfl rfl ?_
      exact wz_L (ih (r + 1) (by omega)) (by simp only [m_cR, s_for, c28, ite_true, ite_false])
theorem c_areRopes {k : Nat} {I : hI} {J : hJ} {R : hR} {b n : Nat} {x : Int32} (hb : b ≤ 1) (hn : n ≤ 8) (h13 : I 110 13 = Int32.ofNat n) (hk : 1 ≤ k) : ct k 233 [.ref 110, .int (Int32.ofNat b), .int x] I J R (some (.int (m_cR I b n x))) I J R := by
  obtain ⟨k, rfl⟩ : ∃ k', k = k' + 1 := ⟨k - 1, by omega⟩
  refine ct_of (q := am_m233) (L := [_, _, _, _, _]) rfl rfl rfl rfl rfl rfl ?_
  refine w_iconst (x := Int32.ofNat 0) rfl rfl (by decide) ?_
  refine w_istore_n (L' := [_, _, _, _, _]) rfl rfl rfl ?_
  refine w_iconst (x := Int32.ofNat 0) rfl rfl (by decide) ?_
  refine w_istore (L' := [_, _, _, _, _]) rfl rfl rfl ?_
  refine l_areRopes hb hn h13 ?_ n 0 (by omega)
  refine w_iload_n rfl rfl rfl ?_
  exact w_iret rfl rfl rfl rfl rfl
theorem l_areShips {k : Nat} {I : hI} {J : hJ} {R : hR} {q : Option Value × am_H} {b n : Nat} {x : Int32} (hb : b ≤ 1) (hn : n ≤ 5) (h14 : I 110 14 = Int32.ofNat n) (Z : wz k 12 (some .int) am_c234 43 [.ref 110, .int (Int32.ofNat b), .int x, .int (m_cS I b n x), .int (Int32.ofNat n)] [] I J R q) : ∀ (j r : Nat) , r + j = n → wz k 12 (some .int) am_c234 5 [.ref 110, .int (Int32.ofNat b), .int x, .int (m_cS I b r x), .int (Int32.ofNat r)] [] I J R q := by
  intro j
  induction j with
  | zero =>
    intro r e
    obtain rfl : n = r := by omega
    refine w_iload rfl rfl rfl ?_
    refine w_aload_n rfl rfl rfl ?_
    refine w_gf (t := .int 0) (v := .int _) rfl rfl rfl sp110 rfl (congrArg Value.int h14) rfl ?_
    refine w_ic_geN (t := 43) (f := 14) rfl rfl rfl (by omega) (by omega) (fun c11 => ?_) (fun c11 => absurd c11 (by omega))
    exact Z
  | succ j ih =>
    intro r e
    refine w_iload rfl rfl rfl ?_
    refine w_aload_n rfl rfl rfl ?_
    refine w_gf (t := .int 0) (v := .int _) rfl rfl rfl sp110 rfl (congrArg Value.int h14) rfl ?_
    refine w_ic_geN (t := 43) (f := 14) rfl rfl rfl (by omega) (by omega) (fun c11 => absurd c11 (by omega)) (fun c11 => ?_)
    refine w_iload_n rfl rfl rfl ?_
    refine w_aload_n rfl rfl rfl ?_
    refine w_gf (t := .ref (141)) (v := .ref (141)) rfl rfl rfl sp110 rfl rfl rfl ?_
    refine w_iconst (x := Int32.ofNat 5) rfl rfl (by decide) ?_
    refine w_iload_n rfl rfl rfl ?_
    refine w_imulN rfl rfl ?_
    refine w_iload rfl rfl rfl ?_
    refine w_iaddN rfl rfl ?_
    refine w_iaload rfl rfl sp141 rfl ⟨by omega, by omega⟩ rfl ?_
    refine w_iload_n rfl rfl rfl ?_
    refine w_ic_ne (t := 34) (f := 30) rfl rfl rfl (fun c27 => ?_) (fun c27 => ?_)
    · refine w_iconst (x := Int32.ofNat 0) rfl rfl (by decide) ?_
      refine w_iadd rfl rfl ?_
      refine w_istore_n (L' := [_, _, _, _, _]) rfl rfl rfl ?_
      refine w_iinc (L' := [_, _, _, _, _]) rfl rfl rfl (am_incN 1) rfl ?_
      refine w_goto (pc' := 5) rfl rfl ?_
      exact wz_L (ih (r + 1) (by omega)) (by simp only [m_cS, s_for, c27, ite_true, ite_false])
    · refine w_iconst (x := Int32.ofNat 1) rfl rfl (by decide) ?_
      refine w_goto (pc' := 35) rfl rfl ?_
      refine w_iadd rfl rfl ?_
      refine w_istore_n (L' := [_, _, _, _, _]) rfl rfl rfl ?_
      refine w_iinc (L' := [_, _, _, _, _]) rfl rfl rfl (am_incN 1) rfl ?_
      refine w_goto (pc' := 5) rfl rfl ?_
      exact wz_L (ih (r + 1) (by omega)) (by simp only [m_cS, s_for, c27, ite_true, ite_false])
theorem c_areShips {k : Nat} {I : hI} {J : hJ} {R : hR} {b n : Nat} {x : Int32} (hb : b ≤ 1) (hn : n ≤ 5) (h14 : I 110 14 = Int32.ofNat n) (hk : 1 ≤ k) : ct k 234 [.ref 110, .int (Int32.ofNat b), .int x] I J R (some (.int (m_cS I b n x))) I J R := by
  obtain ⟨k, rfl⟩ : ∃ k', k = k' + 1 := ⟨k - 1, by omega⟩
  refine ct_of (q := am_m234) (L := [_, _, _, _, _]) rfl rfl rfl rfl rfl rfl ?_
  refine w_iconst (x := Int32.ofNat 0) rfl rfl (by decide) ?_
  refine w_istore_n (L' := [_, _, _, _, _]) rfl rfl rfl ?_
  refine w_iconst (x := Int32.ofNat 0) rfl rfl (by decide) ?_
  refine w_istore (L' := [_, _, _, _, _]) rfl rfl rfl ?_
  refine l_areShips hb hn h14 ?_ n 0 (by omega)
  refine w_iload_n rfl rfl rfl ?_
  exact w_iret rfl rfl rfl rfl rfl
theorem l_homeAll {k : Nat} {I : hI} {J : hJ} {R : hR} {q : Option Value × am_H} {b n : Nat} (hb : b ≤ 1) (hn : n ≤ 5) (h14 : I 110 14 = Int32.ofNat n) (Z : wz k 12 (some .int) am_c235 31 [.ref 110, .int (Int32.ofNat b), .int (m_hA I b n), .int (Int32.ofNat n)] [] I J R q) : ∀ (j r : Nat) , r + j = n → wz k 12 (some .int) am_c235 4 [.ref 110, .int (Int32.ofNat b), .int (m_hA I b r), .int (Int32.ofNat r)] [] I J R q := by
  intro j
  induction j with
  | zero =>
    intro r e
    obtain rfl : n = r := by omega
    refine w_iload_n rfl rfl rfl ?_
    refine w_aload_n rfl rfl rfl ?_
    refine w_gf (t := .int 0) (v := .int _) rfl rfl rfl sp110 rfl (congrArg Value.int h14) rfl ?_
    refine w_ic_geN (t := 31) (f := 12) rfl rfl rfl (by omega) (by omega) (fun c9 => ?_) (fun c9 => absurd c9 (by omega))
    exact Z
  | succ j ih =>
    intro r e
    refine w_iload_n rfl rfl rfl ?_
    refine w_aload_n rfl rfl rfl ?_
    refine w_gf (t := .int 0) (v := .int _) rfl rfl rfl sp110 rfl (congrArg Value.int h14) rfl ?_
    refine w_ic_geN (t := 31) (f := 12) rfl rfl rfl (by omega) (by omega) (fun c9 => absurd c9 (by omega)) (fun c9 => ?_)
    refine w_iload_n rfl rfl rfl ?_
    refine w_aload_n rfl rfl rfl ?_
    refine w_gf (t := .ref (143)) (v := .ref (143)) rfl rfl rfl sp110 rfl rfl rfl ?_
    refine w_iconst (x := Int32.ofNat 5) rfl rfl (by decide) ?_
    refine w_iload_n rfl rfl rfl ?_
    refine w_imulN rfl rfl ?_
    refine w_iload_n rfl rfl rfl ?_
    refine w_iaddN rfl rfl ?_
    refine w_iaload rfl rfl sp143 rfl ⟨by omega, by omega⟩ rfl ?_
    refine w_iadd rfl rfl ?_
    refine w_istore_n (L' := [_, _, _, _]) rfl rfl rfl ?_
    refine w_iinc (L' := [_, _, _, _]) rfl rfl rfl (am_incN 1) rfl ?_
    refine w_goto (pc' := 4) rfl rfl ?_
    exact ih (r + 1) (by omega)
theorem c_homeAll {k : Nat} {I : hI} {J : hJ} {R : hR} {b n : Nat} (hb : b ≤ 1) (hn : n ≤ 5) (h14 : I 110 14 = Int32.ofNat n) (hk : 1 ≤ k) : ct k 235 [.ref 110, .int (Int32.ofNat b)] I J R (some (.int (m_hA I b n))) I J R := by
  obtain ⟨k, rfl⟩ : ∃ k', k = k' + 1 := ⟨k - 1, by omega⟩
  refine ct_of (q := am_m235) (L := [_, _, _, _]) rfl rfl rfl rfl rfl rfl ?_
  refine w_iconst (x := Int32.ofNat 0) rfl rfl (by decide) ?_
  refine w_istore_n (L' := [_, _, _, _]) rfl rfl rfl ?_
  refine w_iconst (x := Int32.ofNat 0) rfl rfl (by decide) ?_
  refine w_istore_n (L' := [_, _, _, _]) rfl rfl rfl ?_
  refine l_homeAll hb hn h14 ?_ n 0 (by omega)
  refine w_iload_n rfl rfl rfl ?_
  exact w_iret rfl rfl rfl rfl rfl
theorem c_thrown {k : Nat} {I : hI} {J : hJ} {R : hR}  (hk : 1 ≤ k) : ct k 166 [.ref 110] I J R (some (.int (I 110 2))) I J R := by
  obtain ⟨k, rfl⟩ : ∃ k', k = k' + 1 := ⟨k - 1, by omega⟩
  refine ct_of (q := am_m166) (L := [_]) rfl rfl rfl rfl rfl rfl ?_
  refine w_aload_n rfl rfl rfl ?_
  refine w_gf (t := .int 0) (v := .int _) rfl rfl rfl sp110 rfl (congrArg Value.int rfl) rfl ?_
  exact w_iret rfl rfl rfl rfl rfl
theorem c_fails {k : Nat} {I : hI} {J : hJ} {R : hR} {x : Int32} (hk : 1 ≤ k) : ct k 236 [.ref 110, .int x] I J R (some (.int 0)) (am_u I 110 2 x) J R := by
  obtain ⟨k, rfl⟩ : ∃ k', k = k' + 1 := ⟨k - 1, by omega⟩
  refine ct_of (q := am_m236) (L := [_, _]) rfl rfl rfl rfl rfl rfl ?_
  refine w_aload_n rfl rfl rfl ?_
  refine w_iload_n rfl rfl rfl ?_
  refine w_pf rfl rfl rfl sp110 rfl rfl rfl ?_
  refine w_iconst (x := Int32.ofNat 0) rfl rfl (by decide) ?_
  exact w_iret rfl rfl rfl rfl rfl
def m_rope (I : hI) (r : Nat) (w : Int32) : Int32 := if w = Int32.ofNat 0 then I 119 r else if w = Int32.ofNat 1 then I 120 r else if w = Int32.ofNat 2 then I 138 r else if w = Int32.ofNat 3 then I 139 r else if w = Int32.ofNat 4 then (if I 140 r < 0 then Int32.ofInt (-2) else I 140 r) else 0
def m_ropeT (w : Int32) : Int32 := if w = Int32.ofNat 0 ∨ w = Int32.ofNat 1 ∨ w = Int32.ofNat 2 ∨ w = Int32.ofNat 3 ∨ w = Int32.ofNat 4 then Int32.ofNat 0 else Int32.ofNat 2
theorem c_rope {k : Nat} {I : hI} {J : hJ} {R : hR} {N : Nat → Nat} (t : tok I N) {r : Nat} (hr : r < N 1) {w : Int32} (hk : 2 ≤ k) : ct k 237 [.ref 110, .int (Int32.ofNat r), .int w] I J R (some (.int (m_rope I r w))) (am_u I 110 2 (m_ropeT w)) J R := by
  obtain ⟨k, rfl⟩ : ∃ k', k = k' + 1 := ⟨k - 1, by omega⟩
  have hn := t.1.2.1
  have h13 := t.2.1.2.1
  refine ct_of (q := am_m237) (L := [_, _, _]) rfl rfl rfl rfl rfl rfl ?_
  refine w_aload_n rfl rfl rfl ?_
  refine w_iconst (x := Int32.ofNat 0) rfl rfl (by decide) ?_
  refine w_pf rfl rfl rfl sp110 rfl rfl rfl ?_
  refine w_aload_n rfl rfl rfl ?_
  refine w_iload_n rfl rfl rfl ?_
  refine w_cv (q := am_m215) (as := [_]) (rest := []) (st' := [_]) rfl rfl rfl rfl rfl rfl sp110 rfl rfl rfl rfl (c_isRope (by omega)) rfl rfl ?_
  refine w_if_neB (t := 19) (f := 13) rfl rfl rfl (fun c10 => ?_) (fun c10 => absurd c10 (isok hr (by omega) ((am_u_nk (by decide)).trans h13)))
  refine w_iload_n rfl rfl rfl ?_
  refine w_ts (lo := 0) (hi := 4) (d := 105) rfl rfl (by decide) (fun sw => ?_) (fun n h1 h2 sw => ?_)
  · refine w_aload_n rfl rfl rfl ?_
    refine w_iconst (x := Int32.ofNat 2) rfl rfl (by decide) ?_
    refine w_cv (q := am_m236) (as := [_]) (rest := []) (st' := [_]) rfl rfl rfl rfl rfl rfl sp110 rfl rfl rfl rfl (c_fails (by omega)) rfl rfl ?_
    exact w_iret rfl (by first | (simp +decide only [m_rope, *, ite_true, ite_false] <;> rfl) | (simp +decide only [m_rope, sw 0 (by decide) (by decide), sw 1 (by decide) (by decide), sw 2 (by decide) (by decide), sw 3 (by decide) (by decide), sw 4 (by decide) (by decide), ite_true, ite_false] <;> rfl)) (by first | (simp +decide only [m_ropeT, sw, ite_true, ite_false] <;> rfl) | (rw [am_u_uu]; simp +decide only [m_ropeT, sw 0 (by decide) (by decide), sw 1 (by decide) (by decide), sw 2 (by decide) (by decide), sw 3 (by decide) (by decide), sw 4 (by decide) (by decide), or_self, ite_true, ite_false] <;> rfl)) rfl rfl
  · have h3 : n = 0 ∨ n = 1 ∨ n = 2 ∨ n = 3 ∨ n = 4 := by omega
    rcases h3 with rfl | rfl | rfl | rfl | rfl
    · refine ⟨56, rfl, ?_⟩
      refine w_aload_n rfl rfl rfl ?_
      refine w_gf (t := .ref (119)) (v := .ref (119)) rfl rfl rfl sp110 rfl rfl rfl ?_
      refine w_iload_n rfl rfl rfl ?_
      refine w_iaload rfl rfl sp119 rfl ⟨by omega, by omega⟩ (congrFun (am_u_ne (by decide)) _) ?_
      exact w_iret rfl (by first | (simp +decide only [m_rope, *, ite_true, ite_false] <;> rfl) | (simp +decide only [m_rope, sw 0 (by decide) (by decide), sw 1 (by decide) (by decide), sw 2 (by decide) (by decide), sw 3 (by decide) (by decide), sw 4 (by decide) (by decide), ite_true, ite_false] <;> rfl)) (by first | (simp +decide only [m_ropeT, sw, ite_true, ite_false] <;> rfl) | (rw [am_u_uu]; simp +decide only [m_ropeT, sw 0 (by decide) (by decide), sw 1 (by decide) (by decide), sw 2 (by decide) (by decide), sw 3 (by decide) (by decide), sw 4 (by decide) (by decide), or_self, ite_true, ite_false] <;> rfl)) rfl rfl
    · refine ⟨63, rfl, ?_⟩
      refine w_aload_n rfl rfl rfl ?_
      refine w_gf (t := .ref (120)) (v := .ref (120)) rfl rfl rfl sp110 rfl rfl rfl ?_
      refine w_iload_n rfl rfl rfl ?_
      refine w_iaload rfl rfl sp120 rfl ⟨by omega, by omega⟩ (congrFun (am_u_ne (by decide)) _) ?_
      exact w_iret rfl (by first | (simp +decide only [m_rope, *, ite_true, ite_false] <;> rfl) | (simp +decide only [m_rope, sw 0 (by decide) (by decide), sw 1 (by decide) (by decide), sw 2 (by decide) (by decide), sw 3 (by decide) (by decide), sw 4 (by decide) (by decide), ite_true, ite_false] <;> rfl)) (by first | (simp +decide only [m_ropeT, sw, ite_true, ite_false] <;> rfl) | (rw [am_u_uu]; simp +decide only [m_ropeT, sw 0 (by decide) (by decide), sw 1 (by decide) (by decide), sw 2 (by decide) (by decide), sw 3 (by decide) (by decide), sw 4 (by decide) (by decide), or_self, ite_true, ite_false] <;> rfl)) rfl rfl
    · refine ⟨70, rfl, ?_⟩
      refine w_aload_n rfl rfl rfl ?_
      refine w_gf (t := .ref (138)) (v := .ref (138)) rfl rfl rfl sp110 rfl rfl rfl ?_
      refine w_iload_n rfl rfl rfl ?_
      refine w_iaload rfl rfl sp138 rfl ⟨by omega, by omega⟩ (congrFun (am_u_ne (by decide)) _) ?_
      exact w_iret rfl (by first | (simp +decide only [m_rope, *, ite_true, ite_false] <;> rfl) | (simp +decide only [m_rope, sw 0 (by decide) (by decide), sw 1 (by decide) (by decide), sw 2 (by decide) (by decide), sw 3 (by decide) (by decide), sw 4 (by decide) (by decide), ite_true, ite_false] <;> rfl)) (by first | (simp +decide only [m_ropeT, sw, ite_true, ite_false] <;> rfl) | (rw [am_u_uu]; simp +decide only [m_ropeT, sw 0 (by decide) (by decide), sw 1 (by decide) (by decide), sw 2 (by decide) (by decide), sw 3 (by decide) (by decide), sw 4 (by decide) (by decide), or_self, ite_true, ite_false] <;> rfl)) rfl rfl
    · refine ⟨77, rfl, ?_⟩
      refine w_aload_n rfl rfl rfl ?_
      refine w_gf (t := .ref (139)) (v := .ref (139)) rfl rfl rfl sp110 rfl rfl rfl ?_
      refine w_iload_n rfl rfl rfl ?_
      refine w_iaload rfl rfl sp139 rfl ⟨by omega, by omega⟩ (congrFun (am_u_ne (by decide)) _) ?_
      exact w_iret rfl (by first | (simp +decide only [m_rope, *, ite_true, ite_false] <;> rfl) | (simp +decide only [m_rope, sw 0 (by decide) (by decide), sw 1 (by decide) (by decide), sw 2 (by decide) (by decide), sw 3 (by decide) (by decide), sw 4 (by decide) (by decide), ite_true, ite_false] <;> rfl)) (by first | (simp +decide only [m_ropeT, sw, ite_true, ite_false] <;> rfl) | (rw [am_u_uu]; simp +decide only [m_ropeT, sw 0 (by decide) (by decide), sw 1 (by decide) (by decide), sw 2 (by decide) (by decide), sw 3 (by decide) (by decide), sw 4 (by decide) (by decide), or_self, ite_true, ite_false] <;> rfl)) rfl rfl
    · refine ⟨84, rfl, ?_⟩
      refine w_aload_n rfl rfl rfl ?_
      refine w_gf (t := .ref (140)) (v := .ref (140)) rfl rfl rfl sp110 rfl rfl rfl ?_
      refine w_iload_n rfl rfl rfl ?_
      refine w_iaload rfl rfl sp140 rfl ⟨by omega, by omega⟩ (congrFun (am_u_ne (by decide)) _) ?_
      refine w_if_ge (t := 98) (f := 93) rfl rfl rfl (fun c90 => ?_) (fun c90 => ?_)
      · refine w_aload_n rfl rfl rfl ?_
        refine w_gf (t := .ref (140)) (v := .ref (140)) rfl rfl rfl sp110 rfl rfl rfl ?_
        refine w_iload_n rfl rfl rfl ?_
        refine w_iaload rfl rfl sp140 rfl ⟨by omega, by omega⟩ (congrFun (am_u_ne (by decide)) _) ?_
        exact w_iret rfl (by first | (simp +decide only [m_rope, *, ite_true, ite_false] <;> rfl) | (simp +decide only [m_rope, sw 0 (by decide) (by decide), sw 1 (by decide) (by decide), sw 2 (by decide) (by decide), sw 3 (by decide) (by decide), sw 4 (by decide) (by decide), ite_true, ite_false] <;> rfl)) (by first | (simp +decide only [m_ropeT, sw, ite_true, ite_false] <;> rfl) | (rw [am_u_uu]; simp +decide only [m_ropeT, sw 0 (by decide) (by decide), sw 1 (by decide) (by decide), sw 2 (by decide) (by decide), sw 3 (by decide) (by decide), sw 4 (by decide) (by decide), or_self, ite_true, ite_false] <;> rfl)) rfl rfl
      · refine w_bipush (x := Int32.ofInt (-2)) rfl rfl (by decide) ?_
        refine w_goto (pc' := 104) rfl rfl ?_
        exact w_iret rfl (by first | (simp +decide only [m_rope, *, ite_true, ite_false] <;> rfl) | (simp +decide only [m_rope, sw 0 (by decide) (by decide), sw 1 (by decide) (by decide), sw 2 (by decide) (by decide), sw 3 (by decide) (by decide), sw 4 (by decide) (by decide), ite_true, ite_false] <;> rfl)) (by first | (simp +decide only [m_ropeT, sw, ite_true, ite_false] <;> rfl) | (rw [am_u_uu]; simp +decide only [m_ropeT, sw 0 (by decide) (by decide), sw 1 (by decide) (by decide), sw 2 (by decide) (by decide), sw 3 (by decide) (by decide), sw 4 (by decide) (by decide), or_self, ite_true, ite_false] <;> rfl)) rfl rfl
theorem c_rope_no {k : Nat} {I : hI} {J : hJ} {R : hR} {x w : Int32} (hx : ¬ (¬ x < 0 ∧ x < I 110 13)) (hk : 2 ≤ k) : ct k 237 [.ref 110, .int x, .int w] I J R (some (.int 0)) (am_u I 110 2 (Int32.ofNat 1)) J R := by
  obtain ⟨k, rfl⟩ : ∃ k', k = k' + 1 := ⟨k - 1, by omega⟩
  refine ct_of (q := am_m237) (L := [_, _, _]) rfl rfl rfl rfl rfl rfl ?_
  refine w_aload_n rfl rfl rfl ?_
  refine w_iconst (x := Int32.ofNat 0) rfl rfl (by decide) ?_
  refine w_pf rfl rfl rfl sp110 rfl rfl rfl ?_
  refine w_aload_n rfl rfl rfl ?_
  refine w_iload_n rfl rfl rfl ?_
  refine w_cv (q := am_m215) (as := [_]) (rest := []) (st' := [_]) rfl rfl rfl rfl rfl rfl sp110 rfl rfl rfl rfl (c_isRope (by omega)) rfl rfl ?_
  refine w_if_neB (t := 19) (f := 13) rfl rfl rfl (fun c10 => absurd c10 (by rw [am_u_nk (by decide)]; exact hx)) (fun c10 => ?_)
  refine w_aload_n rfl rfl rfl ?_
  refine w_iconst (x := Int32.ofNat 1) rfl rfl (by decide) ?_
  refine w_cv (q := am_m236) (as := [_]) (rest := []) (st' := [_]) rfl rfl rfl rfl rfl rfl sp110 rfl rfl rfl rfl (c_fails (by omega)) rfl rfl ?_
  exact w_iret rfl rfl (am_u_uu _ _ _ _ _) rfl rfl
def m_sbits (I : hI) (n : Nat) (s : Int32) : Int32 := s_for (fun r a => a ||| (if I 140 r = s then Int32.ofNat 1 <<< (Int32.ofNat r &&& 31) else Int32.ofNat 0)) n (Int32.ofNat 0)
def m_ship (I : hI) (n s : Nat) (w : Int32) : Int32 := if w = Int32.ofNat 0 then I 124 s else if w = Int32.ofNat 1 then I 141 s else if w = Int32.ofNat 2 then I 142 s else if w = Int32.ofNat 3 then I 143 s else if w = Int32.ofNat 4 then m_bear I 0 n (Int32.ofNat s) else if w = Int32.ofNat 5 then m_mood I 0 n (Int32.ofNat s) else if w = Int32.ofNat 6 then m_sbits I n (Int32.ofNat s) else Int32.ofInt (-1)
theorem l_ship {k : Nat} {I : hI} {J : hJ} {R : hR} {q : Option Value × am_H} {n s : Nat} {w : Int32} (hn : n ≤ 8) (h13 : I 110 13 = Int32.ofNat n) (Z : wz k 12 (some .int) am_c238 57 [.ref 110, .int (Int32.ofNat s), .int w, .int (m_sbits I n (Int32.ofNat s)), .int (Int32.ofNat n)] [] I J R q) : ∀ (j r : Nat) , r + j = n → wz k 12 (some .int) am_c238 20 [.ref 110, .int (Int32.ofNat s), .int w, .int (m_sbits I r (Int32.ofNat s)), .int (Int32.ofNat r)] [] I J R q := by
  intro j
  induction j with
  | zero =>
    intro r e
    obtain rfl : n = r := by omega
    refine w_iload rfl rfl rfl ?_
    refine w_aload_n rfl rfl rfl ?_
    refine w_gf (t := .int 0) (v := .int _) rfl rfl rfl sp110 rfl (congrArg Value.int h13) rfl ?_
    refine w_ic_geN (t := 57) (f := 29) rfl rfl rfl (by omega) (by omega) (fun c26 => ?_) (fun c26 => absurd c26 (by omega))
    exact Z
  | succ j ih =>
    intro r e
    refine w_iload rfl rfl rfl ?_
    refine w_aload_n rfl rfl rfl ?_
    refine w_gf (t := .int 0) (v := .int _) rfl rfl rfl sp110 rfl (congrArg Value.int h13) rfl ?_
    refine w_ic_geN (t := 57) (f := 29) rfl rfl rfl (by omega) (by omega) (fun c26 => absurd c26 (by omega)) (fun c26 => ?_)
    refine w_iload_n rfl rfl rfl ?_
    refine w_aload_n rfl rfl rfl ?_
    refine w_gf (t := .ref (140)) (v := .ref (140)) rfl rfl rfl sp110 rfl rfl rfl ?_
    refine w_iload rfl rfl rfl ?_
    refine w_iaload rfl rfl sp140 rfl ⟨by omega, by omega⟩ rfl ?_
    refine w_iload_n rfl rfl rfl ?_
    refine w_ic_ne (t := 48) (f := 41) rfl rfl rfl (fun c38 => ?_) (fun c38 => ?_)
    · refine w_iconst (x := Int32.ofNat 0) rfl rfl (by decide) ?_
      refine w_ior rfl rfl ?_
      refine w_istore_n (L' := [_, _, _, _, _]) rfl rfl rfl ?_
      refine w_iinc (L' := [_, _, _, _, _]) rfl rfl rfl (am_incN 1) rfl ?_
      refine w_goto (pc' := 20) rfl rfl ?_
      exact wz_L (ih (r + 1) (by omega)) (by simp only [m_sbits, s_for, c38, ite_true, ite_false])
    · refine w_iconst (x := Int32.ofNat 1) rfl rfl (by decide) ?_
      refine w_iload rfl rfl rfl ?_
      refine w_ishl rfl rfl ?_
      refine w_goto (pc' := 49) rfl rfl ?_
      refine w_ior rfl rfl ?_
      refine w_istore_n (L' := [_, _, _, _, _]) rfl rfl rfl ?_
      refine w_iinc (L' := [_, _, _, _, _]) rfl rfl rfl (am_incN 1) rfl ?_
      refine w_goto (pc' := 20) rfl rfl ?_
      exact wz_L (ih (r + 1) (by omega)) (by simp only [m_sbits, s_for, c38, ite_true, ite_false])
theorem c_ship {k : Nat} {I : hI} {J : hJ} {R : hR} {N : Nat → Nat} (t : tok I N) {s : Nat} (hs : s < N 2) {w : Int32} (hk : 3 ≤ k) : ct k 238 [.ref 110, .int (Int32.ofNat s), .int w] I J R (some (.int (m_ship (m_z I) (N 1) s w))) (m_z I) J R := by
  obtain ⟨k, rfl⟩ : ∃ k', k = k' + 1 := ⟨k - 1, by omega⟩
  have t1 := tok_z t
  have hn := t.1.2.1
  have h13 := t1.2.1.2.1
  have hm := t.1.2.2.1
  have h14 := t.2.1.2.2.1
  refine ct_of (q := am_m238) (L := [_, _, _, _, _]) rfl rfl rfl rfl rfl rfl ?_
  refine w_aload_n rfl rfl rfl ?_
  refine w_iconst (x := Int32.ofNat 0) rfl rfl (by decide) ?_
  refine w_pf rfl rfl rfl sp110 rfl rfl rfl ?_
  refine w_aload_n rfl rfl rfl ?_
  refine w_iload_n rfl rfl rfl ?_
  refine w_cv (q := am_m216) (as := [_]) (rest := []) (st' := [_]) rfl rfl rfl rfl rfl rfl sp110 rfl rfl rfl rfl (c_isShip (by omega)) rfl rfl ?_
  refine w_if_neB (t := 15) (f := 13) rfl rfl rfl (fun c10 => ?_) (fun c10 => absurd c10 (isok hs (by omega) ((am_u_nk (by decide)).trans h14)))
  refine w_iconst (x := Int32.ofNat 0) rfl rfl (by decide) ?_
  refine w_istore_n (L' := [_, _, _, _, _]) rfl rfl rfl ?_
  refine w_iconst (x := Int32.ofNat 0) rfl rfl (by decide) ?_
  refine w_istore (L' := [_, _, _, _, _]) rfl rfl rfl ?_
  refine l_ship (I := m_z I) hn h13 ?_ (N 1) 0 (by omega)
  refine w_iload_n rfl rfl rfl ?_
  refine w_ts (lo := 0) (hi := 6) (d := 144) rfl rfl (by decide) (fun sw => ?_) (fun n h1 h2 sw => ?_)
  · refine w_iconst (x := Int32.ofInt (-1)) rfl rfl (by decide) ?_
    exact w_iret rfl (by first | (simp +decide only [m_ship, *, ite_true, ite_false] <;> rfl) | (simp +decide only [m_ship, sw 0 (by decide) (by decide), sw 1 (by decide) (by decide), sw 2 (by decide) (by decide), sw 3 (by decide) (by decide), sw 4 (by decide) (by decide), sw 5 (by decide) (by decide), sw 6 (by decide) (by decide), ite_true, ite_false] <;> rfl)) rfl rfl rfl
  · have h3 : n = 0 ∨ n = 1 ∨ n = 2 ∨ n = 3 ∨ n = 4 ∨ n = 5 ∨ n = 6 := by omega
    rcases h3 with rfl | rfl | rfl | rfl | rfl | rfl | rfl
    · refine ⟨100, rfl, ?_⟩
      refine w_aload_n rfl rfl rfl ?_
      refine w_gf (t := .ref (124)) (v := .ref (124)) rfl rfl rfl sp110 rfl rfl rfl ?_
      refine w_iload_n rfl rfl rfl ?_
      refine w_iaload rfl rfl sp124 rfl ⟨by omega, by omega⟩ rfl ?_
      exact w_iret rfl (by first | (simp +decide only [m_ship, *, ite_true, ite_false] <;> rfl) | (simp +decide only [m_ship, sw 0 (by decide) (by decide), sw 1 (by decide) (by decide), sw 2 (by decide) (by decide), sw 3 (by decide) (by decide), sw 4 (by decide) (by decide), sw 5 (by decide) (by decide), sw 6 (by decide) (by decide), ite_true, ite_false] <;> rfl)) rfl rfl rfl
    · refine ⟨107, rfl, ?_⟩
      refine w_aload_n rfl rfl rfl ?_
      refine w_gf (t := .ref (141)) (v := .ref (141)) rfl rfl rfl sp110 rfl rfl rfl ?_
      refine w_iload_n rfl rfl rfl ?_
      refine w_iaload rfl rfl sp141 rfl ⟨by omega, by omega⟩ rfl ?_
      exact w_iret rfl (by first | (simp +decide only [m_ship, *, ite_true, ite_false] <;> rfl) | (simp +decide only [m_ship, sw 0 (by decide) (by decide), sw 1 (by decide) (by decide), sw 2 (by decide) (by decide), sw 3 (by decide) (by decide), sw 4 (by decide) (by decide), sw 5 (by decide) (by decide), sw 6 (by decide) (by decide), ite_true, ite_false] <;> rfl)) rfl rfl rfl
    · refine ⟨114, rfl, ?_⟩
      refine w_aload_n rfl rfl rfl ?_
      refine w_gf (t := .ref (142)) (v := .ref (142)) rfl rfl rfl sp110 rfl rfl rfl ?_
      refine w_iload_n rfl rfl rfl ?_
      refine w_iaload rfl rfl sp142 rfl ⟨by omega, by omega⟩ rfl ?_
      exact w_iret rfl (by first | (simp +decide only [m_ship, *, ite_true, ite_false] <;> rfl) | (simp +decide only [m_ship, sw 0 (by decide) (by decide), sw 1 (by decide) (by decide), sw 2 (by decide) (by decide), sw 3 (by decide) (by decide), sw 4 (by decide) (by decide), sw 5 (by decide) (by decide), sw 6 (by decide) (by decide), ite_true, ite_false] <;> rfl)) rfl rfl rfl
    · refine ⟨121, rfl, ?_⟩
      refine w_aload_n rfl rfl rfl ?_
      refine w_gf (t := .ref (143)) (v := .ref (143)) rfl rfl rfl sp110 rfl rfl rfl ?_
      refine w_iload_n rfl rfl rfl ?_
      refine w_iaload rfl rfl sp143 rfl ⟨by omega, by omega⟩ rfl ?_
      exact w_iret rfl (by first | (simp +decide only [m_ship, *, ite_true, ite_false] <;> rfl) | (simp +decide only [m_ship, sw 0 (by decide) (by decide), sw 1 (by decide) (by decide), sw 2 (by decide) (by decide), sw 3 (by decide) (by decide), sw 4 (by decide) (by decide), sw 5 (by decide) (by decide), sw 6 (by decide) (by decide), ite_true, ite_false] <;> rfl)) rfl rfl rfl
    · refine ⟨128, rfl, ?_⟩
      refine w_aload_n rfl rfl rfl ?_
      refine w_iconst (x := Int32.ofNat 0) rfl rfl (by decide) ?_
      refine w_iload_n rfl rfl rfl ?_
      refine w_cv (q := am_m219) (as := [_, _]) (rest := []) (st' := [_]) rfl rfl rfl rfl rfl rfl sp110 rfl rfl rfl rfl (c_bearOf (b := 0) (by decide) hn h13 (by omega)) rfl rfl ?_
      exact w_iret rfl (by first | (simp +decide only [m_ship, *, ite_true, ite_false] <;> rfl) | (simp +decide only [m_ship, sw 0 (by decide) (by decide), sw 1 (by decide) (by decide), sw 2 (by decide) (by decide), sw 3 (by decide) (by decide), sw 4 (by decide) (by decide), sw 5 (by decide) (by decide), sw 6 (by decide) (by decide), ite_true, ite_false] <;> rfl)) rfl rfl rfl
    · refine ⟨135, rfl, ?_⟩
      refine w_aload_n rfl rfl rfl ?_
      refine w_iconst (x := Int32.ofNat 0) rfl rfl (by decide) ?_
      refine w_iload_n rfl rfl rfl ?_
      refine w_cv (q := am_m220) (as := [_, _]) (rest := []) (st' := [_]) rfl rfl rfl rfl rfl rfl sp110 rfl rfl rfl rfl (c_moodOf (b := 0) (by decide) hn h13 t1.2.2.1 (by omega)) rfl rfl ?_
      exact w_iret rfl (by first | (simp +decide only [m_ship, *, ite_true, ite_false] <;> rfl) | (simp +decide only [m_ship, sw 0 (by decide) (by decide), sw 1 (by decide) (by decide), sw 2 (by decide) (by decide), sw 3 (by decide) (by decide), sw 4 (by decide) (by decide), sw 5 (by decide) (by decide), sw 6 (by decide) (by decide), ite_true, ite_false] <;> rfl)) rfl rfl rfl
    · refine ⟨142, rfl, ?_⟩
      refine w_iload_n rfl rfl rfl ?_
      exact w_iret rfl (by first | (simp +decide only [m_ship, *, ite_true, ite_false] <;> rfl) | (simp +decide only [m_ship, sw 0 (by decide) (by decide), sw 1 (by decide) (by decide), sw 2 (by decide) (by decide), sw 3 (by decide) (by decide), sw 4 (by decide) (by decide), sw 5 (by decide) (by decide), sw 6 (by decide) (by decide), ite_true, ite_false] <;> rfl)) rfl rfl rfl
theorem c_ship_no {k : Nat} {I : hI} {J : hJ} {R : hR} {x w : Int32} (hx : ¬ (¬ x < 0 ∧ x < I 110 14)) (hk : 2 ≤ k) : ct k 238 [.ref 110, .int x, .int w] I J R (some (.int (Int32.ofInt (-1)))) (m_z I) J R := by
  obtain ⟨k, rfl⟩ : ∃ k', k = k' + 1 := ⟨k - 1, by omega⟩
  refine ct_of (q := am_m238) (L := [_, _, _, _, _]) rfl rfl rfl rfl rfl rfl ?_
  refine w_aload_n rfl rfl rfl ?_
  refine w_iconst (x := Int32.ofNat 0) rfl rfl (by decide) ?_
  refine w_pf rfl rfl rfl sp110 rfl rfl rfl ?_
  refine w_aload_n rfl rfl rfl ?_
  refine w_iload_n rfl rfl rfl ?_
  refine w_cv (q := am_m216) (as := [_]) (rest := []) (st' := [_]) rfl rfl rfl rfl rfl rfl sp110 rfl rfl rfl rfl (c_isShip (by omega)) rfl rfl ?_
  refine w_if_neB (t := 15) (f := 13) rfl rfl rfl (fun c10 => absurd c10 (by rw [am_u_nk (by decide)]; exact hx)) (fun c10 => ?_)
  refine w_iconst (x := Int32.ofInt (-1)) rfl rfl (by decide) ?_
  exact w_iret rfl rfl rfl rfl rfl
def m_maker (I : hI) (m : Nat) (w : Int32) : Int32 := if w = 0 then I 116 m else if w = Int32.ofNat 1 then I 117 m else Int32.ofInt (-1)
theorem c_maker {k : Nat} {I : hI} {J : hJ} {R : hR} {N : Nat → Nat} (t : tok I N) {m : Nat} (hm : m < N 0) {w : Int32} (hk : 2 ≤ k) : ct k 239 [.ref 110, .int (Int32.ofNat m), .int w] I J R (some (.int (m_maker I m w))) (m_z I) J R := by
  obtain ⟨k, rfl⟩ : ∃ k', k = k' + 1 := ⟨k - 1, by omega⟩
  have hn := t.1.1
  have h12 := t.2.1.1
  refine ct_of (q := am_m239) (L := [_, _, _]) rfl rfl rfl rfl rfl rfl ?_
  refine w_aload_n rfl rfl rfl ?_
  refine w_iconst (x := Int32.ofNat 0) rfl rfl (by decide) ?_
  refine w_pf rfl rfl rfl sp110 rfl rfl rfl ?_
  refine w_aload_n rfl rfl rfl ?_
  refine w_iload_n rfl rfl rfl ?_
  refine w_cv (q := am_m214) (as := [_]) (rest := []) (st' := [_]) rfl rfl rfl rfl rfl rfl sp110 rfl rfl rfl rfl (c_isMaker (by omega)) rfl rfl ?_
  refine w_if_neB (t := 17) (f := 13) rfl rfl rfl (fun c10 => ?_) (fun c10 => absurd c10 (isok hm (by omega) ((am_u_nk (by decide)).trans h12)))
  refine w_iload_n rfl rfl rfl ?_
  refine w_if_ne (t := 30) (f := 21) rfl rfl rfl (fun c18 => ?_) (fun c18 => ?_)
  · refine w_iload_n rfl rfl rfl ?_
    refine w_iconst (x := Int32.ofNat 1) rfl rfl (by decide) ?_
    refine w_ic_ne (t := 44) (f := 35) rfl rfl rfl (fun c32 => ?_) (fun c32 => ?_)
    · refine w_iconst (x := Int32.ofInt (-1)) rfl rfl (by decide) ?_
      exact w_iret rfl (by simp only [m_maker, *, ite_true, ite_false, and_self, and_true, true_and, and_false, false_and, or_true, true_or, or_false, false_or, not_true, not_false_iff] <;> rfl) rfl rfl rfl
    · refine w_aload_n rfl rfl rfl ?_
      refine w_gf (t := .ref (117)) (v := .ref (117)) rfl rfl rfl sp110 rfl rfl rfl ?_
      refine w_iload_n rfl rfl rfl ?_
      refine w_iaload rfl rfl sp117 rfl ⟨by omega, by omega⟩ (congrFun (am_u_ne (by decide)) _) ?_
      refine w_goto (pc' := 45) rfl rfl ?_
      exact w_iret rfl (by simp only [m_maker, *, ite_true, ite_false, and_self, and_true, true_and, and_false, false_and, or_true, true_or, or_false, false_or, not_true, not_false_iff] <;> rfl) rfl rfl rfl
  · refine w_aload_n rfl rfl rfl ?_
    refine w_gf (t := .ref (116)) (v := .ref (116)) rfl rfl rfl sp110 rfl rfl rfl ?_
    refine w_iload_n rfl rfl rfl ?_
    refine w_iaload rfl rfl sp116 rfl ⟨by omega, by omega⟩ (congrFun (am_u_ne (by decide)) _) ?_
    refine w_goto (pc' := 45) rfl rfl ?_
    exact w_iret rfl (by simp only [m_maker, *, ite_true, ite_false, and_self, and_true, true_and, and_false, false_and, or_true, true_or, or_false, false_or, not_true, not_false_iff] <;> rfl) rfl rfl rfl
theorem c_maker_no {k : Nat} {I : hI} {J : hJ} {R : hR} {x w : Int32} (hx : ¬ (¬ x < 0 ∧ x < I 110 12)) (hk : 2 ≤ k) : ct k 239 [.ref 110, .int x, .int w] I J R (some (.int (Int32.ofInt (-1)))) (m_z I) J R := by
  obtain ⟨k, rfl⟩ : ∃ k', k = k' + 1 := ⟨k - 1, by omega⟩
  refine ct_of (q := am_m239) (L := [_, _, _]) rfl rfl rfl rfl rfl rfl ?_
  refine w_aload_n rfl rfl rfl ?_
  refine w_iconst (x := Int32.ofNat 0) rfl rfl (by decide) ?_
  refine w_pf rfl rfl rfl sp110 rfl rfl rfl ?_
  refine w_aload_n rfl rfl rfl ?_
  refine w_iload_n rfl rfl rfl ?_
  refine w_cv (q := am_m214) (as := [_]) (rest := []) (st' := [_]) rfl rfl rfl rfl rfl rfl sp110 rfl rfl rfl rfl (c_isMaker (by omega)) rfl rfl ?_
  refine w_if_neB (t := 17) (f := 13) rfl rfl rfl (fun c10 => absurd c10 (by rw [am_u_nk (by decide)]; exact hx)) (fun c10 => ?_)
  refine w_iconst (x := Int32.ofInt (-1)) rfl rfl (by decide) ?_
  refine w_goto (pc' := 45) rfl rfl ?_
  exact w_iret rfl rfl rfl rfl rfl
theorem c_isFree {k : Nat} {I : hI} {J : hJ} {R : hR} {r : Nat} (hr : r < 8) (hk : 1 ≤ k) : ct k 250 [.ref 110, .int (Int32.ofNat r)] I J R (some (.int (if I 138 r = Int32.ofNat 1 ∧ I 140 r < 0 then 1 else 0))) I J R := by
  obtain ⟨k, rfl⟩ : ∃ k', k = k' + 1 := ⟨k - 1, by omega⟩
  refine ct_of (q := am_m250) (L := [_, _]) rfl rfl rfl rfl rfl rfl ?_
  refine w_aload_n rfl rfl rfl ?_
  refine w_gf (t := .ref (138)) (v := .ref (138)) rfl rfl rfl sp110 rfl rfl rfl ?_
  refine w_iload_n rfl rfl rfl ?_
  refine w_iaload rfl rfl sp138 rfl ⟨by omega, by omega⟩ rfl ?_
  refine w_iconst (x := Int32.ofNat 1) rfl rfl (by decide) ?_
  refine w_ic_ne (t := 23) (f := 10) rfl rfl rfl (fun c7 => ?_) (fun c7 => ?_)
  · refine w_iconst (x := Int32.ofNat 0) rfl rfl (by decide) ?_
    exact w_bret rfl (by decide) (by simp only [*, ite_true, ite_false, and_self, and_true, true_and, and_false, false_and, or_true, true_or, or_false, false_or, not_true, not_false_iff] <;> rfl) rfl rfl rfl
  · refine w_aload_n rfl rfl rfl ?_
    refine w_gf (t := .ref (140)) (v := .ref (140)) rfl rfl rfl sp110 rfl rfl rfl ?_
    refine w_iload_n rfl rfl rfl ?_
    refine w_iaload rfl rfl sp140 rfl ⟨by omega, by omega⟩ rfl ?_
    refine w_if_ge (t := 23) (f := 19) rfl rfl rfl (fun c16 => ?_) (fun c16 => ?_)
    · refine w_iconst (x := Int32.ofNat 0) rfl rfl (by decide) ?_
      exact w_bret rfl (by decide) (by simp only [*, ite_true, ite_false, and_self, and_true, true_and, and_false, false_and, or_true, true_or, or_false, false_or, not_true, not_false_iff] <;> rfl) rfl rfl rfl
    · refine w_iconst (x := Int32.ofNat 1) rfl rfl (by decide) ?_
      refine w_goto (pc' := 24) rfl rfl ?_
      exact w_bret rfl (by decide) (by simp only [*, ite_true, ite_false, and_self, and_true, true_and, and_false, false_and, or_true, true_or, or_false, false_or, not_true, not_false_iff] <;> rfl) rfl rfl rfl
def m_many (x : Int32) : Nat → Int32
  | 0 => Int32.ofNat 0
  | r + 1 => m_many x r + ((x >>> (Int32.ofNat r &&& 31)) &&& Int32.ofNat 1)
theorem l_manyOf {k : Nat} {I : hI} {J : hJ} {R : hR} {q : Option Value × am_H} {x : Int32} (Z : wz k 12 (some .int) am_c251 24 [.int x, .int (m_many x 10), .int (Int32.ofNat 10)] [] I J R q) : ∀ (j r : Nat) , r + j = 10 → wz k 12 (some .int) am_c251 4 [.int x, .int (m_many x r), .int (Int32.ofNat r)] [] I J R q := by
  intro j
  induction j with
  | zero =>
    intro r e
    obtain rfl : 10 = r := by omega
    refine w_iload_n rfl rfl rfl ?_
    refine w_bipush (x := Int32.ofNat 10) rfl rfl (by decide) ?_
    refine w_ic_geN (t := 24) (f := 10) rfl rfl rfl (by omega) (by omega) (fun c7 => ?_) (fun c7 => absurd c7 (by omega))
    exact Z
  | succ j ih =>
    intro r e
    refine w_iload_n rfl rfl rfl ?_
    refine w_bipush (x := Int32.ofNat 10) rfl rfl (by decide) ?_
    refine w_ic_geN (t := 24) (f := 10) rfl rfl rfl (by omega) (by omega) (fun c7 => absurd c7 (by omega)) (fun c7 => ?_)
    refine w_iload_n rfl rfl rfl ?_
    refine w_iload_n rfl rfl rfl ?_
    refine w_iload_n rfl rfl rfl ?_
    refine w_ishr rfl rfl ?_
    refine w_iconst (x := Int32.ofNat 1) rfl rfl (by decide) ?_
    refine w_iand rfl rfl ?_
    refine w_iadd rfl rfl ?_
    refine w_istore_n (L' := [_, _, _]) rfl rfl rfl ?_
    refine w_iinc (L' := [_, _, _]) rfl rfl rfl (am_incN 1) rfl ?_
    refine w_goto (pc' := 4) rfl rfl ?_
    exact ih (r + 1) (by omega)
theorem c_manyOf {k : Nat} {I : hI} {J : hJ} {R : hR} {x : Int32} (hk : 1 ≤ k) : ct k 251 [.int x] I J R (some (.int (m_many x 10))) I J R := by
  obtain ⟨k, rfl⟩ : ∃ k', k = k' + 1 := ⟨k - 1, by omega⟩
  refine ct_of (q := am_m251) (L := [_, _, _]) rfl rfl rfl rfl rfl rfl ?_
  refine w_iconst (x := Int32.ofNat 0) rfl rfl (by decide) ?_
  refine w_istore_n (L' := [_, _, _]) rfl rfl rfl ?_
  refine w_iconst (x := Int32.ofNat 0) rfl rfl (by decide) ?_
  refine w_istore_n (L' := [_, _, _]) rfl rfl rfl ?_
  refine l_manyOf ?_ 10 0 (by omega)
  refine w_iload_n rfl rfl rfl ?_
  exact w_iret rfl rfl rfl rfl rfl
theorem c_knownBy {k : Nat} {I : hI} {J : hJ} {R : hR}  (hk : 1 ≤ k) : ct k 270 [.ref 110] I J R (some (.int (if I 110 80 < 0 then I 110 79 else I 110 80))) I J R := by
  obtain ⟨k, rfl⟩ : ∃ k', k = k' + 1 := ⟨k - 1, by omega⟩
  refine ct_of (q := am_m270) (L := [_]) rfl rfl rfl rfl rfl rfl ?_
  refine w_aload_n rfl rfl rfl ?_
  refine w_gf (t := .int 0) (v := .int _) rfl rfl rfl sp110 rfl (congrArg Value.int rfl) rfl ?_
  refine w_if_ge (t := 14) (f := 7) rfl rfl rfl (fun c4 => ?_) (fun c4 => ?_)
  · refine w_aload_n rfl rfl rfl ?_
    refine w_gf (t := .int 0) (v := .int _) rfl rfl rfl sp110 rfl (congrArg Value.int rfl) rfl ?_
    exact w_iret rfl (by simp only [*, ite_true, ite_false, and_self, and_true, true_and, and_false, false_and, or_true, true_or, or_false, false_or, not_true, not_false_iff] <;> rfl) rfl rfl rfl
  · refine w_aload_n rfl rfl rfl ?_
    refine w_gf (t := .int 0) (v := .int _) rfl rfl rfl sp110 rfl (congrArg Value.int rfl) rfl ?_
    refine w_goto (pc' := 18) rfl rfl ?_
    exact w_iret rfl (by simp only [*, ite_true, ite_false, and_self, and_true, true_and, and_false, false_and, or_true, true_or, or_false, false_or, not_true, not_false_iff] <;> rfl) rfl rfl rfl
def m_isOf (x : Int32) (r : Nat) : Prop := (x >>> (Int32.ofNat r &&& 31)) &&& Int32.ofNat 1 = Int32.ofNat 1
def m_isOfD (x : Int32) (r : Nat) : Decidable (m_isOf x r) := inferInstanceAs (Decidable (_ = _))
/-- yards of a set from a rope on; none: one isn't free -/
def m_yd (I : hI) (x : Int32) : Nat → Nat → Int32 → Int32
  | 0, _, a => a
  | j + 1, r, a => if (x >>> (Int32.ofNat r &&& 31)) &&& Int32.ofNat 1 = Int32.ofNat 1 then (if I 138 r = Int32.ofNat 1 ∧ I 140 r < 0 then m_yd I x j (r + 1) (a + I 120 r) else Int32.ofInt (-1)) else m_yd I x j (r + 1) a
theorem m_yd_s (I : hI) (x : Int32) (j r : Nat) (a : Int32) : m_yd I x (j + 1) r a = if (x >>> (Int32.ofNat r &&& 31)) &&& Int32.ofNat 1 = Int32.ofNat 1 then (if I 138 r = Int32.ofNat 1 ∧ I 140 r < 0 then m_yd I x j (r + 1) (a + I 120 r) else Int32.ofInt (-1)) else m_yd I x j (r + 1) a := rfl
theorem l_yardsOf {k : Nat} {I : hI} {J : hJ} {R : hR} {n : Nat} {x : Int32} (hn : n ≤ 8) (h13 : I 110 13 = Int32.ofNat n) (hk : 1 ≤ k) : ∀ (j r : Nat) (a : Int32), r + j = n → wz k 12 (some .int) am_c252 4 [.ref 110, .int x, .int a, .int (Int32.ofNat r)] [] I J R (some (.int (m_yd I x j r a)), am_hp I J R) := by
  intro j
  induction j with
  | zero =>
    intro r a e
    obtain rfl : n = r := by omega
    refine w_iload_n rfl rfl rfl ?_
    refine w_aload_n rfl rfl rfl ?_
    refine w_gf (t := .int 0) (v := .int _) rfl rfl rfl sp110 rfl (congrArg Value.int h13) rfl ?_
    refine w_ic_geN (t := 48) (f := 12) rfl rfl rfl (by omega) (by omega) (fun c9 => ?_) (fun c9 => absurd c9 (by omega))
    refine w_iload_n rfl rfl rfl ?_
    exact w_iret rfl rfl rfl rfl rfl
  | succ j ih =>
    intro r a e
    refine w_iload_n rfl rfl rfl ?_
    refine w_aload_n rfl rfl rfl ?_
    refine w_gf (t := .int 0) (v := .int _) rfl rfl rfl sp110 rfl (congrArg Value.int h13) rfl ?_
    refine w_ic_geN (t := 48) (f := 12) rfl rfl rfl (by omega) (by omega) (fun c9 => absurd c9 (by omega)) (fun c9 => ?_)
    refine w_iload_n rfl rfl rfl ?_
    refine w_iload_n rfl rfl rfl ?_
    refine w_cs (q := am_m169) (na := 2) (as := [_, _]) (st' := [_]) rfl rfl rfl rfl (by decide) rfl rfl (Nat.le_of_ble_eq_true rfl) rfl rfl rfl (c_isOf hk) rfl rfl ?_
    refine w_if_neB (t := 23) (f := 20) rfl rfl rfl (fun c17 => ?_) (fun c17 => ?_)
    · refine w_aload_n rfl rfl rfl ?_
      refine w_iload_n rfl rfl rfl ?_
      refine w_cv (q := am_m250) (as := [_]) (rest := []) (st' := [_]) rfl rfl rfl rfl rfl rfl sp110 rfl rfl rfl rfl (c_isFree (by omega) hk) rfl rfl ?_
      refine w_if_neB (t := 33) (f := 31) rfl rfl rfl (fun c28 => ?_) (fun c28 => ?_)
      · refine w_iload_n rfl rfl rfl ?_
        refine w_aload_n rfl rfl rfl ?_
        refine w_gf (t := .ref (120)) (v := .ref (120)) rfl rfl rfl sp110 rfl rfl rfl ?_
        refine w_iload_n rfl rfl rfl ?_
        refine w_iaload rfl rfl sp120 rfl ⟨by omega, by omega⟩ rfl ?_
        refine w_iadd rfl rfl ?_
        refine w_istore_n (L' := [_, _, _, _]) rfl rfl rfl ?_
        refine w_iinc (L' := [_, _, _, _]) rfl rfl rfl (am_incN 1) rfl ?_
        refine w_goto (pc' := 4) rfl rfl ?_
        exact wz_r (ih (r + 1) _ (by omega)) (by rw [m_yd_s]; first | rw [if_pos c17, if_pos c28] | rw [if_neg c17])
      · refine w_iconst (x := Int32.ofInt (-1)) rfl rfl (by decide) ?_
        exact w_iret rfl (by rw [m_yd_s, if_pos c17, if_neg c28]) rfl rfl rfl
    · refine w_goto (pc' := 42) rfl rfl ?_
      refine w_iinc (L' := [_, _, _, _]) rfl rfl rfl (am_incN 1) rfl ?_
      refine w_goto (pc' := 4) rfl rfl ?_
      exact wz_r (ih (r + 1) _ (by omega)) (by rw [m_yd_s]; first | rw [if_pos c17, if_pos c28] | rw [if_neg c17])
theorem c_yardsOf {k : Nat} {I : hI} {J : hJ} {R : hR} {n : Nat} {x : Int32} (hn : n ≤ 8) (h13 : I 110 13 = Int32.ofNat n) (hk : 2 ≤ k) : ct k 252 [.ref 110, .int x] I J R (some (.int (m_yd I x n 0 (Int32.ofNat 0)))) I J R := by
  obtain ⟨k, rfl⟩ : ∃ k', k = k' + 1 := ⟨k - 1, by omega⟩
  refine ct_of (q := am_m252) (L := [_, _, _, _]) rfl rfl rfl rfl rfl rfl ?_
  refine w_iconst (x := Int32.ofNat 0) rfl rfl (by decide) ?_
  refine w_istore_n (L' := [_, _, _, _]) rfl rfl rfl ?_
  refine w_iconst (x := Int32.ofNat 0) rfl rfl (by decide) ?_
  refine w_istore_n (L' := [_, _, _, _]) rfl rfl rfl ?_
  exact l_yardsOf hn h13 (by omega) n 0 _ (by omega)
