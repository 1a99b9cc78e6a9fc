/-! The class: names, numbers read. -/
/-- an address of names, and how many there may be -/
def nmA (A m : Nat) : Prop := (A = 10 ∧ m = 6) ∨ (A = 14 ∧ m = 8) ∨ (A = 20 ∧ m = 5) ∨ (A = 37 ∧ m = 6) ∨ (A = 41 ∧ m = 8) ∨ (A = 47 ∧ m = 5)
theorem nmA_0 {A m : Nat} (h : nmA A m) : am_shL[A]? = some (.inr (.inl (5, [.ref (A + 1), .int 0]))) := by
  rcases h with ⟨rfl, rfl⟩ | ⟨rfl, rfl⟩ | ⟨rfl, rfl⟩ | ⟨rfl, rfl⟩ | ⟨rfl, rfl⟩ | ⟨rfl, rfl⟩ <;> rfl
theorem nmA_1 {A m : Nat} (h : nmA A m) : am_shL[A + 1]? = some (.inl (.int, false, m)) := by
  rcases h with ⟨rfl, rfl⟩ | ⟨rfl, rfl⟩ | ⟨rfl, rfl⟩ | ⟨rfl, rfl⟩ | ⟨rfl, rfl⟩ | ⟨rfl, rfl⟩ <;> rfl
theorem nmA_g {A m : Nat} (h : nmA A m) : 9 < A ∧ A < 48 ∧ 5 ≤ m ∧ m ≤ 8 := by unfold nmA at h; omega
theorem nmA_T1 {T : Nat} (h : T = 9 ∨ T = 36) : nmA (T + 1) 6 := by unfold nmA; omega
theorem nmA_T5 {T : Nat} (h : T = 9 ∨ T = 36) : nmA (T + 5) 8 := by unfold nmA; omega
theorem nmA_T11 {T : Nat} (h : T = 9 ∨ T = 36) : nmA (T + 11) 5 := by unfold nmA; omega
def k_na (I : hI) (A n : Nat) (x : Int32) : hI := am_u (am_u I (A + 1) n x) A 1 (Int32.ofNat (n + 1))
theorem d_nadd {k : Nat} {I : hI} {J : hJ} {R : hR} {A m : Nat} (hA : nmA A m) {n : Nat} {x : Int32} (hn : n < m) (h1 : I A 1 = Int32.ofNat n) (hk : 2 ≤ k) : ct k 50 [.ref A, .int x] I J R none (k_na I A n x) J R := by
  obtain ⟨k, rfl⟩ : ∃ k', k = k' + 1 := ⟨k - 1, by omega⟩
  have g := nmA_g hA
  refine ct_of (q := am_m50) (o := 5) (rt := none) (co := am_c50) (L := [_, _]) rfl rfl rfl rfl rfl rfl ?_
  refine w_aload_n rfl rfl rfl ?_
  refine w_cv (q := am_m48) (as := []) (rest := []) (st' := [_]) rfl rfl rfl rfl rfl rfl (nmA_0 hA) rfl rfl rfl rfl (d_isFull (nmA_0 hA) (nmA_1 hA) (by omega) (by omega)) rfl rfl ?_
  refine w_if_neB (t := 27) (f := 7) rfl rfl rfl (fun c4 => absurd c4 (not_not_intro (by rw [h1]; exact (am_ltN (by omega) (by omega)).mpr hn))) (fun c4 => ?_)
  refine w_aload_n rfl rfl rfl ?_
  refine w_gf (t := .ref (A + 1)) (v := .ref (A + 1)) rfl rfl rfl (nmA_0 hA) rfl rfl rfl ?_
  refine w_aload_n rfl rfl rfl ?_
  refine w_gf (t := .int 0) (v := .int _) rfl rfl rfl (nmA_0 hA) rfl (congrArg Value.int h1) rfl ?_
  refine w_iload_n rfl rfl rfl ?_
  refine w_iastore rfl rfl (nmA_1 hA) rfl ⟨by omega, by omega⟩ ?_
  refine w_aload_n rfl rfl rfl ?_
  refine w_dup rfl rfl rfl ?_
  refine w_gf (t := .int 0) (v := .int _) rfl rfl rfl (nmA_0 hA) rfl (congrArg Value.int ((congrFun (am_u_ne (by omega)) _).trans h1)) rfl ?_
  refine w_iconst (x := Int32.ofNat 1) rfl rfl (by decide) ?_
  refine w_iaddN rfl rfl ?_
  refine w_pf rfl rfl rfl (nmA_0 hA) rfl rfl rfl ?_
  exact w_ret rfl rfl rfl rfl
/-- tokens can be stepped -/
def tks (I : hI) (st : Nat) : Prop := st ≤ 700 ∧ I 3 2 = Int32.ofNat st ∧ okn (I 3 3) (st + 1)
theorem d_tokS {k : Nat} {I : hI} {J : hJ} {R : hR} {st : Nat} (v : tks I st) (hB : R 3 1 = 1) (hk : 3 ≤ k) : ct k 93 [.ref 3] I J R none (u_tok I) J R := by
  unfold u_tok
  have h1 := v.1
  have h2 := v.2.2.2
  rw [nn_E v.2.1 (by omega)]
  exact d_step rfl v.2.1 v.2.2.1 (by omega) v.1 hB hk
theorem tks_tok {I : hI} {st : Nat} (v : tks I st) : tks (u_tok I) st := by
  have h1 := v.1
  have h2 := v.2.2.2
  obtain ⟨f1, f2, f3, f4, f5, f6, f7⟩ := u_tk_f (I := I) (f := I 1) (st := st) (p := nn (I 3 3))
  unfold u_tok
  rw [nn_E v.2.1 (by omega)]
  refine ⟨v.1, f1.trans v.2.1, okn_N f2 ?_ (by omega)⟩
  have := (u_one_le (g := I 4) (f := I 1) (t_at_lC (f := I 1) (show nn (I 3 3) ≤ st by omega)).2).2
  omega
theorem u_tok_ne {I : hI} {b : Nat} (h : b ≠ 3) : u_tok I b = I b := (u_tk_f (I := I) (f := I 1) (st := nn (I 3 2)) (p := nn (I 3 3))).2.2.2.2.2.1 b h
theorem u_bl_ne {I : hI} {b : Nat} {x : Int32} (h : b ≠ 3) : u_bl I x b = I b := (am_u_ne h).trans (am_u_ne h)
def k_num (I : hI) (lo hi : Int32) : Int32 × hI := if u_tok I 3 4 = Int32.ofNat 2 then (if ¬ u_tok I 3 6 < lo ∧ ¬ hi < u_tok I 3 6 then (1, u_tok I) else (0, u_bl (u_tok I) (Int32.ofNat 2))) else (0, u_bl (u_tok I) (Int32.ofNat 1))
theorem k_num1 {I : hI} {lo hi : Int32} (a : u_tok I 3 4 = Int32.ofNat 2) (b : ¬ u_tok I 3 6 < lo) (c : ¬ hi < u_tok I 3 6) : k_num I lo hi = (1, u_tok I) := (if_pos a).trans (if_pos ⟨b, c⟩)
theorem k_num2 {I : hI} {lo hi : Int32} (a : u_tok I 3 4 = Int32.ofNat 2) (b : u_tok I 3 6 < lo) : k_num I lo hi = (0, u_bl (u_tok I) (Int32.ofNat 2)) := (if_pos a).trans (if_neg fun z => z.1 b)
theorem k_num3 {I : hI} {lo hi : Int32} (a : u_tok I 3 4 = Int32.ofNat 2) (b : hi < u_tok I 3 6) : k_num I lo hi = (0, u_bl (u_tok I) (Int32.ofNat 2)) := (if_pos a).trans (if_neg fun z => z.2 b)
theorem k_num4 {I : hI} {lo hi : Int32} (a : ¬ u_tok I 3 4 = Int32.ofNat 2) : k_num I lo hi = (0, u_bl (u_tok I) (Int32.ofNat 1)) := if_neg a
theorem k_num01 {I : hI} {lo hi : Int32} : (k_num I lo hi).1 = 0 ∨ (k_num I lo hi).1 = 1 := by
  unfold k_num; repeat' split
  all_goals first | exact Or.inl rfl | exact Or.inr rfl
theorem d_readNumber {k : Nat} {I : hI} {J : hJ} {R : hR} {st : Nat} (v : tks I st) (hB : R 3 1 = 1) {lo hi : Int32} (hk : 4 ≤ k) : ct k 88 [.ref 2, .int lo, .int hi] I J R (some (.int (k_num I lo hi).1)) ((k_num I lo hi).2) J R := by
  obtain ⟨k, rfl⟩ : ∃ k', k = k' + 1 := ⟨k - 1, by omega⟩
  refine ct_of (q := am_m88) (o := 8) (rt := (some .boolean)) (co := am_c88) (L := [_, _, _]) rfl rfl rfl rfl rfl rfl ?_
  refine w_aload_n rfl rfl rfl ?_
  refine w_gf (t := .ref (3)) (v := .ref (3)) rfl rfl rfl sp2 rfl rfl rfl ?_
  refine w_cv (q := am_m93) (as := []) (rest := []) (st' := []) rfl rfl rfl rfl rfl rfl sp3 rfl rfl rfl rfl (d_tokS v hB (by omega)) rfl rfl ?_
  refine w_aload_n rfl rfl rfl ?_
  refine w_gf (t := .ref (3)) (v := .ref (3)) rfl rfl rfl sp2 rfl rfl rfl ?_
  refine w_gf (t := .int 0) (v := .int _) rfl rfl rfl sp3 rfl (congrArg Value.int rfl) rfl ?_
  refine w_iconst (x := Int32.ofNat 2) rfl rfl (by decide) ?_
  refine w_ic_eq (t := 27) (f := 18) rfl rfl rfl (fun c15 => ?_) (fun c15 => ?_)
  · refine w_aload_n rfl rfl rfl ?_
    refine w_gf (t := .ref (3)) (v := .ref (3)) rfl rfl rfl sp2 rfl rfl rfl ?_
    refine w_gf (t := .int 0) (v := .int _) rfl rfl rfl sp3 rfl (congrArg Value.int rfl) rfl ?_
    refine w_iload_n rfl rfl rfl ?_
    refine w_ic_lt (t := 49) (f := 38) rfl rfl rfl (fun c35 => ?_) (fun c35 => ?_)
    · refine w_aload_n rfl rfl rfl ?_
      refine w_gf (t := .ref (3)) (v := .ref (3)) rfl rfl rfl sp2 rfl rfl rfl ?_
      refine w_iconst (x := Int32.ofNat 2) rfl rfl (by decide) ?_
      refine w_cv (q := am_m92) (as := [_]) (rest := []) (st' := [_]) rfl rfl rfl rfl rfl rfl sp3 rfl rfl rfl rfl (d_blame (by omega)) rfl rfl ?_
      refine w_if_eq (t := 64) (f := 60) rfl rfl rfl (fun c57 => ?_) (fun c57 => absurd c57 (by decide))
      clear c57
      refine w_iconst (x := Int32.ofNat 0) rfl rfl (by decide) ?_
      exact w_bret rfl (by decide) (by (first | rw [k_num4 c15] | rw [k_num2 c15 c35] | rw [k_num3 c15 c46] | rw [k_num1 c15 c35 c46]) <;> rfl) (by (first | rw [k_num4 c15] | rw [k_num2 c15 c35] | rw [k_num3 c15 c46] | rw [k_num1 c15 c35 c46]) <;> rfl) rfl rfl
    · refine w_aload_n rfl rfl rfl ?_
      refine w_gf (t := .ref (3)) (v := .ref (3)) rfl rfl rfl sp2 rfl rfl rfl ?_
      refine w_gf (t := .int 0) (v := .int _) rfl rfl rfl sp3 rfl (congrArg Value.int rfl) rfl ?_
      refine w_iload_n rfl rfl rfl ?_
      refine w_ic_le (t := 60) (f := 49) rfl rfl rfl (fun c46 => ?_) (fun c46 => ?_)
      · refine w_iconst (x := Int32.ofNat 1) rfl rfl (by decide) ?_
        refine w_goto (pc' := 65) rfl rfl ?_
        exact w_bret rfl (by decide) (by (first | rw [k_num4 c15] | rw [k_num2 c15 c35] | rw [k_num3 c15 c46] | rw [k_num1 c15 c35 c46]) <;> rfl) (by (first | rw [k_num4 c15] | rw [k_num2 c15 c35] | rw [k_num3 c15 c46] | rw [k_num1 c15 c35 c46]) <;> rfl) rfl rfl
      · refine w_aload_n rfl rfl rfl ?_
        refine w_gf (t := .ref (3)) (v := .ref (3)) rfl rfl rfl sp2 rfl rfl rfl ?_
        refine w_iconst (x := Int32.ofNat 2) rfl rfl (by decide) ?_
        refine w_cv (q := am_m92) (as := [_]) (rest := []) (st' := [_]) rfl rfl rfl rfl rfl rfl sp3 rfl rfl rfl rfl (d_blame (by omega)) rfl rfl ?_
        refine w_if_eq (t := 64) (f := 60) rfl rfl rfl (fun c57 => ?_) (fun c57 => absurd c57 (by decide))
        clear c57
        refine w_iconst (x := Int32.ofNat 0) rfl rfl (by decide) ?_
        exact w_bret rfl (by decide) (by (first | rw [k_num4 c15] | rw [k_num2 c15 c35] | rw [k_num3 c15 c46] | rw [k_num1 c15 c35 c46]) <;> rfl) (by (first | rw [k_num4 c15] | rw [k_num2 c15 c35] | rw [k_num3 c15 c46] | rw [k_num1 c15 c35 c46]) <;> rfl) rfl rfl
  · refine w_aload_n rfl rfl rfl ?_
    refine w_gf (t := .ref (3)) (v := .ref (3)) rfl rfl rfl sp2 rfl rfl rfl ?_
    refine w_iconst (x := Int32.ofNat 1) rfl rfl (by decide) ?_
    refine w_cv (q := am_m92) (as := [_]) (rest := []) (st' := [_]) rfl rfl rfl rfl rfl rfl sp3 rfl rfl rfl rfl (d_blame (by omega)) rfl rfl ?_
    exact w_bret rfl (by decide) (by (first | rw [k_num4 c15] | rw [k_num2 c15 c35] | rw [k_num3 c15 c46] | rw [k_num1 c15 c35 c46]) <;> rfl) (by (first | rw [k_num4 c15] | rw [k_num2 c15 c35] | rw [k_num3 c15 c46] | rw [k_num1 c15 c35 c46]) <;> rfl) rfl rfl
def k_semi (I : hI) : Int32 × hI := if u_tok I 3 4 = Int32.ofNat 40 then (1, u_tok I) else (0, u_bl (u_tok I) (Int32.ofNat 1))
theorem k_semi1 {I : hI} (a : u_tok I 3 4 = Int32.ofNat 40) : k_semi I = (1, u_tok I) := if_pos a
theorem k_semi2 {I : hI} (a : ¬ u_tok I 3 4 = Int32.ofNat 40) : k_semi I = (0, u_bl (u_tok I) (Int32.ofNat 1)) := if_neg a
theorem d_readSemicolon {k : Nat} {I : hI} {J : hJ} {R : hR} {st : Nat} (v : tks I st) (hB : R 3 1 = 1) (hk : 4 ≤ k) : ct k 89 [.ref 2] I J R (some (.int (k_semi I).1)) ((k_semi I).2) J R := by
  obtain ⟨k, rfl⟩ : ∃ k', k = k' + 1 := ⟨k - 1, by omega⟩
  refine ct_of (q := am_m89) (o := 8) (rt := (some .boolean)) (co := am_c89) (L := [_]) rfl rfl rfl rfl rfl rfl ?_
  refine w_aload_n rfl rfl rfl ?_
  refine w_gf (t := .ref (3)) (v := .ref (3)) rfl rfl rfl sp2 rfl rfl rfl ?_
  refine w_cv (q := am_m93) (as := []) (rest := []) (st' := []) rfl rfl rfl rfl rfl rfl sp3 rfl rfl rfl rfl (d_tokS v hB (by omega)) rfl rfl ?_
  refine w_aload_n rfl rfl rfl ?_
  refine w_gf (t := .ref (3)) (v := .ref (3)) rfl rfl rfl sp2 rfl rfl rfl ?_
  refine w_gf (t := .int 0) (v := .int _) rfl rfl rfl sp3 rfl (congrArg Value.int rfl) rfl ?_
  refine w_bipush (x := Int32.ofNat 40) rfl rfl (by decide) ?_
  refine w_ic_eq (t := 30) (f := 19) rfl rfl rfl (fun c16 => ?_) (fun c16 => ?_)
  · refine w_iconst (x := Int32.ofNat 1) rfl rfl (by decide) ?_
    refine w_goto (pc' := 35) rfl rfl ?_
    exact w_bret rfl (by decide) (by (first | rw [k_semi1 c16] | rw [k_semi2 c16]) <;> rfl) (by (first | rw [k_semi1 c16] | rw [k_semi2 c16]) <;> rfl) rfl rfl
  · refine w_aload_n rfl rfl rfl ?_
    refine w_gf (t := .ref (3)) (v := .ref (3)) rfl rfl rfl sp2 rfl rfl rfl ?_
    refine w_iconst (x := Int32.ofNat 1) rfl rfl (by decide) ?_
    refine w_cv (q := am_m92) (as := [_]) (rest := []) (st' := [_]) rfl rfl rfl rfl rfl rfl sp3 rfl rfl rfl rfl (d_blame (by omega)) rfl rfl ?_
    refine w_if_eq (t := 34) (f := 30) rfl rfl rfl (fun c27 => ?_) (fun c27 => absurd c27 (by decide))
    clear c27
    refine w_iconst (x := Int32.ofNat 0) rfl rfl (by decide) ?_
    exact w_bret rfl (by decide) (by (first | rw [k_semi1 c16] | rw [k_semi2 c16]) <;> rfl) (by (first | rw [k_semi1 c16] | rw [k_semi2 c16]) <;> rfl) rfl rfl
abbrev k_fn (I : hI) (A n : Nat) : Int32 := m_fnd (I (A + 1)) (I 3 6) n 0
def k_told (I : hI) (A n : Nat) : Int32 × hI := if u_tok I 3 4 = Int32.ofNat 3 then (if k_fn (u_tok I) A n = Int32.ofInt (-1) then (0, u_bl (u_tok I) (Int32.ofNat 4)) else (1, u_tok I)) else (0, u_bl (u_tok I) (Int32.ofNat 1))
theorem k_told1 {I : hI} {A n : Nat} (a : u_tok I 3 4 = Int32.ofNat 3) (b : ¬ k_fn (u_tok I) A n = Int32.ofInt (-1)) : k_told I A n = (1, u_tok I) := (if_pos a).trans (if_neg b)
theorem k_told2 {I : hI} {A n : Nat} (a : u_tok I 3 4 = Int32.ofNat 3) (b : k_fn (u_tok I) A n = Int32.ofInt (-1)) : k_told I A n = (0, u_bl (u_tok I) (Int32.ofNat 4)) := (if_pos a).trans (if_pos b)
theorem k_told3 {I : hI} {A n : Nat} (a : ¬ u_tok I 3 4 = Int32.ofNat 3) : k_told I A n = (0, u_bl (u_tok I) (Int32.ofNat 1)) := if_neg a
theorem d_readToldName {k : Nat} {I : hI} {J : hJ} {R : hR} {A m : Nat} (hA : nmA A m) {st : Nat} (v : tks I st) (hB : R 3 1 = 1) {n : Nat} (hn : n ≤ m) (h1 : I A 1 = Int32.ofNat n) (hk : 4 ≤ k) : ct k 87 [.ref 2, .ref A] I J R (some (.int (k_told I A n).1)) ((k_told I A n).2) J R := by
  obtain ⟨k, rfl⟩ : ∃ k', k = k' + 1 := ⟨k - 1, by omega⟩
  have g := nmA_g hA
  refine ct_of (q := am_m87) (o := 8) (rt := (some .boolean)) (co := am_c87) (L := [_, _]) rfl rfl rfl rfl rfl rfl ?_
  refine w_aload_n rfl rfl rfl ?_
  refine w_gf (t := .ref (3)) (v := .ref (3)) rfl rfl rfl sp2 rfl rfl rfl ?_
  refine w_cv (q := am_m93) (as := []) (rest := []) (st' := []) rfl rfl rfl rfl rfl rfl sp3 rfl rfl rfl rfl (d_tokS v hB (by omega)) rfl rfl ?_
  refine w_aload_n rfl rfl rfl ?_
  refine w_gf (t := .ref (3)) (v := .ref (3)) rfl rfl rfl sp2 rfl rfl rfl ?_
  refine w_gf (t := .int 0) (v := .int _) rfl rfl rfl sp3 rfl (congrArg Value.int rfl) rfl ?_
  refine w_iconst (x := Int32.ofNat 3) rfl rfl (by decide) ?_
  refine w_ic_eq (t := 27) (f := 18) rfl rfl rfl (fun c15 => ?_) (fun c15 => ?_)
  · refine w_aload_n rfl rfl rfl ?_
    refine w_aload_n rfl rfl rfl ?_
    refine w_gf (t := .ref (3)) (v := .ref (3)) rfl rfl rfl sp2 rfl rfl rfl ?_
    refine w_gf (t := .int 0) (v := .int _) rfl rfl rfl sp3 rfl (congrArg Value.int rfl) rfl ?_
    refine w_cv (q := am_m49) (as := [_]) (rest := []) (st' := [_]) rfl rfl rfl rfl rfl rfl (nmA_0 hA) rfl rfl rfl rfl (d_find (nmA_0 hA) (nmA_1 hA) (by omega) hn ((congrFun (u_tok_ne (by omega)) 1).trans h1) (by omega)) rfl rfl ?_
    refine w_iconst (x := Int32.ofInt (-1)) rfl rfl (by decide) ?_
    refine w_ic_ne (t := 53) (f := 42) rfl rfl rfl (fun c39 => ?_) (fun c39 => ?_)
    · refine w_iconst (x := Int32.ofNat 1) rfl rfl (by decide) ?_
      refine w_goto (pc' := 58) rfl rfl ?_
      exact w_bret rfl (by decide) (by (first | rw [k_told3 c15] | rw [k_told1 c15 c39] | rw [k_told2 c15 c39]) <;> rfl) (by (first | rw [k_told3 c15] | rw [k_told1 c15 c39] | rw [k_told2 c15 c39]) <;> rfl) rfl rfl
    · refine w_aload_n rfl rfl rfl ?_
      refine w_gf (t := .ref (3)) (v := .ref (3)) rfl rfl rfl sp2 rfl rfl rfl ?_
      refine w_iconst (x := Int32.ofNat 4) rfl rfl (by decide) ?_
      refine w_cv (q := am_m92) (as := [_]) (rest := []) (st' := [_]) rfl rfl rfl rfl rfl rfl sp3 rfl rfl rfl rfl (d_blame (by omega)) rfl rfl ?_
      refine w_if_eq (t := 57) (f := 53) rfl rfl rfl (fun c50 => ?_) (fun c50 => absurd c50 (by decide))
      clear c50
      refine w_iconst (x := Int32.ofNat 0) rfl rfl (by decide) ?_
      exact w_bret rfl (by decide) (by (first | rw [k_told3 c15] | rw [k_told1 c15 c39] | rw [k_told2 c15 c39]) <;> rfl) (by (first | rw [k_told3 c15] | rw [k_told1 c15 c39] | rw [k_told2 c15 c39]) <;> rfl) rfl rfl
  · refine w_aload_n rfl rfl rfl ?_
    refine w_gf (t := .ref (3)) (v := .ref (3)) rfl rfl rfl sp2 rfl rfl rfl ?_
    refine w_iconst (x := Int32.ofNat 1) rfl rfl (by decide) ?_
    refine w_cv (q := am_m92) (as := [_]) (rest := []) (st' := [_]) rfl rfl rfl rfl rfl rfl sp3 rfl rfl rfl rfl (d_blame (by omega)) rfl rfl ?_
    exact w_bret rfl (by decide) (by (first | rw [k_told3 c15] | rw [k_told1 c15 c39] | rw [k_told2 c15 c39]) <;> rfl) (by (first | rw [k_told3 c15] | rw [k_told1 c15 c39] | rw [k_told2 c15 c39]) <;> rfl) rfl rfl
def k_new (I : hI) (A m n : Nat) : Int32 × hI := if n < m then (if u_tok I 3 4 = Int32.ofNat 3 then (if k_fn (u_tok I) A n = Int32.ofInt (-1) then (1, k_na (u_tok I) A n (u_tok I 3 6)) else (0, u_bl (u_tok I) (Int32.ofNat 3))) else (0, u_bl (u_tok I) (Int32.ofNat 1))) else (0, u_bl I (Int32.ofNat 2))
theorem k_new1 {I : hI} {A m n : Nat} (h : n < m) (a : u_tok I 3 4 = Int32.ofNat 3) (b : k_fn (u_tok I) A n = Int32.ofInt (-1)) : k_new I A m n = (1, k_na (u_tok I) A n (u_tok I 3 6)) := (if_pos h).trans ((if_pos a).trans (if_pos b))
theorem k_new2 {I : hI} {A m n : Nat} (h : n < m) (a : u_tok I 3 4 = Int32.ofNat 3) (b : ¬ k_fn (u_tok I) A n = Int32.ofInt (-1)) : k_new I A m n = (0, u_bl (u_tok I) (Int32.ofNat 3)) := (if_pos h).trans ((if_pos a).trans (if_neg b))
theorem k_new3 {I : hI} {A m n : Nat} (h : n < m) (a : ¬ u_tok I 3 4 = Int32.ofNat 3) : k_new I A m n = (0, u_bl (u_tok I) (Int32.ofNat 1)) := (if_pos h).trans (if_neg a)
theorem k_new4 {I : hI} {A m n : Nat} (h : ¬ n < m) : k_new I A m n = (0, u_bl I (Int32.ofNat 2)) := if_neg h
theorem d_readNewName {k : Nat} {I : hI} {J : hJ} {R : hR} {A m : Nat} (hA : nmA A m) {st : Nat} (v : tks I st) (hB : R 3 1 = 1) {n : Nat} (hn : n ≤ m) (h1 : I A 1 = Int32.ofNat n) (hk : 4 ≤ k) : ct k 86 [.ref 2, .ref A] I J R (some (.int (k_new I A m n).1)) ((k_new I A m n).2) J R := by
  obtain ⟨k, rfl⟩ : ∃ k', k = k' + 1 := ⟨k - 1, by omega⟩
  have g := nmA_g hA
  refine ct_of (q := am_m86) (o := 8) (rt := (some .boolean)) (co := am_c86) (L := [_, _]) rfl rfl rfl rfl rfl rfl ?_
  refine w_aload_n rfl rfl rfl ?_
  refine w_cv (q := am_m48) (as := []) (rest := []) (st' := [_]) rfl rfl rfl rfl rfl rfl (nmA_0 hA) rfl rfl rfl rfl (d_isFull (nmA_0 hA) (nmA_1 hA) (by omega) (by omega)) rfl rfl ?_
  refine w_if_eqB (t := 16) (f := 7) rfl rfl rfl (fun c4 => ?_) (fun c4 => ?_)
  · have nm : n < m := (am_ltN (by omega) (by omega)).mp (by rw [← h1]; exact Decidable.of_not_not c4)
    refine w_aload_n rfl rfl rfl ?_
    refine w_gf (t := .ref (3)) (v := .ref (3)) rfl rfl rfl sp2 rfl rfl rfl ?_
    refine w_cv (q := am_m93) (as := []) (rest := []) (st' := []) rfl rfl rfl rfl rfl rfl sp3 rfl rfl rfl rfl (d_tokS v hB (by omega)) rfl rfl ?_
    refine w_aload_n rfl rfl rfl ?_
    refine w_gf (t := .ref (3)) (v := .ref (3)) rfl rfl rfl sp2 rfl rfl rfl ?_
    refine w_gf (t := .int 0) (v := .int _) rfl rfl rfl sp3 rfl (congrArg Value.int rfl) rfl ?_
    refine w_iconst (x := Int32.ofNat 3) rfl rfl (by decide) ?_
    refine w_ic_eq (t := 43) (f := 34) rfl rfl rfl (fun c31 => ?_) (fun c31 => ?_)
    · refine w_aload_n rfl rfl rfl ?_
      refine w_aload_n rfl rfl rfl ?_
      refine w_gf (t := .ref (3)) (v := .ref (3)) rfl rfl rfl sp2 rfl rfl rfl ?_
      refine w_gf (t := .int 0) (v := .int _) rfl rfl rfl sp3 rfl (congrArg Value.int rfl) rfl ?_
      refine w_cv (q := am_m49) (as := [_]) (rest := []) (st' := [_]) rfl rfl rfl rfl rfl rfl (nmA_0 hA) rfl rfl rfl rfl (d_find (nmA_0 hA) (nmA_1 hA) (by omega) hn ((congrFun (u_tok_ne (by omega)) 1).trans h1) (by omega)) rfl rfl ?_
      refine w_iconst (x := Int32.ofInt (-1)) rfl rfl (by decide) ?_
      refine w_ic_eq (t := 67) (f := 58) rfl rfl rfl (fun c55 => ?_) (fun c55 => ?_)
      · refine w_aload_n rfl rfl rfl ?_
        refine w_aload_n rfl rfl rfl ?_
        refine w_gf (t := .ref (3)) (v := .ref (3)) rfl rfl rfl sp2 rfl rfl rfl ?_
        refine w_gf (t := .int 0) (v := .int _) rfl rfl rfl sp3 rfl (congrArg Value.int rfl) rfl ?_
        refine w_cv (q := am_m50) (as := [_]) (rest := []) (st' := []) rfl rfl rfl rfl rfl rfl (nmA_0 hA) rfl rfl rfl rfl (d_nadd hA nm ((congrFun (u_tok_ne (by omega)) 1).trans h1) (by omega)) rfl rfl ?_
        refine w_iconst (x := Int32.ofNat 1) rfl rfl (by decide) ?_
        exact w_bret rfl (by decide) (by (first | rw [k_new4 (show ¬ n < m by rw [h1] at c4; exact fun z => c4 ((am_ltN (by omega) (by omega)).mpr z))] | rw [k_new3 nm c31] | rw [k_new2 nm c31 c55] | rw [k_new1 nm c31 c55]) <;> rfl) (by (first | rw [k_new4 (show ¬ n < m by rw [h1] at c4; exact fun z => c4 ((am_ltN (by omega) (by omega)).mpr z))] | rw [k_new3 nm c31] | rw [k_new2 nm c31 c55] | rw [k_new1 nm c31 c55]) <;> rfl) rfl rfl
      · refine w_aload_n rfl rfl rfl ?_
        refine w_gf (t := .ref (3)) (v := .ref (3)) rfl rfl rfl sp2 rfl rfl rfl ?_
        refine w_iconst (x := Int32.ofNat 3) rfl rfl (by decide) ?_
        refine w_cv (q := am_m92) (as := [_]) (rest := []) (st' := [_]) rfl rfl rfl rfl rfl rfl sp3 rfl rfl rfl rfl (d_blame (by omega)) rfl rfl ?_
        exact w_bret rfl (by decide) (by (first | rw [k_new4 (show ¬ n < m by rw [h1] at c4; exact fun z => c4 ((am_ltN (by omega) (by omega)).mpr z))] | rw [k_new3 nm c31] | rw [k_new2 nm c31 c55] | rw [k_new1 nm c31 c55]) <;> rfl) (by (first | rw [k_new4 (show ¬ n < m by rw [h1] at c4; exact fun z => c4 ((am_ltN (by omega) (by omega)).mpr z))] | rw [k_new3 nm c31] | rw [k_new2 nm c31 c55] | rw [k_new1 nm c31 c55]) <;> rfl) rfl rfl
    · refine w_aload_n rfl rfl rfl ?_
      refine w_gf (t := .ref (3)) (v := .ref (3)) rfl rfl rfl sp2 rfl rfl rfl ?_
      refine w_iconst (x := Int32.ofNat 1) rfl rfl (by decide) ?_
      refine w_cv (q := am_m92) (as := [_]) (rest := []) (st' := [_]) rfl rfl rfl rfl rfl rfl sp3 rfl rfl rfl rfl (d_blame (by omega)) rfl rfl ?_
      exact w_bret rfl (by decide) (by (first | rw [k_new4 (show ¬ n < m by rw [h1] at c4; exact fun z => c4 ((am_ltN (by omega) (by omega)).mpr z))] | rw [k_new3 nm c31] | rw [k_new2 nm c31 c55] | rw [k_new1 nm c31 c55]) <;> rfl) (by (first | rw [k_new4 (show ¬ n < m by rw [h1] at c4; exact fun z => c4 ((am_ltN (by omega) (by omega)).mpr z))] | rw [k_new3 nm c31] | rw [k_new2 nm c31 c55] | rw [k_new1 nm c31 c55]) <;> rfl) rfl rfl
  · refine w_aload_n rfl rfl rfl ?_
    refine w_gf (t := .ref (3)) (v := .ref (3)) rfl rfl rfl sp2 rfl rfl rfl ?_
    refine w_iconst (x := Int32.ofNat 2) rfl rfl (by decide) ?_
    refine w_cv (q := am_m92) (as := [_]) (rest := []) (st' := [_]) rfl rfl rfl rfl rfl rfl sp3 rfl rfl rfl rfl (d_blame (by omega)) rfl rfl ?_
    exact w_bret rfl (by decide) (by (first | rw [k_new4 (show ¬ n < m by rw [h1] at c4; exact fun z => c4 ((am_ltN (by omega) (by omega)).mpr z))] | rw [k_new3 nm c31] | rw [k_new2 nm c31 c55] | rw [k_new1 nm c31 c55]) <;> rfl) (by (first | rw [k_new4 (show ¬ n < m by rw [h1] at c4; exact fun z => c4 ((am_ltN (by omega) (by omega)).mpr z))] | rw [k_new3 nm c31] | rw [k_new2 nm c31 c55] | rw [k_new1 nm c31 c55]) <;> rfl) rfl rfl
