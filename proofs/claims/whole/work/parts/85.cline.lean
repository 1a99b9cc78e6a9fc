/-! The class: what is told cleared, lines read. -/
def k_clr (I : hI) (T : Nat) : hI := am_u (am_u (am_u (am_u (am_u (am_u (am_u (am_u (am_u (am_u (am_u I T 0 (Int32.ofNat 0)) (T + 1) 1 (Int32.ofNat 0)) (T + 5) 1 (Int32.ofNat 0)) (T + 11) 1 (Int32.ofNat 0)) T 11 (Int32.ofNat 0)) T 15 (Int32.ofInt (-1))) T 16 (Int32.ofNat 0)) T 17 (Int32.ofNat 0)) (T + 18) 0 (Int32.ofNat 0)) (T + 21) 0 (Int32.ofNat 0)) (T + 24) 0 (Int32.ofNat 0)
theorem d_clear {k : Nat} {I : hI} {J : hJ} {R : hR} {T : Nat} (hT : T = 9 ∨ T = 36) (hk : 1 ≤ k) : ct k 103 [.ref T] I J R none (k_clr I T) J R := by
  obtain ⟨k, rfl⟩ : ∃ k', k = k' + 1 := ⟨k - 1, by omega⟩
  refine ct_of (q := am_m103) (o := 10) (rt := none) (co := am_c103) (L := [_, _]) rfl rfl rfl rfl rfl rfl ?_
  refine w_aload_n rfl rfl rfl ?_
  refine w_iconst (x := Int32.ofNat 0) rfl rfl (by decide) ?_
  refine w_pf rfl rfl rfl (shT_0 hT) rfl rfl rfl ?_
  refine w_aload_n rfl rfl rfl ?_
  refine w_gf (t := .ref (T + 1)) (v := .ref (T + 1)) rfl rfl rfl (shT_0 hT) rfl rfl rfl ?_
  refine w_iconst (x := Int32.ofNat 0) rfl rfl (by decide) ?_
  refine w_pf rfl rfl rfl (shT_1 hT) rfl rfl rfl ?_
  refine w_aload_n rfl rfl rfl ?_
  refine w_gf (t := .ref (T + 5)) (v := .ref (T + 5)) rfl rfl rfl (shT_0 hT) rfl rfl rfl ?_
  refine w_iconst (x := Int32.ofNat 0) rfl rfl (by decide) ?_
  refine w_pf rfl rfl rfl (shT_5 hT) rfl rfl rfl ?_
  refine w_aload_n rfl rfl rfl ?_
  refine w_gf (t := .ref (T + 11)) (v := .ref (T + 11)) rfl rfl rfl (shT_0 hT) rfl rfl rfl ?_
  refine w_iconst (x := Int32.ofNat 0) rfl rfl (by decide) ?_
  refine w_pf rfl rfl rfl (shT_11 hT) rfl rfl rfl ?_
  refine w_aload_n rfl rfl rfl ?_
  refine w_iconst (x := Int32.ofNat 0) rfl rfl (by decide) ?_
  refine w_pf rfl rfl rfl (shT_0 hT) rfl rfl rfl ?_
  refine w_aload_n rfl rfl rfl ?_
  refine w_iconst (x := Int32.ofInt (-1)) rfl rfl (by decide) ?_
  refine w_pf rfl rfl rfl (shT_0 hT) rfl rfl rfl ?_
  refine w_aload_n rfl rfl rfl ?_
  refine w_iconst (x := Int32.ofNat 0) rfl rfl (by decide) ?_
  refine w_pf rfl rfl rfl (shT_0 hT) rfl rfl rfl ?_
  refine w_aload_n rfl rfl rfl ?_
  refine w_iconst (x := Int32.ofNat 0) rfl rfl (by decide) ?_
  refine w_pf rfl rfl rfl (shT_0 hT) rfl rfl rfl ?_
  refine w_iconst (x := Int32.ofNat 0) rfl rfl (by decide) ?_
  refine w_istore_n (L' := [_, _]) rfl rfl rfl ?_
  refine w_iload_n rfl rfl rfl ?_
  refine w_iconst (x := Int32.ofNat 3) rfl rfl (by decide) ?_
  refine w_ic_geN (t := 72) (f := 56) rfl rfl rfl (by omega) (by omega) (fun c53 => absurd c53 (by omega)) (fun c53 => ?_)
  clear c53
  refine w_aload_n rfl rfl rfl ?_
  refine w_gf (t := .ref (T + 17)) (v := .ref (T + 17)) rfl rfl rfl (shT_0 hT) rfl rfl rfl ?_
  refine w_iload_n rfl rfl rfl ?_
  refine w_aaload rfl rfl (shT_17 hT) rfl ⟨Nat.le_of_ble_eq_true rfl, Nat.le_of_ble_eq_true rfl⟩ rfl ?_
  refine w_iconst (x := Int32.ofNat 0) rfl rfl (by decide) ?_
  refine w_pf rfl rfl rfl (shT_18 hT) rfl rfl rfl ?_
  refine w_iinc (L' := [_, _]) rfl rfl rfl (am_incN 1) rfl ?_
  refine w_goto (pc' := 51) rfl rfl ?_
  refine w_iload_n rfl rfl rfl ?_
  refine w_iconst (x := Int32.ofNat 3) rfl rfl (by decide) ?_
  refine w_ic_geN (t := 72) (f := 56) rfl rfl rfl (by omega) (by omega) (fun c53 => absurd c53 (by omega)) (fun c53 => ?_)
  clear c53
  refine w_aload_n rfl rfl rfl ?_
  refine w_gf (t := .ref (T + 17)) (v := .ref (T + 17)) rfl rfl rfl (shT_0 hT) rfl rfl rfl ?_
  refine w_iload_n rfl rfl rfl ?_
  refine w_aaload rfl rfl (shT_17 hT) rfl ⟨Nat.le_of_ble_eq_true rfl, Nat.le_of_ble_eq_true rfl⟩ rfl ?_
  refine w_iconst (x := Int32.ofNat 0) rfl rfl (by decide) ?_
  refine w_pf rfl rfl rfl (shT_21 hT) rfl rfl rfl ?_
  refine w_iinc (L' := [_, _]) rfl rfl rfl (am_incN 1) rfl ?_
  refine w_goto (pc' := 51) rfl rfl ?_
  refine w_iload_n rfl rfl rfl ?_
  refine w_iconst (x := Int32.ofNat 3) rfl rfl (by decide) ?_
  refine w_ic_geN (t := 72) (f := 56) rfl rfl rfl (by omega) (by omega) (fun c53 => absurd c53 (by omega)) (fun c53 => ?_)
  clear c53
  refine w_aload_n rfl rfl rfl ?_
  refine w_gf (t := .ref (T + 17)) (v := .ref (T + 17)) rfl rfl rfl (shT_0 hT) rfl rfl rfl ?_
  refine w_iload_n rfl rfl rfl ?_
  refine w_aaload rfl rfl (shT_17 hT) rfl ⟨Nat.le_of_ble_eq_true rfl, Nat.le_of_ble_eq_true rfl⟩ rfl ?_
  refine w_iconst (x := Int32.ofNat 0) rfl rfl (by decide) ?_
  refine w_pf rfl rfl rfl (shT_24 hT) rfl rfl rfl ?_
  refine w_iinc (L' := [_, _]) rfl rfl rfl (am_incN 1) rfl ?_
  refine w_goto (pc' := 51) rfl rfl ?_
  refine w_iload_n rfl rfl rfl ?_
  refine w_iconst (x := Int32.ofNat 3) rfl rfl (by decide) ?_
  refine w_ic_geN (t := 72) (f := 56) rfl rfl rfl (by omega) (by omega) (fun c53 => ?_) (fun c53 => absurd c53 (by omega))
  clear c53
  exact w_ret rfl rfl rfl rfl
theorem d_knots {k : Nat} {I : hI} {J : hJ} {R : hR} {T : Nat} (hT : T = 9 ∨ T = 36) {a b c : Nat} (h4 : I (T + 18) 0 = Int32.ofNat a) (h5 : I (T + 21) 0 = Int32.ofNat b) (h6 : I (T + 24) 0 = Int32.ofNat c) (hk : 1 ≤ k) : ct k 104 [.ref T] I J R (some (.int (Int32.ofNat (a + b + c)))) I J R := by
  obtain ⟨k, rfl⟩ : ∃ k', k = k' + 1 := ⟨k - 1, by omega⟩
  refine ct_of (q := am_m104) (o := 10) (rt := (some .int)) (co := am_c104) (L := [_, _, _]) rfl rfl rfl rfl rfl rfl ?_
  refine w_iconst (x := Int32.ofNat 0) rfl rfl (by decide) ?_
  refine w_istore_n (L' := [_, _, _]) rfl rfl rfl ?_
  refine w_iconst (x := Int32.ofNat 0) rfl rfl (by decide) ?_
  refine w_istore_n (L' := [_, _, _]) rfl rfl rfl ?_
  refine w_iload_n rfl rfl rfl ?_
  refine w_iconst (x := Int32.ofNat 3) rfl rfl (by decide) ?_
  refine w_ic_geN (t := 27) (f := 9) rfl rfl rfl (by omega) (by omega) (fun c6 => absurd c6 (by omega)) (fun c6 => ?_)
  clear c6
  refine w_iload_n rfl rfl rfl ?_
  refine w_aload_n rfl rfl rfl ?_
  refine w_gf (t := .ref (T + 17)) (v := .ref (T + 17)) rfl rfl rfl (shT_0 hT) rfl rfl rfl ?_
  refine w_iload_n rfl rfl rfl ?_
  refine w_aaload rfl rfl (shT_17 hT) rfl ⟨Nat.le_of_ble_eq_true rfl, Nat.le_of_ble_eq_true rfl⟩ rfl ?_
  refine w_gf (t := .int 0) (v := .int _) rfl rfl rfl (shT_18 hT) rfl (congrArg Value.int h4) rfl ?_
  refine w_iaddN rfl rfl ?_
  refine w_istore_n (L' := [_, _, _]) rfl rfl rfl ?_
  refine w_iinc (L' := [_, _, _]) rfl rfl rfl (am_incN 1) rfl ?_
  refine w_goto (pc' := 4) rfl rfl ?_
  refine w_iload_n rfl rfl rfl ?_
  refine w_iconst (x := Int32.ofNat 3) rfl rfl (by decide) ?_
  refine w_ic_geN (t := 27) (f := 9) rfl rfl rfl (by omega) (by omega) (fun c6 => absurd c6 (by omega)) (fun c6 => ?_)
  clear c6
  refine w_iload_n rfl rfl rfl ?_
  refine w_aload_n rfl rfl rfl ?_
  refine w_gf (t := .ref (T + 17)) (v := .ref (T + 17)) rfl rfl rfl (shT_0 hT) rfl rfl rfl ?_
  refine w_iload_n rfl rfl rfl ?_
  refine w_aaload rfl rfl (shT_17 hT) rfl ⟨Nat.le_of_ble_eq_true rfl, Nat.le_of_ble_eq_true rfl⟩ rfl ?_
  refine w_gf (t := .int 0) (v := .int _) rfl rfl rfl (shT_21 hT) rfl (congrArg Value.int h5) rfl ?_
  refine w_iaddN rfl rfl ?_
  refine w_istore_n (L' := [_, _, _]) rfl rfl rfl ?_
  refine w_iinc (L' := [_, _, _]) rfl rfl rfl (am_incN 1) rfl ?_
  refine w_goto (pc' := 4) rfl rfl ?_
  refine w_iload_n rfl rfl rfl ?_
  refine w_iconst (x := Int32.ofNat 3) rfl rfl (by decide) ?_
  refine w_ic_geN (t := 27) (f := 9) rfl rfl rfl (by omega) (by omega) (fun c6 => absurd c6 (by omega)) (fun c6 => ?_)
  clear c6
  refine w_iload_n rfl rfl rfl ?_
  refine w_aload_n rfl rfl rfl ?_
  refine w_gf (t := .ref (T + 17)) (v := .ref (T + 17)) rfl rfl rfl (shT_0 hT) rfl rfl rfl ?_
  refine w_iload_n rfl rfl rfl ?_
  refine w_aaload rfl rfl (shT_17 hT) rfl ⟨Nat.le_of_ble_eq_true rfl, Nat.le_of_ble_eq_true rfl⟩ rfl ?_
  refine w_gf (t := .int 0) (v := .int _) rfl rfl rfl (shT_24 hT) rfl (congrArg Value.int h6) rfl ?_
  refine w_iaddN rfl rfl ?_
  refine w_istore_n (L' := [_, _, _]) rfl rfl rfl ?_
  refine w_iinc (L' := [_, _, _]) rfl rfl rfl (am_incN 1) rfl ?_
  refine w_goto (pc' := 4) rfl rfl ?_
  refine w_iload_n rfl rfl rfl ?_
  refine w_iconst (x := Int32.ofNat 3) rfl rfl (by decide) ?_
  refine w_ic_geN (t := 27) (f := 9) rfl rfl rfl (by omega) (by omega) (fun c6 => ?_) (fun c6 => absurd c6 (by omega))
  clear c6
  refine w_iload_n rfl rfl rfl ?_
  exact w_iret rfl (by rw [Nat.zero_add]) rfl rfl rfl
theorem d_faultKind {k : Nat} {I : hI} {J : hJ} {R : hR}  (hk : 1 ≤ k) : ct k 73 [.ref 2] I J R (some (.int (I 3 7))) I J R := by
  obtain ⟨k, rfl⟩ : ∃ k', k = k' + 1 := ⟨k - 1, by omega⟩
  refine ct_of (q := am_m73) (o := 8) (rt := (some .int)) (co := am_c73) (L := [_]) rfl rfl rfl rfl rfl rfl ?_
  refine w_aload_n rfl rfl rfl ?_
  refine w_gf (t := .ref (3)) (v := .ref (3)) rfl rfl rfl sp2 rfl rfl rfl ?_
  refine w_gf (t := .int 0) (v := .int _) rfl rfl rfl sp3 rfl (congrArg Value.int rfl) rfl ?_
  exact w_iret rfl rfl rfl rfl rfl
theorem d_faultPlace {k : Nat} {I : hI} {J : hJ} {R : hR}  (hk : 1 ≤ k) : ct k 74 [.ref 2] I J R (some (.int (I 3 8))) I J R := by
  obtain ⟨k, rfl⟩ : ∃ k', k = k' + 1 := ⟨k - 1, by omega⟩
  refine ct_of (q := am_m74) (o := 8) (rt := (some .int)) (co := am_c74) (L := [_]) rfl rfl rfl rfl rfl rfl ?_
  refine w_aload_n rfl rfl rfl ?_
  refine w_gf (t := .ref (3)) (v := .ref (3)) rfl rfl rfl sp2 rfl rfl rfl ?_
  refine w_gf (t := .int 0) (v := .int _) rfl rfl rfl sp3 rfl (congrArg Value.int rfl) rfl ?_
  exact w_iret rfl rfl rfl rfl rfl
/-- first p, then f if p came out -/
def k_bd (p : Int32 × hI) (f : hI → Int32 × hI) : Int32 × hI := if p.1 = 0 then p else f p.2
theorem k_bd0 {p : Int32 × hI} {f : hI → Int32 × hI} (h : p.1 = 0) : k_bd p f = p := if_pos h
theorem k_bd1 {p : Int32 × hI} {f : hI → Int32 × hI} (h : ¬ p.1 = 0) : k_bd p f = f p.2 := if_neg h
theorem d_findE {k : Nat} {I : hI} {J : hJ} {R : hR} {A m : Nat} {f : Nat → Int32} (hf : I (A + 1) = f) (hA0 : am_shL[A]? = some (.inr (.inl (5, [.ref (A + 1), .int 0])))) (hA1 : am_shL[A + 1]? = some (.inl (.int, false, m))) (hm : m ≤ 1024) {n : Nat} {x : Int32} (hn : n ≤ m) (h1 : I A 1 = Int32.ofNat n) (hk : 1 ≤ k) : ct k 49 [.ref A, .int x] I J R (some (.int (m_fnd f x n 0))) I J R := by
  subst hf; exact d_find hA0 hA1 hm hn h1 hk
theorem tks_u {I : hI} {st a j : Nat} {x : Int32} (h : a ≠ 3) (v : tks I st) : tks (am_u I a j x) st := by
  unfold tks at *
  rw [am_u_na h.symm, am_u_na h.symm]
  exact v
theorem tks_bl {I : hI} {st : Nat} {x : Int32} (v : tks I st) : tks (u_bl I x) st := by
  have e3 : ∀ j, j < 7 → u_bl I x 3 j = I 3 j := fun j hj => (am_u_nk (by omega)).trans (am_u_nk (by omega))
  unfold tks at *
  rw [e3 2 (by omega), e3 3 (by omega)]
  exact v
theorem fr_num {I : hI} {lo hi : Int32} {b : Nat} (h : b ≠ 3) : (k_num I lo hi).2 b = I b := by
  unfold k_num; repeat' split
  all_goals first | exact u_tok_ne h | exact (u_bl_ne h).trans (u_tok_ne h)
theorem tks_num {I : hI} {lo hi : Int32} {st : Nat} (v : tks I st) : tks (k_num I lo hi).2 st := by
  unfold k_num; repeat' split
  all_goals first | exact tks_tok v | exact tks_bl (tks_tok v)
theorem fr_semi {I : hI} {b : Nat} (h : b ≠ 3) : (k_semi I).2 b = I b := by
  unfold k_semi; repeat' split
  all_goals first | exact u_tok_ne h | exact (u_bl_ne h).trans (u_tok_ne h)
theorem tks_semi {I : hI} {st : Nat} (v : tks I st) : tks (k_semi I).2 st := by
  unfold k_semi; repeat' split
  all_goals first | exact tks_tok v | exact tks_bl (tks_tok v)
theorem fr_told {I : hI} {A n b : Nat} (h : b ≠ 3) : (k_told I A n).2 b = I b := by
  unfold k_told; repeat' split
  all_goals first | exact u_tok_ne h | exact (u_bl_ne h).trans (u_tok_ne h)
theorem tks_told {I : hI} {A n st : Nat} (v : tks I st) : tks (k_told I A n).2 st := by
  unfold k_told; repeat' split
  all_goals first | exact tks_tok v | exact tks_bl (tks_tok v)
theorem fr_new {I : hI} {A m n b : Nat} (h : b ≠ 3) (g : b ≠ A) (g1 : b ≠ A + 1) : (k_new I A m n).2 b = I b := by
  unfold k_new; repeat' split
  all_goals first | exact (u_bl_ne h).trans (u_tok_ne h) | exact u_bl_ne h | exact (am_u_ne g).trans ((am_u_ne g1).trans (u_tok_ne h))
theorem tks_new {I : hI} {A m n st : Nat} (hA : 3 < A) (v : tks I st) : tks (k_new I A m n).2 st := by
  unfold k_new; repeat' split
  all_goals first | exact tks_bl (tks_tok v) | exact tks_bl v | exact tks_u (by omega) (tks_u (by omega) (tks_tok v))
theorem k_new_lt {I : hI} {A m n : Nat} (h : ¬ (k_new I A m n).1 = 0) : n < m := by
  apply Decidable.byContradiction
  intro g
  rw [k_new4 g] at h
  exact h rfl
theorem k_new_1 {I : hI} {A m n : Nat} (h : ¬ (k_new I A m n).1 = 0) : (k_new I A m n).2 A 1 = Int32.ofNat (n + 1) := by
  revert h
  unfold k_new; repeat' split
  all_goals first | exact fun h => absurd rfl h | exact fun _ => am_u_at
theorem m_fnd_no {f : Nat → Int32} {x : Int32} : ∀ {j r : Nat}, r + j ≤ 100 → m_fnd f x j r < 0 → m_fnd f x j r = Int32.ofInt (-1) := by
  intro j
  induction j with
  | zero => intro r _ _; rfl
  | succ j ih =>
    intro r hr
    rw [m_fnd_s]; split
    · intro h; exact absurd ((am_ltN (y := 0) (by omega) (by omega)).mp h) (Nat.not_lt_zero r)
    · exact fun h => ih (by omega) h
theorem k_told_1 {I : hI} {A n : Nat} (hn : n ≤ 100) (h : ¬ (k_told I A n).1 = 0) : okn (k_fn (k_told I A n).2 A n) n := by
  revert h
  unfold k_told; repeat' split
  · exact fun h => absurd rfl h
  · rename_i a b
    intro _
    rcases m_fnd_ok (u_tok I (A + 1)) (u_tok I 3 6) n 0 (by omega) with g | g
    · exact absurd (m_fnd_no (by omega) g) b
    · rwa [Nat.zero_add] at g
  · exact fun h => absurd rfl h
def k_mkr (I : hI) (T n : Nat) : Int32 × hI := k_bd (k_new I (T + 1) 6 n) fun I => k_bd (k_num I (Int32.ofNat 0) (Int32.ofNat 9)) fun I => k_bd (k_num (am_u I (T + 3) n (I 3 6)) (Int32.ofNat 0) (Int32.ofNat 9)) fun I => (1, am_u I (T + 4) n (I 3 6))
theorem d_readMaker {k : Nat} {I : hI} {J : hJ} {R : hR} {T : Nat} (hT : T = 9 ∨ T = 36) {st : Nat} (v : tks I st) (hB : R 3 1 = 1) (h2 : R 2 2 = T) {n : Nat} (hn : n ≤ 6) (h1 : I (T + 1) 1 = Int32.ofNat n) (hk : 5 ≤ k) : ct k 78 [.ref 2] I J R (some (.int (k_mkr I T n).1)) ((k_mkr I T n).2) J R := by
  obtain ⟨k, rfl⟩ : ∃ k', k = k' + 1 := ⟨k - 1, by omega⟩
  refine ct_of (q := am_m78) (o := 8) (rt := (some .boolean)) (co := am_c78) (L := [_, _]) rfl rfl rfl rfl rfl rfl ?_
  refine w_aload_n rfl rfl rfl ?_
  refine w_gf (t := .retAddr 0) (v := .ref (T)) rfl rfl rfl sp2 rfl (congrArg Value.ref h2) rfl ?_
  refine w_gf (t := .ref (T + 1)) (v := .ref (T + 1)) rfl rfl rfl (shT_0 hT) rfl rfl rfl ?_
  refine w_gf (t := .int 0) (v := .int _) rfl rfl rfl (shT_1 hT) rfl (congrArg Value.int h1) rfl ?_
  refine w_istore_n (L' := [_, _]) rfl rfl rfl ?_
  refine w_aload_n rfl rfl rfl ?_
  refine w_aload_n rfl rfl rfl ?_
  refine w_gf (t := .retAddr 0) (v := .ref (T)) rfl rfl rfl sp2 rfl (congrArg Value.ref h2) rfl ?_
  refine w_gf (t := .ref (T + 1)) (v := .ref (T + 1)) rfl rfl rfl (shT_0 hT) rfl rfl rfl ?_
  refine w_cv (q := am_m86) (as := [_]) (rest := []) (st' := [_]) rfl rfl rfl rfl rfl rfl sp2 rfl rfl rfl rfl (d_readNewName (nmA_T1 hT) v hB hn h1 (by omega)) rfl rfl ?_
  refine w_if_eq (t := 35) (f := 25) rfl rfl rfl (fun c22 => ?_) (fun c22 => ?_)
  · refine w_iconst (x := Int32.ofNat 0) rfl rfl (by decide) ?_
    exact w_bret rfl (by decide) (by unfold k_mkr; (first | (rw [k_bd1 c22, k_bd1 c32, k_bd1 c60] <;> rfl) | (rw [k_bd1 c22, k_bd1 c32, k_bd0 c60] <;> exact c60.symm) | (rw [k_bd1 c22, k_bd0 c32] <;> exact c32.symm) | (rw [k_bd0 c22] <;> exact c22.symm))) (by unfold k_mkr; (first | (rw [k_bd1 c22, k_bd1 c32, k_bd1 c60] <;> rfl) | rw [k_bd1 c22, k_bd1 c32, k_bd0 c60] | rw [k_bd1 c22, k_bd0 c32] | rw [k_bd0 c22])) rfl rfl
  · refine w_aload_n rfl rfl rfl ?_
    refine w_iconst (x := Int32.ofNat 0) rfl rfl (by decide) ?_
    refine w_bipush (x := Int32.ofNat 9) rfl rfl (by decide) ?_
    refine w_cv (q := am_m88) (as := [_, _]) (rest := []) (st' := [_]) rfl rfl rfl rfl rfl rfl sp2 rfl rfl rfl rfl (d_readNumber (tks_new (by omega) v) hB (by omega)) rfl rfl ?_
    refine w_if_ne (t := 37) (f := 35) rfl rfl rfl (fun c32 => ?_) (fun c32 => ?_)
    · have ln := k_new_lt c22
      refine w_aload_n rfl rfl rfl ?_
      refine w_gf (t := .retAddr 0) (v := .ref (T)) rfl rfl rfl sp2 rfl (congrArg Value.ref h2) rfl ?_
      refine w_gf (t := .ref (T + 3)) (v := .ref (T + 3)) rfl rfl rfl (shT_0 hT) rfl rfl rfl ?_
      refine w_iload_n rfl rfl rfl ?_
      refine w_aload_n rfl rfl rfl ?_
      refine w_gf (t := .ref (3)) (v := .ref (3)) rfl rfl rfl sp2 rfl rfl rfl ?_
      refine w_gf (t := .int 0) (v := .int _) rfl rfl rfl sp3 rfl (congrArg Value.int rfl) rfl ?_
      refine w_iastore rfl rfl (shT_3 hT) rfl ⟨by omega, by omega⟩ ?_
      refine w_aload_n rfl rfl rfl ?_
      refine w_iconst (x := Int32.ofNat 0) rfl rfl (by decide) ?_
      refine w_bipush (x := Int32.ofNat 9) rfl rfl (by decide) ?_
      refine w_cv (q := am_m88) (as := [_, _]) (rest := []) (st' := [_]) rfl rfl rfl rfl rfl rfl sp2 rfl rfl rfl rfl (d_readNumber (tks_u (by omega) (tks_num (tks_new (by omega) v))) hB (by omega)) rfl rfl ?_
      refine w_if_ne (t := 65) (f := 63) rfl rfl rfl (fun c60 => ?_) (fun c60 => ?_)
      · refine w_aload_n rfl rfl rfl ?_
        refine w_gf (t := .retAddr 0) (v := .ref (T)) rfl rfl rfl sp2 rfl (congrArg Value.ref h2) rfl ?_
        refine w_gf (t := .ref (T + 4)) (v := .ref (T + 4)) rfl rfl rfl (shT_0 hT) rfl rfl rfl ?_
        refine w_iload_n rfl rfl rfl ?_
        refine w_aload_n rfl rfl rfl ?_
        refine w_gf (t := .ref (3)) (v := .ref (3)) rfl rfl rfl sp2 rfl rfl rfl ?_
        refine w_gf (t := .int 0) (v := .int _) rfl rfl rfl sp3 rfl (congrArg Value.int rfl) rfl ?_
        refine w_iastore rfl rfl (shT_4 hT) rfl ⟨by omega, by omega⟩ ?_
        refine w_iconst (x := Int32.ofNat 1) rfl rfl (by decide) ?_
        exact w_bret rfl (by decide) (by unfold k_mkr; (first | (rw [k_bd1 c22, k_bd1 c32, k_bd1 c60] <;> rfl) | (rw [k_bd1 c22, k_bd1 c32, k_bd0 c60] <;> exact c60.symm) | (rw [k_bd1 c22, k_bd0 c32] <;> exact c32.symm) | (rw [k_bd0 c22] <;> exact c22.symm))) (by unfold k_mkr; (first | (rw [k_bd1 c22, k_bd1 c32, k_bd1 c60] <;> rfl) | rw [k_bd1 c22, k_bd1 c32, k_bd0 c60] | rw [k_bd1 c22, k_bd0 c32] | rw [k_bd0 c22])) rfl rfl
      · refine w_iconst (x := Int32.ofNat 0) rfl rfl (by decide) ?_
        exact w_bret rfl (by decide) (by unfold k_mkr; (first | (rw [k_bd1 c22, k_bd1 c32, k_bd1 c60] <;> rfl) | (rw [k_bd1 c22, k_bd1 c32, k_bd0 c60] <;> exact c60.symm) | (rw [k_bd1 c22, k_bd0 c32] <;> exact c32.symm) | (rw [k_bd0 c22] <;> exact c22.symm))) (by unfold k_mkr; (first | (rw [k_bd1 c22, k_bd1 c32, k_bd1 c60] <;> rfl) | rw [k_bd1 c22, k_bd1 c32, k_bd0 c60] | rw [k_bd1 c22, k_bd0 c32] | rw [k_bd0 c22])) rfl rfl
    · refine w_iconst (x := Int32.ofNat 0) rfl rfl (by decide) ?_
      exact w_bret rfl (by decide) (by unfold k_mkr; (first | (rw [k_bd1 c22, k_bd1 c32, k_bd1 c60] <;> rfl) | (rw [k_bd1 c22, k_bd1 c32, k_bd0 c60] <;> exact c60.symm) | (rw [k_bd1 c22, k_bd0 c32] <;> exact c32.symm) | (rw [k_bd0 c22] <;> exact c22.symm))) (by unfold k_mkr; (first | (rw [k_bd1 c22, k_bd1 c32, k_bd1 c60] <;> rfl) | rw [k_bd1 c22, k_bd1 c32, k_bd0 c60] | rw [k_bd1 c22, k_bd0 c32] | rw [k_bd0 c22])) rfl rfl
def k_sp (I : hI) (T n : Nat) : Int32 × hI := k_bd (k_new I (T + 11) 5 n) fun I => k_bd (k_num I (Int32.ofNat 0) (Int32.ofNat 999)) fun I => (1, am_u I (T + 13) n (I 3 6))
theorem d_readShip {k : Nat} {I : hI} {J : hJ} {R : hR} {T : Nat} (hT : T = 9 ∨ T = 36) {st : Nat} (v : tks I st) (hB : R 3 1 = 1) (h2 : R 2 2 = T) {n : Nat} (hn : n ≤ 5) (h1 : I (T + 11) 1 = Int32.ofNat n) (hk : 5 ≤ k) : ct k 80 [.ref 2] I J R (some (.int (k_sp I T n).1)) ((k_sp I T n).2) J R := by
  obtain ⟨k, rfl⟩ : ∃ k', k = k' + 1 := ⟨k - 1, by omega⟩
  refine ct_of (q := am_m80) (o := 8) (rt := (some .boolean)) (co := am_c80) (L := [_, _]) rfl rfl rfl rfl rfl rfl ?_
  refine w_aload_n rfl rfl rfl ?_
  refine w_gf (t := .retAddr 0) (v := .ref (T)) rfl rfl rfl sp2 rfl (congrArg Value.ref h2) rfl ?_
  refine w_gf (t := .ref (T + 11)) (v := .ref (T + 11)) rfl rfl rfl (shT_0 hT) rfl rfl rfl ?_
  refine w_gf (t := .int 0) (v := .int _) rfl rfl rfl (shT_11 hT) rfl (congrArg Value.int h1) rfl ?_
  refine w_istore_n (L' := [_, _]) rfl rfl rfl ?_
  refine w_aload_n rfl rfl rfl ?_
  refine w_aload_n rfl rfl rfl ?_
  refine w_gf (t := .retAddr 0) (v := .ref (T)) rfl rfl rfl sp2 rfl (congrArg Value.ref h2) rfl ?_
  refine w_gf (t := .ref (T + 11)) (v := .ref (T + 11)) rfl rfl rfl (shT_0 hT) rfl rfl rfl ?_
  refine w_cv (q := am_m86) (as := [_]) (rest := []) (st' := [_]) rfl rfl rfl rfl rfl rfl sp2 rfl rfl rfl rfl (d_readNewName (nmA_T11 hT) v hB hn h1 (by omega)) rfl rfl ?_
  refine w_if_eq (t := 36) (f := 25) rfl rfl rfl (fun c22 => ?_) (fun c22 => ?_)
  · refine w_iconst (x := Int32.ofNat 0) rfl rfl (by decide) ?_
    exact w_bret rfl (by decide) (by unfold k_sp; (first | (rw [k_bd1 c22, k_bd1 c33] <;> rfl) | (rw [k_bd1 c22, k_bd0 c33] <;> exact c33.symm) | (rw [k_bd0 c22] <;> exact c22.symm))) (by unfold k_sp; (first | (rw [k_bd1 c22, k_bd1 c33] <;> rfl) | rw [k_bd1 c22, k_bd0 c33] | rw [k_bd0 c22])) rfl rfl
  · refine w_aload_n rfl rfl rfl ?_
    refine w_iconst (x := Int32.ofNat 0) rfl rfl (by decide) ?_
    refine w_sipush (x := Int32.ofNat 999) rfl rfl (by decide) ?_
    refine w_cv (q := am_m88) (as := [_, _]) (rest := []) (st' := [_]) rfl rfl rfl rfl rfl rfl sp2 rfl rfl rfl rfl (d_readNumber (tks_new (by omega) v) hB (by omega)) rfl rfl ?_
    refine w_if_ne (t := 38) (f := 36) rfl rfl rfl (fun c33 => ?_) (fun c33 => ?_)
    · have ln := k_new_lt c22
      refine w_aload_n rfl rfl rfl ?_
      refine w_gf (t := .retAddr 0) (v := .ref (T)) rfl rfl rfl sp2 rfl (congrArg Value.ref h2) rfl ?_
      refine w_gf (t := .ref (T + 13)) (v := .ref (T + 13)) rfl rfl rfl (shT_0 hT) rfl rfl rfl ?_
      refine w_iload_n rfl rfl rfl ?_
      refine w_aload_n rfl rfl rfl ?_
      refine w_gf (t := .ref (3)) (v := .ref (3)) rfl rfl rfl sp2 rfl rfl rfl ?_
      refine w_gf (t := .int 0) (v := .int _) rfl rfl rfl sp3 rfl (congrArg Value.int rfl) rfl ?_
      refine w_iastore rfl rfl (shT_13 hT) rfl ⟨by omega, by omega⟩ ?_
      refine w_iconst (x := Int32.ofNat 1) rfl rfl (by decide) ?_
      exact w_bret rfl (by decide) (by unfold k_sp; (first | (rw [k_bd1 c22, k_bd1 c33] <;> rfl) | (rw [k_bd1 c22, k_bd0 c33] <;> exact c33.symm) | (rw [k_bd0 c22] <;> exact c22.symm))) (by unfold k_sp; (first | (rw [k_bd1 c22, k_bd1 c33] <;> rfl) | rw [k_bd1 c22, k_bd0 c33] | rw [k_bd0 c22])) rfl rfl
    · refine w_iconst (x := Int32.ofNat 0) rfl rfl (by decide) ?_
      exact w_bret rfl (by decide) (by unfold k_sp; (first | (rw [k_bd1 c22, k_bd1 c33] <;> rfl) | (rw [k_bd1 c22, k_bd0 c33] <;> exact c33.symm) | (rw [k_bd0 c22] <;> exact c22.symm))) (by unfold k_sp; (first | (rw [k_bd1 c22, k_bd1 c33] <;> rfl) | rw [k_bd1 c22, k_bd0 c33] | rw [k_bd0 c22])) rfl rfl
def k_rp (I : hI) (T n m : Nat) : Int32 × hI := k_bd (k_new I (T + 5) 8 n) fun I => k_bd (k_told I (T + 1) m) fun I => k_bd (k_num (am_u (am_u I (T + 10) n (Int32.ofInt (-1))) (T + 7) n (k_fn I (T + 1) m)) (Int32.ofNat 1) (Int32.ofNat 99)) fun I => k_bd (k_num (am_u I (T + 8) n (I 3 6)) (Int32.ofNat 0) (Int32.ofNat 99)) fun I => (1, am_u I (T + 9) n (I 3 6))
theorem d_readRope {k : Nat} {I : hI} {J : hJ} {R : hR} {T : Nat} (hT : T = 9 ∨ T = 36) {st : Nat} (v : tks I st) (hB : R 3 1 = 1) (h2 : R 2 2 = T) {n m : Nat} (hn : n ≤ 8) (h1 : I (T + 5) 1 = Int32.ofNat n) (hm : m ≤ 6) (h0 : I (T + 1) 1 = Int32.ofNat m) (hk : 5 ≤ k) : ct k 79 [.ref 2] I J R (some (.int (k_rp I T n m).1)) ((k_rp I T n m).2) J R := by
  obtain ⟨k, rfl⟩ : ∃ k', k = k' + 1 := ⟨k - 1, by omega⟩
  refine ct_of (q := am_m79) (o := 8) (rt := (some .boolean)) (co := am_c79) (L := [_, _]) rfl rfl rfl rfl rfl rfl ?_
  refine w_aload_n rfl rfl rfl ?_
  refine w_gf (t := .retAddr 0) (v := .ref (T)) rfl rfl rfl sp2 rfl (congrArg Value.ref h2) rfl ?_
  refine w_gf (t := .ref (T + 5)) (v := .ref (T + 5)) rfl rfl rfl (shT_0 hT) rfl rfl rfl ?_
  refine w_gf (t := .int 0) (v := .int _) rfl rfl rfl (shT_5 hT) rfl (congrArg Value.int h1) rfl ?_
  refine w_istore_n (L' := [_, _]) rfl rfl rfl ?_
  refine w_aload_n rfl rfl rfl ?_
  refine w_aload_n rfl rfl rfl ?_
  refine w_gf (t := .retAddr 0) (v := .ref (T)) rfl rfl rfl sp2 rfl (congrArg Value.ref h2) rfl ?_
  refine w_gf (t := .ref (T + 5)) (v := .ref (T + 5)) rfl rfl rfl (shT_0 hT) rfl rfl rfl ?_
  refine w_cv (q := am_m86) (as := [_]) (rest := []) (st' := [_]) rfl rfl rfl rfl rfl rfl sp2 rfl rfl rfl rfl (d_readNewName (nmA_T5 hT) v hB hn h1 (by omega)) rfl rfl ?_
  refine w_if_eq (t := 39) (f := 25) rfl rfl rfl (fun c22 => ?_) (fun c22 => ?_)
  · refine w_iconst (x := Int32.ofNat 0) rfl rfl (by decide) ?_
    exact w_bret rfl (by decide) (by unfold k_rp; (first | (rw [k_bd1 c22, k_bd1 c36, k_bd1 c84, k_bd1 c112] <;> rfl) | (rw [k_bd1 c22, k_bd1 c36, k_bd1 c84, k_bd0 c112] <;> exact c112.symm) | (rw [k_bd1 c22, k_bd1 c36, k_bd0 c84] <;> exact c84.symm) | (rw [k_bd1 c22, k_bd0 c36] <;> exact c36.symm) | (rw [k_bd0 c22] <;> exact c22.symm))) (by unfold k_rp; (first | (rw [k_bd1 c22, k_bd1 c36, k_bd1 c84, k_bd1 c112] <;> rfl) | rw [k_bd1 c22, k_bd1 c36, k_bd1 c84, k_bd0 c112] | rw [k_bd1 c22, k_bd1 c36, k_bd0 c84] | rw [k_bd1 c22, k_bd0 c36] | rw [k_bd0 c22])) rfl rfl
  · refine w_aload_n rfl rfl rfl ?_
    refine w_aload_n rfl rfl rfl ?_
    refine w_gf (t := .retAddr 0) (v := .ref (T)) rfl rfl rfl sp2 rfl (congrArg Value.ref h2) rfl ?_
    refine w_gf (t := .ref (T + 1)) (v := .ref (T + 1)) rfl rfl rfl (shT_0 hT) rfl rfl rfl ?_
    refine w_cv (q := am_m87) (as := [_]) (rest := []) (st' := [_]) rfl rfl rfl rfl rfl rfl sp2 rfl rfl rfl rfl (d_readToldName (nmA_T1 hT) (tks_new (by omega) v) hB hm ((congrFun (fr_new (by omega) (by omega) (by omega)) 1).trans h0) (by omega)) rfl rfl ?_
    refine w_if_ne (t := 41) (f := 39) rfl rfl rfl (fun c36 => ?_) (fun c36 => ?_)
    · have ln := k_new_lt c22
      refine w_aload_n rfl rfl rfl ?_
      refine w_gf (t := .retAddr 0) (v := .ref (T)) rfl rfl rfl sp2 rfl (congrArg Value.ref h2) rfl ?_
      refine w_gf (t := .ref (T + 10)) (v := .ref (T + 10)) rfl rfl rfl (shT_0 hT) rfl rfl rfl ?_
      refine w_iload_n rfl rfl rfl ?_
      refine w_iconst (x := Int32.ofInt (-1)) rfl rfl (by decide) ?_
      refine w_iastore rfl rfl (shT_10 hT) rfl ⟨by omega, by omega⟩ ?_
      refine w_aload_n rfl rfl rfl ?_
      refine w_gf (t := .retAddr 0) (v := .ref (T)) rfl rfl rfl sp2 rfl (congrArg Value.ref h2) rfl ?_
      refine w_gf (t := .ref (T + 7)) (v := .ref (T + 7)) rfl rfl rfl (shT_0 hT) rfl rfl rfl ?_
      refine w_iload_n rfl rfl rfl ?_
      refine w_aload_n rfl rfl rfl ?_
      refine w_gf (t := .retAddr 0) (v := .ref (T)) rfl rfl rfl sp2 rfl (congrArg Value.ref h2) rfl ?_
      refine w_gf (t := .ref (T + 1)) (v := .ref (T + 1)) rfl rfl rfl (shT_0 hT) rfl rfl rfl ?_
      refine w_aload_n rfl rfl rfl ?_
      refine w_gf (t := .ref (3)) (v := .ref (3)) rfl rfl rfl sp2 rfl rfl rfl ?_
      refine w_gf (t := .int 0) (v := .int _) rfl rfl rfl sp3 rfl (congrArg Value.int (congrFun (am_u_ne (by omega)) _)) rfl ?_
      refine w_cv (q := am_m49) (as := [_]) (rest := [_, _]) (st' := [_, _, _]) rfl rfl rfl rfl rfl rfl (shT_1 hT) rfl rfl rfl rfl (d_findE (am_u_ne (by omega)) (nmA_0 (nmA_T1 hT)) (nmA_1 (nmA_T1 hT)) (by omega) hm ((congrFun (am_u_ne (by omega)) 1).trans ((congrFun (fr_told (by omega)) 1).trans ((congrFun (fr_new (by omega) (by omega) (by omega)) 1).trans h0))) (by omega)) rfl rfl ?_
      refine w_iastore rfl rfl (shT_7 hT) rfl ⟨by omega, by omega⟩ ?_
      refine w_aload_n rfl rfl rfl ?_
      refine w_iconst (x := Int32.ofNat 1) rfl rfl (by decide) ?_
      refine w_bipush (x := Int32.ofNat 99) rfl rfl (by decide) ?_
      refine w_cv (q := am_m88) (as := [_, _]) (rest := []) (st' := [_]) rfl rfl rfl rfl rfl rfl sp2 rfl rfl rfl rfl (d_readNumber (tks_u (by omega) (tks_u (by omega) (tks_told (tks_new (by omega) v)))) hB (by omega)) rfl rfl ?_
      refine w_if_ne (t := 89) (f := 87) rfl rfl rfl (fun c84 => ?_) (fun c84 => ?_)
      · refine w_aload_n rfl rfl rfl ?_
        refine w_gf (t := .retAddr 0) (v := .ref (T)) rfl rfl rfl sp2 rfl (congrArg Value.ref h2) rfl ?_
        refine w_gf (t := .ref (T + 8)) (v := .ref (T + 8)) rfl rfl rfl (shT_0 hT) rfl rfl rfl ?_
        refine w_iload_n rfl rfl rfl ?_
        refine w_aload_n rfl rfl rfl ?_
        refine w_gf (t := .ref (3)) (v := .ref (3)) rfl rfl rfl sp2 rfl rfl rfl ?_
        refine w_gf (t := .int 0) (v := .int _) rfl rfl rfl sp3 rfl (congrArg Value.int rfl) rfl ?_
        refine w_iastore rfl rfl (shT_8 hT) rfl ⟨by omega, by omega⟩ ?_
        refine w_aload_n rfl rfl rfl ?_
        refine w_iconst (x := Int32.ofNat 0) rfl rfl (by decide) ?_
        refine w_bipush (x := Int32.ofNat 99) rfl rfl (by decide) ?_
        refine w_cv (q := am_m88) (as := [_, _]) (rest := []) (st' := [_]) rfl rfl rfl rfl rfl rfl sp2 rfl rfl rfl rfl (d_readNumber (tks_u (by omega) (tks_num (tks_u (by omega) (tks_u (by omega) (tks_told (tks_new (by omega) v)))))) hB (by omega)) rfl rfl ?_
        refine w_if_ne (t := 117) (f := 115) rfl rfl rfl (fun c112 => ?_) (fun c112 => ?_)
        · refine w_aload_n rfl rfl rfl ?_
          refine w_gf (t := .retAddr 0) (v := .ref (T)) rfl rfl rfl sp2 rfl (congrArg Value.ref h2) rfl ?_
          refine w_gf (t := .ref (T + 9)) (v := .ref (T + 9)) rfl rfl rfl (shT_0 hT) rfl rfl rfl ?_
          refine w_iload_n rfl rfl rfl ?_
          refine w_aload_n rfl rfl rfl ?_
          refine w_gf (t := .ref (3)) (v := .ref (3)) rfl rfl rfl sp2 rfl rfl rfl ?_
          refine w_gf (t := .int 0) (v := .int _) rfl rfl rfl sp3 rfl (congrArg Value.int rfl) rfl ?_
          refine w_iastore rfl rfl (shT_9 hT) rfl ⟨by omega, by omega⟩ ?_
          refine w_iconst (x := Int32.ofNat 1) rfl rfl (by decide) ?_
          exact w_bret rfl (by decide) (by unfold k_rp; (first | (rw [k_bd1 c22, k_bd1 c36, k_bd1 c84, k_bd1 c112] <;> rfl) | (rw [k_bd1 c22, k_bd1 c36, k_bd1 c84, k_bd0 c112] <;> exact c112.symm) | (rw [k_bd1 c22, k_bd1 c36, k_bd0 c84] <;> exact c84.symm) | (rw [k_bd1 c22, k_bd0 c36] <;> exact c36.symm) | (rw [k_bd0 c22] <;> exact c22.symm))) (by unfold k_rp; (first | (rw [k_bd1 c22, k_bd1 c36, k_bd1 c84, k_bd1 c112] <;> rfl) | rw [k_bd1 c22, k_bd1 c36, k_bd1 c84, k_bd0 c112] | rw [k_bd1 c22, k_bd1 c36, k_bd0 c84] | rw [k_bd1 c22, k_bd0 c36] | rw [k_bd0 c22])) rfl rfl
        · refine w_iconst (x := Int32.ofNat 0) rfl rfl (by decide) ?_
          exact w_bret rfl (by decide) (by unfold k_rp; (first | (rw [k_bd1 c22, k_bd1 c36, k_bd1 c84, k_bd1 c112] <;> rfl) | (rw [k_bd1 c22, k_bd1 c36, k_bd1 c84, k_bd0 c112] <;> exact c112.symm) | (rw [k_bd1 c22, k_bd1 c36, k_bd0 c84] <;> exact c84.symm) | (rw [k_bd1 c22, k_bd0 c36] <;> exact c36.symm) | (rw [k_bd0 c22] <;> exact c22.symm))) (by unfold k_rp; (first | (rw [k_bd1 c22, k_bd1 c36, k_bd1 c84, k_bd1 c112] <;> rfl) | rw [k_bd1 c22, k_bd1 c36, k_bd1 c84, k_bd0 c112] | rw [k_bd1 c22, k_bd1 c36, k_bd0 c84] | rw [k_bd1 c22, k_bd0 c36] | rw [k_bd0 c22])) rfl rfl
      · refine w_iconst (x := Int32.ofNat 0) rfl rfl (by decide) ?_
        exact w_bret rfl (by decide) (by unfold k_rp; (first | (rw [k_bd1 c22, k_bd1 c36, k_bd1 c84, k_bd1 c112] <;> rfl) | (rw [k_bd1 c22, k_bd1 c36, k_bd1 c84, k_bd0 c112] <;> exact c112.symm) | (rw [k_bd1 c22, k_bd1 c36, k_bd0 c84] <;> exact c84.symm) | (rw [k_bd1 c22, k_bd0 c36] <;> exact c36.symm) | (rw [k_bd0 c22] <;> exact c22.symm))) (by unfold k_rp; (first | (rw [k_bd1 c22, k_bd1 c36, k_bd1 c84, k_bd1 c112] <;> rfl) | rw [k_bd1 c22, k_bd1 c36, k_bd1 c84, k_bd0 c112] | rw [k_bd1 c22, k_bd1 c36, k_bd0 c84] | rw [k_bd1 c22, k_bd0 c36] | rw [k_bd0 c22])) rfl rfl
    · refine w_iconst (x := Int32.ofNat 0) rfl rfl (by decide) ?_
      exact w_bret rfl (by decide) (by unfold k_rp; (first | (rw [k_bd1 c22, k_bd1 c36, k_bd1 c84, k_bd1 c112] <;> rfl) | (rw [k_bd1 c22, k_bd1 c36, k_bd1 c84, k_bd0 c112] <;> exact c112.symm) | (rw [k_bd1 c22, k_bd1 c36, k_bd0 c84] <;> exact c84.symm) | (rw [k_bd1 c22, k_bd0 c36] <;> exact c36.symm) | (rw [k_bd0 c22] <;> exact c22.symm))) (by unfold k_rp; (first | (rw [k_bd1 c22, k_bd1 c36, k_bd1 c84, k_bd1 c112] <;> rfl) | rw [k_bd1 c22, k_bd1 c36, k_bd1 c84, k_bd0 c112] | rw [k_bd1 c22, k_bd1 c36, k_bd0 c84] | rw [k_bd1 c22, k_bd0 c36] | rw [k_bd0 c22])) rfl rfl
def k_rg1 (I : hI) (T m j : Nat) : Int32 × hI := if I (T + 10) j = Int32.ofInt (-1) then k_bd (k_told I (T + 11) m) fun I => (1, am_u I (T + 10) j (k_fn I (T + 11) m)) else (0, u_bl I (Int32.ofNat 3))
theorem k_rg11 {I : hI} {T m j : Nat} (h : I (T + 10) j = Int32.ofInt (-1)) : k_rg1 I T m j = k_bd (k_told I (T + 11) m) fun I => (1, am_u I (T + 10) j (k_fn I (T + 11) m)) := if_pos h
theorem k_rg10 {I : hI} {T m j : Nat} (h : ¬ I (T + 10) j = Int32.ofInt (-1)) : k_rg1 I T m j = (0, u_bl I (Int32.ofNat 3)) := if_neg h
def k_rg (I : hI) (T n m : Nat) : Int32 × hI := k_bd (k_told I (T + 5) n) fun I => k_rg1 I T m (nn (k_fn I (T + 5) n))
theorem d_readRig {k : Nat} {I : hI} {J : hJ} {R : hR} {T : Nat} (hT : T = 9 ∨ T = 36) {st : Nat} (v : tks I st) (hB : R 3 1 = 1) (h2 : R 2 2 = T) {n m : Nat} (hn : n ≤ 8) (h1 : I (T + 5) 1 = Int32.ofNat n) (hm : m ≤ 5) (h0 : I (T + 11) 1 = Int32.ofNat m) (hk : 5 ≤ k) : ct k 81 [.ref 2] I J R (some (.int (k_rg I T n m).1)) ((k_rg I T n m).2) J R := by
  obtain ⟨k, rfl⟩ : ∃ k', k = k' + 1 := ⟨k - 1, by omega⟩
  refine ct_of (q := am_m81) (o := 8) (rt := (some .boolean)) (co := am_c81) (L := [_, _]) rfl rfl rfl rfl rfl rfl ?_
  refine w_aload_n rfl rfl rfl ?_
  refine w_aload_n rfl rfl rfl ?_
  refine w_gf (t := .retAddr 0) (v := .ref (T)) rfl rfl rfl sp2 rfl (congrArg Value.ref h2) rfl ?_
  refine w_gf (t := .ref (T + 5)) (v := .ref (T + 5)) rfl rfl rfl (shT_0 hT) rfl rfl rfl ?_
  refine w_cv (q := am_m87) (as := [_]) (rest := []) (st' := [_]) rfl rfl rfl rfl rfl rfl sp2 rfl rfl rfl rfl (d_readToldName (nmA_T5 hT) v hB hn h1 (by omega)) rfl rfl ?_
  refine w_if_ne (t := 16) (f := 14) rfl rfl rfl (fun c11 => ?_) (fun c11 => ?_)
  · have ok := k_told_1 (by omega) c11
    have ok1 := ok.1
    have ok2 := ok.2
    refine w_aload_n rfl rfl rfl ?_
    refine w_gf (t := .retAddr 0) (v := .ref (T)) rfl rfl rfl sp2 rfl (congrArg Value.ref h2) rfl ?_
    refine w_gf (t := .ref (T + 5)) (v := .ref (T + 5)) rfl rfl rfl (shT_0 hT) rfl rfl rfl ?_
    refine w_aload_n rfl rfl rfl ?_
    refine w_gf (t := .ref (3)) (v := .ref (3)) rfl rfl rfl sp2 rfl rfl rfl ?_
    refine w_gf (t := .int 0) (v := .int _) rfl rfl rfl sp3 rfl (congrArg Value.int rfl) rfl ?_
    refine w_cv (q := am_m49) (as := [_]) (rest := []) (st' := [_]) rfl rfl rfl rfl rfl rfl (shT_5 hT) rfl rfl rfl rfl (d_find (nmA_0 (nmA_T5 hT)) (nmA_1 (nmA_T5 hT)) (by omega) hn ((congrFun (fr_told (by omega)) 1).trans h1) (by omega)) rfl rfl ?_
    refine w_istore_n (L' := [_, _]) rfl rfl rfl ?_
    refine w_aload_n rfl rfl rfl ?_
    refine w_gf (t := .retAddr 0) (v := .ref (T)) rfl rfl rfl sp2 rfl (congrArg Value.ref h2) rfl ?_
    refine w_gf (t := .ref (T + 10)) (v := .ref (T + 10)) rfl rfl rfl (shT_0 hT) rfl rfl rfl ?_
    refine w_iload_n rfl rfl rfl ?_
    refine w_iaload rfl rfl (shT_10 hT) ok1 ⟨(by omega), by omega⟩ rfl ?_
    refine w_iconst (x := Int32.ofInt (-1)) rfl rfl (by decide) ?_
    refine w_ic_eq (t := 56) (f := 47) rfl rfl rfl (fun c44 => ?_) (fun c44 => ?_)
    · refine w_aload_n rfl rfl rfl ?_
      refine w_aload_n rfl rfl rfl ?_
      refine w_gf (t := .retAddr 0) (v := .ref (T)) rfl rfl rfl sp2 rfl (congrArg Value.ref h2) rfl ?_
      refine w_gf (t := .ref (T + 11)) (v := .ref (T + 11)) rfl rfl rfl (shT_0 hT) rfl rfl rfl ?_
      refine w_cv (q := am_m87) (as := [_]) (rest := []) (st' := [_]) rfl rfl rfl rfl rfl rfl sp2 rfl rfl rfl rfl (d_readToldName (nmA_T11 hT) (tks_told v) hB hm ((congrFun (fr_told (by omega)) 1).trans h0) (by omega)) rfl rfl ?_
      refine w_if_ne (t := 72) (f := 70) rfl rfl rfl (fun c67 => ?_) (fun c67 => ?_)
      · refine w_aload_n rfl rfl rfl ?_
        refine w_gf (t := .retAddr 0) (v := .ref (T)) rfl rfl rfl sp2 rfl (congrArg Value.ref h2) rfl ?_
        refine w_gf (t := .ref (T + 10)) (v := .ref (T + 10)) rfl rfl rfl (shT_0 hT) rfl rfl rfl ?_
        refine w_iload_n rfl rfl rfl ?_
        refine w_aload_n rfl rfl rfl ?_
        refine w_gf (t := .retAddr 0) (v := .ref (T)) rfl rfl rfl sp2 rfl (congrArg Value.ref h2) rfl ?_
        refine w_gf (t := .ref (T + 11)) (v := .ref (T + 11)) rfl rfl rfl (shT_0 hT) rfl rfl rfl ?_
        refine w_aload_n rfl rfl rfl ?_
        refine w_gf (t := .ref (3)) (v := .ref (3)) rfl rfl rfl sp2 rfl rfl rfl ?_
        refine w_gf (t := .int 0) (v := .int _) rfl rfl rfl sp3 rfl (congrArg Value.int rfl) rfl ?_
        refine w_cv (q := am_m49) (as := [_]) (rest := [_, _]) (st' := [_, _, _]) rfl rfl rfl rfl rfl rfl (shT_11 hT) rfl rfl rfl rfl (d_find (nmA_0 (nmA_T11 hT)) (nmA_1 (nmA_T11 hT)) (by omega) hm ((congrFun (fr_told (by omega)) 1).trans ((congrFun (fr_told (by omega)) 1).trans h0)) (by omega)) rfl rfl ?_
        refine w_iastore rfl rfl (shT_10 hT) ok1 ⟨(by omega), by omega⟩ ?_
        refine w_iconst (x := Int32.ofNat 1) rfl rfl (by decide) ?_
        exact w_bret rfl (by decide) (by unfold k_rg; (first | (rw [k_bd1 c11, k_rg10 c44] <;> rfl) | (rw [k_bd1 c11, k_rg11 c44, k_bd1 c67] <;> rfl) | (rw [k_bd1 c11, k_rg11 c44, k_bd0 c67] <;> exact c67.symm) | (rw [k_bd0 c11] <;> exact c11.symm))) (by unfold k_rg; (first | (rw [k_bd1 c11, k_rg10 c44]) | (rw [k_bd1 c11, k_rg11 c44, k_bd1 c67] <;> rfl) | rw [k_bd1 c11, k_rg11 c44, k_bd0 c67] | rw [k_bd0 c11])) rfl rfl
      · refine w_iconst (x := Int32.ofNat 0) rfl rfl (by decide) ?_
        exact w_bret rfl (by decide) (by unfold k_rg; (first | (rw [k_bd1 c11, k_rg10 c44] <;> rfl) | (rw [k_bd1 c11, k_rg11 c44, k_bd1 c67] <;> rfl) | (rw [k_bd1 c11, k_rg11 c44, k_bd0 c67] <;> exact c67.symm) | (rw [k_bd0 c11] <;> exact c11.symm))) (by unfold k_rg; (first | (rw [k_bd1 c11, k_rg10 c44]) | (rw [k_bd1 c11, k_rg11 c44, k_bd1 c67] <;> rfl) | rw [k_bd1 c11, k_rg11 c44, k_bd0 c67] | rw [k_bd0 c11])) rfl rfl
    · refine w_aload_n rfl rfl rfl ?_
      refine w_gf (t := .ref (3)) (v := .ref (3)) rfl rfl rfl sp2 rfl rfl rfl ?_
      refine w_iconst (x := Int32.ofNat 3) rfl rfl (by decide) ?_
      refine w_cv (q := am_m92) (as := [_]) (rest := []) (st' := [_]) rfl rfl rfl rfl rfl rfl sp3 rfl rfl rfl rfl (d_blame (by omega)) rfl rfl ?_
      exact w_bret rfl (by decide) (by unfold k_rg; (first | (rw [k_bd1 c11, k_rg10 c44] <;> rfl) | (rw [k_bd1 c11, k_rg11 c44, k_bd1 c67] <;> rfl) | (rw [k_bd1 c11, k_rg11 c44, k_bd0 c67] <;> exact c67.symm) | (rw [k_bd0 c11] <;> exact c11.symm))) (by unfold k_rg; (first | (rw [k_bd1 c11, k_rg10 c44]) | (rw [k_bd1 c11, k_rg11 c44, k_bd1 c67] <;> rfl) | rw [k_bd1 c11, k_rg11 c44, k_bd0 c67] | rw [k_bd0 c11])) rfl rfl
  · refine w_iconst (x := Int32.ofNat 0) rfl rfl (by decide) ?_
    exact w_bret rfl (by decide) (by unfold k_rg; (first | (rw [k_bd1 c11, k_rg10 c44] <;> rfl) | (rw [k_bd1 c11, k_rg11 c44, k_bd1 c67] <;> rfl) | (rw [k_bd1 c11, k_rg11 c44, k_bd0 c67] <;> exact c67.symm) | (rw [k_bd0 c11] <;> exact c11.symm))) (by unfold k_rg; (first | (rw [k_bd1 c11, k_rg10 c44]) | (rw [k_bd1 c11, k_rg11 c44, k_bd1 c67] <;> rfl) | rw [k_bd1 c11, k_rg11 c44, k_bd0 c67] | rw [k_bd0 c11])) rfl rfl
def k_sl3 (I : hI) (T v : Nat) : hI := am_u (am_u (am_u I (T + 16) v (I 3 6)) T 15 (if I T 15 < I (T + 15) v then I (T + 15) v else I T 15)) T 11 (Int32.ofNat (v + 1))
def k_sl (I : hI) (T v m : Nat) : Int32 × hI := k_bd (k_told I (T + 11) m) fun I => k_bd (k_num (am_u I (T + 14) v (k_fn I (T + 11) m)) (Int32.ofNat 0) (Int32.ofNat 99)) fun I => k_bd (k_num (am_u I (T + 15) v (I 3 6)) (Int32.ofNat 1) (Int32.ofNat 30)) fun I => (1, k_sl3 I T v)
theorem d_readSail {k : Nat} {I : hI} {J : hJ} {R : hR} {T : Nat} (hT : T = 9 ∨ T = 36) {st : Nat} (v : tks I st) (hB : R 3 1 = 1) (h2 : R 2 2 = T) {z m : Nat} (hz : z < 10) (h1 : I T 11 = Int32.ofNat z) (hm : m ≤ 5) (h0 : I (T + 11) 1 = Int32.ofNat m) (hk : 5 ≤ k) : ct k 82 [.ref 2] I J R (some (.int (k_sl I T z m).1)) ((k_sl I T z m).2) J R := by
  obtain ⟨k, rfl⟩ : ∃ k', k = k' + 1 := ⟨k - 1, by omega⟩
  refine ct_of (q := am_m82) (o := 8) (rt := (some .boolean)) (co := am_c82) (L := [_, _]) rfl rfl rfl rfl rfl rfl ?_
  refine w_aload_n rfl rfl rfl ?_
  refine w_gf (t := .retAddr 0) (v := .ref (T)) rfl rfl rfl sp2 rfl (congrArg Value.ref h2) rfl ?_
  refine w_gf (t := .int 0) (v := .int _) rfl rfl rfl (shT_0 hT) rfl (congrArg Value.int h1) rfl ?_
  refine w_istore_n (L' := [_, _]) rfl rfl rfl ?_
  refine w_iload_n rfl rfl rfl ?_
  refine w_bipush (x := Int32.ofNat 10) rfl rfl (by decide) ?_
  refine w_ic_ltN (t := 23) (f := 14) rfl rfl rfl (by omega) (by omega) (fun c11 => ?_) (fun c11 => absurd c11 (by omega))
  refine w_aload_n rfl rfl rfl ?_
  refine w_aload_n rfl rfl rfl ?_
  refine w_gf (t := .retAddr 0) (v := .ref (T)) rfl rfl rfl sp2 rfl (congrArg Value.ref h2) rfl ?_
  refine w_gf (t := .ref (T + 11)) (v := .ref (T + 11)) rfl rfl rfl (shT_0 hT) rfl rfl rfl ?_
  refine w_cv (q := am_m87) (as := [_]) (rest := []) (st' := [_]) rfl rfl rfl rfl rfl rfl sp2 rfl rfl rfl rfl (d_readToldName (nmA_T11 hT) v hB hm h0 (by omega)) rfl rfl ?_
  refine w_if_ne (t := 39) (f := 37) rfl rfl rfl (fun c34 => ?_) (fun c34 => ?_)
  · refine w_aload_n rfl rfl rfl ?_
    refine w_gf (t := .retAddr 0) (v := .ref (T)) rfl rfl rfl sp2 rfl (congrArg Value.ref h2) rfl ?_
    refine w_gf (t := .ref (T + 14)) (v := .ref (T + 14)) rfl rfl rfl (shT_0 hT) rfl rfl rfl ?_
    refine w_iload_n rfl rfl rfl ?_
    refine w_aload_n rfl rfl rfl ?_
    refine w_gf (t := .retAddr 0) (v := .ref (T)) rfl rfl rfl sp2 rfl (congrArg Value.ref h2) rfl ?_
    refine w_gf (t := .ref (T + 11)) (v := .ref (T + 11)) rfl rfl rfl (shT_0 hT) rfl rfl rfl ?_
    refine w_aload_n rfl rfl rfl ?_
    refine w_gf (t := .ref (3)) (v := .ref (3)) rfl rfl rfl sp2 rfl rfl rfl ?_
    refine w_gf (t := .int 0) (v := .int _) rfl rfl rfl sp3 rfl (congrArg Value.int rfl) rfl ?_
    refine w_cv (q := am_m49) (as := [_]) (rest := [_, _]) (st' := [_, _, _]) rfl rfl rfl rfl rfl rfl (shT_11 hT) rfl rfl rfl rfl (d_find (nmA_0 (nmA_T11 hT)) (nmA_1 (nmA_T11 hT)) (by omega) hm ((congrFun (fr_told (by omega)) 1).trans h0) (by omega)) rfl rfl ?_
    refine w_iastore rfl rfl (shT_14 hT) rfl ⟨by omega, by omega⟩ ?_
    refine w_aload_n rfl rfl rfl ?_
    refine w_iconst (x := Int32.ofNat 0) rfl rfl (by decide) ?_
    refine w_bipush (x := Int32.ofNat 99) rfl rfl (by decide) ?_
    refine w_cv (q := am_m88) (as := [_, _]) (rest := []) (st' := [_]) rfl rfl rfl rfl rfl rfl sp2 rfl rfl rfl rfl (d_readNumber (tks_u (by omega) (tks_told v)) hB (by omega)) rfl rfl ?_
    refine w_if_ne (t := 77) (f := 75) rfl rfl rfl (fun c72 => ?_) (fun c72 => ?_)
    · refine w_aload_n rfl rfl rfl ?_
      refine w_gf (t := .retAddr 0) (v := .ref (T)) rfl rfl rfl sp2 rfl (congrArg Value.ref h2) rfl ?_
      refine w_gf (t := .ref (T + 15)) (v := .ref (T + 15)) rfl rfl rfl (shT_0 hT) rfl rfl rfl ?_
      refine w_iload_n rfl rfl rfl ?_
      refine w_aload_n rfl rfl rfl ?_
      refine w_gf (t := .ref (3)) (v := .ref (3)) rfl rfl rfl sp2 rfl rfl rfl ?_
      refine w_gf (t := .int 0) (v := .int _) rfl rfl rfl sp3 rfl (congrArg Value.int rfl) rfl ?_
      refine w_iastore rfl rfl (shT_15 hT) rfl ⟨by omega, by omega⟩ ?_
      refine w_aload_n rfl rfl rfl ?_
      refine w_iconst (x := Int32.ofNat 1) rfl rfl (by decide) ?_
      refine w_bipush (x := Int32.ofNat 30) rfl rfl (by decide) ?_
      refine w_cv (q := am_m88) (as := [_, _]) (rest := []) (st' := [_]) rfl rfl rfl rfl rfl rfl sp2 rfl rfl rfl rfl (d_readNumber (tks_u (by omega) (tks_num (tks_u (by omega) (tks_told v)))) hB (by omega)) rfl rfl ?_
      refine w_if_ne (t := 105) (f := 103) rfl rfl rfl (fun c100 => ?_) (fun c100 => ?_)
      · refine w_aload_n rfl rfl rfl ?_
        refine w_gf (t := .retAddr 0) (v := .ref (T)) rfl rfl rfl sp2 rfl (congrArg Value.ref h2) rfl ?_
        refine w_gf (t := .ref (T + 16)) (v := .ref (T + 16)) rfl rfl rfl (shT_0 hT) rfl rfl rfl ?_
        refine w_iload_n rfl rfl rfl ?_
        refine w_aload_n rfl rfl rfl ?_
        refine w_gf (t := .ref (3)) (v := .ref (3)) rfl rfl rfl sp2 rfl rfl rfl ?_
        refine w_gf (t := .int 0) (v := .int _) rfl rfl rfl sp3 rfl (congrArg Value.int rfl) rfl ?_
        refine w_iastore rfl rfl (shT_16 hT) rfl ⟨by omega, by omega⟩ ?_
        refine w_aload_n rfl rfl rfl ?_
        refine w_gf (t := .retAddr 0) (v := .ref (T)) rfl rfl rfl sp2 rfl (congrArg Value.ref h2) rfl ?_
        refine w_aload_n rfl rfl rfl ?_
        refine w_gf (t := .retAddr 0) (v := .ref (T)) rfl rfl rfl sp2 rfl (congrArg Value.ref h2) rfl ?_
        refine w_gf (t := .int 0) (v := .int _) rfl rfl rfl (shT_0 hT) rfl (congrArg Value.int (congrFun (am_u_ne (by omega)) _)) rfl ?_
        refine w_aload_n rfl rfl rfl ?_
        refine w_gf (t := .retAddr 0) (v := .ref (T)) rfl rfl rfl sp2 rfl (congrArg Value.ref h2) rfl ?_
        refine w_gf (t := .ref (T + 15)) (v := .ref (T + 15)) rfl rfl rfl (shT_0 hT) rfl rfl rfl ?_
        refine w_iload_n rfl rfl rfl ?_
        refine w_iaload rfl rfl (shT_15 hT) rfl ⟨by omega, by omega⟩ (congrFun (am_u_ne (by omega)) _) ?_
        refine w_max rfl rfl rfl rfl ?_
        refine w_pf rfl rfl rfl (shT_0 hT) rfl rfl rfl ?_
        refine w_aload_n rfl rfl rfl ?_
        refine w_gf (t := .retAddr 0) (v := .ref (T)) rfl rfl rfl sp2 rfl (congrArg Value.ref h2) rfl ?_
        refine w_dup rfl rfl rfl ?_
        refine w_gf (t := .int 0) (v := .int _) rfl rfl rfl (shT_0 hT) rfl (congrArg Value.int ((am_u_nk (by decide)).trans ((congrFun (am_u_ne (by omega)) 11).trans ((congrFun (fr_num (by omega)) 11).trans ((congrFun (am_u_ne (by omega)) 11).trans ((congrFun (fr_num (by omega)) 11).trans ((congrFun (am_u_ne (by omega)) 11).trans ((congrFun (fr_told (by omega)) 11).trans h1)))))))) rfl ?_
        refine w_iconst (x := Int32.ofNat 1) rfl rfl (by decide) ?_
        refine w_iaddN rfl rfl ?_
        refine w_pf rfl rfl rfl (shT_0 hT) rfl rfl rfl ?_
        refine w_iconst (x := Int32.ofNat 1) rfl rfl (by decide) ?_
        exact w_bret rfl (by decide) (by unfold k_sl; (first | (rw [k_bd1 c34, k_bd1 c72, k_bd1 c100] <;> rfl) | (rw [k_bd1 c34, k_bd1 c72, k_bd0 c100] <;> exact c100.symm) | (rw [k_bd1 c34, k_bd0 c72] <;> exact c72.symm) | (rw [k_bd0 c34] <;> exact c34.symm))) (by unfold k_sl; (first | (rw [k_bd1 c34, k_bd1 c72, k_bd1 c100]; dsimp only [k_sl3]) | rw [k_bd1 c34, k_bd1 c72, k_bd0 c100] | rw [k_bd1 c34, k_bd0 c72] | rw [k_bd0 c34])) rfl rfl
      · refine w_iconst (x := Int32.ofNat 0) rfl rfl (by decide) ?_
        exact w_bret rfl (by decide) (by unfold k_sl; (first | (rw [k_bd1 c34, k_bd1 c72, k_bd1 c100] <;> rfl) | (rw [k_bd1 c34, k_bd1 c72, k_bd0 c100] <;> exact c100.symm) | (rw [k_bd1 c34, k_bd0 c72] <;> exact c72.symm) | (rw [k_bd0 c34] <;> exact c34.symm))) (by unfold k_sl; (first | (rw [k_bd1 c34, k_bd1 c72, k_bd1 c100]; dsimp only [k_sl3]) | rw [k_bd1 c34, k_bd1 c72, k_bd0 c100] | rw [k_bd1 c34, k_bd0 c72] | rw [k_bd0 c34])) rfl rfl
    · refine w_iconst (x := Int32.ofNat 0) rfl rfl (by decide) ?_
      exact w_bret rfl (by decide) (by unfold k_sl; (first | (rw [k_bd1 c34, k_bd1 c72, k_bd1 c100] <;> rfl) | (rw [k_bd1 c34, k_bd1 c72, k_bd0 c100] <;> exact c100.symm) | (rw [k_bd1 c34, k_bd0 c72] <;> exact c72.symm) | (rw [k_bd0 c34] <;> exact c34.symm))) (by unfold k_sl; (first | (rw [k_bd1 c34, k_bd1 c72, k_bd1 c100]; dsimp only [k_sl3]) | rw [k_bd1 c34, k_bd1 c72, k_bd0 c100] | rw [k_bd1 c34, k_bd0 c72] | rw [k_bd0 c34])) rfl rfl
  · refine w_iconst (x := Int32.ofNat 0) rfl rfl (by decide) ?_
    exact w_bret rfl (by decide) (by unfold k_sl; (first | (rw [k_bd1 c34, k_bd1 c72, k_bd1 c100] <;> rfl) | (rw [k_bd1 c34, k_bd1 c72, k_bd0 c100] <;> exact c100.symm) | (rw [k_bd1 c34, k_bd0 c72] <;> exact c72.symm) | (rw [k_bd0 c34] <;> exact c34.symm))) (by unfold k_sl; (first | (rw [k_bd1 c34, k_bd1 c72, k_bd1 c100]; dsimp only [k_sl3]) | rw [k_bd1 c34, k_bd1 c72, k_bd0 c100] | rw [k_bd1 c34, k_bd0 c72] | rw [k_bd0 c34])) rfl rfl
theorem d_readSail_no {k : Nat} {I : hI} {J : hJ} {R : hR} {T : Nat} (hT : T = 9 ∨ T = 36) {st : Nat} (v : tks I st) (hB : R 3 1 = 1) (h2 : R 2 2 = T) (h1 : I T 11 = Int32.ofNat 10) (hk : 5 ≤ k) : ct k 82 [.ref 2] I J R (some (.int 0)) (u_bl I (Int32.ofNat 2)) J R := by
  obtain ⟨k, rfl⟩ : ∃ k', k = k' + 1 := ⟨k - 1, by omega⟩
  refine ct_of (q := am_m82) (o := 8) (rt := (some .boolean)) (co := am_c82) (L := [_, _]) rfl rfl rfl rfl rfl rfl ?_
  refine w_aload_n rfl rfl rfl ?_
  refine w_gf (t := .retAddr 0) (v := .ref (T)) rfl rfl rfl sp2 rfl (congrArg Value.ref h2) rfl ?_
  refine w_gf (t := .int 0) (v := .int _) rfl rfl rfl (shT_0 hT) rfl (congrArg Value.int h1) rfl ?_
  refine w_istore_n (L' := [_, _]) rfl rfl rfl ?_
  refine w_iload_n rfl rfl rfl ?_
  refine w_bipush (x := Int32.ofNat 10) rfl rfl (by decide) ?_
  refine w_ic_ltN (t := 23) (f := 14) rfl rfl rfl (by omega) (by omega) (fun c11 => absurd c11 (by omega)) (fun c11 => ?_)
  refine w_aload_n rfl rfl rfl ?_
  refine w_gf (t := .ref (3)) (v := .ref (3)) rfl rfl rfl sp2 rfl rfl rfl ?_
  refine w_iconst (x := Int32.ofNat 2) rfl rfl (by decide) ?_
  refine w_cv (q := am_m92) (as := [_]) (rest := []) (st' := [_]) rfl rfl rfl rfl rfl rfl sp3 rfl rfl rfl rfl (d_blame (by omega)) rfl rfl ?_
  exact w_bret rfl (by decide) rfl rfl rfl rfl
def k_sto (I : hI) (T : Nat) : Int32 × hI := if I 2 3 = 0 then k_bd (k_num I (Int32.ofNat 0) (Int32.ofNat 100)) fun I => (1, am_u (am_u I T 16 (I 3 6)) 2 3 (Int32.ofNat 1)) else (0, u_bl I (Int32.ofNat 3))
theorem k_sto1 {I : hI} {T : Nat} (h : I 2 3 = 0) : k_sto I T = k_bd (k_num I (Int32.ofNat 0) (Int32.ofNat 100)) fun I => (1, am_u (am_u I T 16 (I 3 6)) 2 3 (Int32.ofNat 1)) := if_pos h
theorem k_sto0 {I : hI} {T : Nat} (h : ¬ I 2 3 = 0) : k_sto I T = (0, u_bl I (Int32.ofNat 3)) := if_neg h
theorem d_readStorm {k : Nat} {I : hI} {J : hJ} {R : hR} {T : Nat} (hT : T = 9 ∨ T = 36) {st : Nat} (v : tks I st) (hB : R 3 1 = 1) (h2 : R 2 2 = T) (hk : 5 ≤ k) : ct k 83 [.ref 2] I J R (some (.int (k_sto I T).1)) ((k_sto I T).2) J R := by
  obtain ⟨k, rfl⟩ : ∃ k', k = k' + 1 := ⟨k - 1, by omega⟩
  refine ct_of (q := am_m83) (o := 8) (rt := (some .boolean)) (co := am_c83) (L := [_]) rfl rfl rfl rfl rfl rfl ?_
  refine w_aload_n rfl rfl rfl ?_
  refine w_gf (t := .int 0) (v := .int _) rfl rfl rfl sp2 rfl (congrArg Value.int rfl) rfl ?_
  refine w_if_eq (t := 16) (f := 7) rfl rfl rfl (fun c4 => ?_) (fun c4 => ?_)
  · refine w_aload_n rfl rfl rfl ?_
    refine w_iconst (x := Int32.ofNat 0) rfl rfl (by decide) ?_
    refine w_bipush (x := Int32.ofNat 100) rfl rfl (by decide) ?_
    refine w_cv (q := am_m88) (as := [_, _]) (rest := []) (st' := [_]) rfl rfl rfl rfl rfl rfl sp2 rfl rfl rfl rfl (d_readNumber v hB (by omega)) rfl rfl ?_
    refine w_if_ne (t := 28) (f := 26) rfl rfl rfl (fun c23 => ?_) (fun c23 => ?_)
    · refine w_aload_n rfl rfl rfl ?_
      refine w_gf (t := .retAddr 0) (v := .ref (T)) rfl rfl rfl sp2 rfl (congrArg Value.ref h2) rfl ?_
      refine w_aload_n rfl rfl rfl ?_
      refine w_gf (t := .ref (3)) (v := .ref (3)) rfl rfl rfl sp2 rfl rfl rfl ?_
      refine w_gf (t := .int 0) (v := .int _) rfl rfl rfl sp3 rfl (congrArg Value.int rfl) rfl ?_
      refine w_pf rfl rfl rfl (shT_0 hT) rfl rfl rfl ?_
      refine w_aload_n rfl rfl rfl ?_
      refine w_iconst (x := Int32.ofNat 1) rfl rfl (by decide) ?_
      refine w_pf rfl rfl rfl sp2 rfl rfl rfl ?_
      refine w_iconst (x := Int32.ofNat 1) rfl rfl (by decide) ?_
      exact w_bret rfl (by decide) (by (first | (rw [k_sto0 c4] <;> rfl) | (rw [k_sto1 c4, k_bd1 c23] <;> rfl) | (rw [k_sto1 c4, k_bd0 c23] <;> exact c23.symm))) (by (first | (rw [k_sto0 c4]) | (rw [k_sto1 c4, k_bd1 c23] <;> rfl) | (rw [k_sto1 c4, k_bd0 c23]))) rfl rfl
    · refine w_iconst (x := Int32.ofNat 0) rfl rfl (by decide) ?_
      exact w_bret rfl (by decide) (by (first | (rw [k_sto0 c4] <;> rfl) | (rw [k_sto1 c4, k_bd1 c23] <;> rfl) | (rw [k_sto1 c4, k_bd0 c23] <;> exact c23.symm))) (by (first | (rw [k_sto0 c4]) | (rw [k_sto1 c4, k_bd1 c23] <;> rfl) | (rw [k_sto1 c4, k_bd0 c23]))) rfl rfl
  · refine w_aload_n rfl rfl rfl ?_
    refine w_gf (t := .ref (3)) (v := .ref (3)) rfl rfl rfl sp2 rfl rfl rfl ?_
    refine w_iconst (x := Int32.ofNat 3) rfl rfl (by decide) ?_
    refine w_cv (q := am_m92) (as := [_]) (rest := []) (st' := [_]) rfl rfl rfl rfl rfl rfl sp3 rfl rfl rfl rfl (d_blame (by omega)) rfl rfl ?_
    exact w_bret rfl (by decide) (by (first | (rw [k_sto0 c4] <;> rfl) | (rw [k_sto1 c4, k_bd1 c23] <;> rfl) | (rw [k_sto1 c4, k_bd0 c23] <;> exact c23.symm))) (by (first | (rw [k_sto0 c4]) | (rw [k_sto1 c4, k_bd1 c23] <;> rfl) | (rw [k_sto1 c4, k_bd0 c23]))) rfl rfl
def k_see (I : hI) (T : Nat) : Int32 × hI := if I 2 4 = 0 then k_bd (k_num I (Int32.ofNat 0) (Int32.ofNat 99999)) fun I => (1, am_u (am_u I T 17 (I 3 6)) 2 4 (Int32.ofNat 1)) else (0, u_bl I (Int32.ofNat 3))
theorem k_see1 {I : hI} {T : Nat} (h : I 2 4 = 0) : k_see I T = k_bd (k_num I (Int32.ofNat 0) (Int32.ofNat 99999)) fun I => (1, am_u (am_u I T 17 (I 3 6)) 2 4 (Int32.ofNat 1)) := if_pos h
theorem k_see0 {I : hI} {T : Nat} (h : ¬ I 2 4 = 0) : k_see I T = (0, u_bl I (Int32.ofNat 3)) := if_neg h
theorem d_readSeed {k : Nat} {I : hI} {J : hJ} {R : hR} {T : Nat} (hT : T = 9 ∨ T = 36) {st : Nat} (v : tks I st) (hB : R 3 1 = 1) (h2 : R 2 2 = T) (hk : 5 ≤ k) : ct k 84 [.ref 2] I J R (some (.int (k_see I T).1)) ((k_see I T).2) J R := by
  obtain ⟨k, rfl⟩ : ∃ k', k = k' + 1 := ⟨k - 1, by omega⟩
  refine ct_of (q := am_m84) (o := 8) (rt := (some .boolean)) (co := am_c84) (L := [_]) rfl rfl rfl rfl rfl rfl ?_
  refine w_aload_n rfl rfl rfl ?_
  refine w_gf (t := .int 0) (v := .int _) rfl rfl rfl sp2 rfl (congrArg Value.int rfl) rfl ?_
  refine w_if_eq (t := 16) (f := 7) rfl rfl rfl (fun c4 => ?_) (fun c4 => ?_)
  · refine w_aload_n rfl rfl rfl ?_
    refine w_iconst (x := Int32.ofNat 0) rfl rfl (by decide) ?_
    refine w_ldc (x := Int32.ofNat 99999) rfl rfl rfl ?_
    refine w_cv (q := am_m88) (as := [_, _]) (rest := []) (st' := [_]) rfl rfl rfl rfl rfl rfl sp2 rfl rfl rfl rfl (d_readNumber v hB (by omega)) rfl rfl ?_
    refine w_if_ne (t := 28) (f := 26) rfl rfl rfl (fun c23 => ?_) (fun c23 => ?_)
    · refine w_aload_n rfl rfl rfl ?_
      refine w_gf (t := .retAddr 0) (v := .ref (T)) rfl rfl rfl sp2 rfl (congrArg Value.ref h2) rfl ?_
      refine w_aload_n rfl rfl rfl ?_
      refine w_gf (t := .ref (3)) (v := .ref (3)) rfl rfl rfl sp2 rfl rfl rfl ?_
      refine w_gf (t := .int 0) (v := .int _) rfl rfl rfl sp3 rfl (congrArg Value.int rfl) rfl ?_
      refine w_pf rfl rfl rfl (shT_0 hT) rfl rfl rfl ?_
      refine w_aload_n rfl rfl rfl ?_
      refine w_iconst (x := Int32.ofNat 1) rfl rfl (by decide) ?_
      refine w_pf rfl rfl rfl sp2 rfl rfl rfl ?_
      refine w_iconst (x := Int32.ofNat 1) rfl rfl (by decide) ?_
      exact w_bret rfl (by decide) (by (first | (rw [k_see0 c4] <;> rfl) | (rw [k_see1 c4, k_bd1 c23] <;> rfl) | (rw [k_see1 c4, k_bd0 c23] <;> exact c23.symm))) (by (first | (rw [k_see0 c4]) | (rw [k_see1 c4, k_bd1 c23] <;> rfl) | (rw [k_see1 c4, k_bd0 c23]))) rfl rfl
    · refine w_iconst (x := Int32.ofNat 0) rfl rfl (by decide) ?_
      exact w_bret rfl (by decide) (by (first | (rw [k_see0 c4] <;> rfl) | (rw [k_see1 c4, k_bd1 c23] <;> rfl) | (rw [k_see1 c4, k_bd0 c23] <;> exact c23.symm))) (by (first | (rw [k_see0 c4]) | (rw [k_see1 c4, k_bd1 c23] <;> rfl) | (rw [k_see1 c4, k_bd0 c23]))) rfl rfl
  · refine w_aload_n rfl rfl rfl ?_
    refine w_gf (t := .ref (3)) (v := .ref (3)) rfl rfl rfl sp2 rfl rfl rfl ?_
    refine w_iconst (x := Int32.ofNat 3) rfl rfl (by decide) ?_
    refine w_cv (q := am_m92) (as := [_]) (rest := []) (st' := [_]) rfl rfl rfl rfl rfl rfl sp3 rfl rfl rfl rfl (d_blame (by omega)) rfl rfl ?_
    exact w_bret rfl (by decide) (by (first | (rw [k_see0 c4] <;> rfl) | (rw [k_see1 c4, k_bd1 c23] <;> rfl) | (rw [k_see1 c4, k_bd0 c23] <;> exact c23.symm))) (by (first | (rw [k_see0 c4]) | (rw [k_see1 c4, k_bd1 c23] <;> rfl) | (rw [k_see1 c4, k_bd0 c23]))) rfl rfl
