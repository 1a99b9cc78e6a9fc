/-! The class: a law read. -/
theorem k_tv01 {I : hI} {A h o c : Nat} : (k_tv I A h o c).1 = 0 ∨ (k_tv I A h o c).1 = 1 := by
  unfold k_tv; repeat' split
  · exact k_op01
  · exact k_hk01
  · unfold k_tv2 k_tv3; repeat' split
    all_goals first | exact Or.inl rfl | exact Or.inr rfl
theorem k_tc01 {I : hI} {A h o : Nat} : (k_tc I A h o).1 = 0 ∨ (k_tc I A h o).1 = 1 := by
  unfold k_tc; repeat' split
  all_goals first | exact Or.inl rfl | exact Or.inr rfl
theorem k_ts01 {I : hI} {A h c : Nat} : (k_ts I A h c).1 = 0 ∨ (k_ts I A h c).1 = 1 := by
  unfold k_ts k_ts1 k_ts2; repeat' split
  all_goals first | exact Or.inl rfl | exact k_hk01
theorem k_take01 {I : hI} {A : Nat} : (k_take I A).1 = 0 ∨ (k_take I A).1 = 1 := by
  unfold k_take; repeat' split
  · exact k_tc01
  · exact k_ts01
  · exact k_tv01
theorem d_takeV {k : Nat} {I : hI} {J : hJ} {R : hR} {A st z : Nat} {q : Nat × Nat × Nat × Nat × Nat} (hA : lwA A) (v : lri I A st z q) (c : ¬ I 6 5 = 0) (hk : 4 ≤ k) : ct k 39 [.ref 6, .ref A, .ref 3] I J R (some (.int (k_take I A).1)) (k_take I A).2 J R := by
  have e2 := nn_E v.2.2.1.1 (by have := v.2.2.1.2; omega)
  have e3 := nn_E v.2.2.2.1.1 (by have := v.2.2.2.1.2; omega)
  have e4 := nn_E v.2.2.2.2.1.1 (by have := v.2.2.2.2.1.2; omega)
  have o0 := okn_N v.2.2.2.2.2.1.1 (show q.2.2.2.2 < 65 by have := v.2.2.2.2.2.1.2; omega) (by omega)
  have e : k_take I A = k_tv I A q.2.1 q.2.2.1 q.2.2.2.1 := by unfold k_take; rw [if_neg c]; rw [e2, e3, e4]
  rw [e]
  exact d_takeValue hA v.2.2.1.2 v.2.2.1.1 v.2.2.2.2.1.2 v.2.2.2.2.1.1 v.2.2.2.1.2 v.2.2.2.1.1 o0 hk
theorem d_takeC {k : Nat} {I : hI} {J : hJ} {R : hR} {A st z : Nat} {q : Nat × Nat × Nat × Nat × Nat} (hA : lwA A) (v : lri I A st z q) (c : I 6 5 = 0) (d : I 3 4 = Int32.ofNat 42 ∨ I 3 4 = Int32.ofNat 40) (hk : 4 ≤ k) : ct k 42 [.ref 6, .ref A, .ref 3] I J R (some (.int (k_take I A).1)) (k_take I A).2 J R := by
  have e2 := nn_E v.2.2.1.1 (by have := v.2.2.1.2; omega)
  have e3 := nn_E v.2.2.2.1.1 (by have := v.2.2.2.1.2; omega)
  have e4 := nn_E v.2.2.2.2.1.1 (by have := v.2.2.2.2.1.2; omega)
  have o0 := okn_N v.2.2.2.2.2.1.1 (show q.2.2.2.2 < 65 by have := v.2.2.2.2.2.1.2; omega) (by omega)
  have e : k_take I A = k_tc I A q.2.1 q.2.2.1 := by unfold k_take; rw [if_pos c, if_pos d]; rw [e2, e3]
  rw [e]
  exact d_takeClosing hA v.2.2.1.2 v.2.2.1.1 v.2.2.2.1.2 v.2.2.2.1.1 o0 (lri_tc hA v).1 hk
theorem d_takeS {k : Nat} {I : hI} {J : hJ} {R : hR} {A st z : Nat} {q : Nat × Nat × Nat × Nat × Nat} (hA : lwA A) (v : lri I A st z q) (c : I 6 5 = 0) (d : ¬ (I 3 4 = Int32.ofNat 42 ∨ I 3 4 = Int32.ofNat 40)) (hk : 4 ≤ k) : ct k 41 [.ref 6, .ref A, .ref 3] I J R (some (.int (k_take I A).1)) (k_take I A).2 J R := by
  have e2 := nn_E v.2.2.1.1 (by have := v.2.2.1.2; omega)
  have e3 := nn_E v.2.2.2.1.1 (by have := v.2.2.2.1.2; omega)
  have e4 := nn_E v.2.2.2.2.1.1 (by have := v.2.2.2.2.1.2; omega)
  have o0 := okn_N v.2.2.2.2.2.1.1 (show q.2.2.2.2 < 65 by have := v.2.2.2.2.2.1.2; omega) (by omega)
  have e : k_take I A = k_ts I A q.2.1 q.2.2.2.1 := by unfold k_take; rw [if_pos c, if_neg d]; rw [e2, e4]
  rw [e]
  exact d_takeSign hA v.2.2.1.2 v.2.2.1.1 v.2.2.2.2.1.2 v.2.2.2.2.1.1 o0 hk
theorem l_readInto {k : Nat} {J : hJ} {R : hR} {A st z : Nat} (hA : lwA A) (hB : R 3 1 = 1) {y : Int32} (hk : 4 ≤ k) : ∀ (j r : Nat) (u : Value) (I : hI) (q : Nat × Nat × Nat × Nat × Nat), r + j = st + 1 → lri I A st z q → wz k 4 (some .boolean) am_c38 28 [.ref 6, .ref A, .ref 3, .int y, .int (Int32.ofNat r), u] [] I J R (some (.int (k_ri A j I).1), am_hp (k_ri A j I).2 J R) := by
  intro j
  induction j with
  | zero =>
    intro r u I q e v
    have hs := v.1.1
    have h2 := v.1.2
    refine w_iload rfl rfl rfl ?_
    refine w_aload_n rfl rfl rfl ?_
    refine w_gf (t := .int 0) (v := .int _) rfl rfl rfl sp3 rfl (congrArg Value.int h2) rfl ?_
    refine w_ic_gtN (t := 119) (f := 37) rfl rfl rfl (by omega) (by omega) (fun c34 => ?_) (fun c34 => absurd c34 (by omega))
    refine w_aload_n rfl rfl rfl ?_
    refine w_iconst (x := Int32.ofNat 1) rfl rfl (by decide) ?_
    refine w_cv (q := am_m92) (as := [_]) (rest := []) (st' := [_]) rfl rfl rfl rfl rfl rfl sp3 rfl rfl rfl rfl (d_blame (by omega)) rfl rfl ?_
    exact w_bret rfl (by decide) rfl rfl rfl rfl
  | succ j ih =>
    intro r u I q e v
    have hs := v.1.1
    have h2 := v.1.2
    obtain ⟨p1, v1⟩ := lri_tok (p := q.1) (h := q.2.1) (o := q.2.2.1) (c := q.2.2.2.1) (n := q.2.2.2.2) hA v
    have v2 := lri_take hA v1
    refine w_iload rfl rfl rfl ?_
    refine w_aload_n rfl rfl rfl ?_
    refine w_gf (t := .int 0) (v := .int _) rfl rfl rfl sp3 rfl (congrArg Value.int h2) rfl ?_
    refine w_ic_gtN (t := 119) (f := 37) rfl rfl rfl (by omega) (by omega) (fun c34 => absurd c34 (by omega)) (fun c34 => ?_)
    refine w_aload_n rfl rfl rfl ?_
    refine w_cv (q := am_m93) (as := []) (rest := []) (st' := []) rfl rfl rfl rfl rfl rfl sp3 rfl rfl rfl rfl (d_tok v hB (by omega)) rfl rfl ?_
    refine w_aload_n rfl rfl rfl ?_
    refine w_gf (t := .int 0) (v := .int _) rfl rfl rfl sp6 rfl (congrArg Value.int rfl) rfl ?_
    refine w_if_eq (t := 59) (f := 48) rfl rfl rfl (fun c45 => ?_) (fun c45 => ?_)
    · refine w_aload_n rfl rfl rfl ?_
      refine w_gf (t := .int 0) (v := .int _) rfl rfl rfl sp3 rfl (congrArg Value.int rfl) rfl ?_
      refine w_bipush (x := Int32.ofNat 42) rfl rfl (by decide) ?_
      refine w_ic_eq (t := 77) (f := 68) rfl rfl rfl (fun c65 => ?_) (fun c65 => ?_)
      · refine w_aload_n rfl rfl rfl ?_
        refine w_aload_n rfl rfl rfl ?_
        refine w_aload_n rfl rfl rfl ?_
        refine w_cv (q := am_m42) (as := [_, _]) (rest := []) (st' := [_]) rfl rfl rfl rfl rfl rfl sp6 rfl rfl rfl rfl (d_takeC hA v1 c45 (by first | exact Or.inl c65 | exact Or.inr c74) (by omega)) rfl rfl ?_
        refine w_istore (L' := [_, _, _, _, _, _]) rfl rfl rfl ?_
        refine w_goto (pc' := 96) rfl rfl ?_
        refine w_iload rfl rfl rfl ?_
        refine w_if_eq (t := 110) (f := 101) rfl rfl rfl (fun c98 => ?_) (fun c98 => ?_)
        · refine w_iload rfl rfl rfl ?_
          exact w_bret rfl k_take01 (by first | rw [k_ri1 c98] | rw [k_ri2 c107]) (by first | rw [k_ri1 c98] | rw [k_ri2 c107]) rfl rfl
        · refine w_aload_n rfl rfl rfl ?_
          refine w_gf (t := .int 0) (v := .int _) rfl rfl rfl sp3 rfl (congrArg Value.int rfl) rfl ?_
          refine w_bipush (x := Int32.ofNat 40) rfl rfl (by decide) ?_
          refine w_ic_ne (t := 113) (f := 110) rfl rfl rfl (fun c107 => ?_) (fun c107 => ?_)
          · refine w_iinc (L' := [_, _, _, _, _, _]) rfl rfl rfl (am_incN 1) rfl ?_
            refine w_goto (pc' := 28) rfl rfl ?_
            rw [k_ri3 c98 c107]
            obtain ⟨q2, v3⟩ := v2.resolve_left c98
            exact ih (r + 1) _ _ q2 (by omega) v3
          · refine w_iload rfl rfl rfl ?_
            exact w_bret rfl k_take01 (by first | rw [k_ri1 c98] | rw [k_ri2 c107]) (by first | rw [k_ri1 c98] | rw [k_ri2 c107]) rfl rfl
      · refine w_aload_n rfl rfl rfl ?_
        refine w_gf (t := .int 0) (v := .int _) rfl rfl rfl sp3 rfl (congrArg Value.int rfl) rfl ?_
        refine w_bipush (x := Int32.ofNat 40) rfl rfl (by decide) ?_
        refine w_ic_ne (t := 88) (f := 77) rfl rfl rfl (fun c74 => ?_) (fun c74 => ?_)
        · refine w_aload_n rfl rfl rfl ?_
          refine w_aload_n rfl rfl rfl ?_
          refine w_aload_n rfl rfl rfl ?_
          refine w_cv (q := am_m41) (as := [_, _]) (rest := []) (st' := [_]) rfl rfl rfl rfl rfl rfl sp6 rfl rfl rfl rfl (d_takeS hA v1 c45 (fun z => z.elim c65 c74) (by omega)) rfl rfl ?_
          refine w_istore (L' := [_, _, _, _, _, _]) rfl rfl rfl ?_
          refine w_iload rfl rfl rfl ?_
          refine w_if_eq (t := 110) (f := 101) rfl rfl rfl (fun c98 => ?_) (fun c98 => ?_)
          · refine w_iload rfl rfl rfl ?_
            exact w_bret rfl k_take01 (by first | rw [k_ri1 c98] | rw [k_ri2 c107]) (by first | rw [k_ri1 c98] | rw [k_ri2 c107]) rfl rfl
          · refine w_aload_n rfl rfl rfl ?_
            refine w_gf (t := .int 0) (v := .int _) rfl rfl rfl sp3 rfl (congrArg Value.int rfl) rfl ?_
            refine w_bipush (x := Int32.ofNat 40) rfl rfl (by decide) ?_
            refine w_ic_ne (t := 113) (f := 110) rfl rfl rfl (fun c107 => ?_) (fun c107 => ?_)
            · refine w_iinc (L' := [_, _, _, _, _, _]) rfl rfl rfl (am_incN 1) rfl ?_
              refine w_goto (pc' := 28) rfl rfl ?_
              rw [k_ri3 c98 c107]
              obtain ⟨q2, v3⟩ := v2.resolve_left c98
              exact ih (r + 1) _ _ q2 (by omega) v3
            · refine w_iload rfl rfl rfl ?_
              exact w_bret rfl k_take01 (by first | rw [k_ri1 c98] | rw [k_ri2 c107]) (by first | rw [k_ri1 c98] | rw [k_ri2 c107]) rfl rfl
        · refine w_aload_n rfl rfl rfl ?_
          refine w_aload_n rfl rfl rfl ?_
          refine w_aload_n rfl rfl rfl ?_
          refine w_cv (q := am_m42) (as := [_, _]) (rest := []) (st' := [_]) rfl rfl rfl rfl rfl rfl sp6 rfl rfl rfl rfl (d_takeC hA v1 c45 (by first | exact Or.inl c65 | exact Or.inr c74) (by omega)) rfl rfl ?_
          refine w_istore (L' := [_, _, _, _, _, _]) rfl rfl rfl ?_
          refine w_goto (pc' := 96) rfl rfl ?_
          refine w_iload rfl rfl rfl ?_
          refine w_if_eq (t := 110) (f := 101) rfl rfl rfl (fun c98 => ?_) (fun c98 => ?_)
          · refine w_iload rfl rfl rfl ?_
            exact w_bret rfl k_take01 (by first | rw [k_ri1 c98] | rw [k_ri2 c107]) (by first | rw [k_ri1 c98] | rw [k_ri2 c107]) rfl rfl
          · refine w_aload_n rfl rfl rfl ?_
            refine w_gf (t := .int 0) (v := .int _) rfl rfl rfl sp3 rfl (congrArg Value.int rfl) rfl ?_
            refine w_bipush (x := Int32.ofNat 40) rfl rfl (by decide) ?_
            refine w_ic_ne (t := 113) (f := 110) rfl rfl rfl (fun c107 => ?_) (fun c107 => ?_)
            · refine w_iinc (L' := [_, _, _, _, _, _]) rfl rfl rfl (am_incN 1) rfl ?_
              refine w_goto (pc' := 28) rfl rfl ?_
              rw [k_ri3 c98 c107]
              obtain ⟨q2, v3⟩ := v2.resolve_left c98
              exact ih (r + 1) _ _ q2 (by omega) v3
            · refine w_iload rfl rfl rfl ?_
              exact w_bret rfl k_take01 (by first | rw [k_ri1 c98] | rw [k_ri2 c107]) (by first | rw [k_ri1 c98] | rw [k_ri2 c107]) rfl rfl
    · refine w_aload_n rfl rfl rfl ?_
      refine w_aload_n rfl rfl rfl ?_
      refine w_aload_n rfl rfl rfl ?_
      refine w_cv (q := am_m39) (as := [_, _]) (rest := []) (st' := [_]) rfl rfl rfl rfl rfl rfl sp6 rfl rfl rfl rfl (d_takeV hA v1 c45 (by omega)) rfl rfl ?_
      refine w_istore (L' := [_, _, _, _, _, _]) rfl rfl rfl ?_
      refine w_goto (pc' := 96) rfl rfl ?_
      refine w_iload rfl rfl rfl ?_
      refine w_if_eq (t := 110) (f := 101) rfl rfl rfl (fun c98 => ?_) (fun c98 => ?_)
      · refine w_iload rfl rfl rfl ?_
        exact w_bret rfl k_take01 (by first | rw [k_ri1 c98] | rw [k_ri2 c107]) (by first | rw [k_ri1 c98] | rw [k_ri2 c107]) rfl rfl
      · refine w_aload_n rfl rfl rfl ?_
        refine w_gf (t := .int 0) (v := .int _) rfl rfl rfl sp3 rfl (congrArg Value.int rfl) rfl ?_
        refine w_bipush (x := Int32.ofNat 40) rfl rfl (by decide) ?_
        refine w_ic_ne (t := 113) (f := 110) rfl rfl rfl (fun c107 => ?_) (fun c107 => ?_)
        · refine w_iinc (L' := [_, _, _, _, _, _]) rfl rfl rfl (am_incN 1) rfl ?_
          refine w_goto (pc' := 28) rfl rfl ?_
          rw [k_ri3 c98 c107]
          obtain ⟨q2, v3⟩ := v2.resolve_left c98
          exact ih (r + 1) _ _ q2 (by omega) v3
        · refine w_iload rfl rfl rfl ?_
          exact w_bret rfl k_take01 (by first | rw [k_ri1 c98] | rw [k_ri2 c107]) (by first | rw [k_ri1 c98] | rw [k_ri2 c107]) rfl rfl
def k_ri0 (I : hI) (c : Nat) : hI := am_u (am_u (am_u (am_u (am_u I 6 2 (Int32.ofNat 0)) 6 3 (Int32.ofNat 0)) 6 4 (Int32.ofNat c)) 6 5 (Int32.ofNat 1)) 6 6 (Int32.ofNat 1)
def k_rdI (I : hI) (A c : Nat) : Int32 × hI := k_ri A (nn (I 3 2) + 1) (k_ri0 I c)
theorem k_ri0_v {I : hI} {A st p c : Nat} (hA : lwA A) (hs : st ≤ 700) (a2 : I 3 2 = Int32.ofNat st) (a3 : I 3 3 = Int32.ofNat p) (hp : p ≤ st) (d : I A 0 = Int32.ofNat 0) (hc : c ≤ 64) : lri (k_ri0 I c) A st c (p, 0, 0, c, 0) := by
  have g := lwA_g hA
  have e : ∀ b, b ≠ 6 → k_ri0 I c b = I b := fun b h => (am_u_ne h).trans ((am_u_ne h).trans ((am_u_ne h).trans ((am_u_ne h).trans (am_u_ne h))))
  refine ⟨⟨hs, (congrFun (e 3 (by decide)) 2).trans a2⟩, ⟨(congrFun (e 3 (by decide)) 3).trans a3, hp⟩, ⟨?_, Nat.zero_le _⟩, ⟨?_, Nat.zero_le _⟩, ⟨?_, hc⟩, ⟨(congrFun (e A (by omega)) 0).trans d, Nat.zero_le _⟩, rfl, Nat.zero_le _, by show 0 + 0 + c = c + 0; omega⟩
  all_goals (unfold k_ri0; simp +decide [am_u])
theorem d_readInto {k : Nat} {I : hI} {J : hJ} {R : hR} {A st p c : Nat} (hA : lwA A) (hs : st ≤ 700) (a2 : I 3 2 = Int32.ofNat st) (a3 : I 3 3 = Int32.ofNat p) (hp : p ≤ st) (d : I A 0 = Int32.ofNat 0) (hc : c ≤ 64) (hB : R 3 1 = 1) (hk : 5 ≤ k) : ct k 38 [.ref 6, .ref A, .ref 3, .int (Int32.ofNat c)] I J R (some (.int (k_rdI I A c).1)) ((k_rdI I A c).2) J R := by
  obtain ⟨k, rfl⟩ : ∃ k', k = k' + 1 := ⟨k - 1, by omega⟩
  have v := k_ri0_v hA hs a2 a3 hp d hc
  unfold k_rdI
  rw [nn_E a2 (by omega)]
  refine ct_of (q := am_m38) (o := 4) (rt := (some .boolean)) (co := am_c38) (L := [_, _, _, _, _, _]) rfl rfl rfl rfl rfl rfl ?_
  refine w_aload_n rfl rfl rfl ?_
  refine w_iconst (x := Int32.ofNat 0) rfl rfl (by decide) ?_
  refine w_pf rfl rfl rfl sp6 rfl rfl rfl ?_
  refine w_aload_n rfl rfl rfl ?_
  refine w_iconst (x := Int32.ofNat 0) rfl rfl (by decide) ?_
  refine w_pf rfl rfl rfl sp6 rfl rfl rfl ?_
  refine w_aload_n rfl rfl rfl ?_
  refine w_iload_n rfl rfl rfl ?_
  refine w_pf rfl rfl rfl sp6 rfl rfl rfl ?_
  refine w_aload_n rfl rfl rfl ?_
  refine w_iconst (x := Int32.ofNat 1) rfl rfl (by decide) ?_
  refine w_pf rfl rfl rfl sp6 rfl rfl rfl ?_
  refine w_aload_n rfl rfl rfl ?_
  refine w_iconst (x := Int32.ofNat 1) rfl rfl (by decide) ?_
  refine w_pf rfl rfl rfl sp6 rfl rfl rfl ?_
  refine w_iconst (x := Int32.ofNat 0) rfl rfl (by decide) ?_
  refine w_istore (L' := [_, _, _, _, _, _]) rfl rfl rfl ?_
  exact l_readInto hA hB (by omega) (st + 1) 0 _ _ _ (by omega) v
/-- what taking leaves as it is -/
def kF (A : Nat) (I I' : hI) : Prop := (∀ b, b ≠ 3 → b ≠ 6 → b ≠ 7 → b ≠ 8 → (b < A ∨ A + 2 < b) → I' b = I b) ∧ (∀ j, j ≠ 7 → j ≠ 8 → I' 3 j = I 3 j)
theorem kF_rf (A : Nat) (I : hI) : kF A I I := ⟨fun _ _ _ _ _ _ => rfl, fun _ _ _ => rfl⟩
theorem kF_tr {A : Nat} {I I1 I2 : hI} (a : kF A I I1) (b : kF A I1 I2) : kF A I I2 := ⟨fun c h1 h2 h3 h4 h5 => (b.1 c h1 h2 h3 h4 h5).trans (a.1 c h1 h2 h3 h4 h5), fun j h1 h2 => (b.2 j h1 h2).trans (a.2 j h1 h2)⟩
theorem kF_u {A a k : Nat} {I : hI} {x : Int32} (h : a = 6 ∨ a = 7 ∨ a = 8 ∨ (A ≤ a ∧ a ≤ A + 2)) (g : a ≠ 3) : kF A I (am_u I a k x) := ⟨fun b h1 h2 h3 h4 h5 => am_u_ne (by omega), fun j _ _ => am_u_na (by omega)⟩
theorem kF_bl {A : Nat} {I : hI} {x : Int32} : kF A I (u_bl I x) := ⟨fun b h1 _ _ _ _ => (am_u_ne h1).trans (am_u_ne h1), fun j h1 h2 => (am_u_nk h2).trans (am_u_nk h1)⟩
theorem kF_ho {A h : Nat} {I : hI} {x : Int32} : kF A I (k_ho I h x) := by
  unfold k_ho; split
  · exact kF_tr (kF_tr (kF_u (by omega) (by omega)) (kF_u (by omega) (by omega))) (kF_u (by omega) (by omega))
  · exact kF_rf A I
theorem kF_hk {A h c : Nat} {I : hI} : kF A I (k_hk I h c).2 := by
  unfold k_hk; split
  · exact kF_tr (kF_u (by omega) (by omega)) kF_ho
  · exact kF_bl
theorem kF_op {A h o : Nat} {I : hI} : kF A I (k_op I h o).2 := by
  unfold k_op; split
  · exact kF_tr (kF_tr (kF_u (by omega) (by omega)) kF_ho) (kF_u (by omega) (by omega))
  · exact kF_bl
theorem kF_ad {A : Nat} {I : hI} {x y : Int32} (hA : lwA A) : kF A I (k_ad I A x y) := by
  have g := lwA_g hA
  unfold k_ad k_add; split
  · exact kF_tr (kF_tr (kF_u (by omega) (by omega)) (kF_u (by omega) (by omega))) (kF_u (by omega) (by omega))
  · exact kF_rf A I
theorem kF_rel {A : Nat} (hA : lwA A) (w : Int32) : ∀ (h : Nat) (I : hI), kF A I (k_rel A w h I) := by
  intro h
  induction h with
  | zero => intro I; exact kF_rf A I
  | succ h ih =>
    intro I
    rw [k_rel_s]; split
    · exact kF_rf A I
    · exact kF_tr (kF_tr (kF_u (by omega) (by omega)) (kF_ad hA)) (ih _)
theorem kF_take {A : Nat} {I : hI} (hA : lwA A) : kF A I (k_take I A).2 := by
  unfold k_take; split
  · split
    · unfold k_tc; repeat' split
      · exact kF_bl
      · exact kF_tr (kF_tr (kF_rel hA _ _ _) (kF_u (by omega) (by omega))) (kF_u (by omega) (by omega))
      · exact kF_rel hA _ _ _
      · exact kF_bl
    · unfold k_ts; split
      · exact kF_bl
      · unfold k_ts1; split
        · exact kF_tr (kF_rel hA _ _ _) kF_bl
        · exact kF_tr (kF_rel hA _ _ _) (kF_tr (kF_tr (kF_u (by omega) (by omega)) (kF_u (by omega) (by omega))) kF_hk)
  · unfold k_tv; repeat' split
    · exact kF_op
    · exact kF_hk
    · unfold k_tv2 k_tv3; repeat' split
      · exact kF_tr (kF_tr (kF_u (by omega) (by omega)) (kF_ad hA)) (kF_u (by omega) (by omega))
      · exact kF_bl
      · exact kF_bl
/-- the same, and tokens go on -/
def kG (A : Nat) (I I' : hI) : Prop := (∀ b, b ≠ 3 → b ≠ 6 → b ≠ 7 → b ≠ 8 → (b < A ∨ A + 2 < b) → I' b = I b) ∧ I' 3 2 = I 3 2
theorem kG_tr {A : Nat} {I I1 I2 : hI} (a : kG A I I1) (b : kG A I1 I2) : kG A I I2 := ⟨fun c h1 h2 h3 h4 h5 => (b.1 c h1 h2 h3 h4 h5).trans (a.1 c h1 h2 h3 h4 h5), b.2.trans a.2⟩
theorem kG_F {A : Nat} {I I1 : hI} (a : kF A I I1) : kG A I I1 := ⟨a.1, a.2 2 (by decide) (by decide)⟩
theorem kG_tok {A : Nat} {I : hI} : kG A I (u_tok I) := by
  obtain ⟨f1, f2, f3, f4, f5, f6, f7⟩ := u_tk_f (I := I) (f := I 1) (st := nn (I 3 2)) (p := nn (I 3 3))
  exact ⟨fun b h1 _ _ _ _ => f6 b h1, f1⟩
theorem k_ri_e {A st z : Nat} (hA : lwA A) : ∀ (j : Nat) (I : hI) (q : Nat × Nat × Nat × Nat × Nat), lri I A st z q → kG A I (k_ri A j I).2 ∧ ((k_ri A j I).1 = 0 ∨ (okn ((k_ri A j I).2 3 3) (st + 1) ∧ (k_ri A j I).2 3 4 = Int32.ofNat 40 ∧ ∃ m, (k_ri A j I).2 A 0 = Int32.ofNat m ∧ m + z ≤ 64)) := by
  intro j
  induction j with
  | zero => intro I q v; exact ⟨kG_F kF_bl, Or.inl rfl⟩
  | succ j ih =>
    intro I q v
    obtain ⟨p1, v1⟩ := lri_tok (p := q.1) (h := q.2.1) (o := q.2.2.1) (c := q.2.2.2.1) (n := q.2.2.2.2) hA v
    have F := kF_take (I := u_tok I) hA
    by_cases c1 : (k_take (u_tok I) A).1 = 0
    · rw [k_ri1 c1]; exact ⟨kG_tr kG_tok (kG_F F), Or.inl c1⟩
    · by_cases c2 : (k_take (u_tok I) A).2 3 4 = Int32.ofNat 40
      · rw [k_ri2 c2]
        refine ⟨kG_tr kG_tok (kG_F F), Or.inr ⟨?_, c2, ?_⟩⟩
        · rw [F.2 3 (by decide) (by decide)]
          have h1 := v1.1.1
          have h2 := v1.2.1.2
          dsimp only at h2
          exact okn_N v1.2.1.1 (by dsimp only; omega) (by omega)
        · have k4 : u_tok I 3 4 = Int32.ofNat 40 := (F.2 4 (by decide) (by decide)).symm.trans c2
          have e2 := nn_E v1.2.2.1.1 (by have := v1.2.2.1.2; omega)
          have e3 := nn_E v1.2.2.2.1.1 (by have := v1.2.2.2.1.2; omega)
          unfold k_take at c1 ⊢
          by_cases c5 : u_tok I 6 5 = 0
          · rw [if_pos c5, if_pos (Or.inr k4), e2, e3] at c1 ⊢
            exact lri_end hA v1 k4 c1
          · rw [if_neg c5] at c1
            exact absurd (k_tvk k4) c1
      · rw [k_ri3 c1 c2]
        obtain ⟨q2, v3⟩ := (lri_take hA v1).resolve_left c1
        obtain ⟨a, b⟩ := ih _ q2 v3
        exact ⟨kG_tr (kG_tr kG_tok (kG_F F)) a, b⟩
theorem k_rdI_e {I : hI} {A st p c : Nat} (hA : lwA A) (hs : st ≤ 700) (a2 : I 3 2 = Int32.ofNat st) (a3 : I 3 3 = Int32.ofNat p) (hp : p ≤ st) (d : I A 0 = Int32.ofNat 0) (hc : c ≤ 64) : kG A I (k_rdI I A c).2 ∧ ((k_rdI I A c).1 = 0 ∨ (okn ((k_rdI I A c).2 3 3) (st + 1) ∧ (k_rdI I A c).2 3 4 = Int32.ofNat 40 ∧ ∃ m, (k_rdI I A c).2 A 0 = Int32.ofNat m ∧ m + c ≤ 64)) := by
  unfold k_rdI
  obtain ⟨a, b⟩ := k_ri_e hA (nn (I 3 2) + 1) (k_ri0 I c) _ (k_ri0_v hA hs a2 a3 hp d hc)
  exact ⟨kG_tr (kG_F (kF_tr (kF_tr (kF_tr (kF_tr (kF_u (by omega) (by omega)) (kF_u (by omega) (by omega))) (kF_u (by omega) (by omega))) (kF_u (by omega) (by omega))) (kF_u (by omega) (by omega)))) a, b⟩
theorem k_ri01 {A j : Nat} {I : hI} : (k_ri A j I).1 = 0 ∨ (k_ri A j I).1 = 1 := by
  induction j generalizing I with
  | zero => exact Or.inl rfl
  | succ j ih => rw [k_ri_s]; split; exact k_take01; exact ih
