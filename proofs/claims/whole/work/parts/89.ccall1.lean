/-! The class: calls (one). -/
theorem k_isok {n r : Nat} {y : Int32} (h : r < n) (hn : n ≤ 1000) (e : y = Int32.ofNat n) : ¬ ¬ (¬ Int32.ofNat r < 0 ∧ Int32.ofNat r < y) := by
  subst e
  exact not_not_intro ⟨fun z => absurd ((am_ltN (y := 0) (by omega) (by omega)).mp z) (Nat.not_lt_zero r), (am_ltN (by omega) (by omega)).mpr h⟩
theorem d_isMaker {k : Nat} {I : hI} {J : hJ} {R : hR} {T : Nat} (hT : T = 9 ∨ T = 36) (h0 : R 0 3 = T) {x : Int32} (hk : 1 ≤ k) : ct k 160 [.ref 0, .int x] I J R (some (.int (if ¬ x < 0 ∧ x < I (T + 1) 1 then 1 else 0))) I J R := by
  obtain ⟨k, rfl⟩ : ∃ k', k = k' + 1 := ⟨k - 1, by omega⟩
  refine ct_of (q := am_m160) (o := 11) (rt := (some .boolean)) (co := am_c160) (L := [_, _]) rfl rfl rfl rfl rfl rfl ?_
  refine w_iload_n rfl rfl rfl ?_
  refine w_if_lt (t := 22) (f := 4) rfl rfl rfl (fun c1 => ?_) (fun c1 => ?_)
  · refine w_iconst (x := Int32.ofNat 0) rfl rfl (by decide) ?_
    exact w_bret rfl (by decide) (by simp only [*, ite_true, ite_false, and_self, and_true, true_and, and_false, false_and, or_true, true_or, or_false, false_or, not_true, not_false_iff] <;> rfl) rfl rfl rfl
  · refine w_iload_n rfl rfl rfl ?_
    refine w_aload_n rfl rfl rfl ?_
    refine w_gf (t := .retAddr 0) (v := .ref (T)) rfl rfl rfl sp0 rfl (congrArg Value.ref (by first | exact h0 | exact (am_u_na (by decide)).trans h0)) rfl ?_
    refine w_gf (t := .ref (T + 1)) (v := .ref (T + 1)) rfl rfl rfl (shT_0 hT) rfl rfl rfl ?_
    refine w_gf (t := .int 0) (v := .int _) rfl rfl rfl (shT_1 hT) rfl (congrArg Value.int rfl) rfl ?_
    refine w_ic_ge (t := 22) (f := 18) rfl rfl rfl (fun c15 => ?_) (fun c15 => ?_)
    · refine w_iconst (x := Int32.ofNat 0) rfl rfl (by decide) ?_
      exact w_bret rfl (by decide) (by simp only [*, ite_true, ite_false, and_self, and_true, true_and, and_false, false_and, or_true, true_or, or_false, false_or, not_true, not_false_iff] <;> rfl) rfl rfl rfl
    · refine w_iconst (x := Int32.ofNat 1) rfl rfl (by decide) ?_
      refine w_goto (pc' := 23) rfl rfl ?_
      exact w_bret rfl (by decide) (by simp only [*, ite_true, ite_false, and_self, and_true, true_and, and_false, false_and, or_true, true_or, or_false, false_or, not_true, not_false_iff] <;> rfl) rfl rfl rfl
theorem d_isRope {k : Nat} {I : hI} {J : hJ} {R : hR} {T : Nat} (hT : T = 9 ∨ T = 36) (h0 : R 0 3 = T) {x : Int32} (hk : 1 ≤ k) : ct k 161 [.ref 0, .int x] I J R (some (.int (if ¬ x < 0 ∧ x < I (T + 5) 1 then 1 else 0))) I J R := by
  obtain ⟨k, rfl⟩ : ∃ k', k = k' + 1 := ⟨k - 1, by omega⟩
  refine ct_of (q := am_m161) (o := 11) (rt := (some .boolean)) (co := am_c161) (L := [_, _]) rfl rfl rfl rfl rfl rfl ?_
  refine w_iload_n rfl rfl rfl ?_
  refine w_if_lt (t := 22) (f := 4) rfl rfl rfl (fun c1 => ?_) (fun c1 => ?_)
  · refine w_iconst (x := Int32.ofNat 0) rfl rfl (by decide) ?_
    exact w_bret rfl (by decide) (by simp only [*, ite_true, ite_false, and_self, and_true, true_and, and_false, false_and, or_true, true_or, or_false, false_or, not_true, not_false_iff] <;> rfl) rfl rfl rfl
  · refine w_iload_n rfl rfl rfl ?_
    refine w_aload_n rfl rfl rfl ?_
    refine w_gf (t := .retAddr 0) (v := .ref (T)) rfl rfl rfl sp0 rfl (congrArg Value.ref (by first | exact h0 | exact (am_u_na (by decide)).trans h0)) rfl ?_
    refine w_gf (t := .ref (T + 5)) (v := .ref (T + 5)) rfl rfl rfl (shT_0 hT) rfl rfl rfl ?_
    refine w_gf (t := .int 0) (v := .int _) rfl rfl rfl (shT_5 hT) rfl (congrArg Value.int rfl) rfl ?_
    refine w_ic_ge (t := 22) (f := 18) rfl rfl rfl (fun c15 => ?_) (fun c15 => ?_)
    · refine w_iconst (x := Int32.ofNat 0) rfl rfl (by decide) ?_
      exact w_bret rfl (by decide) (by simp only [*, ite_true, ite_false, and_self, and_true, true_and, and_false, false_and, or_true, true_or, or_false, false_or, not_true, not_false_iff] <;> rfl) rfl rfl rfl
    · refine w_iconst (x := Int32.ofNat 1) rfl rfl (by decide) ?_
      refine w_goto (pc' := 23) rfl rfl ?_
      exact w_bret rfl (by decide) (by simp only [*, ite_true, ite_false, and_self, and_true, true_and, and_false, false_and, or_true, true_or, or_false, false_or, not_true, not_false_iff] <;> rfl) rfl rfl rfl
theorem d_isShip {k : Nat} {I : hI} {J : hJ} {R : hR} {T : Nat} (hT : T = 9 ∨ T = 36) (h0 : R 0 3 = T) {x : Int32} (hk : 1 ≤ k) : ct k 162 [.ref 0, .int x] I J R (some (.int (if ¬ x < 0 ∧ x < I (T + 11) 1 then 1 else 0))) I J R := by
  obtain ⟨k, rfl⟩ : ∃ k', k = k' + 1 := ⟨k - 1, by omega⟩
  refine ct_of (q := am_m162) (o := 11) (rt := (some .boolean)) (co := am_c162) (L := [_, _]) rfl rfl rfl rfl rfl rfl ?_
  refine w_iload_n rfl rfl rfl ?_
  refine w_if_lt (t := 22) (f := 4) rfl rfl rfl (fun c1 => ?_) (fun c1 => ?_)
  · refine w_iconst (x := Int32.ofNat 0) rfl rfl (by decide) ?_
    exact w_bret rfl (by decide) (by simp only [*, ite_true, ite_false, and_self, and_true, true_and, and_false, false_and, or_true, true_or, or_false, false_or, not_true, not_false_iff] <;> rfl) rfl rfl rfl
  · refine w_iload_n rfl rfl rfl ?_
    refine w_aload_n rfl rfl rfl ?_
    refine w_gf (t := .retAddr 0) (v := .ref (T)) rfl rfl rfl sp0 rfl (congrArg Value.ref (by first | exact h0 | exact (am_u_na (by decide)).trans h0)) rfl ?_
    refine w_gf (t := .ref (T + 11)) (v := .ref (T + 11)) rfl rfl rfl (shT_0 hT) rfl rfl rfl ?_
    refine w_gf (t := .int 0) (v := .int _) rfl rfl rfl (shT_11 hT) rfl (congrArg Value.int rfl) rfl ?_
    refine w_ic_ge (t := 22) (f := 18) rfl rfl rfl (fun c15 => ?_) (fun c15 => ?_)
    · refine w_iconst (x := Int32.ofNat 0) rfl rfl (by decide) ?_
      exact w_bret rfl (by decide) (by simp only [*, ite_true, ite_false, and_self, and_true, true_and, and_false, false_and, or_true, true_or, or_false, false_or, not_true, not_false_iff] <;> rfl) rfl rfl rfl
    · refine w_iconst (x := Int32.ofNat 1) rfl rfl (by decide) ?_
      refine w_goto (pc' := 23) rfl rfl ?_
      exact w_bret rfl (by decide) (by simp only [*, ite_true, ite_false, and_self, and_true, true_and, and_false, false_and, or_true, true_or, or_false, false_or, not_true, not_false_iff] <;> rfl) rfl rfl rfl
def k_pb1 (I : hI) (z : Nat) (x : Int32) (s : Nat) : hI := am_u (am_u I 1 z ((x >>> (Int32.ofNat s &&& 31)) &&& Int32.ofNat 255)) 0 1 (Int32.ofNat (z + 1))
def k_pb (I : hI) (z : Nat) (x : Int32) : hI := k_pb1 (k_pb1 (k_pb1 (k_pb1 I z x 24) (z + 1) x 16) (z + 1 + 1) x 8) (z + 1 + 1 + 1) x 0
theorem k_pb_1 {I : hI} {z : Nat} {x : Int32} : k_pb I z x 0 1 = Int32.ofNat (z + 4) := by unfold k_pb k_pb1; exact am_u_at
theorem d_putBytes {k : Nat} {I : hI} {J : hJ} {R : hR} {z : Nat} {x : Int32} (hz : z + 4 ≤ 700) (h1 : I 0 1 = Int32.ofNat z) (hk : 1 ≤ k) : ct k 108 [.ref 0, .int x] I J R none (k_pb I z x) J R := by
  obtain ⟨k, rfl⟩ : ∃ k', k = k' + 1 := ⟨k - 1, by omega⟩
  refine ct_of (q := am_m108) (o := 11) (rt := none) (co := am_c108) (L := [_, _, _]) rfl rfl rfl rfl rfl rfl ?_
  refine w_bipush (x := Int32.ofNat 24) rfl rfl (by decide) ?_
  refine w_istore_n (L' := [_, _, _]) rfl rfl rfl ?_
  refine w_iload_n rfl rfl rfl ?_
  refine w_if_lt (t := 49) (f := 7) rfl rfl rfl (fun c4 => absurd c4 (by decide)) (fun c4 => ?_)
  clear c4
  refine w_aload_n rfl rfl rfl ?_
  refine w_gf (t := .int 0) (v := .int _) rfl rfl rfl sp0 rfl (congrArg Value.int h1) rfl ?_
  refine w_sipush (x := Int32.ofNat 700) rfl rfl (by decide) ?_
  refine w_ic_geN (t := 49) (f := 17) rfl rfl rfl (by omega) (by omega) (fun c14 => absurd c14 (by omega)) (fun c14 => ?_)
  refine w_aload_n rfl rfl rfl ?_
  refine w_gf (t := .ref (1)) (v := .ref (1)) rfl rfl rfl sp0 rfl rfl rfl ?_
  refine w_aload_n rfl rfl rfl ?_
  refine w_gf (t := .int 0) (v := .int _) rfl rfl rfl sp0 rfl (congrArg Value.int h1) rfl ?_
  refine w_iload_n rfl rfl rfl ?_
  refine w_iload_n rfl rfl rfl ?_
  refine w_ishr rfl rfl ?_
  refine w_sipush (x := Int32.ofNat 255) rfl rfl (by decide) ?_
  refine w_iand rfl rfl ?_
  refine w_iastore rfl rfl sp1 rfl ⟨by omega, by omega⟩ ?_
  refine w_aload_n rfl rfl rfl ?_
  refine w_dup rfl rfl rfl ?_
  refine w_gf (t := .int 0) (v := .int _) rfl rfl rfl sp0 rfl (congrArg Value.int ((congrFun (am_u_ne (by decide)) _).trans h1)) rfl ?_
  refine w_iconst (x := Int32.ofNat 1) rfl rfl (by decide) ?_
  refine w_iaddN rfl rfl ?_
  refine w_pf rfl rfl rfl sp0 rfl rfl rfl ?_
  refine w_iinc (L' := [_, _, _]) rfl rfl rfl (by decide : Int32.ofNat 24 + Int32.ofInt (-8) = Int32.ofNat 16) rfl ?_
  refine w_goto (pc' := 3) rfl rfl ?_
  refine w_iload_n rfl rfl rfl ?_
  refine w_if_lt (t := 49) (f := 7) rfl rfl rfl (fun c4 => absurd c4 (by decide)) (fun c4 => ?_)
  clear c4
  refine w_aload_n rfl rfl rfl ?_
  refine w_gf (t := .int 0) (v := .int _) rfl rfl rfl sp0 rfl (congrArg Value.int am_u_at) rfl ?_
  refine w_sipush (x := Int32.ofNat 700) rfl rfl (by decide) ?_
  refine w_ic_geN (t := 49) (f := 17) rfl rfl rfl (by omega) (by omega) (fun c14 => absurd c14 (by omega)) (fun c14 => ?_)
  refine w_aload_n rfl rfl rfl ?_
  refine w_gf (t := .ref (1)) (v := .ref (1)) rfl rfl rfl sp0 rfl rfl rfl ?_
  refine w_aload_n rfl rfl rfl ?_
  refine w_gf (t := .int 0) (v := .int _) rfl rfl rfl sp0 rfl (congrArg Value.int am_u_at) rfl ?_
  refine w_iload_n rfl rfl rfl ?_
  refine w_iload_n rfl rfl rfl ?_
  refine w_ishr rfl rfl ?_
  refine w_sipush (x := Int32.ofNat 255) rfl rfl (by decide) ?_
  refine w_iand rfl rfl ?_
  refine w_iastore rfl rfl sp1 rfl ⟨by omega, by omega⟩ ?_
  refine w_aload_n rfl rfl rfl ?_
  refine w_dup rfl rfl rfl ?_
  refine w_gf (t := .int 0) (v := .int _) rfl rfl rfl sp0 rfl (congrArg Value.int ((congrFun (am_u_ne (by decide)) _).trans am_u_at)) rfl ?_
  refine w_iconst (x := Int32.ofNat 1) rfl rfl (by decide) ?_
  refine w_iaddN rfl rfl ?_
  refine w_pf rfl rfl rfl sp0 rfl rfl rfl ?_
  refine w_iinc (L' := [_, _, _]) rfl rfl rfl (by decide : Int32.ofNat 16 + Int32.ofInt (-8) = Int32.ofNat 8) rfl ?_
  refine w_goto (pc' := 3) rfl rfl ?_
  refine w_iload_n rfl rfl rfl ?_
  refine w_if_lt (t := 49) (f := 7) rfl rfl rfl (fun c4 => absurd c4 (by decide)) (fun c4 => ?_)
  clear c4
  refine w_aload_n rfl rfl rfl ?_
  refine w_gf (t := .int 0) (v := .int _) rfl rfl rfl sp0 rfl (congrArg Value.int am_u_at) rfl ?_
  refine w_sipush (x := Int32.ofNat 700) rfl rfl (by decide) ?_
  refine w_ic_geN (t := 49) (f := 17) rfl rfl rfl (by omega) (by omega) (fun c14 => absurd c14 (by omega)) (fun c14 => ?_)
  refine w_aload_n rfl rfl rfl ?_
  refine w_gf (t := .ref (1)) (v := .ref (1)) rfl rfl rfl sp0 rfl rfl rfl ?_
  refine w_aload_n rfl rfl rfl ?_
  refine w_gf (t := .int 0) (v := .int _) rfl rfl rfl sp0 rfl (congrArg Value.int am_u_at) rfl ?_
  refine w_iload_n rfl rfl rfl ?_
  refine w_iload_n rfl rfl rfl ?_
  refine w_ishr rfl rfl ?_
  refine w_sipush (x := Int32.ofNat 255) rfl rfl (by decide) ?_
  refine w_iand rfl rfl ?_
  refine w_iastore rfl rfl sp1 rfl ⟨by omega, by omega⟩ ?_
  refine w_aload_n rfl rfl rfl ?_
  refine w_dup rfl rfl rfl ?_
  refine w_gf (t := .int 0) (v := .int _) rfl rfl rfl sp0 rfl (congrArg Value.int ((congrFun (am_u_ne (by decide)) _).trans am_u_at)) rfl ?_
  refine w_iconst (x := Int32.ofNat 1) rfl rfl (by decide) ?_
  refine w_iaddN rfl rfl ?_
  refine w_pf rfl rfl rfl sp0 rfl rfl rfl ?_
  refine w_iinc (L' := [_, _, _]) rfl rfl rfl (by decide : Int32.ofNat 8 + Int32.ofInt (-8) = Int32.ofNat 0) rfl ?_
  refine w_goto (pc' := 3) rfl rfl ?_
  refine w_iload_n rfl rfl rfl ?_
  refine w_if_lt (t := 49) (f := 7) rfl rfl rfl (fun c4 => absurd c4 (by decide)) (fun c4 => ?_)
  clear c4
  refine w_aload_n rfl rfl rfl ?_
  refine w_gf (t := .int 0) (v := .int _) rfl rfl rfl sp0 rfl (congrArg Value.int am_u_at) rfl ?_
  refine w_sipush (x := Int32.ofNat 700) rfl rfl (by decide) ?_
  refine w_ic_geN (t := 49) (f := 17) rfl rfl rfl (by omega) (by omega) (fun c14 => absurd c14 (by omega)) (fun c14 => ?_)
  refine w_aload_n rfl rfl rfl ?_
  refine w_gf (t := .ref (1)) (v := .ref (1)) rfl rfl rfl sp0 rfl rfl rfl ?_
  refine w_aload_n rfl rfl rfl ?_
  refine w_gf (t := .int 0) (v := .int _) rfl rfl rfl sp0 rfl (congrArg Value.int am_u_at) rfl ?_
  refine w_iload_n rfl rfl rfl ?_
  refine w_iload_n rfl rfl rfl ?_
  refine w_ishr rfl rfl ?_
  refine w_sipush (x := Int32.ofNat 255) rfl rfl (by decide) ?_
  refine w_iand rfl rfl ?_
  refine w_iastore rfl rfl sp1 rfl ⟨by omega, by omega⟩ ?_
  refine w_aload_n rfl rfl rfl ?_
  refine w_dup rfl rfl rfl ?_
  refine w_gf (t := .int 0) (v := .int _) rfl rfl rfl sp0 rfl (congrArg Value.int ((congrFun (am_u_ne (by decide)) _).trans am_u_at)) rfl ?_
  refine w_iconst (x := Int32.ofNat 1) rfl rfl (by decide) ?_
  refine w_iaddN rfl rfl ?_
  refine w_pf rfl rfl rfl sp0 rfl rfl rfl ?_
  refine w_iinc (L' := [_, _, _]) rfl rfl rfl (by decide : Int32.ofNat 0 + Int32.ofInt (-8) = Int32.ofInt (-8)) rfl ?_
  refine w_goto (pc' := 3) rfl rfl ?_
  refine w_iload_n rfl rfl rfl ?_
  refine w_if_lt (t := 49) (f := 7) rfl rfl rfl (fun c4 => ?_) (fun c4 => absurd c4 (by decide))
  clear c4
  exact w_ret rfl rfl rfl rfl
def k_fe (I : hI) (z : Nat) (a b c d e : Int32) : hI := k_pb (k_pb (k_pb (k_pb (k_pb I z a) (z + 4) b) (z + 8) c) (z + 12) d) (z + 16) e
theorem d_feed {k : Nat} {I : hI} {J : hJ} {R : hR} {a b c d e0 : Int32} {z : Nat} (hz : z ≤ 680) (h1 : I 0 1 = Int32.ofNat z) (hk : 2 ≤ k) : ct k 107 [.ref 0, .int a, .int b, .int c, .int d, .int e0] I J R (some (.int (Int32.ofNat (z + 20)))) (k_fe I z a b c d e0) J R := by
  obtain ⟨k, rfl⟩ : ∃ k', k = k' + 1 := ⟨k - 1, by omega⟩
  refine ct_of (q := am_m107) (o := 11) (rt := (some .int)) (co := am_c107) (L := [_, _, _, _, _, _]) rfl rfl rfl rfl rfl rfl ?_
  refine w_aload_n rfl rfl rfl ?_
  refine w_gf (t := .int 0) (v := .int _) rfl rfl rfl sp0 rfl (congrArg Value.int h1) rfl ?_
  refine w_bipush (x := Int32.ofNat 20) rfl rfl (by decide) ?_
  refine w_iaddN rfl rfl ?_
  refine w_sipush (x := Int32.ofNat 700) rfl rfl (by decide) ?_
  refine w_ic_leN (t := 15) (f := 13) rfl rfl rfl (by omega) (by omega) (fun c10 => ?_) (fun c10 => absurd c10 (by omega))
  refine w_aload_n rfl rfl rfl ?_
  refine w_iload_n rfl rfl rfl ?_
  refine w_cv (q := am_m108) (as := [_]) (rest := []) (st' := []) rfl rfl rfl rfl rfl rfl sp0 rfl rfl rfl rfl (d_putBytes (z := z) (by omega) h1 (by omega)) rfl rfl ?_
  refine w_aload_n rfl rfl rfl ?_
  refine w_iload_n rfl rfl rfl ?_
  refine w_cv (q := am_m108) (as := [_]) (rest := []) (st' := []) rfl rfl rfl rfl rfl rfl sp0 rfl rfl rfl rfl (d_putBytes (z := z + 4) (by omega) k_pb_1 (by omega)) rfl rfl ?_
  refine w_aload_n rfl rfl rfl ?_
  refine w_iload_n rfl rfl rfl ?_
  refine w_cv (q := am_m108) (as := [_]) (rest := []) (st' := []) rfl rfl rfl rfl rfl rfl sp0 rfl rfl rfl rfl (d_putBytes (z := z + 8) (by omega) k_pb_1 (by omega)) rfl rfl ?_
  refine w_aload_n rfl rfl rfl ?_
  refine w_iload rfl rfl rfl ?_
  refine w_cv (q := am_m108) (as := [_]) (rest := []) (st' := []) rfl rfl rfl rfl rfl rfl sp0 rfl rfl rfl rfl (d_putBytes (z := z + 12) (by omega) k_pb_1 (by omega)) rfl rfl ?_
  refine w_aload_n rfl rfl rfl ?_
  refine w_iload rfl rfl rfl ?_
  refine w_cv (q := am_m108) (as := [_]) (rest := []) (st' := []) rfl rfl rfl rfl rfl rfl sp0 rfl rfl rfl rfl (d_putBytes (z := z + 16) (by omega) k_pb_1 (by omega)) rfl rfl ?_
  refine w_aload_n rfl rfl rfl ?_
  refine w_gf (t := .int 0) (v := .int _) rfl rfl rfl sp0 rfl (congrArg Value.int rfl) rfl ?_
  exact w_iret rfl rfl rfl rfl rfl
theorem d_feed_no {k : Nat} {I : hI} {J : hJ} {R : hR} {a b c d e0 : Int32} {z : Nat} (hz : 680 < z) (hz2 : z ≤ 1000) (h1 : I 0 1 = Int32.ofNat z) (hk : 2 ≤ k) : ct k 107 [.ref 0, .int a, .int b, .int c, .int d, .int e0] I J R (some (.int (Int32.ofInt (-1)))) I J R := by
  obtain ⟨k, rfl⟩ : ∃ k', k = k' + 1 := ⟨k - 1, by omega⟩
  refine ct_of (q := am_m107) (o := 11) (rt := (some .int)) (co := am_c107) (L := [_, _, _, _, _, _]) rfl rfl rfl rfl rfl rfl ?_
  refine w_aload_n rfl rfl rfl ?_
  refine w_gf (t := .int 0) (v := .int _) rfl rfl rfl sp0 rfl (congrArg Value.int h1) rfl ?_
  refine w_bipush (x := Int32.ofNat 20) rfl rfl (by decide) ?_
  refine w_iaddN rfl rfl ?_
  refine w_sipush (x := Int32.ofNat 700) rfl rfl (by decide) ?_
  refine w_ic_leN (t := 15) (f := 13) rfl rfl rfl (by omega) (by omega) (fun c10 => absurd c10 (by omega)) (fun c10 => ?_)
  refine w_iconst (x := Int32.ofInt (-1)) rfl rfl (by decide) ?_
  exact w_iret rfl rfl rfl rfl rfl
theorem d_fault {k : Nat} {I : hI} {J : hJ} {R : hR} {w : Int32} (hk : 1 ≤ k) : ct k 111 [.ref 0, .int w] I J R (some (.int (if w = 0 then I 0 4 else if w = Int32.ofNat 1 then I 0 5 else Int32.ofInt (-1)))) I J R := by
  obtain ⟨k, rfl⟩ : ∃ k', k = k' + 1 := ⟨k - 1, by omega⟩
  refine ct_of (q := am_m111) (o := 11) (rt := (some .int)) (co := am_c111) (L := [_, _]) rfl rfl rfl rfl rfl rfl ?_
  refine w_iload_n rfl rfl rfl ?_
  refine w_if_ne (t := 9) (f := 4) rfl rfl rfl (fun c1 => ?_) (fun c1 => ?_)
  · refine w_iload_n rfl rfl rfl ?_
    refine w_iconst (x := Int32.ofNat 1) rfl rfl (by decide) ?_
    refine w_ic_ne (t := 21) (f := 14) rfl rfl rfl (fun c11 => ?_) (fun c11 => ?_)
    · refine w_iconst (x := Int32.ofInt (-1)) rfl rfl (by decide) ?_
      exact w_iret rfl (by first | rw [if_pos c1] | rw [if_neg c1, if_pos c11] | rw [if_neg c1, if_neg c11]) rfl rfl rfl
    · refine w_aload_n rfl rfl rfl ?_
      refine w_gf (t := .int 0) (v := .int _) rfl rfl rfl sp0 rfl (congrArg Value.int rfl) rfl ?_
      refine w_goto (pc' := 22) rfl rfl ?_
      exact w_iret rfl (by first | rw [if_pos c1] | rw [if_neg c1, if_pos c11] | rw [if_neg c1, if_neg c11]) rfl rfl rfl
  · refine w_aload_n rfl rfl rfl ?_
    refine w_gf (t := .int 0) (v := .int _) rfl rfl rfl sp0 rfl (congrArg Value.int rfl) rfl ?_
    exact w_iret rfl (by first | rw [if_pos c1] | rw [if_neg c1, if_pos c11] | rw [if_neg c1, if_neg c11]) rfl rfl rfl
def k_named (I : hI) (T : Nat) (N : Nat → Nat) (w x : Int32) : Int32 := if w = Int32.ofNat 0 then m_fnd (I (T + 1 + 1)) x (N 0) 0 else if w = Int32.ofNat 1 then m_fnd (I (T + 5 + 1)) x (N 1) 0 else if w = Int32.ofNat 2 then m_fnd (I (T + 11 + 1)) x (N 2) 0 else Int32.ofInt (-1)
theorem d_named {k : Nat} {I : hI} {J : hJ} {R : hR} {T : Nat} (hT : T = 9 ∨ T = 36) (h0 : R 0 3 = T) {N : Nat → Nat} (t : ctk I T N) (m0 : I (T + 1) 1 = Int32.ofNat (N 0)) (l0 : N 0 ≤ 6) {w x : Int32} (hk : 2 ≤ k) : ct k 112 [.ref 0, .int w, .int x] I J R (some (.int (k_named I T N w x))) I J R := by
  obtain ⟨k, rfl⟩ : ∃ k', k = k' + 1 := ⟨k - 1, by omega⟩
  obtain ⟨⟨l1, l2, l3⟩, ⟨e5, e11, e3⟩, rM, tH, sM, ⟨e18, l18⟩, ⟨e21, l21⟩, ⟨e24, l24⟩⟩ := id t
  refine ct_of (q := am_m112) (o := 11) (rt := (some .int)) (co := am_c112) (L := [_, _, _]) rfl rfl rfl rfl rfl rfl ?_
  refine w_iload_n rfl rfl rfl ?_
  refine w_ts (lo := 0) (hi := 2) (d := 64) rfl rfl (by decide) (fun sw => ?_) (fun n h1 h2 sw => ?_)
  · refine w_iconst (x := Int32.ofInt (-1)) rfl rfl (by decide) ?_
    exact w_iret rfl (by unfold k_named; first | (simp +decide only [sw, ite_true, ite_false]) | (simp only [sw 0 (by decide) (by decide), sw 1 (by decide) (by decide), sw 2 (by decide) (by decide), ite_false])) rfl rfl rfl
  · have h3 : n = 0 ∨ n = 1 ∨ n = 2 := by omega
    rcases h3 with rfl | rfl | rfl
    · refine ⟨28, rfl, ?_⟩
      refine w_aload_n rfl rfl rfl ?_
      refine w_gf (t := .retAddr 0) (v := .ref (T)) rfl rfl rfl sp0 rfl (congrArg Value.ref (by first | exact h0 | exact (am_u_na (by decide)).trans h0)) rfl ?_
      refine w_gf (t := .ref (T + 1)) (v := .ref (T + 1)) rfl rfl rfl (shT_0 hT) rfl rfl rfl ?_
      refine w_iload_n rfl rfl rfl ?_
      refine w_cv (q := am_m49) (as := [_]) (rest := []) (st' := [_]) rfl rfl rfl rfl rfl rfl (shT_1 hT) rfl rfl rfl rfl (d_find (nmA_0 (nmA_T1 hT)) (nmA_1 (nmA_T1 hT)) (by omega) l0 m0 (by omega)) rfl rfl ?_
      exact w_iret rfl (by unfold k_named; first | (simp +decide only [sw, ite_true, ite_false]) | (simp only [sw 0 (by decide) (by decide), sw 1 (by decide) (by decide), sw 2 (by decide) (by decide), ite_false])) rfl rfl rfl
    · refine ⟨40, rfl, ?_⟩
      refine w_aload_n rfl rfl rfl ?_
      refine w_gf (t := .retAddr 0) (v := .ref (T)) rfl rfl rfl sp0 rfl (congrArg Value.ref (by first | exact h0 | exact (am_u_na (by decide)).trans h0)) rfl ?_
      refine w_gf (t := .ref (T + 5)) (v := .ref (T + 5)) rfl rfl rfl (shT_0 hT) rfl rfl rfl ?_
      refine w_iload_n rfl rfl rfl ?_
      refine w_cv (q := am_m49) (as := [_]) (rest := []) (st' := [_]) rfl rfl rfl rfl rfl rfl (shT_5 hT) rfl rfl rfl rfl (d_find (nmA_0 (nmA_T5 hT)) (nmA_1 (nmA_T5 hT)) (by omega) l1 e5 (by omega)) rfl rfl ?_
      exact w_iret rfl (by unfold k_named; first | (simp +decide only [sw, ite_true, ite_false]) | (simp only [sw 0 (by decide) (by decide), sw 1 (by decide) (by decide), sw 2 (by decide) (by decide), ite_false])) rfl rfl rfl
    · refine ⟨52, rfl, ?_⟩
      refine w_aload_n rfl rfl rfl ?_
      refine w_gf (t := .retAddr 0) (v := .ref (T)) rfl rfl rfl sp0 rfl (congrArg Value.ref (by first | exact h0 | exact (am_u_na (by decide)).trans h0)) rfl ?_
      refine w_gf (t := .ref (T + 11)) (v := .ref (T + 11)) rfl rfl rfl (shT_0 hT) rfl rfl rfl ?_
      refine w_iload_n rfl rfl rfl ?_
      refine w_cv (q := am_m49) (as := [_]) (rest := []) (st' := [_]) rfl rfl rfl rfl rfl rfl (shT_11 hT) rfl rfl rfl rfl (d_find (nmA_0 (nmA_T11 hT)) (nmA_1 (nmA_T11 hT)) (by omega) l2 e11 (by omega)) rfl rfl ?_
      exact w_iret rfl (by unfold k_named; first | (simp +decide only [sw, ite_true, ite_false]) | (simp only [sw 0 (by decide) (by decide), sw 1 (by decide) (by decide), sw 2 (by decide) (by decide), ite_false])) rfl rfl rfl
def k_ship (I : hI) (T s : Nat) (w : Int32) : Int32 := if w = Int32.ofNat 0 then I (T + 13) s else if w = Int32.ofNat 1 then I 67 s else if w = Int32.ofNat 2 then I 68 s else if w = Int32.ofNat 3 then I 69 s else if w = Int32.ofNat 4 then k_bear I 63 (Int32.ofNat s) 8 else if w = Int32.ofNat 6 then k_within I 63 (Int32.ofNat s) 8 else Int32.ofInt (-1)
theorem d_ship {k : Nat} {I : hI} {J : hJ} {R : hR} {T : Nat} (hT : T = 9 ∨ T = 36) (h0 : R 0 3 = T) {N : Nat → Nat} (t : ctk I T N) {s : Nat} (hs : s < N 2) {w : Int32} (hw : ¬ w = Int32.ofNat 5) (hk : 2 ≤ k) : ct k 114 [.ref 0, .int (Int32.ofNat s), .int w] I J R (some (.int (k_ship I T s w))) I J R := by
  obtain ⟨k, rfl⟩ : ∃ k', k = k' + 1 := ⟨k - 1, by omega⟩
  obtain ⟨⟨l1, l2, l3⟩, ⟨e5, e11, e3⟩, rM, tH, sM, ⟨e18, l18⟩, ⟨e21, l21⟩, ⟨e24, l24⟩⟩ := id t
  refine ct_of (q := am_m114) (o := 11) (rt := (some .int)) (co := am_c114) (L := [_, _, _]) rfl rfl rfl rfl rfl rfl ?_
  refine w_aload_n rfl rfl rfl ?_
  refine w_iload_n rfl rfl rfl ?_
  refine w_cv (q := am_m162) (as := [_]) (rest := []) (st' := [_]) rfl rfl rfl rfl rfl rfl sp0 rfl rfl rfl rfl (d_isShip hT h0 (by omega)) rfl rfl ?_
  refine w_if_neB (t := 10) (f := 8) rfl rfl rfl (fun c5 => ?_) (fun c5 => absurd c5 (k_isok hs (by omega) e11))
  refine w_iload_n rfl rfl rfl ?_
  refine w_ts (lo := 0) (hi := 6) (d := 127) rfl rfl (by decide) (fun sw => ?_) (fun n h1 h2 sw => ?_)
  · refine w_iconst (x := Int32.ofInt (-1)) rfl rfl (by decide) ?_
    exact w_iret rfl (by unfold k_ship; first | (simp +decide only [sw, ite_true, ite_false]) | (simp only [sw 0 (by decide) (by decide), sw 1 (by decide) (by decide), sw 2 (by decide) (by decide), sw 3 (by decide) (by decide), sw 4 (by decide) (by decide), sw 5 (by decide) (by decide), sw 6 (by decide) (by decide), ite_false])) rfl rfl rfl
  · have h3 : n = 0 ∨ n = 1 ∨ n = 2 ∨ n = 3 ∨ n = 4 ∨ n = 5 ∨ n = 6 := by omega
    rcases h3 with rfl | rfl | rfl | rfl | rfl | rfl | rfl
    · refine ⟨52, rfl, ?_⟩
      refine w_aload_n rfl rfl rfl ?_
      refine w_gf (t := .retAddr 0) (v := .ref (T)) rfl rfl rfl sp0 rfl (congrArg Value.ref (by first | exact h0 | exact (am_u_na (by decide)).trans h0)) rfl ?_
      refine w_gf (t := .ref (T + 13)) (v := .ref (T + 13)) rfl rfl rfl (shT_0 hT) rfl rfl rfl ?_
      refine w_iload_n rfl rfl rfl ?_
      refine w_iaload rfl rfl (shT_13 hT) rfl ⟨by omega, by omega⟩ rfl ?_
      exact w_iret rfl (by unfold k_ship; first | (simp +decide only [sw, ite_true, ite_false]) | (simp only [sw 0 (by decide) (by decide), sw 1 (by decide) (by decide), sw 2 (by decide) (by decide), sw 3 (by decide) (by decide), sw 4 (by decide) (by decide), sw 5 (by decide) (by decide), sw 6 (by decide) (by decide), ite_false])) rfl rfl rfl
    · refine ⟨62, rfl, ?_⟩
      refine w_aload_n rfl rfl rfl ?_
      refine w_gf (t := .ref (63)) (v := .ref (63)) rfl rfl rfl sp0 rfl rfl rfl ?_
      refine w_gf (t := .ref (67)) (v := .ref (67)) rfl rfl rfl sp63 rfl rfl rfl ?_
      refine w_iload_n rfl rfl rfl ?_
      refine w_iaload rfl rfl sp67 rfl ⟨by omega, by omega⟩ rfl ?_
      exact w_iret rfl (by unfold k_ship; first | (simp +decide only [sw, ite_true, ite_false]) | (simp only [sw 0 (by decide) (by decide), sw 1 (by decide) (by decide), sw 2 (by decide) (by decide), sw 3 (by decide) (by decide), sw 4 (by decide) (by decide), sw 5 (by decide) (by decide), sw 6 (by decide) (by decide), ite_false])) rfl rfl rfl
    · refine ⟨72, rfl, ?_⟩
      refine w_aload_n rfl rfl rfl ?_
      refine w_gf (t := .ref (63)) (v := .ref (63)) rfl rfl rfl sp0 rfl rfl rfl ?_
      refine w_gf (t := .ref (68)) (v := .ref (68)) rfl rfl rfl sp63 rfl rfl rfl ?_
      refine w_iload_n rfl rfl rfl ?_
      refine w_iaload rfl rfl sp68 rfl ⟨by omega, by omega⟩ rfl ?_
      exact w_iret rfl (by unfold k_ship; first | (simp +decide only [sw, ite_true, ite_false]) | (simp only [sw 0 (by decide) (by decide), sw 1 (by decide) (by decide), sw 2 (by decide) (by decide), sw 3 (by decide) (by decide), sw 4 (by decide) (by decide), sw 5 (by decide) (by decide), sw 6 (by decide) (by decide), ite_false])) rfl rfl rfl
    · refine ⟨82, rfl, ?_⟩
      refine w_aload_n rfl rfl rfl ?_
      refine w_gf (t := .ref (63)) (v := .ref (63)) rfl rfl rfl sp0 rfl rfl rfl ?_
      refine w_gf (t := .ref (69)) (v := .ref (69)) rfl rfl rfl sp63 rfl rfl rfl ?_
      refine w_iload_n rfl rfl rfl ?_
      refine w_iaload rfl rfl sp69 rfl ⟨by omega, by omega⟩ rfl ?_
      exact w_iret rfl (by unfold k_ship; first | (simp +decide only [sw, ite_true, ite_false]) | (simp only [sw 0 (by decide) (by decide), sw 1 (by decide) (by decide), sw 2 (by decide) (by decide), sw 3 (by decide) (by decide), sw 4 (by decide) (by decide), sw 5 (by decide) (by decide), sw 6 (by decide) (by decide), ite_false])) rfl rfl rfl
    · refine ⟨92, rfl, ?_⟩
      refine w_aload_n rfl rfl rfl ?_
      refine w_gf (t := .ref (63)) (v := .ref (63)) rfl rfl rfl sp0 rfl rfl rfl ?_
      refine w_iload_n rfl rfl rfl ?_
      refine w_cv (q := am_m66) (as := [_]) (rest := []) (st' := [_]) rfl rfl rfl rfl rfl rfl sp63 rfl rfl rfl rfl (d_bear (Or.inl rfl) (by omega)) rfl rfl ?_
      exact w_iret rfl (by unfold k_ship; first | (simp +decide only [sw, ite_true, ite_false]) | (simp only [sw 0 (by decide) (by decide), sw 1 (by decide) (by decide), sw 2 (by decide) (by decide), sw 3 (by decide) (by decide), sw 4 (by decide) (by decide), sw 5 (by decide) (by decide), sw 6 (by decide) (by decide), ite_false])) rfl rfl rfl
    · refine ⟨101, rfl, ?_⟩
      exact absurd sw hw
    · refine ⟨118, rfl, ?_⟩
      refine w_aload_n rfl rfl rfl ?_
      refine w_gf (t := .ref (63)) (v := .ref (63)) rfl rfl rfl sp0 rfl rfl rfl ?_
      refine w_iload_n rfl rfl rfl ?_
      refine w_cv (q := am_m67) (as := [_]) (rest := []) (st' := [_]) rfl rfl rfl rfl rfl rfl sp63 rfl rfl rfl rfl (d_within (Or.inl rfl) (by omega)) rfl rfl ?_
      exact w_iret rfl (by unfold k_ship; first | (simp +decide only [sw, ite_true, ite_false]) | (simp only [sw 0 (by decide) (by decide), sw 1 (by decide) (by decide), sw 2 (by decide) (by decide), sw 3 (by decide) (by decide), sw 4 (by decide) (by decide), sw 5 (by decide) (by decide), sw 6 (by decide) (by decide), ite_false])) rfl rfl rfl
theorem d_ship5 {k : Nat} {I : hI} {J : hJ} {R : hR} {T : Nat} (hT : T = 9 ∨ T = 36) (h0 : R 0 3 = T) {N : Nat → Nat} (t : ctk I T N) {s : Nat} (hs : s < N 2) (hk : 2 ≤ k) : ct k 114 [.ref 0, .int (Int32.ofNat s), .int (Int32.ofNat 5)] I J R (some (.int (k_mood I T 63 (Int32.ofNat s) (N 1)))) (k_mI I T 63 (Int32.ofNat s) (N 1)) J R := by
  obtain ⟨k, rfl⟩ : ∃ k', k = k' + 1 := ⟨k - 1, by omega⟩
  obtain ⟨⟨l1, l2, l3⟩, ⟨e5, e11, e3⟩, rM, tH, sM, ⟨e18, l18⟩, ⟨e21, l21⟩, ⟨e24, l24⟩⟩ := id t
  refine ct_of (q := am_m114) (o := 11) (rt := (some .int)) (co := am_c114) (L := [_, _, _]) rfl rfl rfl rfl rfl rfl ?_
  refine w_aload_n rfl rfl rfl ?_
  refine w_iload_n rfl rfl rfl ?_
  refine w_cv (q := am_m162) (as := [_]) (rest := []) (st' := [_]) rfl rfl rfl rfl rfl rfl sp0 rfl rfl rfl rfl (d_isShip hT h0 (by omega)) rfl rfl ?_
  refine w_if_neB (t := 10) (f := 8) rfl rfl rfl (fun c5 => ?_) (fun c5 => absurd c5 (k_isok hs (by omega) e11))
  refine w_iload_n rfl rfl rfl ?_
  refine w_ts (lo := 0) (hi := 6) (d := 127) rfl rfl (by decide) (fun sw => ?_) (fun n h1 h2 sw => ?_)
  · exact absurd rfl (sw 5 (by decide) (by decide))
  · have h3 : n = 0 ∨ n = 1 ∨ n = 2 ∨ n = 3 ∨ n = 4 ∨ n = 5 ∨ n = 6 := by omega
    rcases h3 with rfl | rfl | rfl | rfl | rfl | rfl | rfl
    · refine ⟨52, rfl, ?_⟩
      exact absurd sw (by decide)
    · refine ⟨62, rfl, ?_⟩
      exact absurd sw (by decide)
    · refine ⟨72, rfl, ?_⟩
      exact absurd sw (by decide)
    · refine ⟨82, rfl, ?_⟩
      exact absurd sw (by decide)
    · refine ⟨92, rfl, ?_⟩
      exact absurd sw (by decide)
    · refine ⟨101, rfl, ?_⟩
      refine w_aload_n rfl rfl rfl ?_
      refine w_gf (t := .ref (84)) (v := .ref (84)) rfl rfl rfl sp0 rfl rfl rfl ?_
      refine w_aload_n rfl rfl rfl ?_
      refine w_gf (t := .retAddr 0) (v := .ref (T)) rfl rfl rfl sp0 rfl (congrArg Value.ref (by first | exact h0 | exact (am_u_na (by decide)).trans h0)) rfl ?_
      refine w_aload_n rfl rfl rfl ?_
      refine w_gf (t := .ref (63)) (v := .ref (63)) rfl rfl rfl sp0 rfl rfl rfl ?_
      refine w_iload_n rfl rfl rfl ?_
      refine w_cv (q := am_m30) (as := [_, _, _]) (rest := []) (st' := [_]) rfl rfl rfl rfl rfl rfl sp84 rfl rfl rfl rfl (d_mood hT (Or.inl rfl) l1 e5 rM tH (by omega)) rfl rfl ?_
      exact w_iret rfl rfl rfl rfl rfl
    · refine ⟨118, rfl, ?_⟩
      exact absurd sw (by decide)
theorem d_ship_no {k : Nat} {I : hI} {J : hJ} {R : hR} {T : Nat} (hT : T = 9 ∨ T = 36) (h0 : R 0 3 = T) {x w : Int32} (hx : ¬ (¬ x < 0 ∧ x < I (T + 11) 1)) (hk : 2 ≤ k) : ct k 114 [.ref 0, .int x, .int w] I J R (some (.int (Int32.ofInt (-1)))) I J R := by
  obtain ⟨k, rfl⟩ : ∃ k', k = k' + 1 := ⟨k - 1, by omega⟩
  refine ct_of (q := am_m114) (o := 11) (rt := (some .int)) (co := am_c114) (L := [_, _, _]) rfl rfl rfl rfl rfl rfl ?_
  refine w_aload_n rfl rfl rfl ?_
  refine w_iload_n rfl rfl rfl ?_
  refine w_cv (q := am_m162) (as := [_]) (rest := []) (st' := [_]) rfl rfl rfl rfl rfl rfl sp0 rfl rfl rfl rfl (d_isShip hT h0 (by omega)) rfl rfl ?_
  refine w_if_neB (t := 10) (f := 8) rfl rfl rfl (fun c5 => absurd c5 hx) (fun c5 => ?_)
  refine w_iconst (x := Int32.ofInt (-1)) rfl rfl (by decide) ?_
  exact w_iret rfl rfl rfl rfl rfl
theorem d_maker {k : Nat} {I : hI} {J : hJ} {R : hR} {T : Nat} (hT : T = 9 ∨ T = 36) (h0 : R 0 3 = T) {N : Nat → Nat} (t : ctk I T N) (m0 : I (T + 1) 1 = Int32.ofNat (N 0)) (l0 : N 0 ≤ 6) {m : Nat} (hm : m < N 0) {w : Int32} (hk : 2 ≤ k) : ct k 115 [.ref 0, .int (Int32.ofNat m), .int w] I J R (some (.int (if w = 0 then I (T + 3) m else if w = Int32.ofNat 1 then I (T + 4) m else Int32.ofInt (-1)))) I J R := by
  obtain ⟨k, rfl⟩ : ∃ k', k = k' + 1 := ⟨k - 1, by omega⟩
  obtain ⟨⟨l1, l2, l3⟩, ⟨e5, e11, e3⟩, rM, tH, sM, ⟨e18, l18⟩, ⟨e21, l21⟩, ⟨e24, l24⟩⟩ := id t
  refine ct_of (q := am_m115) (o := 11) (rt := (some .int)) (co := am_c115) (L := [_, _, _]) rfl rfl rfl rfl rfl rfl ?_
  refine w_aload_n rfl rfl rfl ?_
  refine w_iload_n rfl rfl rfl ?_
  refine w_cv (q := am_m160) (as := [_]) (rest := []) (st' := [_]) rfl rfl rfl rfl rfl rfl sp0 rfl rfl rfl rfl (d_isMaker hT h0 (by omega)) rfl rfl ?_
  refine w_if_neB (t := 10) (f := 8) rfl rfl rfl (fun c5 => ?_) (fun c5 => absurd c5 (k_isok hm (by omega) m0))
  refine w_iload_n rfl rfl rfl ?_
  refine w_if_ne (t := 24) (f := 14) rfl rfl rfl (fun c11 => ?_) (fun c11 => ?_)
  · refine w_iload_n rfl rfl rfl ?_
    refine w_iconst (x := Int32.ofNat 1) rfl rfl (by decide) ?_
    refine w_ic_ne (t := 41) (f := 29) rfl rfl rfl (fun c26 => ?_) (fun c26 => ?_)
    · refine w_iconst (x := Int32.ofInt (-1)) rfl rfl (by decide) ?_
      exact w_iret rfl (by first | rw [if_pos c11] | rw [if_neg c11, if_pos c26] | rw [if_neg c11, if_neg c26]) rfl rfl rfl
    · refine w_aload_n rfl rfl rfl ?_
      refine w_gf (t := .retAddr 0) (v := .ref (T)) rfl rfl rfl sp0 rfl (congrArg Value.ref (by first | exact h0 | exact (am_u_na (by decide)).trans h0)) rfl ?_
      refine w_gf (t := .ref (T + 4)) (v := .ref (T + 4)) rfl rfl rfl (shT_0 hT) rfl rfl rfl ?_
      refine w_iload_n rfl rfl rfl ?_
      refine w_iaload rfl rfl (shT_4 hT) rfl ⟨by omega, by omega⟩ rfl ?_
      refine w_goto (pc' := 42) rfl rfl ?_
      exact w_iret rfl (by first | rw [if_pos c11] | rw [if_neg c11, if_pos c26] | rw [if_neg c11, if_neg c26]) rfl rfl rfl
  · refine w_aload_n rfl rfl rfl ?_
    refine w_gf (t := .retAddr 0) (v := .ref (T)) rfl rfl rfl sp0 rfl (congrArg Value.ref (by first | exact h0 | exact (am_u_na (by decide)).trans h0)) rfl ?_
    refine w_gf (t := .ref (T + 3)) (v := .ref (T + 3)) rfl rfl rfl (shT_0 hT) rfl rfl rfl ?_
    refine w_iload_n rfl rfl rfl ?_
    refine w_iaload rfl rfl (shT_3 hT) rfl ⟨by omega, by omega⟩ rfl ?_
    exact w_iret rfl (by first | rw [if_pos c11] | rw [if_neg c11, if_pos c26] | rw [if_neg c11, if_neg c26]) rfl rfl rfl
theorem d_maker_no {k : Nat} {I : hI} {J : hJ} {R : hR} {T : Nat} (hT : T = 9 ∨ T = 36) (h0 : R 0 3 = T) {x w : Int32} (hx : ¬ (¬ x < 0 ∧ x < I (T + 1) 1)) (hk : 2 ≤ k) : ct k 115 [.ref 0, .int x, .int w] I J R (some (.int (Int32.ofInt (-1)))) I J R := by
  obtain ⟨k, rfl⟩ : ∃ k', k = k' + 1 := ⟨k - 1, by omega⟩
  refine ct_of (q := am_m115) (o := 11) (rt := (some .int)) (co := am_c115) (L := [_, _, _]) rfl rfl rfl rfl rfl rfl ?_
  refine w_aload_n rfl rfl rfl ?_
  refine w_iload_n rfl rfl rfl ?_
  refine w_cv (q := am_m160) (as := [_]) (rest := []) (st' := [_]) rfl rfl rfl rfl rfl rfl sp0 rfl rfl rfl rfl (d_isMaker hT h0 (by omega)) rfl rfl ?_
  refine w_if_neB (t := 10) (f := 8) rfl rfl rfl (fun c5 => absurd c5 hx) (fun c5 => ?_)
  refine w_iconst (x := Int32.ofInt (-1)) rfl rfl (by decide) ?_
  exact w_iret rfl rfl rfl rfl rfl
