/-! The class: a day. -/
def k_puJ (I : hI) (J : hJ) (T S x n : Nat) (z : Int32) : hJ := k_lay J 0 0 (k_mood I T S (Int32.ofNat x) n).toInt64 (k_mI I T S (Int32.ofNat x) n (T + 13) x).toInt64 (k_bear (k_mI I T S (Int32.ofNat x) n) S (Int32.ofNat x) 8).toInt64 z.toInt64 (k_mI I T S (Int32.ofNat x) n S 0).toInt64
def k_puI (I : hI) (T S x n : Nat) : hI := if 0 < I (T + 24) 0 then k_mI I T S (Int32.ofNat x) n else I
def k_pu (I : hI) (J : hJ) (T S x n m : Nat) (z : Int32) : Int64 × hJ := if 0 < I (T + 24) 0 then k_val (k_mI I T S (Int32.ofNat x) n) (T + 24) m 0 0 (k_puJ I J T S x n z) else k_val I (T + 24) m 0 0 J
theorem d_pull1 {k : Nat} {I : hI} {J : hJ} {R : hR} {T : Nat} (hT : T = 9 ∨ T = 36) (hD : R 84 3 = T) {S : Nat} (hS : S = 63 ∨ S = 70 ∨ S = 77) {x : Nat} {z : Int32} (hx : x < 5) {n : Nat} (hn : n ≤ 8) (h5 : I (T + 5) 1 = Int32.ofNat n) (hM : ∀ r, r < n → okn (I (T + 7) r) 6) (hQ : ∀ m, m < 6 → okn (I (T + 3) m) 10) {m : Nat} (hm : m ≤ 64) (hmz : I (T + 24) 0 = Int32.ofNat m) (ht : 0 < I (T + 24) 0) (hk : 3 ≤ k) : ct k 28 [.ref 84, .ref S, .int (Int32.ofNat x), .int z] I J R (some (.long (k_pu I J T S x n m z).1)) (k_puI I T S x n) ((k_pu I J T S x n m z).2) R := by
  obtain ⟨k, rfl⟩ : ∃ k', k = k' + 1 := ⟨k - 1, by omega⟩
  refine ct_of (q := am_m28) (o := 2) (rt := (some .long)) (co := am_c28) (L := [_, _, _, _, _]) rfl rfl rfl rfl rfl rfl ?_
  refine w_aload_n rfl rfl rfl ?_
  refine w_gf (t := .retAddr 0) (v := .ref (T)) rfl rfl rfl sp84 rfl (congrArg Value.ref hD) rfl ?_
  refine w_gf (t := .ref (T + 17)) (v := .ref (T + 17)) rfl rfl rfl (shT_0 hT) rfl rfl rfl ?_
  refine w_iconst (x := Int32.ofNat 2) rfl rfl (by decide) ?_
  refine w_aaload rfl rfl (shT_17 hT) rfl ⟨Nat.le_of_ble_eq_true rfl, Nat.le_of_ble_eq_true rfl⟩ rfl ?_
  refine w_astore (L' := [_, _, _, _, _]) rfl rfl rfl ?_
  refine w_aload rfl rfl rfl ?_
  refine w_cv (q := am_m32) (as := []) (rest := []) (st' := [_]) rfl rfl rfl rfl rfl rfl (shT_24 hT) rfl rfl rfl rfl (d_isTold (shT_24 hT) (shT_25 hT) (shT_26 hT) (by omega)) rfl rfl ?_
  refine w_if_eqB (t := 98) (f := 19) rfl rfl rfl (fun c16 => absurd c16 (not_not_intro ht)) (fun c16 => ?_)
  refine w_aload_n rfl rfl rfl ?_
  refine w_gf (t := .ref (85)) (v := .ref (85)) rfl rfl rfl sp84 rfl rfl rfl ?_
  refine w_iconst (x := Int32.ofNat 0) rfl rfl (by decide) ?_
  refine w_lconst (x := 0) rfl rfl (by decide) ?_
  refine w_lastore rfl rfl sp85 rfl ⟨by omega, by omega⟩ ?_
  refine w_aload_n rfl rfl rfl ?_
  refine w_gf (t := .ref (85)) (v := .ref (85)) rfl rfl rfl sp84 rfl rfl rfl ?_
  refine w_iconst (x := Int32.ofNat 1) rfl rfl (by decide) ?_
  refine w_lconst (x := 0) rfl rfl (by decide) ?_
  refine w_lastore rfl rfl sp85 rfl ⟨by omega, by omega⟩ ?_
  refine w_aload_n rfl rfl rfl ?_
  refine w_gf (t := .ref (85)) (v := .ref (85)) rfl rfl rfl sp84 rfl rfl rfl ?_
  refine w_iconst (x := Int32.ofNat 2) rfl rfl (by decide) ?_
  refine w_aload_n rfl rfl rfl ?_
  refine w_aload_n rfl rfl rfl ?_
  refine w_gf (t := .retAddr 0) (v := .ref (T)) rfl rfl rfl sp84 rfl (congrArg Value.ref hD) rfl ?_
  refine w_aload_n rfl rfl rfl ?_
  refine w_iload_n rfl rfl rfl ?_
  refine w_cv (q := am_m30) (as := [_, _, _]) (rest := [_, _]) (st' := [_, _, _]) rfl rfl rfl rfl rfl rfl sp84 rfl rfl rfl rfl (d_mood hT hS hn h5 hM hQ (by omega)) rfl rfl ?_
  refine w_i2l rfl rfl ?_
  refine w_lastore rfl rfl sp85 rfl ⟨by omega, by omega⟩ ?_
  refine w_aload_n rfl rfl rfl ?_
  refine w_gf (t := .ref (85)) (v := .ref (85)) rfl rfl rfl sp84 rfl rfl rfl ?_
  refine w_iconst (x := Int32.ofNat 3) rfl rfl (by decide) ?_
  refine w_aload_n rfl rfl rfl ?_
  refine w_gf (t := .retAddr 0) (v := .ref (T)) rfl rfl rfl sp84 rfl (congrArg Value.ref hD) rfl ?_
  refine w_gf (t := .ref (T + 13)) (v := .ref (T + 13)) rfl rfl rfl (shT_0 hT) rfl rfl rfl ?_
  refine w_iload_n rfl rfl rfl ?_
  refine w_iaload rfl rfl (shT_13 hT) rfl ⟨by omega, by omega⟩ rfl ?_
  refine w_i2l rfl rfl ?_
  refine w_lastore rfl rfl sp85 rfl ⟨by omega, by omega⟩ ?_
  refine w_aload_n rfl rfl rfl ?_
  refine w_gf (t := .ref (85)) (v := .ref (85)) rfl rfl rfl sp84 rfl rfl rfl ?_
  refine w_iconst (x := Int32.ofNat 4) rfl rfl (by decide) ?_
  refine w_aload_n rfl rfl rfl ?_
  refine w_iload_n rfl rfl rfl ?_
  refine w_cv (q := am_m66) (as := [_]) (rest := [_, _]) (st' := [_, _, _]) rfl rfl rfl rfl rfl rfl (shS_0 hS) rfl rfl rfl rfl (d_bear hS (by omega)) rfl rfl ?_
  refine w_i2l rfl rfl ?_
  refine w_lastore rfl rfl sp85 rfl ⟨by omega, by omega⟩ ?_
  refine w_aload_n rfl rfl rfl ?_
  refine w_gf (t := .ref (85)) (v := .ref (85)) rfl rfl rfl sp84 rfl rfl rfl ?_
  refine w_iconst (x := Int32.ofNat 5) rfl rfl (by decide) ?_
  refine w_iload_n rfl rfl rfl ?_
  refine w_i2l rfl rfl ?_
  refine w_lastore rfl rfl sp85 rfl ⟨by omega, by omega⟩ ?_
  refine w_aload_n rfl rfl rfl ?_
  refine w_gf (t := .ref (85)) (v := .ref (85)) rfl rfl rfl sp84 rfl rfl rfl ?_
  refine w_bipush (x := Int32.ofNat 6) rfl rfl (by decide) ?_
  refine w_aload_n rfl rfl rfl ?_
  refine w_gf (t := .int 0) (v := .int _) rfl rfl rfl (shS_0 hS) rfl (congrArg Value.int rfl) rfl ?_
  refine w_i2l rfl rfl ?_
  refine w_lastore rfl rfl sp85 rfl ⟨by omega, by omega⟩ ?_
  refine w_aload rfl rfl rfl ?_
  refine w_aload_n rfl rfl rfl ?_
  refine w_gf (t := .ref (85)) (v := .ref (85)) rfl rfl rfl sp84 rfl rfl rfl ?_
  refine w_aload_n rfl rfl rfl ?_
  refine w_gf (t := .ref (86)) (v := .ref (86)) rfl rfl rfl sp84 rfl rfl rfl ?_
  refine w_cv (q := am_m34) (as := [_, _]) (rest := []) (st' := [_]) rfl rfl rfl rfl rfl rfl (shT_24 hT) rfl rfl rfl rfl (d_value (shT_24 hT) (shT_25 hT) (shT_26 hT) hm ((congrFun (k_mI_ne (by omega)) 0).trans hmz) (by omega)) rfl rfl ?_
  exact w_lret rfl (by unfold k_pu k_puJ k_lay; rw [if_pos ht]) (by unfold k_puI; rw [if_pos ht]) (by unfold k_pu k_puJ k_lay; rw [if_pos ht]) rfl
theorem d_pull0 {k : Nat} {I : hI} {J : hJ} {R : hR} {T : Nat} (hT : T = 9 ∨ T = 36) (hD : R 84 3 = T) {S : Nat} (hS : S = 63 ∨ S = 70 ∨ S = 77) {x : Nat} {z : Int32} (hx : x < 5) {n : Nat} (hn : n ≤ 8) (h5 : I (T + 5) 1 = Int32.ofNat n) (hM : ∀ r, r < n → okn (I (T + 7) r) 6) (hQ : ∀ m, m < 6 → okn (I (T + 3) m) 10) {m : Nat} (hm : m ≤ 64) (hmz : I (T + 24) 0 = Int32.ofNat m) (ht : ¬ 0 < I (T + 24) 0) (hk : 3 ≤ k) : ct k 28 [.ref 84, .ref S, .int (Int32.ofNat x), .int z] I J R (some (.long (k_pu I J T S x n m z).1)) (k_puI I T S x n) ((k_pu I J T S x n m z).2) R := by
  obtain ⟨k, rfl⟩ : ∃ k', k = k' + 1 := ⟨k - 1, by omega⟩
  refine ct_of (q := am_m28) (o := 2) (rt := (some .long)) (co := am_c28) (L := [_, _, _, _, _]) rfl rfl rfl rfl rfl rfl ?_
  refine w_aload_n rfl rfl rfl ?_
  refine w_gf (t := .retAddr 0) (v := .ref (T)) rfl rfl rfl sp84 rfl (congrArg Value.ref hD) rfl ?_
  refine w_gf (t := .ref (T + 17)) (v := .ref (T + 17)) rfl rfl rfl (shT_0 hT) rfl rfl rfl ?_
  refine w_iconst (x := Int32.ofNat 2) rfl rfl (by decide) ?_
  refine w_aaload rfl rfl (shT_17 hT) rfl ⟨Nat.le_of_ble_eq_true rfl, Nat.le_of_ble_eq_true rfl⟩ rfl ?_
  refine w_astore (L' := [_, _, _, _, _]) rfl rfl rfl ?_
  refine w_aload rfl rfl rfl ?_
  refine w_cv (q := am_m32) (as := []) (rest := []) (st' := [_]) rfl rfl rfl rfl rfl rfl (shT_24 hT) rfl rfl rfl rfl (d_isTold (shT_24 hT) (shT_25 hT) (shT_26 hT) (by omega)) rfl rfl ?_
  refine w_if_eqB (t := 98) (f := 19) rfl rfl rfl (fun c16 => ?_) (fun c16 => absurd c16 ht)
  refine w_aload rfl rfl rfl ?_
  refine w_aload_n rfl rfl rfl ?_
  refine w_gf (t := .ref (85)) (v := .ref (85)) rfl rfl rfl sp84 rfl rfl rfl ?_
  refine w_aload_n rfl rfl rfl ?_
  refine w_gf (t := .ref (86)) (v := .ref (86)) rfl rfl rfl sp84 rfl rfl rfl ?_
  refine w_cv (q := am_m34) (as := [_, _]) (rest := []) (st' := [_]) rfl rfl rfl rfl rfl rfl (shT_24 hT) rfl rfl rfl rfl (d_value (shT_24 hT) (shT_25 hT) (shT_26 hT) hm hmz (by omega)) rfl rfl ?_
  exact w_lret rfl (by unfold k_pu k_puJ k_lay; rw [if_neg ht]) (by unfold k_puI; rw [if_neg ht]) (by unfold k_pu k_puJ k_lay; rw [if_neg ht]) rfl
theorem d_pull {k : Nat} {I : hI} {J : hJ} {R : hR} {T : Nat} (hT : T = 9 ∨ T = 36) (hD : R 84 3 = T) {S : Nat} (hS : S = 63 ∨ S = 70 ∨ S = 77) {x : Nat} {z : Int32} (hx : x < 5) {n : Nat} (hn : n ≤ 8) (h5 : I (T + 5) 1 = Int32.ofNat n) (hM : ∀ r, r < n → okn (I (T + 7) r) 6) (hQ : ∀ m, m < 6 → okn (I (T + 3) m) 10) {m : Nat} (hm : m ≤ 64) (hmz : I (T + 24) 0 = Int32.ofNat m) (hk : 3 ≤ k) : ct k 28 [.ref 84, .ref S, .int (Int32.ofNat x), .int z] I J R (some (.long (k_pu I J T S x n m z).1)) (k_puI I T S x n) (k_pu I J T S x n m z).2 R := by
  by_cases ht : 0 < I (T + 24) 0
  · exact d_pull1 hT hD hS hx hn h5 hM hQ hm hmz ht hk
  · exact d_pull0 hT hD hS hx hn h5 hM hQ hm hmz ht hk
def k_st (I : hI) (J : hJ) (T S : Nat) : Int32 := if I 84 4 = 0 then (if ¬ 0 < I T 16 ∨ ¬ I T 16 < Int32.ofNat 100 then (if I T 16 < Int32.ofNat 100 then 0 else 1) else (if ((k_dr J S / 65536).toInt32 - (k_dr J S / 65536).toInt32 / Int32.ofNat 100 * Int32.ofNat 100) < I T 16 then 1 else 0)) else (if I 84 5 = 0 then 0 else 1)
def k_stJ (I : hI) (J : hJ) (T S : Nat) : hJ := if I 84 4 = 0 then (if ¬ 0 < I T 16 ∨ ¬ I T 16 < Int32.ofNat 100 then J else am_u J S 1 (k_dr J S)) else J
theorem d_isStormy {k : Nat} {I : hI} {J : hJ} {R : hR} {T : Nat} (hT : T = 9 ∨ T = 36) (hD : R 84 3 = T) {S : Nat} (hS : S = 63 ∨ S = 70 ∨ S = 77) (hk : 2 ≤ k) : ct k 21 [.ref 84, .ref S] I J R (some (.int (k_st I J T S))) I (k_stJ I J T S) R := by
  obtain ⟨k, rfl⟩ : ∃ k', k = k' + 1 := ⟨k - 1, by omega⟩
  refine ct_of (q := am_m21) (o := 2) (rt := (some .boolean)) (co := am_c21) (L := [_, _]) rfl rfl rfl rfl rfl rfl ?_
  refine w_aload_n rfl rfl rfl ?_
  refine w_gf (t := .int 0) (v := .int _) rfl rfl rfl sp84 rfl (congrArg Value.int rfl) rfl ?_
  refine w_if_eq (t := 20) (f := 7) rfl rfl rfl (fun c4 => ?_) (fun c4 => ?_)
  · refine w_aload_n rfl rfl rfl ?_
    refine w_gf (t := .retAddr 0) (v := .ref (T)) rfl rfl rfl sp84 rfl (congrArg Value.ref hD) rfl ?_
    refine w_gf (t := .int 0) (v := .int _) rfl rfl rfl (shT_0 hT) rfl (congrArg Value.int rfl) rfl ?_
    refine w_if_le (t := 42) (f := 30) rfl rfl rfl (fun c27 => ?_) (fun c27 => ?_)
    · refine w_aload_n rfl rfl rfl ?_
      refine w_gf (t := .retAddr 0) (v := .ref (T)) rfl rfl rfl sp84 rfl (congrArg Value.ref hD) rfl ?_
      refine w_gf (t := .int 0) (v := .int _) rfl rfl rfl (shT_0 hT) rfl (congrArg Value.int rfl) rfl ?_
      refine w_bipush (x := Int32.ofNat 100) rfl rfl (by decide) ?_
      refine w_ic_lt (t := 58) (f := 54) rfl rfl rfl (fun c51 => ?_) (fun c51 => ?_)
      · refine w_iconst (x := Int32.ofNat 0) rfl rfl (by decide) ?_
        exact w_bret rfl (by decide) (by first | contradiction | (simp only [k_st, *, ite_true, ite_false, and_self, and_true, true_and, and_false, false_and, or_true, true_or, or_false, false_or, not_true, not_false_iff] <;> rfl)) rfl (by first | contradiction | (simp only [k_stJ, *, ite_true, ite_false, and_self, and_true, true_and, and_false, false_and, or_true, true_or, or_false, false_or, not_true, not_false_iff] <;> rfl)) rfl
      · refine w_iconst (x := Int32.ofNat 1) rfl rfl (by decide) ?_
        refine w_goto (pc' := 59) rfl rfl ?_
        exact w_bret rfl (by decide) (by first | contradiction | (simp only [k_st, *, ite_true, ite_false, and_self, and_true, true_and, and_false, false_and, or_true, true_or, or_false, false_or, not_true, not_false_iff] <;> rfl)) rfl (by first | contradiction | (simp only [k_stJ, *, ite_true, ite_false, and_self, and_true, true_and, and_false, false_and, or_true, true_or, or_false, false_or, not_true, not_false_iff] <;> rfl)) rfl
    · refine w_aload_n rfl rfl rfl ?_
      refine w_gf (t := .retAddr 0) (v := .ref (T)) rfl rfl rfl sp84 rfl (congrArg Value.ref hD) rfl ?_
      refine w_gf (t := .int 0) (v := .int _) rfl rfl rfl (shT_0 hT) rfl (congrArg Value.int rfl) rfl ?_
      refine w_bipush (x := Int32.ofNat 100) rfl rfl (by decide) ?_
      refine w_ic_lt (t := 60) (f := 42) rfl rfl rfl (fun c39 => ?_) (fun c39 => ?_)
      · refine w_aload_n rfl rfl rfl ?_
        refine w_cv (q := am_m71) (as := []) (rest := []) (st' := [_]) rfl rfl rfl rfl rfl rfl (shS_0 hS) rfl rfl rfl rfl (d_draw hS (by omega)) rfl rfl ?_
        refine w_bipush (x := Int32.ofNat 100) rfl rfl (by decide) ?_
        refine w_irem rfl rfl (by decide) ?_
        refine w_aload_n rfl rfl rfl ?_
        refine w_gf (t := .retAddr 0) (v := .ref (T)) rfl rfl rfl sp84 rfl (congrArg Value.ref hD) rfl ?_
        refine w_gf (t := .int 0) (v := .int _) rfl rfl rfl (shT_0 hT) rfl (congrArg Value.int rfl) rfl ?_
        refine w_ic_ge (t := 81) (f := 77) rfl rfl rfl (fun c74 => ?_) (fun c74 => ?_)
        · refine w_iconst (x := Int32.ofNat 0) rfl rfl (by decide) ?_
          exact w_bret rfl (by decide) (by first | contradiction | (simp only [k_st, *, ite_true, ite_false, and_self, and_true, true_and, and_false, false_and, or_true, true_or, or_false, false_or, not_true, not_false_iff] <;> rfl)) rfl (by first | contradiction | (simp only [k_stJ, *, ite_true, ite_false, and_self, and_true, true_and, and_false, false_and, or_true, true_or, or_false, false_or, not_true, not_false_iff] <;> rfl)) rfl
        · refine w_iconst (x := Int32.ofNat 1) rfl rfl (by decide) ?_
          refine w_goto (pc' := 82) rfl rfl ?_
          exact w_bret rfl (by decide) (by first | contradiction | (simp only [k_st, *, ite_true, ite_false, and_self, and_true, true_and, and_false, false_and, or_true, true_or, or_false, false_or, not_true, not_false_iff] <;> rfl)) rfl (by first | contradiction | (simp only [k_stJ, *, ite_true, ite_false, and_self, and_true, true_and, and_false, false_and, or_true, true_or, or_false, false_or, not_true, not_false_iff] <;> rfl)) rfl
      · refine w_aload_n rfl rfl rfl ?_
        refine w_gf (t := .retAddr 0) (v := .ref (T)) rfl rfl rfl sp84 rfl (congrArg Value.ref hD) rfl ?_
        refine w_gf (t := .int 0) (v := .int _) rfl rfl rfl (shT_0 hT) rfl (congrArg Value.int rfl) rfl ?_
        refine w_bipush (x := Int32.ofNat 100) rfl rfl (by decide) ?_
        refine w_ic_lt (t := 58) (f := 54) rfl rfl rfl (fun c51 => ?_) (fun c51 => ?_)
        · refine w_iconst (x := Int32.ofNat 0) rfl rfl (by decide) ?_
          exact w_bret rfl (by decide) (by first | contradiction | (simp only [k_st, *, ite_true, ite_false, and_self, and_true, true_and, and_false, false_and, or_true, true_or, or_false, false_or, not_true, not_false_iff] <;> rfl)) rfl (by first | contradiction | (simp only [k_stJ, *, ite_true, ite_false, and_self, and_true, true_and, and_false, false_and, or_true, true_or, or_false, false_or, not_true, not_false_iff] <;> rfl)) rfl
        · refine w_iconst (x := Int32.ofNat 1) rfl rfl (by decide) ?_
          refine w_goto (pc' := 59) rfl rfl ?_
          exact w_bret rfl (by decide) (by first | contradiction | (simp only [k_st, *, ite_true, ite_false, and_self, and_true, true_and, and_false, false_and, or_true, true_or, or_false, false_or, not_true, not_false_iff] <;> rfl)) rfl (by first | contradiction | (simp only [k_stJ, *, ite_true, ite_false, and_self, and_true, true_and, and_false, false_and, or_true, true_or, or_false, false_or, not_true, not_false_iff] <;> rfl)) rfl
  · refine w_aload_n rfl rfl rfl ?_
    refine w_gf (t := .int 0) (v := .int _) rfl rfl rfl sp84 rfl (congrArg Value.int rfl) rfl ?_
    refine w_if_eq (t := 18) (f := 14) rfl rfl rfl (fun c11 => ?_) (fun c11 => ?_)
    · refine w_iconst (x := Int32.ofNat 0) rfl rfl (by decide) ?_
      exact w_bret rfl (by decide) (by first | contradiction | (simp only [k_st, *, ite_true, ite_false, and_self, and_true, true_and, and_false, false_and, or_true, true_or, or_false, false_or, not_true, not_false_iff] <;> rfl)) rfl (by first | contradiction | (simp only [k_stJ, *, ite_true, ite_false, and_self, and_true, true_and, and_false, false_and, or_true, true_or, or_false, false_or, not_true, not_false_iff] <;> rfl)) rfl
    · refine w_iconst (x := Int32.ofNat 1) rfl rfl (by decide) ?_
      refine w_goto (pc' := 19) rfl rfl ?_
      exact w_bret rfl (by decide) (by first | contradiction | (simp only [k_st, *, ite_true, ite_false, and_self, and_true, true_and, and_false, false_and, or_true, true_or, or_false, false_or, not_true, not_false_iff] <;> rfl)) rfl (by first | contradiction | (simp only [k_stJ, *, ite_true, ite_false, and_self, and_true, true_and, and_false, false_and, or_true, true_or, or_false, false_or, not_true, not_false_iff] <;> rfl)) rfl
