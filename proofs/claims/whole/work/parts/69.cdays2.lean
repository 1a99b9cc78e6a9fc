/-! The class: a day, law by law. -/
def k_twJ (I : hI) (J : hJ) (T S r : Nat) : hJ := if 0 < I (T + 18) 0 then am_u (k_layR I J T S r (I 84 5)) 85 3 0 else J
def k_tw (I : hI) (J : hJ) (T S r n : Nat) : Int64 × hJ := k_val I (T + 18) n 0 0 (k_twJ I J T S r)
def k_weJ (I : hI) (J : hJ) (T S r : Nat) (z : Int32) : hJ := if 0 < I (T + 21) 0 then k_layR I J T S r z else J
def k_we (I : hI) (J : hJ) (T S r n : Nat) (z : Int32) : Int64 × hJ := k_val I (T + 21) n 0 0 (k_weJ I J T S r z)
theorem d_twist {k : Nat} {I : hI} {J : hJ} {R : hR} {T : Nat} (hT : T = 9 ∨ T = 36) (hD : R 84 3 = T) {S : Nat} (hS : S = 63 ∨ S = 70 ∨ S = 77) {r : Nat} (hr : r < 8) (hm : okn (I (T + 7) r) 6) {n0 : Nat} (hn0 : n0 ≤ 64) (h0 : I (T + 18) 0 = Int32.ofNat n0) (hk : 3 ≤ k) : ct k 25 [.ref 84, .ref S, .int (Int32.ofNat r)] I J R (some (.long (k_tw I J T S r n0).1)) I ((k_tw I J T S r n0).2) R := by
  obtain ⟨k, rfl⟩ : ∃ k', k = k' + 1 := ⟨k - 1, by omega⟩
  refine ct_of (q := am_m25) (o := 2) (rt := (some .long)) (co := am_c25) (L := [_, _, _, _]) rfl rfl rfl rfl rfl rfl ?_
  refine w_aload_n rfl rfl rfl ?_
  refine w_gf (t := .retAddr 0) (v := .ref (T)) rfl rfl rfl sp84 rfl (congrArg Value.ref hD) rfl ?_
  refine w_gf (t := .ref (T + 17)) (v := .ref (T + 17)) rfl rfl rfl (shT_0 hT) rfl rfl rfl ?_
  refine w_iconst (x := Int32.ofNat 0) rfl rfl (by decide) ?_
  refine w_aaload rfl rfl (shT_17 hT) rfl ⟨Nat.le_of_ble_eq_true rfl, Nat.le_of_ble_eq_true rfl⟩ rfl ?_
  refine w_astore_n (L' := [_, _, _, _]) rfl rfl rfl ?_
  refine w_aload_n rfl rfl rfl ?_
  refine w_cv (q := am_m32) (as := []) (rest := []) (st' := [_]) rfl rfl rfl rfl rfl rfl (shT_18 hT) rfl rfl rfl rfl (d_isTold (shT_18 hT) (shT_19 hT) (shT_20 hT) (by omega)) rfl rfl ?_
  refine w_if_eqB (t := 34) (f := 17) rfl rfl rfl (fun c14 => ?_) (fun c14 => ?_)
  · refine w_aload_n rfl rfl rfl ?_
    refine w_aload_n rfl rfl rfl ?_
    refine w_gf (t := .ref (85)) (v := .ref (85)) rfl rfl rfl sp84 rfl rfl rfl ?_
    refine w_aload_n rfl rfl rfl ?_
    refine w_gf (t := .ref (86)) (v := .ref (86)) rfl rfl rfl sp84 rfl rfl rfl ?_
    refine w_cv (q := am_m34) (as := [_, _]) (rest := []) (st' := [_]) rfl rfl rfl rfl rfl rfl (shT_18 hT) rfl rfl rfl rfl (d_value (shT_18 hT) (shT_19 hT) (shT_20 hT) hn0 h0 (by omega)) rfl rfl ?_
    exact w_lret rfl (by unfold k_tw k_twJ; first | rw [if_pos c14] | rw [if_neg c14]) rfl (by unfold k_tw k_twJ; first | rw [if_pos c14] | rw [if_neg c14]) rfl
  · refine w_aload_n rfl rfl rfl ?_
    refine w_aload_n rfl rfl rfl ?_
    refine w_iload_n rfl rfl rfl ?_
    refine w_aload_n rfl rfl rfl ?_
    refine w_gf (t := .int 0) (v := .int _) rfl rfl rfl sp84 rfl (congrArg Value.int rfl) rfl ?_
    refine w_cv (q := am_m27) (as := [_, _, _]) (rest := []) (st' := []) rfl rfl rfl rfl rfl rfl sp84 rfl rfl rfl rfl (d_setRopeNames hT hD hS hr hm (by omega)) rfl rfl ?_
    refine w_aload_n rfl rfl rfl ?_
    refine w_gf (t := .ref (85)) (v := .ref (85)) rfl rfl rfl sp84 rfl rfl rfl ?_
    refine w_iconst (x := Int32.ofNat 3) rfl rfl (by decide) ?_
    refine w_lconst (x := 0) rfl rfl (by decide) ?_
    refine w_lastore rfl rfl sp85 rfl ⟨by omega, by omega⟩ ?_
    refine w_aload_n rfl rfl rfl ?_
    refine w_aload_n rfl rfl rfl ?_
    refine w_gf (t := .ref (85)) (v := .ref (85)) rfl rfl rfl sp84 rfl rfl rfl ?_
    refine w_aload_n rfl rfl rfl ?_
    refine w_gf (t := .ref (86)) (v := .ref (86)) rfl rfl rfl sp84 rfl rfl rfl ?_
    refine w_cv (q := am_m34) (as := [_, _]) (rest := []) (st' := [_]) rfl rfl rfl rfl rfl rfl (shT_18 hT) rfl rfl rfl rfl (d_value (shT_18 hT) (shT_19 hT) (shT_20 hT) hn0 h0 (by omega)) rfl rfl ?_
    exact w_lret rfl (by unfold k_tw k_twJ; first | rw [if_pos c14] | rw [if_neg c14]) rfl (by unfold k_tw k_twJ; first | rw [if_pos c14] | rw [if_neg c14]) rfl
theorem d_wear {k : Nat} {I : hI} {J : hJ} {R : hR} {T : Nat} (hT : T = 9 ∨ T = 36) (hD : R 84 3 = T) {S : Nat} (hS : S = 63 ∨ S = 70 ∨ S = 77) {r : Nat} (hr : r < 8) (hm : okn (I (T + 7) r) 6) {z : Int32} {n0 : Nat} (hn0 : n0 ≤ 64) (h0 : I (T + 21) 0 = Int32.ofNat n0) (hk : 3 ≤ k) : ct k 26 [.ref 84, .ref S, .int (Int32.ofNat r), .int z] I J R (some (.long (k_we I J T S r n0 z).1)) I ((k_we I J T S r n0 z).2) R := by
  obtain ⟨k, rfl⟩ : ∃ k', k = k' + 1 := ⟨k - 1, by omega⟩
  refine ct_of (q := am_m26) (o := 2) (rt := (some .long)) (co := am_c26) (L := [_, _, _, _, _]) rfl rfl rfl rfl rfl rfl ?_
  refine w_aload_n rfl rfl rfl ?_
  refine w_gf (t := .retAddr 0) (v := .ref (T)) rfl rfl rfl sp84 rfl (congrArg Value.ref hD) rfl ?_
  refine w_gf (t := .ref (T + 17)) (v := .ref (T + 17)) rfl rfl rfl (shT_0 hT) rfl rfl rfl ?_
  refine w_iconst (x := Int32.ofNat 1) rfl rfl (by decide) ?_
  refine w_aaload rfl rfl (shT_17 hT) rfl ⟨Nat.le_of_ble_eq_true rfl, Nat.le_of_ble_eq_true rfl⟩ rfl ?_
  refine w_astore (L' := [_, _, _, _, _]) rfl rfl rfl ?_
  refine w_aload rfl rfl rfl ?_
  refine w_cv (q := am_m32) (as := []) (rest := []) (st' := [_]) rfl rfl rfl rfl rfl rfl (shT_21 hT) rfl rfl rfl rfl (d_isTold (shT_21 hT) (shT_22 hT) (shT_23 hT) (by omega)) rfl rfl ?_
  refine w_if_eqB (t := 26) (f := 19) rfl rfl rfl (fun c16 => ?_) (fun c16 => ?_)
  · refine w_aload rfl rfl rfl ?_
    refine w_aload_n rfl rfl rfl ?_
    refine w_gf (t := .ref (85)) (v := .ref (85)) rfl rfl rfl sp84 rfl rfl rfl ?_
    refine w_aload_n rfl rfl rfl ?_
    refine w_gf (t := .ref (86)) (v := .ref (86)) rfl rfl rfl sp84 rfl rfl rfl ?_
    refine w_cv (q := am_m34) (as := [_, _]) (rest := []) (st' := [_]) rfl rfl rfl rfl rfl rfl (shT_21 hT) rfl rfl rfl rfl (d_value (shT_21 hT) (shT_22 hT) (shT_23 hT) hn0 h0 (by omega)) rfl rfl ?_
    exact w_lret rfl (by unfold k_we k_weJ; first | rw [if_pos c16] | rw [if_neg c16]) rfl (by unfold k_we k_weJ; first | rw [if_pos c16] | rw [if_neg c16]) rfl
  · refine w_aload_n rfl rfl rfl ?_
    refine w_aload_n rfl rfl rfl ?_
    refine w_iload_n rfl rfl rfl ?_
    refine w_iload_n rfl rfl rfl ?_
    refine w_cv (q := am_m27) (as := [_, _, _]) (rest := []) (st' := []) rfl rfl rfl rfl rfl rfl sp84 rfl rfl rfl rfl (d_setRopeNames hT hD hS hr hm (by omega)) rfl rfl ?_
    refine w_aload rfl rfl rfl ?_
    refine w_aload_n rfl rfl rfl ?_
    refine w_gf (t := .ref (85)) (v := .ref (85)) rfl rfl rfl sp84 rfl rfl rfl ?_
    refine w_aload_n rfl rfl rfl ?_
    refine w_gf (t := .ref (86)) (v := .ref (86)) rfl rfl rfl sp84 rfl rfl rfl ?_
    refine w_cv (q := am_m34) (as := [_, _]) (rest := []) (st' := [_]) rfl rfl rfl rfl rfl rfl (shT_21 hT) rfl rfl rfl rfl (d_value (shT_21 hT) (shT_22 hT) (shT_23 hT) hn0 h0 (by omega)) rfl rfl ?_
    exact w_lret rfl (by unfold k_we k_weJ; first | rw [if_pos c16] | rw [if_neg c16]) rfl (by unfold k_we k_weJ; first | rw [if_pos c16] | rw [if_neg c16]) rfl
def k_mkP (I : hI) (T r : Nat) : Int32 := Int32.ofNat 10 * k_even I T (nn (I (T + 7) r)) + I (T + 8) r
def k_mk (I : hI) (J : hJ) (T S r n : Nat) : hI := am_u (am_u I (S + 2) r (k_cut (k_tw I J T S r n).1 (Int32.ofNat 999) (k_mkP I T r))) (S + 1) r (Int32.ofNat 1)
theorem d_make {k : Nat} {I : hI} {J : hJ} {R : hR} {T : Nat} (hT : T = 9 ∨ T = 36) (hD : R 84 3 = T) {S : Nat} (hS : S = 63 ∨ S = 70 ∨ S = 77) {r : Nat} (hr : r < 8) (hm : okn (I (T + 7) r) 6) {n0 : Nat} (hn0 : n0 ≤ 64) (h0 : I (T + 18) 0 = Int32.ofNat n0) (hk : 4 ≤ k) : ct k 19 [.ref 84, .ref S, .int (Int32.ofNat r)] I J R none (k_mk I J T S r n0) ((k_tw I J T S r n0).2) R := by
  obtain ⟨k, rfl⟩ : ∃ k', k = k' + 1 := ⟨k - 1, by omega⟩
  refine ct_of (q := am_m19) (o := 2) (rt := none) (co := am_c19) (L := [_, _, _, _]) rfl rfl rfl rfl rfl rfl ?_
  refine w_bipush (x := Int32.ofNat 10) rfl rfl (by decide) ?_
  refine w_aload_n rfl rfl rfl ?_
  refine w_aload_n rfl rfl rfl ?_
  refine w_gf (t := .retAddr 0) (v := .ref (T)) rfl rfl rfl sp84 rfl (congrArg Value.ref hD) rfl ?_
  refine w_gf (t := .ref (T + 7)) (v := .ref (T + 7)) rfl rfl rfl (shT_0 hT) rfl rfl rfl ?_
  refine w_iload_n rfl rfl rfl ?_
  refine w_iaload rfl rfl (shT_7 hT) rfl ⟨by omega, by omega⟩ hm.1 ?_
  refine w_cv (q := am_m29) (as := [_]) (rest := [_]) (st' := [_, _]) rfl rfl rfl rfl rfl rfl sp84 rfl rfl rfl rfl (d_even hT hD hm.2 (by omega)) rfl rfl ?_
  refine w_imul rfl rfl ?_
  refine w_aload_n rfl rfl rfl ?_
  refine w_gf (t := .retAddr 0) (v := .ref (T)) rfl rfl rfl sp84 rfl (congrArg Value.ref hD) rfl ?_
  refine w_gf (t := .ref (T + 8)) (v := .ref (T + 8)) rfl rfl rfl (shT_0 hT) rfl rfl rfl ?_
  refine w_iload_n rfl rfl rfl ?_
  refine w_iaload rfl rfl (shT_8 hT) rfl ⟨by omega, by omega⟩ rfl ?_
  refine w_iadd rfl rfl ?_
  refine w_istore_n (L' := [_, _, _, _]) rfl rfl rfl ?_
  refine w_aload_n rfl rfl rfl ?_
  refine w_gf (t := .ref (S + 2)) (v := .ref (S + 2)) rfl rfl rfl (shS_0 hS) rfl rfl rfl ?_
  refine w_iload_n rfl rfl rfl ?_
  refine w_aload_n rfl rfl rfl ?_
  refine w_aload_n rfl rfl rfl ?_
  refine w_iload_n rfl rfl rfl ?_
  refine w_cv (q := am_m25) (as := [_, _]) (rest := [_, _]) (st' := [_, _, _]) rfl rfl rfl rfl rfl rfl sp84 rfl rfl rfl rfl (d_twist hT hD hS hr hm hn0 h0 (by omega)) rfl rfl ?_
  refine w_sipush (x := Int32.ofNat 999) rfl rfl (by decide) ?_
  refine w_iload_n rfl rfl rfl ?_
  refine w_cs (q := am_m24) (na := 3) (as := [_, _, _]) (st' := [_, _, _]) rfl rfl rfl rfl (by decide) rfl rfl (Nat.le_of_ble_eq_true rfl) rfl rfl rfl (d_cut (by omega)) rfl rfl ?_
  refine w_iastore rfl rfl (shS_2 hS) rfl ⟨by omega, by omega⟩ ?_
  refine w_aload_n rfl rfl rfl ?_
  refine w_gf (t := .ref (S + 1)) (v := .ref (S + 1)) rfl rfl rfl (shS_0 hS) rfl rfl rfl ?_
  refine w_iload_n rfl rfl rfl ?_
  refine w_iconst (x := Int32.ofNat 1) rfl rfl (by decide) ?_
  refine w_iastore rfl rfl (shS_1 hS) rfl ⟨by omega, by omega⟩ ?_
  exact w_ret rfl rfl rfl rfl
def k_due (I : hI) (T S r : Nat) : Prop := (I (T + 9) r = I S 0 ∧ I (S + 1) r = 0) ∧ (I 84 8 = Int32.ofInt (-1) ∨ I 84 8 = I (S + 3) r)
def k_dueD (I : hI) (T S r : Nat) : Decidable (k_due I T S r) := inferInstanceAs (Decidable (_ ∧ _))
theorem d_isDue {k : Nat} {I : hI} {J : hJ} {R : hR} {T : Nat} (hT : T = 9 ∨ T = 36) (hD : R 84 3 = T) {S : Nat} (hS : S = 63 ∨ S = 70 ∨ S = 77) {r : Nat} (hr : r < 8) (hk : 2 ≤ k) : ct k 18 [.ref 84, .ref S, .int (Int32.ofNat r)] I J R (some (.int (@ite _ (k_due I T S r) (k_dueD I T S r) 1 0))) I J R := by
  obtain ⟨k, rfl⟩ : ∃ k', k = k' + 1 := ⟨k - 1, by omega⟩
  refine ct_of (q := am_m18) (o := 2) (rt := (some .boolean)) (co := am_c18) (L := [_, _, _, _]) rfl rfl rfl rfl rfl rfl ?_
  refine w_aload_n rfl rfl rfl ?_
  refine w_gf (t := .retAddr 0) (v := .ref (T)) rfl rfl rfl sp84 rfl (congrArg Value.ref hD) rfl ?_
  refine w_gf (t := .ref (T + 9)) (v := .ref (T + 9)) rfl rfl rfl (shT_0 hT) rfl rfl rfl ?_
  refine w_iload_n rfl rfl rfl ?_
  refine w_iaload rfl rfl (shT_9 hT) rfl ⟨by omega, by omega⟩ rfl ?_
  refine w_aload_n rfl rfl rfl ?_
  refine w_gf (t := .int 0) (v := .int _) rfl rfl rfl (shS_0 hS) rfl (congrArg Value.int rfl) rfl ?_
  refine w_ic_ne (t := 29) (f := 16) rfl rfl rfl (fun c13 => ?_) (fun c13 => ?_)
  · refine w_iconst (x := Int32.ofNat 0) rfl rfl (by decide) ?_
    refine w_istore_n (L' := [_, _, _, _]) rfl rfl rfl ?_
    refine w_iload_n rfl rfl rfl ?_
    refine w_if_eq (t := 52) (f := 35) rfl rfl rfl (fun c32 => ?_) (fun c32 => absurd c32 (by decide))
    clear c32
    refine w_iconst (x := Int32.ofNat 0) rfl rfl (by decide) ?_
    exact w_bret rfl (by decide) (by first | exact (if_pos (show k_due I T S r from And.intro (And.intro c13 c22) c45)).symm | exact (if_neg (show ¬ k_due I T S r from fun z => c13 z.1.1)).symm | exact (if_neg (show ¬ k_due I T S r from fun z => c22 z.1.2)).symm | exact (if_neg (show ¬ k_due I T S r from fun z => c45 z.2)).symm) rfl rfl rfl
  · refine w_aload_n rfl rfl rfl ?_
    refine w_gf (t := .ref (S + 1)) (v := .ref (S + 1)) rfl rfl rfl (shS_0 hS) rfl rfl rfl ?_
    refine w_iload_n rfl rfl rfl ?_
    refine w_iaload rfl rfl (shS_1 hS) rfl ⟨by omega, by omega⟩ rfl ?_
    refine w_if_ne (t := 29) (f := 25) rfl rfl rfl (fun c22 => ?_) (fun c22 => ?_)
    · refine w_iconst (x := Int32.ofNat 0) rfl rfl (by decide) ?_
      refine w_istore_n (L' := [_, _, _, _]) rfl rfl rfl ?_
      refine w_iload_n rfl rfl rfl ?_
      refine w_if_eq (t := 52) (f := 35) rfl rfl rfl (fun c32 => ?_) (fun c32 => absurd c32 (by decide))
      clear c32
      refine w_iconst (x := Int32.ofNat 0) rfl rfl (by decide) ?_
      exact w_bret rfl (by decide) (by first | exact (if_pos (show k_due I T S r from And.intro (And.intro c13 c22) c45)).symm | exact (if_neg (show ¬ k_due I T S r from fun z => c13 z.1.1)).symm | exact (if_neg (show ¬ k_due I T S r from fun z => c22 z.1.2)).symm | exact (if_neg (show ¬ k_due I T S r from fun z => c45 z.2)).symm) rfl rfl rfl
    · refine w_iconst (x := Int32.ofNat 1) rfl rfl (by decide) ?_
      refine w_goto (pc' := 30) rfl rfl ?_
      refine w_istore_n (L' := [_, _, _, _]) rfl rfl rfl ?_
      refine w_iload_n rfl rfl rfl ?_
      refine w_if_eq (t := 52) (f := 35) rfl rfl rfl (fun c32 => absurd c32 (by decide)) (fun c32 => ?_)
      clear c32
      refine w_aload_n rfl rfl rfl ?_
      refine w_aload_n rfl rfl rfl ?_
      refine w_gf (t := .ref (S + 3)) (v := .ref (S + 3)) rfl rfl rfl (shS_0 hS) rfl rfl rfl ?_
      refine w_iload_n rfl rfl rfl ?_
      refine w_iaload rfl rfl (shS_3 hS) rfl ⟨by omega, by omega⟩ rfl ?_
      refine w_cv (q := am_m17) (as := [_]) (rest := []) (st' := [_]) rfl rfl rfl rfl rfl rfl sp84 rfl rfl rfl rfl (d_isWanted (by omega)) rfl rfl ?_
      refine w_if_eqB (t := 52) (f := 48) rfl rfl rfl (fun c45 => ?_) (fun c45 => ?_)
      · refine w_iconst (x := Int32.ofNat 0) rfl rfl (by decide) ?_
        exact w_bret rfl (by decide) (by first | exact (if_pos (show k_due I T S r from And.intro (And.intro c13 c22) c45)).symm | exact (if_neg (show ¬ k_due I T S r from fun z => c13 z.1.1)).symm | exact (if_neg (show ¬ k_due I T S r from fun z => c22 z.1.2)).symm | exact (if_neg (show ¬ k_due I T S r from fun z => c45 z.2)).symm) rfl rfl rfl
      · refine w_iconst (x := Int32.ofNat 1) rfl rfl (by decide) ?_
        refine w_goto (pc' := 53) rfl rfl ?_
        exact w_bret rfl (by decide) (by first | exact (if_pos (show k_due I T S r from And.intro (And.intro c13 c22) c45)).symm | exact (if_neg (show ¬ k_due I T S r from fun z => c13 z.1.1)).symm | exact (if_neg (show ¬ k_due I T S r from fun z => c22 z.1.2)).symm | exact (if_neg (show ¬ k_due I T S r from fun z => c45 z.2)).symm) rfl rfl rfl
def k_loS (S x : Nat) (r : Nat) (I : hI) : hI := if I (S + 3) r = Int32.ofNat x then (if I (S + 1) r = Int32.ofNat 1 then am_u I (S + 1) r (Int32.ofNat 3) else I) else I
def k_loL (S x n : Nat) (I : hI) : hI := s_for (k_loS S x) n I
theorem k_loL_ne {S x n a : Nat} {I : hI} (h : a ≠ S + 1) : k_loL S x n I a = I a := by
  induction n with
  | zero => rfl
  | succ n ih =>
    show k_loS S x n (k_loL S x n I) a = _
    unfold k_loS
    repeat' split
    · exact (am_u_ne h).trans ih
    · exact ih
    · exact ih
def k_lose (I : hI) (S x n : Nat) : hI := k_loL S x n (am_u (am_u I (S + 4) x (Int32.ofNat 2)) (S + 5) x (Int32.ofNat 0))
theorem l_lose {k : Nat} {R : hR} {q : Option Value × am_H} {T S n x : Nat} (hT : T = 9 ∨ T = 36) (hD : R 84 3 = T) (hS : S = 63 ∨ S = 70 ∨ S = 77) {I0 : hI} {J0 : hJ} (hx : x < 5) (hn : n ≤ 8) (h5 : I0 (T + 5) 1 = Int32.ofNat n) (Z : wz k 2 none am_c22 63 [.ref 84, .ref S, .int (Int32.ofNat x), .int (Int32.ofNat n)] [] (k_loL S x n I0) J0 R q) : ∀ (j r : Nat) , r + j = n → wz k 2 none am_c22 16 [.ref 84, .ref S, .int (Int32.ofNat x), .int (Int32.ofNat r)] [] (k_loL S x r I0) J0 R q := by
  intro j
  induction j with
  | zero =>
    intro r e
    obtain rfl : n = r := by omega
    have e5 : k_loL S x n I0 (T + 5) 1 = Int32.ofNat n := (congrFun (k_loL_ne (by omega)) 1).trans h5
    refine w_iload_n rfl rfl rfl ?_
    refine w_aload_n rfl rfl rfl ?_
    refine w_gf (t := .retAddr 0) (v := .ref (T)) rfl rfl rfl sp84 rfl (congrArg Value.ref hD) rfl ?_
    refine w_gf (t := .ref (T + 5)) (v := .ref (T + 5)) rfl rfl rfl (shT_0 hT) rfl rfl rfl ?_
    refine w_gf (t := .int 0) (v := .int _) rfl rfl rfl (shT_5 hT) rfl (congrArg Value.int e5) rfl ?_
    refine w_ic_geN (t := 63) (f := 30) rfl rfl rfl (by omega) (by omega) (fun c27 => ?_) (fun c27 => absurd c27 (by omega))
    exact Z
  | succ j ih =>
    intro r e
    have e5 : k_loL S x r I0 (T + 5) 1 = Int32.ofNat n := (congrFun (k_loL_ne (by omega)) 1).trans h5
    refine w_iload_n rfl rfl rfl ?_
    refine w_aload_n rfl rfl rfl ?_
    refine w_gf (t := .retAddr 0) (v := .ref (T)) rfl rfl rfl sp84 rfl (congrArg Value.ref hD) rfl ?_
    refine w_gf (t := .ref (T + 5)) (v := .ref (T + 5)) rfl rfl rfl (shT_0 hT) rfl rfl rfl ?_
    refine w_gf (t := .int 0) (v := .int _) rfl rfl rfl (shT_5 hT) rfl (congrArg Value.int e5) rfl ?_
    refine w_ic_geN (t := 63) (f := 30) rfl rfl rfl (by omega) (by omega) (fun c27 => absurd c27 (by omega)) (fun c27 => ?_)
    refine w_aload_n rfl rfl rfl ?_
    refine w_gf (t := .ref (S + 3)) (v := .ref (S + 3)) rfl rfl rfl (shS_0 hS) rfl rfl rfl ?_
    refine w_iload_n rfl rfl rfl ?_
    refine w_iaload rfl rfl (shS_3 hS) rfl ⟨by omega, by omega⟩ rfl ?_
    refine w_iload_n rfl rfl rfl ?_
    refine w_ic_ne (t := 57) (f := 40) rfl rfl rfl (fun c37 => ?_) (fun c37 => ?_)
    · refine w_iinc (L' := [_, _, _, _]) rfl rfl rfl (am_incN 1) rfl ?_
      refine w_goto (pc' := 16) rfl rfl ?_
      exact wz_M (ih (r + 1) (by omega)) rfl (by show k_loS S x r (k_loL S x r I0) = _; unfold k_loS; first | rw [if_neg c37] | (rw [if_pos c37]; first | rw [if_pos c47] | rw [if_neg c47]))
    · refine w_aload_n rfl rfl rfl ?_
      refine w_gf (t := .ref (S + 1)) (v := .ref (S + 1)) rfl rfl rfl (shS_0 hS) rfl rfl rfl ?_
      refine w_iload_n rfl rfl rfl ?_
      refine w_iaload rfl rfl (shS_1 hS) rfl ⟨by omega, by omega⟩ rfl ?_
      refine w_iconst (x := Int32.ofNat 1) rfl rfl (by decide) ?_
      refine w_ic_ne (t := 57) (f := 50) rfl rfl rfl (fun c47 => ?_) (fun c47 => ?_)
      · refine w_iinc (L' := [_, _, _, _]) rfl rfl rfl (am_incN 1) rfl ?_
        refine w_goto (pc' := 16) rfl rfl ?_
        exact wz_M (ih (r + 1) (by omega)) rfl (by show k_loS S x r (k_loL S x r I0) = _; unfold k_loS; first | rw [if_neg c37] | (rw [if_pos c37]; first | rw [if_pos c47] | rw [if_neg c47]))
      · refine w_aload_n rfl rfl rfl ?_
        refine w_gf (t := .ref (S + 1)) (v := .ref (S + 1)) rfl rfl rfl (shS_0 hS) rfl rfl rfl ?_
        refine w_iload_n rfl rfl rfl ?_
        refine w_iconst (x := Int32.ofNat 3) rfl rfl (by decide) ?_
        refine w_iastore rfl rfl (shS_1 hS) rfl ⟨by omega, by omega⟩ ?_
        refine w_iinc (L' := [_, _, _, _]) rfl rfl rfl (am_incN 1) rfl ?_
        refine w_goto (pc' := 16) rfl rfl ?_
        exact wz_M (ih (r + 1) (by omega)) rfl (by show k_loS S x r (k_loL S x r I0) = _; unfold k_loS; first | rw [if_neg c37] | (rw [if_pos c37]; first | rw [if_pos c47] | rw [if_neg c47]))
theorem d_lose {k : Nat} {I : hI} {J : hJ} {R : hR} {T : Nat} (hT : T = 9 ∨ T = 36) (hD : R 84 3 = T) {S : Nat} (hS : S = 63 ∨ S = 70 ∨ S = 77) {x n : Nat} (hx : x < 5) (hn : n ≤ 8) (h5 : I (T + 5) 1 = Int32.ofNat n) (hk : 1 ≤ k) : ct k 22 [.ref 84, .ref S, .int (Int32.ofNat x)] I J R none (k_lose I S x n) J R := by
  obtain ⟨k, rfl⟩ : ∃ k', k = k' + 1 := ⟨k - 1, by omega⟩
  refine ct_of (q := am_m22) (o := 2) (rt := none) (co := am_c22) (L := [_, _, _, _]) rfl rfl rfl rfl rfl rfl ?_
  refine w_aload_n rfl rfl rfl ?_
  refine w_gf (t := .ref (S + 4)) (v := .ref (S + 4)) rfl rfl rfl (shS_0 hS) rfl rfl rfl ?_
  refine w_iload_n rfl rfl rfl ?_
  refine w_iconst (x := Int32.ofNat 2) rfl rfl (by decide) ?_
  refine w_iastore rfl rfl (shS_4 hS) rfl ⟨by omega, by omega⟩ ?_
  refine w_aload_n rfl rfl rfl ?_
  refine w_gf (t := .ref (S + 5)) (v := .ref (S + 5)) rfl rfl rfl (shS_0 hS) rfl rfl rfl ?_
  refine w_iload_n rfl rfl rfl ?_
  refine w_iconst (x := Int32.ofNat 0) rfl rfl (by decide) ?_
  refine w_iastore rfl rfl (shS_5 hS) rfl ⟨by omega, by omega⟩ ?_
  refine w_iconst (x := Int32.ofNat 0) rfl rfl (by decide) ?_
  refine w_istore_n (L' := [_, _, _, _]) rfl rfl rfl ?_
  refine l_lose hT hD hS hx hn ((congrFun (am_u_ne (by omega)) _).trans ((congrFun (am_u_ne (by omega)) _).trans h5)) ?_ n 0 (by omega)
  exact w_ret rfl rfl rfl rfl
