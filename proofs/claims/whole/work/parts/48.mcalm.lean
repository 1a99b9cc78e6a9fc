/-! The reference: how likely it is calm. -/
theorem am_i2l {n : Nat} (h : n < 2147483648) : (Int32.ofNat n).toInt64 = Int64.ofNat n := by
  rw [← Int64.toInt_inj, Int32.toInt_toInt64, Int32.toInt_ofNat_of_lt h, Int64.toInt_ofNat_of_lt (by omega)]
theorem am_eqL {x y : Nat} (hx : x < 9223372036854775808) (hy : y < 9223372036854775808) : Int64.ofNat x = Int64.ofNat y ↔ x = y := by
  rw [← Int64.toInt_inj, Int64.toInt_ofNat_of_lt hx, Int64.toInt_ofNat_of_lt hy]
  omega
theorem am_divL {x y : Nat} (hx : x < 9223372036854775808) (hy : y < 9223372036854775808) (h0 : 0 < y) : Int64.ofNat x / Int64.ofNat y = Int64.ofNat (x / y) := by
  have hq : x / y < 9223372036854775808 := Nat.lt_of_le_of_lt (Nat.div_le_self _ _) hx
  rw [← Int64.toInt_inj, Int64.toInt_div_of_ne_right, Int64.toInt_ofNat_of_lt hx, Int64.toInt_ofNat_of_lt hy, Int64.toInt_ofNat_of_lt hq]
  · rfl
  · intro e
    have := Int64.toInt_inj.mpr e
    rw [Int64.toInt_ofNat_of_lt hy] at this
    have h1 : (-1 : Int64).toInt = -1 := rfl
    omega
theorem am_remL {x y : Nat} (hx : x < 9223372036854775808) (hy : y < 9223372036854775808) (h0 : 0 < y) : Int64.ofNat x - Int64.ofNat x / Int64.ofNat y * Int64.ofNat y = Int64.ofNat (x % y) := by
  rw [am_divL hx hy h0, ← Int64.ofNat_mul]
  have e1 : x = x % y + x / y * y := by have := Nat.mod_add_div x y; rw [Nat.mul_comm] at this; exact this.symm
  have e2 : Int64.ofNat x = Int64.ofNat (x % y) + Int64.ofNat (x / y * y) := by rw [← Int64.ofNat_add, ← e1]
  rw [e2, Int64.add_sub_cancel]
theorem am_pw6 {s n : Nat} (hs : s ≤ 100) (hn : n ≤ 6) : s ^ n ≤ 1000000000000 := Nat.le_trans (Nat.pow_le_pow_left hs n) (Nat.le_trans (Nat.pow_le_pow_right (by decide) hn) (by decide))
theorem am_pwS {s r : Nat} (hs : s ≤ 100) : Int64.ofNat (s ^ r) * (Int32.ofNat s).toInt64 = Int64.ofNat (s ^ (r + 1)) := by
  rw [am_i2l (by omega), ← Int64.ofNat_mul]; rfl
theorem am_pwH {r : Nat} : Int64.ofNat (100 ^ r) * 100 = Int64.ofNat (100 ^ (r + 1)) := by
  rw [Nat.pow_succ, Int64.ofNat_mul]; rfl
theorem l_calm1 {k : Nat} {I : hI} {J : hJ} {R : hR} {q : Option Value × am_H} {n w q0 : Nat} (hn : n ≤ 6) (hq : q0 ≤ 100) (h114 : I 114 0 = Int32.ofNat q0) (Z : wz k 12 (some .long) am_c265 69 [.ref 110, .int (Int32.ofNat n), .int (Int32.ofNat w), .long (Int64.ofNat ((100 - q0) ^ n)), am_un, .long (Int64.ofNat (100 ^ n)), am_un, .int (Int32.ofNat n), am_un, am_un, am_un, am_un, am_un] [] I J R q) : ∀ (j r : Nat) , r + j = n → wz k 12 (some .long) am_c265 36 [.ref 110, .int (Int32.ofNat n), .int (Int32.ofNat w), .long (Int64.ofNat ((100 - q0) ^ r)), am_un, .long (Int64.ofNat (100 ^ r)), am_un, .int (Int32.ofNat r), am_un, am_un, am_un, am_un, am_un] [] I J R q := by
  intro j
  induction j with
  | zero =>
    intro r e
    obtain rfl : n = r := by omega
    refine w_iload rfl rfl rfl ?_
    refine w_iload_n rfl rfl rfl ?_
    refine w_ic_geN (t := 69) (f := 42) rfl rfl rfl (by omega) (by omega) (fun c39 => ?_) (fun c39 => absurd c39 (by omega))
    exact Z
  | succ j ih =>
    intro r e
    refine w_iload rfl rfl rfl ?_
    refine w_iload_n rfl rfl rfl ?_
    refine w_ic_geN (t := 69) (f := 42) rfl rfl rfl (by omega) (by omega) (fun c39 => absurd c39 (by omega)) (fun c39 => ?_)
    refine w_lload_n rfl rfl rfl ?_
    refine w_bipush (x := Int32.ofNat 100) rfl rfl (by decide) ?_
    refine w_aload_n rfl rfl rfl ?_
    refine w_gf (t := .ref (114)) (v := .ref (114)) rfl rfl rfl sp110 rfl rfl rfl ?_
    refine w_iconst (x := Int32.ofNat 0) rfl rfl (by decide) ?_
    refine w_iaload rfl rfl sp114 rfl ⟨by omega, by omega⟩ h114 ?_
    refine w_isubN rfl rfl hq ?_
    refine w_i2l rfl rfl ?_
    refine w_lmul rfl rfl ?_
    refine w_lstore_n (L' := [_, _, _, _, _, _, _, _, _, _, _, _, _]) rfl rfl rfl ?_
    refine w_lload rfl rfl rfl ?_
    refine w_ldc2_w rfl rfl rfl ?_
    refine w_lmul rfl rfl ?_
    refine w_lstore (L' := [_, _, _, _, _, _, _, _, _, _, _, _, _]) rfl rfl rfl ?_
    refine w_iinc (L' := [_, _, _, _, _, _, _, _, _, _, _, _, _]) rfl rfl rfl (am_incN 1) rfl ?_
    refine w_goto (pc' := 36) rfl rfl ?_
    exact wz_L (ih (r + 1) (by omega)) (by rw [am_pwS (by omega), am_pwH])
theorem l_calm2 {k : Nat} {I : hI} {J : hJ} {R : hR} {n w : Nat} {u a : Int64} {q : Option Value × am_H} : ∀ (y x : Nat) (v v1 : Value), x < 4000000000000 → y < 4000000000000 → (∀ v v1, wz k 12 (some .long) am_c265 101 [.ref 110, .int (Int32.ofNat n), .int (Int32.ofNat w), .long u, am_un, .long a, am_un, .long (Int64.ofNat (Nat.gcd x y)), am_un, .long (Int64.ofNat 0), am_un, v, v1] [] I J R q) → wz k 12 (some .long) am_c265 76 [.ref 110, .int (Int32.ofNat n), .int (Int32.ofNat w), .long u, am_un, .long a, am_un, .long (Int64.ofNat x), am_un, .long (Int64.ofNat y), am_un, v, v1] [] I J R q := by
  intro y
  induction y using Nat.strongRecOn with
  | ind y ih =>
    intro x v v1 hx hy Z
    by_cases h0 : y = 0
    · subst h0
      rw [Nat.gcd_zero_right] at Z
      refine w_lload rfl rfl rfl ?_
      refine w_lconst (x := 0) rfl rfl (by decide) ?_
      refine w_lc_eq (t := 101) (f := 83) (p1 := 80) rfl rfl rfl rfl rfl (fun c80 => ?_) (fun c80 => absurd c80 (by decide))
      exact Z _ _
    · have hr : Nat.gcd x y = Nat.gcd y (x % y) := by rw [Nat.gcd_comm x y, Nat.gcd_rec y x, Nat.gcd_comm]
      rw [hr] at Z
      have hl : x % y < y := Nat.mod_lt _ (by omega)
      refine w_lload rfl rfl rfl ?_
      refine w_lconst (x := 0) rfl rfl (by decide) ?_
      refine w_lc_eq (t := 101) (f := 83) (p1 := 80) rfl rfl rfl rfl rfl (fun c80 => absurd c80 (fun z => absurd ((am_eqL (y := 0) (by omega) (by omega)).mp z) h0)) (fun c80 => ?_)
      refine w_lload rfl rfl rfl ?_
      refine w_lload rfl rfl rfl ?_
      refine w_lrem rfl rfl (fun z => absurd ((am_eqL (y := 0) (by omega) (by omega)).mp z) h0) ?_
      rw [am_remL (by omega) (by omega) (by omega)]
      refine w_lstore (L' := [_, _, _, _, _, _, _, _, _, _, _, _, _]) rfl rfl rfl ?_
      refine w_lload rfl rfl rfl ?_
      refine w_lstore (L' := [_, _, _, _, _, _, _, _, _, _, _, _, _]) rfl rfl rfl ?_
      refine w_lload rfl rfl rfl ?_
      refine w_lstore (L' := [_, _, _, _, _, _, _, _, _, _, _, _, _]) rfl rfl rfl ?_
      refine w_goto (pc' := 76) rfl rfl ?_
      exact ih _ hl y _ _ hy (by omega) Z
theorem c_calm {k : Nat} {I : hI} {J : hJ} {R : hR} {n w q0 : Nat} (hn : n ≤ 6) (hw : w ≤ 1) (hq : q0 ≤ 100) (h114 : I 114 0 = Int32.ofNat q0) (hk : 2 ≤ k) : ct k 265 [.ref 110, .int (Int32.ofNat n), .int (Int32.ofNat w)] I J R (some (.long (Int64.ofNat ((if w = 0 then (100 - q0) ^ n else 100 ^ n) / Nat.gcd (100 ^ n) ((100 - q0) ^ n))))) (m_z I) J R := by
  obtain ⟨k, rfl⟩ : ∃ k', k = k' + 1 := ⟨k - 1, by omega⟩
  have p1 := am_pw6 (show 100 - q0 ≤ 100 by omega) hn
  have p2 := am_pw6 (show 100 ≤ 100 by omega) hn
  have p3 : 0 < 100 ^ n := Nat.pow_pos (by decide)
  have p4 : 0 < Nat.gcd (100 ^ n) ((100 - q0) ^ n) := Nat.gcd_pos_of_pos_left _ p3
  have p5 : Nat.gcd (100 ^ n) ((100 - q0) ^ n) ≤ 100 ^ n := Nat.gcd_le_left _ p3
  have p6 : ¬ Int64.ofNat (Nat.gcd (100 ^ n) ((100 - q0) ^ n)) = 0 := fun z => absurd ((am_eqL (y := 0) (by omega) (by omega)).mp z) (by omega)
  refine ct_of (q := am_m265) (L := [_, _, _, _, _, _, _, _, _, _, _, _, _]) rfl rfl rfl rfl rfl rfl ?_
  refine w_aload_n rfl rfl rfl ?_
  refine w_iconst (x := Int32.ofNat 0) rfl rfl (by decide) ?_
  refine w_pf rfl rfl rfl sp110 rfl rfl rfl ?_
  refine w_iload_n rfl rfl rfl ?_
  refine w_iconst (x := Int32.ofNat 0) rfl rfl (by decide) ?_
  refine w_bipush (x := Int32.ofNat 6) rfl rfl (by decide) ?_
  refine w_cs (q := am_m168) (na := 3) (as := [_, _, _]) (st' := [_]) rfl rfl rfl rfl (by decide) rfl rfl (Nat.le_of_ble_eq_true rfl) rfl rfl rfl (c_isIn (by omega)) rfl rfl ?_
  refine w_if_eqB (t := 24) (f := 15) rfl rfl rfl (fun c12 => absurd c12 (inok (Nat.zero_le _) hn (by decide))) (fun c12 => ?_)
  refine w_iload_n rfl rfl rfl ?_
  refine w_iconst (x := Int32.ofNat 0) rfl rfl (by decide) ?_
  refine w_iconst (x := Int32.ofNat 1) rfl rfl (by decide) ?_
  refine w_cs (q := am_m168) (na := 3) (as := [_, _, _]) (st' := [_]) rfl rfl rfl rfl (by decide) rfl rfl (Nat.le_of_ble_eq_true rfl) rfl rfl rfl (c_isIn (by omega)) rfl rfl ?_
  refine w_if_neB (t := 28) (f := 24) rfl rfl rfl (fun c21 => ?_) (fun c21 => absurd c21 (inok (Nat.zero_le _) hw (by decide)))
  refine w_lconst (x := 1) rfl rfl (by decide) ?_
  refine w_lstore_n (L' := [_, _, _, _, _, _, _, _, _, _, _, _, _]) rfl rfl rfl ?_
  refine w_lconst (x := 1) rfl rfl (by decide) ?_
  refine w_lstore (L' := [_, _, _, _, _, _, _, _, _, _, _, _, _]) rfl rfl rfl ?_
  refine w_iconst (x := Int32.ofNat 0) rfl rfl (by decide) ?_
  refine w_istore (L' := [_, _, _, _, _, _, _, _, _, _, _, _, _]) rfl rfl rfl ?_
  refine l_calm1 (I := m_z I) hn hq ((am_u_na (by decide)).trans h114) ?_ n 0 (by omega)
  refine w_lload rfl rfl rfl ?_
  refine w_lstore (L' := [_, _, _, _, _, _, _, _, _, _, _, _, _]) rfl rfl rfl ?_
  refine w_lload_n rfl rfl rfl ?_
  refine w_lstore (L' := [_, _, _, _, _, _, _, _, _, _, _, _, _]) rfl rfl rfl ?_
  refine l_calm2 ((100 - q0) ^ n) (100 ^ n) _ _ (by omega) (by omega) (fun v v1 => ?_)
  refine w_iload_n rfl rfl rfl ?_
  refine w_if_ne (t := 112) (f := 105) rfl rfl rfl (fun c102 => ?_) (fun c102 => ?_)
  · refine w_lload rfl rfl rfl ?_
    refine w_lload rfl rfl rfl ?_
    refine w_ldiv rfl rfl p6 ?_
    exact w_lret rfl (by rw [am_divL (by omega) (by omega) p4]; first | rw [if_pos ((am_w0 (by omega)).mp c102)] | rw [if_neg (mt (am_w0 (by omega)).mpr c102)]) rfl rfl rfl
  · refine w_lload_n rfl rfl rfl ?_
    refine w_lload rfl rfl rfl ?_
    refine w_ldiv rfl rfl p6 ?_
    refine w_goto (pc' := 117) rfl rfl ?_
    exact w_lret rfl (by rw [am_divL (by omega) (by omega) p4]; first | rw [if_pos ((am_w0 (by omega)).mp c102)] | rw [if_neg (mt (am_w0 (by omega)).mpr c102)]) rfl rfl rfl
theorem c_calm_no {k : Nat} {I : hI} {J : hJ} {R : hR} {x y : Int32} (hx : ¬ ((¬ x < Int32.ofNat 0 ∧ ¬ Int32.ofNat 6 < x) ∧ ¬ y < Int32.ofNat 0 ∧ ¬ Int32.ofNat 1 < y)) (hk : 2 ≤ k) : ct k 265 [.ref 110, .int x, .int y] I J R (some (.long (-1))) (m_z I) J R := by
  obtain ⟨k, rfl⟩ : ∃ k', k = k' + 1 := ⟨k - 1, by omega⟩
  refine ct_of (q := am_m265) (L := [_, _, _, _, _, _, _, _, _, _, _, _, _]) rfl rfl rfl rfl rfl rfl ?_
  refine w_aload_n rfl rfl rfl ?_
  refine w_iconst (x := Int32.ofNat 0) rfl rfl (by decide) ?_
  refine w_pf rfl rfl rfl sp110 rfl rfl rfl ?_
  refine w_iload_n rfl rfl rfl ?_
  refine w_iconst (x := Int32.ofNat 0) rfl rfl (by decide) ?_
  refine w_bipush (x := Int32.ofNat 6) rfl rfl (by decide) ?_
  refine w_cs (q := am_m168) (na := 3) (as := [_, _, _]) (st' := [_]) rfl rfl rfl rfl (by decide) rfl rfl (Nat.le_of_ble_eq_true rfl) rfl rfl rfl (c_isIn (by omega)) rfl rfl ?_
  refine w_if_eqB (t := 24) (f := 15) rfl rfl rfl (fun c12 => ?_) (fun c12 => ?_)
  · refine w_ldc2_w rfl rfl rfl ?_
    exact w_lret rfl rfl rfl rfl rfl
  · refine w_iload_n rfl rfl rfl ?_
    refine w_iconst (x := Int32.ofNat 0) rfl rfl (by decide) ?_
    refine w_iconst (x := Int32.ofNat 1) rfl rfl (by decide) ?_
    refine w_cs (q := am_m168) (na := 3) (as := [_, _, _]) (st' := [_]) rfl rfl rfl rfl (by decide) rfl rfl (Nat.le_of_ble_eq_true rfl) rfl rfl rfl (c_isIn (by omega)) rfl rfl ?_
    refine w_if_neB (t := 28) (f := 24) rfl rfl rfl (fun c21 => ?_) (fun c21 => ?_)
    · exact (hx ⟨c12, c21⟩).elim
    · refine w_ldc2_w rfl rfl rfl ?_
      exact w_lret rfl rfl rfl rfl rfl
