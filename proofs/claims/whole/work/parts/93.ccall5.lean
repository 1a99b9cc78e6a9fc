/-! The class: calls (five): splice, exact, game. -/
theorem am_orN (a b : Nat) : Int32.ofNat a ||| Int32.ofNat b = Int32.ofNat (a ||| b) := by
  apply Int32.toBitVec_inj.mp
  show BitVec.ofNat 32 a ||| BitVec.ofNat 32 b = BitVec.ofNat 32 (a ||| b)
  apply BitVec.eq_of_getLsbD_eq
  intro i hi
  simp [BitVec.getLsbD_or, BitVec.getLsbD_ofNat, Nat.testBit_or, hi]
/-- the free ropes, as bits -/
def k_fnB (I : hI) (n : Nat) : Nat := s_for (fun r a => if I 64 r = Int32.ofNat 1 ∧ I 66 r = Int32.ofInt (-1) then a ||| 2 ^ r else a) n 0
theorem k_fnB_s (I : hI) (n : Nat) : k_fnB I (n + 1) = if I 64 n = Int32.ofNat 1 ∧ I 66 n = Int32.ofInt (-1) then k_fnB I n ||| 2 ^ n else k_fnB I n := rfl
theorem k_fnB_lt (I : hI) : ∀ n, k_fnB I n < 2 ^ n := by
  intro n
  induction n with
  | zero => exact Nat.one_pos
  | succ n ih =>
    rw [k_fnB_s]
    have h2 : k_fnB I n < 2 ^ (n + 1) := Nat.lt_of_lt_of_le ih (Nat.pow_le_pow_right (by decide) (by omega))
    split
    · exact Nat.or_lt_two_pow h2 (Nat.pow_lt_pow_right (by decide) (by omega))
    · exact h2
theorem k_fnB_8 {I : hI} {n : Nat} (h : n ≤ 8) : k_fnB I n < 256 := Nat.lt_of_lt_of_le (k_fnB_lt I n) (Nat.pow_le_pow_right (n := 2) (by decide) h)
theorem l_free {k : Nat} {I : hI} {J : hJ} {R : hR} {q : Option Value × am_H} {T : Nat} (hT : T = 9 ∨ T = 36) (h0 : R 0 3 = T) {n : Nat} (hn : n ≤ 8) (e5 : I (T + 5) 1 = Int32.ofNat n) (hk : 2 ≤ k) (Z : wz k 11 (some .int) am_c131 41 [.ref 0, .int (Int32.ofNat (k_fnB I n)), .int (Int32.ofNat n)] [] I J R q) : ∀ (j r : Nat) , r + j = n → wz k 11 (some .int) am_c131 4 [.ref 0, .int (Int32.ofNat (k_fnB I r)), .int (Int32.ofNat r)] [] I J R q := by
  intro j
  induction j with
  | zero =>
    intro r e
    obtain rfl : n = r := by omega
    refine w_iload_n rfl rfl rfl ?_
    refine w_aload_n rfl rfl rfl ?_
    refine w_gf (t := .retAddr 0) (v := .ref (T)) rfl rfl rfl sp0 rfl (congrArg Value.ref (by first | exact h0 | exact (am_u_na (by decide)).trans h0)) rfl ?_
    refine w_gf (t := .ref (T + 5)) (v := .ref (T + 5)) rfl rfl rfl (shT_0 hT) rfl rfl rfl ?_
    refine w_gf (t := .int 0) (v := .int _) rfl rfl rfl (shT_5 hT) rfl (congrArg Value.int e5) rfl ?_
    refine w_ic_geN (t := 41) (f := 18) rfl rfl rfl (by omega) (by omega) (fun c15 => ?_) (fun c15 => absurd c15 (by omega))
    exact Z
  | succ j ih =>
    intro r e
    refine w_iload_n rfl rfl rfl ?_
    refine w_aload_n rfl rfl rfl ?_
    refine w_gf (t := .retAddr 0) (v := .ref (T)) rfl rfl rfl sp0 rfl (congrArg Value.ref (by first | exact h0 | exact (am_u_na (by decide)).trans h0)) rfl ?_
    refine w_gf (t := .ref (T + 5)) (v := .ref (T + 5)) rfl rfl rfl (shT_0 hT) rfl rfl rfl ?_
    refine w_gf (t := .int 0) (v := .int _) rfl rfl rfl (shT_5 hT) rfl (congrArg Value.int e5) rfl ?_
    refine w_ic_geN (t := 41) (f := 18) rfl rfl rfl (by omega) (by omega) (fun c15 => absurd c15 (by omega)) (fun c15 => ?_)
    refine w_aload_n rfl rfl rfl ?_
    refine w_gf (t := .ref (63)) (v := .ref (63)) rfl rfl rfl sp0 rfl rfl rfl ?_
    refine w_iload_n rfl rfl rfl ?_
    refine w_cv (q := am_m68) (as := [_]) (rest := []) (st' := [_]) rfl rfl rfl rfl rfl rfl sp63 rfl rfl rfl rfl (d_isFree (Or.inl rfl) (by omega) (by omega)) rfl rfl ?_
    refine w_if_eqB (t := 35) (f := 29) rfl rfl rfl (fun c26 => ?_) (fun c26 => ?_)
    · refine w_iinc (L' := [_, _, _]) rfl rfl rfl (am_incN 1) rfl ?_
      refine w_goto (pc' := 4) rfl rfl ?_
      (try (have e1 := k_fnB_s I r; rw [if_pos c26] at e1; rw [am_orN, ← e1])); (try (have e1 := k_fnB_s I r; rw [if_neg c26] at e1; rw [← e1])); exact ih (r + 1) (by omega)
    · refine w_iload_n rfl rfl rfl ?_
      refine w_iconst (x := Int32.ofNat 1) rfl rfl (by decide) ?_
      refine w_iload_n rfl rfl rfl ?_
      refine w_shlN rfl rfl (by omega) ?_
      refine w_ior rfl rfl ?_
      refine w_istore_n (L' := [_, _, _]) rfl rfl rfl ?_
      refine w_iinc (L' := [_, _, _]) rfl rfl rfl (am_incN 1) rfl ?_
      refine w_goto (pc' := 4) rfl rfl ?_
      (try (have e1 := k_fnB_s I r; rw [if_pos c26] at e1; rw [am_orN, ← e1])); (try (have e1 := k_fnB_s I r; rw [if_neg c26] at e1; rw [← e1])); exact ih (r + 1) (by omega)
theorem d_freeRopes {k : Nat} {I : hI} {J : hJ} {R : hR} {T : Nat} (hT : T = 9 ∨ T = 36) (h0 : R 0 3 = T) {n : Nat} (hn : n ≤ 8) (e5 : I (T + 5) 1 = Int32.ofNat n) (hk : 3 ≤ k) : ct k 131 [.ref 0] I J R (some (.int (Int32.ofNat (k_fnB I n)))) I J R := by
  obtain ⟨k, rfl⟩ : ∃ k', k = k' + 1 := ⟨k - 1, by omega⟩
  refine ct_of (q := am_m131) (o := 11) (rt := (some .int)) (co := am_c131) (L := [_, _, _]) rfl rfl rfl rfl rfl rfl ?_
  refine w_iconst (x := Int32.ofNat 0) rfl rfl (by decide) ?_
  refine w_istore_n (L' := [_, _, _]) rfl rfl rfl ?_
  refine w_iconst (x := Int32.ofNat 0) rfl rfl (by decide) ?_
  refine w_istore_n (L' := [_, _, _]) rfl rfl rfl ?_
  refine l_free hT h0 hn e5 (by omega) ?_ n 0 (by omega)
  refine w_iload_n rfl rfl rfl ?_
  exact w_iret rfl rfl rfl rfl rfl
def k_yoP (b : Int32) (r : Nat) : Prop := b >>> (Int32.ofNat r &&& 31) &&& Int32.ofNat 1 = 0
def k_yoD (b : Int32) (r : Nat) : Decidable (k_yoP b r) := inferInstanceAs (Decidable (_ = _))
def k_yo (I : hI) (T : Nat) (b : Int32) (n : Nat) : Int32 := s_for (fun r a => @ite _ (k_yoP b r) (k_yoD b r) a (a + I (T + 8) r)) n (Int32.ofNat 0)
theorem k_yo_s (I : hI) (T : Nat) (b : Int32) (n : Nat) : k_yo I T b (n + 1) = @ite _ (k_yoP b n) (k_yoD b n) (k_yo I T b n) (k_yo I T b n + I (T + 8) n) := rfl
theorem k_yo_1 {I : hI} {T : Nat} {b : Int32} {n : Nat} (h : k_yoP b n) : k_yo I T b (n + 1) = k_yo I T b n := if_pos h
theorem k_yo_0 {I : hI} {T : Nat} {b : Int32} {n : Nat} (h : ¬ k_yoP b n) : k_yo I T b (n + 1) = k_yo I T b n + I (T + 8) n := if_neg h
theorem l_yo {k : Nat} {I : hI} {J : hJ} {R : hR} {q : Option Value × am_H} {T : Nat} (hT : T = 9 ∨ T = 36) (h0 : R 0 3 = T) {n : Nat} (hn : n ≤ 8) (e5 : I (T + 5) 1 = Int32.ofNat n) {y : Int32} (Z : wz k 11 (some .int) am_c132 44 [.ref 0, .int y, .int (k_yo I T y n), .int (Int32.ofNat n)] [] I J R q) : ∀ (j r : Nat) , r + j = n → wz k 11 (some .int) am_c132 4 [.ref 0, .int y, .int (k_yo I T y r), .int (Int32.ofNat r)] [] I J R q := by
  intro j
  induction j with
  | zero =>
    intro r e
    obtain rfl : n = r := by omega
    refine w_iload_n rfl rfl rfl ?_
    refine w_aload_n rfl rfl rfl ?_
    refine w_gf (t := .retAddr 0) (v := .ref (T)) rfl rfl rfl sp0 rfl (congrArg Value.ref (by first | exact h0 | exact (am_u_na (by decide)).trans h0)) rfl ?_
    refine w_gf (t := .ref (T + 5)) (v := .ref (T + 5)) rfl rfl rfl (shT_0 hT) rfl rfl rfl ?_
    refine w_gf (t := .int 0) (v := .int _) rfl rfl rfl (shT_5 hT) rfl (congrArg Value.int e5) rfl ?_
    refine w_ic_geN (t := 44) (f := 18) rfl rfl rfl (by omega) (by omega) (fun c15 => ?_) (fun c15 => absurd c15 (by omega))
    exact Z
  | succ j ih =>
    intro r e
    refine w_iload_n rfl rfl rfl ?_
    refine w_aload_n rfl rfl rfl ?_
    refine w_gf (t := .retAddr 0) (v := .ref (T)) rfl rfl rfl sp0 rfl (congrArg Value.ref (by first | exact h0 | exact (am_u_na (by decide)).trans h0)) rfl ?_
    refine w_gf (t := .ref (T + 5)) (v := .ref (T + 5)) rfl rfl rfl (shT_0 hT) rfl rfl rfl ?_
    refine w_gf (t := .int 0) (v := .int _) rfl rfl rfl (shT_5 hT) rfl (congrArg Value.int e5) rfl ?_
    refine w_ic_geN (t := 44) (f := 18) rfl rfl rfl (by omega) (by omega) (fun c15 => absurd c15 (by omega)) (fun c15 => ?_)
    refine w_iload_n rfl rfl rfl ?_
    refine w_iload_n rfl rfl rfl ?_
    refine w_ishr rfl rfl ?_
    refine w_iconst (x := Int32.ofNat 1) rfl rfl (by decide) ?_
    refine w_iand rfl rfl ?_
    refine w_if_eq (t := 38) (f := 26) rfl rfl rfl (fun c23 => ?_) (fun c23 => ?_)
    · refine w_iinc (L' := [_, _, _, _]) rfl rfl rfl (am_incN 1) rfl ?_
      refine w_goto (pc' := 4) rfl rfl ?_
      (first | rw [← k_yo_1 c23] | rw [← k_yo_0 c23]); exact ih (r + 1) (by omega)
    · refine w_iload_n rfl rfl rfl ?_
      refine w_aload_n rfl rfl rfl ?_
      refine w_gf (t := .retAddr 0) (v := .ref (T)) rfl rfl rfl sp0 rfl (congrArg Value.ref (by first | exact h0 | exact (am_u_na (by decide)).trans h0)) rfl ?_
      refine w_gf (t := .ref (T + 8)) (v := .ref (T + 8)) rfl rfl rfl (shT_0 hT) rfl rfl rfl ?_
      refine w_iload_n rfl rfl rfl ?_
      refine w_iaload rfl rfl (shT_8 hT) rfl ⟨by omega, by omega⟩ rfl ?_
      refine w_iadd rfl rfl ?_
      refine w_istore_n (L' := [_, _, _, _]) rfl rfl rfl ?_
      refine w_iinc (L' := [_, _, _, _]) rfl rfl rfl (am_incN 1) rfl ?_
      refine w_goto (pc' := 4) rfl rfl ?_
      (first | rw [← k_yo_1 c23] | rw [← k_yo_0 c23]); exact ih (r + 1) (by omega)
theorem d_yardsOf {k : Nat} {I : hI} {J : hJ} {R : hR} {T : Nat} (hT : T = 9 ∨ T = 36) (h0 : R 0 3 = T) {n : Nat} (hn : n ≤ 8) (e5 : I (T + 5) 1 = Int32.ofNat n) {y : Int32} (hk : 1 ≤ k) : ct k 132 [.ref 0, .int y] I J R (some (.int (k_yo I T y n))) I J R := by
  obtain ⟨k, rfl⟩ : ∃ k', k = k' + 1 := ⟨k - 1, by omega⟩
  refine ct_of (q := am_m132) (o := 11) (rt := (some .int)) (co := am_c132) (L := [_, _, _, _]) rfl rfl rfl rfl rfl rfl ?_
  refine w_iconst (x := Int32.ofNat 0) rfl rfl (by decide) ?_
  refine w_istore_n (L' := [_, _, _, _]) rfl rfl rfl ?_
  refine w_iconst (x := Int32.ofNat 0) rfl rfl (by decide) ?_
  refine w_istore_n (L' := [_, _, _, _]) rfl rfl rfl ?_
  refine l_yo hT h0 hn e5 ?_ n 0 (by omega)
  refine w_iload_n rfl rfl rfl ?_
  exact w_iret rfl rfl rfl rfl rfl
def k_cmp (x y : Int32) : Int32 := if x < y then Int32.ofInt (-1) else if x = y then Int32.ofNat 0 else Int32.ofNat 1
theorem d_compare {k : Nat} {I : hI} {J : hJ} {R : hR} {x y : Int32} (hk : 1 ≤ k) : ct k 286 [.int x, .int y] I J R (some (.int (k_cmp x y))) I J R := by
  obtain ⟨k, rfl⟩ : ∃ k', k = k' + 1 := ⟨k - 1, by omega⟩
  refine ct_of (q := am_m286) (o := 14) (rt := (some .int)) (co := am_c286) (L := [_, _]) rfl rfl rfl rfl rfl rfl ?_
  refine w_iload_n rfl rfl rfl ?_
  refine w_iload_n rfl rfl rfl ?_
  refine w_ic_ge (t := 9) (f := 5) rfl rfl rfl (fun c2 => ?_) (fun c2 => ?_)
  · refine w_iload_n rfl rfl rfl ?_
    refine w_iload_n rfl rfl rfl ?_
    refine w_ic_ne (t := 18) (f := 14) rfl rfl rfl (fun c11 => ?_) (fun c11 => ?_)
    · refine w_iconst (x := Int32.ofNat 1) rfl rfl (by decide) ?_
      exact w_iret rfl (by unfold k_cmp; first | rw [if_pos c2] | rw [if_neg c2, if_pos c11] | rw [if_neg c2, if_neg c11]) rfl rfl rfl
    · refine w_iconst (x := Int32.ofNat 0) rfl rfl (by decide) ?_
      refine w_goto (pc' := 19) rfl rfl ?_
      exact w_iret rfl (by unfold k_cmp; first | rw [if_pos c2] | rw [if_neg c2, if_pos c11] | rw [if_neg c2, if_neg c11]) rfl rfl rfl
  · refine w_iconst (x := Int32.ofInt (-1)) rfl rfl (by decide) ?_
    refine w_goto (pc' := 19) rfl rfl ?_
    exact w_iret rfl (by unfold k_cmp; first | rw [if_pos c2] | rw [if_neg c2, if_pos c11] | rw [if_neg c2, if_neg c11]) rfl rfl rfl
abbrev k_bsP (x y a b : Int32) : Prop := k_cmp (k_bc x) (k_bc a) < 0 ∨ (k_cmp (k_bc x) (k_bc a) = 0 ∧ y < b)
theorem d_isBetter {k : Nat} {I : hI} {J : hJ} {R : hR} {x y a b : Int32} (hk : 2 ≤ k) : ct k 129 [.int x, .int y, .int a, .int b] I J R (some (.int (if k_bsP x y a b then 1 else 0))) I J R := by
  obtain ⟨k, rfl⟩ : ∃ k', k = k' + 1 := ⟨k - 1, by omega⟩
  refine ct_of (q := am_m129) (o := 11) (rt := (some .boolean)) (co := am_c129) (L := [_, _, _, _, _]) rfl rfl rfl rfl rfl rfl ?_
  refine w_iload_n rfl rfl rfl ?_
  refine w_cs (q := am_m287) (na := 1) (as := [_]) (st' := [_]) rfl rfl rfl rfl (by decide) rfl rfl (Nat.le_of_ble_eq_true rfl) rfl rfl rfl (d_bitCount (by omega)) rfl rfl ?_
  refine w_iload_n rfl rfl rfl ?_
  refine w_cs (q := am_m287) (na := 1) (as := [_]) (st' := [_, _]) rfl rfl rfl rfl (by decide) rfl rfl (Nat.le_of_ble_eq_true rfl) rfl rfl rfl (d_bitCount (by omega)) rfl rfl ?_
  refine w_cs (q := am_m286) (na := 2) (as := [_, _]) (st' := [_]) rfl rfl rfl rfl (by decide) rfl rfl (Nat.le_of_ble_eq_true rfl) rfl rfl rfl (d_compare (by omega)) rfl rfl ?_
  refine w_istore (L' := [_, _, _, _, _]) rfl rfl rfl ?_
  refine w_iload rfl rfl rfl ?_
  refine w_if_lt (t := 28) (f := 18) rfl rfl rfl (fun c15 => ?_) (fun c15 => ?_)
  · refine w_iconst (x := Int32.ofNat 1) rfl rfl (by decide) ?_
    refine w_goto (pc' := 33) rfl rfl ?_
    exact w_bret rfl (by decide) (by simp only [k_bsP, *, ite_true, ite_false, and_self, and_true, true_and, and_false, false_and, or_true, true_or, or_false, false_or, not_true, not_false_iff] <;> rfl) rfl rfl rfl
  · refine w_iload rfl rfl rfl ?_
    refine w_if_ne (t := 32) (f := 23) rfl rfl rfl (fun c20 => ?_) (fun c20 => ?_)
    · refine w_iconst (x := Int32.ofNat 0) rfl rfl (by decide) ?_
      exact w_bret rfl (by decide) (by simp only [k_bsP, *, ite_true, ite_false, and_self, and_true, true_and, and_false, false_and, or_true, true_or, or_false, false_or, not_true, not_false_iff] <;> rfl) rfl rfl rfl
    · refine w_iload_n rfl rfl rfl ?_
      refine w_iload_n rfl rfl rfl ?_
      refine w_ic_ge (t := 32) (f := 28) rfl rfl rfl (fun c25 => ?_) (fun c25 => ?_)
      · refine w_iconst (x := Int32.ofNat 0) rfl rfl (by decide) ?_
        exact w_bret rfl (by decide) (by simp only [k_bsP, *, ite_true, ite_false, and_self, and_true, true_and, and_false, false_and, or_true, true_or, or_false, false_or, not_true, not_false_iff] <;> rfl) rfl rfl rfl
      · refine w_iconst (x := Int32.ofNat 1) rfl rfl (by decide) ?_
        refine w_goto (pc' := 33) rfl rfl ?_
        exact w_bret rfl (by decide) (by simp only [k_bsP, *, ite_true, ite_false, and_self, and_true, true_and, and_false, false_and, or_true, true_or, or_false, false_or, not_true, not_false_iff] <;> rfl) rfl rfl rfl
def k_spY (I : hI) (T n F b : Nat) : Int32 := if Int32.ofNat b &&& (Int32.ofNat F ^^^ Int32.ofInt (-1)) = 0 then k_yo I T (Int32.ofNat b) n else Int32.ofNat 0
theorem k_spY1 {I : hI} {T n F b : Nat} (h : Int32.ofNat b &&& (Int32.ofNat F ^^^ Int32.ofInt (-1)) = 0) : k_spY I T n F b = k_yo I T (Int32.ofNat b) n := if_pos h
theorem k_spY0 {I : hI} {T n F b : Nat} (h : ¬ Int32.ofNat b &&& (Int32.ofNat F ^^^ Int32.ofInt (-1)) = 0) : k_spY I T n F b = Int32.ofNat 0 := if_neg h
abbrev k_spP (y : Int32) (z b : Nat) (p : Int32 × Int32) : Prop := ¬ y < Int32.ofNat z ∧ (p.1 = 0 ∨ k_bsP (Int32.ofNat b) y p.1 p.2)
theorem k_spP_n {y : Int32} {z b : Nat} {p : Int32 × Int32} (h : y < Int32.ofNat z) : ¬ k_spP y z b p := fun q => q.1 h
theorem k_spP_m {y : Int32} {z b : Nat} {p : Int32 × Int32} (h : ¬ p.1 = 0) (g : ¬ k_bsP (Int32.ofNat b) y p.1 p.2) : ¬ k_spP y z b p := fun q => q.2.elim h g
def k_spL (I : hI) (T n F z : Nat) (j : Nat) : Int32 × Int32 := s_for (fun r p => if k_spP (k_spY I T n F (r + 1)) z (r + 1) p then (Int32.ofNat (r + 1), k_spY I T n F (r + 1)) else p) j (Int32.ofNat 0, Int32.ofNat 0)
theorem k_spL_1 {I : hI} {T n F z r : Nat} {y : Int32} (e : k_spY I T n F (r + 1) = y) (h : k_spP y z (r + 1) (k_spL I T n F z r)) : k_spL I T n F z (r + 1) = (Int32.ofNat (r + 1), y) := by
  subst e; exact if_pos h
theorem k_spL_0 {I : hI} {T n F z r : Nat} {y : Int32} (e : k_spY I T n F (r + 1) = y) (h : ¬ k_spP y z (r + 1) (k_spL I T n F z r)) : k_spL I T n F z (r + 1) = k_spL I T n F z r := by
  subst e; exact if_neg h
def k_spl (I : hI) (T n z w : Nat) : Int32 := if (k_spL I T n (k_fnB I n) z (k_fnB I n)).1 = 0 then Int32.ofInt (-2) else if w = 0 then (k_spL I T n (k_fnB I n) z (k_fnB I n)).1 else (k_spL I T n (k_fnB I n) z (k_fnB I n)).2 - Int32.ofNat z
theorem dl_splice {k : Nat} {I : hI} {J : hJ} {R : hR} {q : Option Value × am_H} {T : Nat} (hT : T = 9 ∨ T = 36) (h0 : R 0 3 = T) {n : Nat} (hn : n ≤ 8) (e5 : I (T + 5) 1 = Int32.ofNat n) {F z w : Nat} (hF : F < 256) (hz1 : 1 ≤ z) (hz2 : z ≤ 792) (hk : 2 ≤ k) (Z : ∀ (u : Value), wz k 11 (some .int) am_c128 103 [.ref 0, .int (Int32.ofNat z), .int (Int32.ofNat w), .int (Int32.ofNat F), .int ((k_spL I T n F z F).1), .int ((k_spL I T n F z F).2), .int (Int32.ofNat (F + 1)), u] [] I J R q) : ∀ (j r : Nat) (u : Value), r + j = F → wz k 11 (some .int) am_c128 37 [.ref 0, .int (Int32.ofNat z), .int (Int32.ofNat w), .int (Int32.ofNat F), .int ((k_spL I T n F z r).1), .int ((k_spL I T n F z r).2), .int (Int32.ofNat (r + 1)), u] [] I J R q := by
  intro j
  induction j with
  | zero =>
    intro r u e
    obtain rfl : F = r := by omega
    refine w_iload rfl rfl rfl ?_
    refine w_iload_n rfl rfl rfl ?_
    refine w_ic_gtN (t := 103) (f := 43) rfl rfl rfl (by omega) (by omega) (fun c40 => ?_) (fun c40 => absurd c40 (by omega))
    exact Z _
  | succ j ih =>
    intro r u e
    refine w_iload rfl rfl rfl ?_
    refine w_iload_n rfl rfl rfl ?_
    refine w_ic_gtN (t := 103) (f := 43) rfl rfl rfl (by omega) (by omega) (fun c40 => absurd c40 (by omega)) (fun c40 => ?_)
    refine w_iload rfl rfl rfl ?_
    refine w_iload_n rfl rfl rfl ?_
    refine w_iconst (x := Int32.ofInt (-1)) rfl rfl (by decide) ?_
    refine w_ixor rfl rfl ?_
    refine w_iand rfl rfl ?_
    refine w_if_ne (t := 61) (f := 52) rfl rfl rfl (fun c49 => ?_) (fun c49 => ?_)
    · refine w_iconst (x := Int32.ofNat 0) rfl rfl (by decide) ?_
      refine w_istore (L' := [_, _, _, _, _, _, _, _]) rfl rfl rfl ?_
      refine w_iload rfl rfl rfl ?_
      refine w_iload_n rfl rfl rfl ?_
      refine w_ic_ltN (t := 97) (f := 70) rfl rfl rfl (by omega) (by omega) (fun c67 => ?_) (fun c67 => ?_)
      · refine w_iinc (L' := [_, _, _, _, _, _, _, _]) rfl rfl rfl (am_incN 1) rfl ?_
        refine w_goto (pc' := 37) rfl rfl ?_
        first
          | (exact absurd c67 (show ¬ ¬ 0 < z by omega))
          | (have e1 := k_spL_0 (k_spY0 (I := I) (T := T) (n := n) c49) (k_spP_n ((am_ltN (by omega) (by omega)).mpr c67)); rw [← e1]; exact ih (r + 1) _ (by omega))
          | (have e1 := k_spL_1 (k_spY1 c49) ⟨c67, Or.inl c72⟩; have e2 := congrArg Prod.fst e1; have e3 := congrArg Prod.snd e1; have i1 := ih (r + 1) (.int (k_yo I T (Int32.ofNat (r + 1)) n)) (by omega); rw [e2, e3] at i1; exact i1)
          | (have e1 := k_spL_1 (k_spY1 c49) ⟨c67, Or.inr c86⟩; have e2 := congrArg Prod.fst e1; have e3 := congrArg Prod.snd e1; have i1 := ih (r + 1) (.int (k_yo I T (Int32.ofNat (r + 1)) n)) (by omega); rw [e2, e3] at i1; exact i1)
          | (have e1 := k_spL_0 (k_spY1 c49) (k_spP_m c72 c86); rw [← e1]; exact ih (r + 1) _ (by omega))
          | (have e1 := k_spL_0 (k_spY1 c49) (k_spP_n c67); rw [← e1]; exact ih (r + 1) _ (by omega))
      · refine w_iload rfl rfl rfl ?_
        refine w_if_eq (t := 89) (f := 75) rfl rfl rfl (fun c72 => ?_) (fun c72 => ?_)
        · refine w_iload rfl rfl rfl ?_
          refine w_istore (L' := [_, _, _, _, _, _, _, _]) rfl rfl rfl ?_
          refine w_iload rfl rfl rfl ?_
          refine w_istore (L' := [_, _, _, _, _, _, _, _]) rfl rfl rfl ?_
          refine w_iinc (L' := [_, _, _, _, _, _, _, _]) rfl rfl rfl (am_incN 1) rfl ?_
          refine w_goto (pc' := 37) rfl rfl ?_
          first
            | (exact absurd c67 (show ¬ ¬ 0 < z by omega))
            | (have e1 := k_spL_0 (k_spY0 (I := I) (T := T) (n := n) c49) (k_spP_n ((am_ltN (by omega) (by omega)).mpr c67)); rw [← e1]; exact ih (r + 1) _ (by omega))
            | (have e1 := k_spL_1 (k_spY1 c49) ⟨c67, Or.inl c72⟩; have e2 := congrArg Prod.fst e1; have e3 := congrArg Prod.snd e1; have i1 := ih (r + 1) (.int (k_yo I T (Int32.ofNat (r + 1)) n)) (by omega); rw [e2, e3] at i1; exact i1)
            | (have e1 := k_spL_1 (k_spY1 c49) ⟨c67, Or.inr c86⟩; have e2 := congrArg Prod.fst e1; have e3 := congrArg Prod.snd e1; have i1 := ih (r + 1) (.int (k_yo I T (Int32.ofNat (r + 1)) n)) (by omega); rw [e2, e3] at i1; exact i1)
            | (have e1 := k_spL_0 (k_spY1 c49) (k_spP_m c72 c86); rw [← e1]; exact ih (r + 1) _ (by omega))
            | (have e1 := k_spL_0 (k_spY1 c49) (k_spP_n c67); rw [← e1]; exact ih (r + 1) _ (by omega))
        · refine w_iload rfl rfl rfl ?_
          refine w_iload rfl rfl rfl ?_
          refine w_iload rfl rfl rfl ?_
          refine w_iload rfl rfl rfl ?_
          refine w_cs (q := am_m129) (na := 4) (as := [_, _, _, _]) (st' := [_]) rfl rfl rfl rfl (by decide) rfl rfl (Nat.le_of_ble_eq_true rfl) rfl rfl rfl (d_isBetter (by omega)) rfl rfl ?_
          refine w_if_eqB (t := 97) (f := 89) rfl rfl rfl (fun c86 => ?_) (fun c86 => ?_)
          · refine w_iinc (L' := [_, _, _, _, _, _, _, _]) rfl rfl rfl (am_incN 1) rfl ?_
            refine w_goto (pc' := 37) rfl rfl ?_
            first
              | (exact absurd c67 (show ¬ ¬ 0 < z by omega))
              | (have e1 := k_spL_0 (k_spY0 (I := I) (T := T) (n := n) c49) (k_spP_n ((am_ltN (by omega) (by omega)).mpr c67)); rw [← e1]; exact ih (r + 1) _ (by omega))
              | (have e1 := k_spL_1 (k_spY1 c49) ⟨c67, Or.inl c72⟩; have e2 := congrArg Prod.fst e1; have e3 := congrArg Prod.snd e1; have i1 := ih (r + 1) (.int (k_yo I T (Int32.ofNat (r + 1)) n)) (by omega); rw [e2, e3] at i1; exact i1)
              | (have e1 := k_spL_1 (k_spY1 c49) ⟨c67, Or.inr c86⟩; have e2 := congrArg Prod.fst e1; have e3 := congrArg Prod.snd e1; have i1 := ih (r + 1) (.int (k_yo I T (Int32.ofNat (r + 1)) n)) (by omega); rw [e2, e3] at i1; exact i1)
              | (have e1 := k_spL_0 (k_spY1 c49) (k_spP_m c72 c86); rw [← e1]; exact ih (r + 1) _ (by omega))
              | (have e1 := k_spL_0 (k_spY1 c49) (k_spP_n c67); rw [← e1]; exact ih (r + 1) _ (by omega))
          · refine w_iload rfl rfl rfl ?_
            refine w_istore (L' := [_, _, _, _, _, _, _, _]) rfl rfl rfl ?_
            refine w_iload rfl rfl rfl ?_
            refine w_istore (L' := [_, _, _, _, _, _, _, _]) rfl rfl rfl ?_
            refine w_iinc (L' := [_, _, _, _, _, _, _, _]) rfl rfl rfl (am_incN 1) rfl ?_
            refine w_goto (pc' := 37) rfl rfl ?_
            first
              | (exact absurd c67 (show ¬ ¬ 0 < z by omega))
              | (have e1 := k_spL_0 (k_spY0 (I := I) (T := T) (n := n) c49) (k_spP_n ((am_ltN (by omega) (by omega)).mpr c67)); rw [← e1]; exact ih (r + 1) _ (by omega))
              | (have e1 := k_spL_1 (k_spY1 c49) ⟨c67, Or.inl c72⟩; have e2 := congrArg Prod.fst e1; have e3 := congrArg Prod.snd e1; have i1 := ih (r + 1) (.int (k_yo I T (Int32.ofNat (r + 1)) n)) (by omega); rw [e2, e3] at i1; exact i1)
              | (have e1 := k_spL_1 (k_spY1 c49) ⟨c67, Or.inr c86⟩; have e2 := congrArg Prod.fst e1; have e3 := congrArg Prod.snd e1; have i1 := ih (r + 1) (.int (k_yo I T (Int32.ofNat (r + 1)) n)) (by omega); rw [e2, e3] at i1; exact i1)
              | (have e1 := k_spL_0 (k_spY1 c49) (k_spP_m c72 c86); rw [← e1]; exact ih (r + 1) _ (by omega))
              | (have e1 := k_spL_0 (k_spY1 c49) (k_spP_n c67); rw [← e1]; exact ih (r + 1) _ (by omega))
    · refine w_aload_n rfl rfl rfl ?_
      refine w_iload rfl rfl rfl ?_
      refine w_cv (q := am_m132) (as := [_]) (rest := []) (st' := [_]) rfl rfl rfl rfl rfl rfl sp0 rfl rfl rfl rfl (d_yardsOf hT h0 hn e5 (by omega)) rfl rfl ?_
      refine w_goto (pc' := 62) rfl rfl ?_
      refine w_istore (L' := [_, _, _, _, _, _, _, _]) rfl rfl rfl ?_
      refine w_iload rfl rfl rfl ?_
      refine w_iload_n rfl rfl rfl ?_
      refine w_ic_lt (t := 97) (f := 70) rfl rfl rfl (fun c67 => ?_) (fun c67 => ?_)
      · refine w_iinc (L' := [_, _, _, _, _, _, _, _]) rfl rfl rfl (am_incN 1) rfl ?_
        refine w_goto (pc' := 37) rfl rfl ?_
        first
          | (exact absurd c67 (show ¬ ¬ 0 < z by omega))
          | (have e1 := k_spL_0 (k_spY0 (I := I) (T := T) (n := n) c49) (k_spP_n ((am_ltN (by omega) (by omega)).mpr c67)); rw [← e1]; exact ih (r + 1) _ (by omega))
          | (have e1 := k_spL_1 (k_spY1 c49) ⟨c67, Or.inl c72⟩; have e2 := congrArg Prod.fst e1; have e3 := congrArg Prod.snd e1; have i1 := ih (r + 1) (.int (k_yo I T (Int32.ofNat (r + 1)) n)) (by omega); rw [e2, e3] at i1; exact i1)
          | (have e1 := k_spL_1 (k_spY1 c49) ⟨c67, Or.inr c86⟩; have e2 := congrArg Prod.fst e1; have e3 := congrArg Prod.snd e1; have i1 := ih (r + 1) (.int (k_yo I T (Int32.ofNat (r + 1)) n)) (by omega); rw [e2, e3] at i1; exact i1)
          | (have e1 := k_spL_0 (k_spY1 c49) (k_spP_m c72 c86); rw [← e1]; exact ih (r + 1) _ (by omega))
          | (have e1 := k_spL_0 (k_spY1 c49) (k_spP_n c67); rw [← e1]; exact ih (r + 1) _ (by omega))
      · refine w_iload rfl rfl rfl ?_
        refine w_if_eq (t := 89) (f := 75) rfl rfl rfl (fun c72 => ?_) (fun c72 => ?_)
        · refine w_iload rfl rfl rfl ?_
          refine w_istore (L' := [_, _, _, _, _, _, _, _]) rfl rfl rfl ?_
          refine w_iload rfl rfl rfl ?_
          refine w_istore (L' := [_, _, _, _, _, _, _, _]) rfl rfl rfl ?_
          refine w_iinc (L' := [_, _, _, _, _, _, _, _]) rfl rfl rfl (am_incN 1) rfl ?_
          refine w_goto (pc' := 37) rfl rfl ?_
          first
            | (exact absurd c67 (show ¬ ¬ 0 < z by omega))
            | (have e1 := k_spL_0 (k_spY0 (I := I) (T := T) (n := n) c49) (k_spP_n ((am_ltN (by omega) (by omega)).mpr c67)); rw [← e1]; exact ih (r + 1) _ (by omega))
            | (have e1 := k_spL_1 (k_spY1 c49) ⟨c67, Or.inl c72⟩; have e2 := congrArg Prod.fst e1; have e3 := congrArg Prod.snd e1; have i1 := ih (r + 1) (.int (k_yo I T (Int32.ofNat (r + 1)) n)) (by omega); rw [e2, e3] at i1; exact i1)
            | (have e1 := k_spL_1 (k_spY1 c49) ⟨c67, Or.inr c86⟩; have e2 := congrArg Prod.fst e1; have e3 := congrArg Prod.snd e1; have i1 := ih (r + 1) (.int (k_yo I T (Int32.ofNat (r + 1)) n)) (by omega); rw [e2, e3] at i1; exact i1)
            | (have e1 := k_spL_0 (k_spY1 c49) (k_spP_m c72 c86); rw [← e1]; exact ih (r + 1) _ (by omega))
            | (have e1 := k_spL_0 (k_spY1 c49) (k_spP_n c67); rw [← e1]; exact ih (r + 1) _ (by omega))
        · refine w_iload rfl rfl rfl ?_
          refine w_iload rfl rfl rfl ?_
          refine w_iload rfl rfl rfl ?_
          refine w_iload rfl rfl rfl ?_
          refine w_cs (q := am_m129) (na := 4) (as := [_, _, _, _]) (st' := [_]) rfl rfl rfl rfl (by decide) rfl rfl (Nat.le_of_ble_eq_true rfl) rfl rfl rfl (d_isBetter (by omega)) rfl rfl ?_
          refine w_if_eqB (t := 97) (f := 89) rfl rfl rfl (fun c86 => ?_) (fun c86 => ?_)
          · refine w_iinc (L' := [_, _, _, _, _, _, _, _]) rfl rfl rfl (am_incN 1) rfl ?_
            refine w_goto (pc' := 37) rfl rfl ?_
            first
              | (exact absurd c67 (show ¬ ¬ 0 < z by omega))
              | (have e1 := k_spL_0 (k_spY0 (I := I) (T := T) (n := n) c49) (k_spP_n ((am_ltN (by omega) (by omega)).mpr c67)); rw [← e1]; exact ih (r + 1) _ (by omega))
              | (have e1 := k_spL_1 (k_spY1 c49) ⟨c67, Or.inl c72⟩; have e2 := congrArg Prod.fst e1; have e3 := congrArg Prod.snd e1; have i1 := ih (r + 1) (.int (k_yo I T (Int32.ofNat (r + 1)) n)) (by omega); rw [e2, e3] at i1; exact i1)
              | (have e1 := k_spL_1 (k_spY1 c49) ⟨c67, Or.inr c86⟩; have e2 := congrArg Prod.fst e1; have e3 := congrArg Prod.snd e1; have i1 := ih (r + 1) (.int (k_yo I T (Int32.ofNat (r + 1)) n)) (by omega); rw [e2, e3] at i1; exact i1)
              | (have e1 := k_spL_0 (k_spY1 c49) (k_spP_m c72 c86); rw [← e1]; exact ih (r + 1) _ (by omega))
              | (have e1 := k_spL_0 (k_spY1 c49) (k_spP_n c67); rw [← e1]; exact ih (r + 1) _ (by omega))
          · refine w_iload rfl rfl rfl ?_
            refine w_istore (L' := [_, _, _, _, _, _, _, _]) rfl rfl rfl ?_
            refine w_iload rfl rfl rfl ?_
            refine w_istore (L' := [_, _, _, _, _, _, _, _]) rfl rfl rfl ?_
            refine w_iinc (L' := [_, _, _, _, _, _, _, _]) rfl rfl rfl (am_incN 1) rfl ?_
            refine w_goto (pc' := 37) rfl rfl ?_
            first
              | (exact absurd c67 (show ¬ ¬ 0 < z by omega))
              | (have e1 := k_spL_0 (k_spY0 (I := I) (T := T) (n := n) c49) (k_spP_n ((am_ltN (by omega) (by omega)).mpr c67)); rw [← e1]; exact ih (r + 1) _ (by omega))
              | (have e1 := k_spL_1 (k_spY1 c49) ⟨c67, Or.inl c72⟩; have e2 := congrArg Prod.fst e1; have e3 := congrArg Prod.snd e1; have i1 := ih (r + 1) (.int (k_yo I T (Int32.ofNat (r + 1)) n)) (by omega); rw [e2, e3] at i1; exact i1)
              | (have e1 := k_spL_1 (k_spY1 c49) ⟨c67, Or.inr c86⟩; have e2 := congrArg Prod.fst e1; have e3 := congrArg Prod.snd e1; have i1 := ih (r + 1) (.int (k_yo I T (Int32.ofNat (r + 1)) n)) (by omega); rw [e2, e3] at i1; exact i1)
              | (have e1 := k_spL_0 (k_spY1 c49) (k_spP_m c72 c86); rw [← e1]; exact ih (r + 1) _ (by omega))
              | (have e1 := k_spL_0 (k_spY1 c49) (k_spP_n c67); rw [← e1]; exact ih (r + 1) _ (by omega))
theorem d_splice {k : Nat} {I : hI} {J : hJ} {R : hR} {T : Nat} (hT : T = 9 ∨ T = 36) (h0 : R 0 3 = T) {N : Nat → Nat} (t : ctk I T N) {z w : Nat} (z1 : 1 ≤ z) (z2 : z ≤ 792) (hw : w ≤ 1) (hk : 4 ≤ k) : ct k 128 [.ref 0, .int (Int32.ofNat z), .int (Int32.ofNat w)] I J R (some (.int (k_spl I T (N 1) z w))) I J R := by
  obtain ⟨k, rfl⟩ : ∃ k', k = k' + 1 := ⟨k - 1, by omega⟩
  obtain ⟨⟨l1, l2, l3⟩, ⟨e5, e11, e3⟩, rM, tH, sM, ⟨e18, l18⟩, ⟨e21, l21⟩, ⟨e24, l24⟩⟩ := id t
  have hF := k_fnB_8 (I := I) l1
  refine ct_of (q := am_m128) (o := 11) (rt := (some .int)) (co := am_c128) (L := [_, _, _, _, _, _, _, _]) rfl rfl rfl rfl rfl rfl ?_
  refine w_iload_n rfl rfl rfl ?_
  refine w_iconst (x := Int32.ofNat 1) rfl rfl (by decide) ?_
  refine w_ic_ltN (t := 21) (f := 5) rfl rfl rfl (by omega) (by omega) (fun c2 => absurd c2 (by omega)) (fun c2 => ?_)
  refine w_iload_n rfl rfl rfl ?_
  refine w_sipush (x := Int32.ofNat 792) rfl rfl (by decide) ?_
  refine w_ic_gtN (t := 21) (f := 12) rfl rfl rfl (by omega) (by omega) (fun c9 => absurd c9 (by omega)) (fun c9 => ?_)
  refine w_iload_n rfl rfl rfl ?_
  refine w_if_lt (t := 21) (f := 16) rfl rfl rfl (fun c13 => absurd c13 (fun c => absurd ((am_ltN (y := 0) (by omega) (by omega)).mp c) (Nat.not_lt_zero w))) (fun c13 => ?_)
  refine w_iload_n rfl rfl rfl ?_
  refine w_iconst (x := Int32.ofNat 1) rfl rfl (by decide) ?_
  refine w_ic_leN (t := 23) (f := 21) rfl rfl rfl (by omega) (by omega) (fun c18 => ?_) (fun c18 => absurd c18 (by omega))
  refine w_aload_n rfl rfl rfl ?_
  refine w_cv (q := am_m131) (as := []) (rest := []) (st' := [_]) rfl rfl rfl rfl rfl rfl sp0 rfl rfl rfl rfl (d_freeRopes hT h0 l1 e5 (by omega)) rfl rfl ?_
  refine w_istore_n (L' := [_, _, _, _, _, _, _, _]) rfl rfl rfl ?_
  refine w_iconst (x := Int32.ofNat 0) rfl rfl (by decide) ?_
  refine w_istore (L' := [_, _, _, _, _, _, _, _]) rfl rfl rfl ?_
  refine w_iconst (x := Int32.ofNat 0) rfl rfl (by decide) ?_
  refine w_istore (L' := [_, _, _, _, _, _, _, _]) rfl rfl rfl ?_
  refine w_iconst (x := Int32.ofNat 1) rfl rfl (by decide) ?_
  refine w_istore (L' := [_, _, _, _, _, _, _, _]) rfl rfl rfl ?_
  refine dl_splice hT h0 l1 e5 (z := z) (w := w) hF z1 z2 (by omega) (fun u => ?_) (k_fnB I (N 1)) 0 _ (by omega)
  refine w_iload rfl rfl rfl ?_
  refine w_if_ne (t := 111) (f := 108) rfl rfl rfl (fun c105 => ?_) (fun c105 => ?_)
  · refine w_iload_n rfl rfl rfl ?_
    refine w_if_ne (t := 120) (f := 115) rfl rfl rfl (fun c112 => ?_) (fun c112 => ?_)
    · refine w_iload rfl rfl rfl ?_
      refine w_iload_n rfl rfl rfl ?_
      refine w_isub rfl rfl ?_
      exact w_iret rfl (by unfold k_spl; first | rw [if_pos c105] | rw [if_neg c105, if_neg (fun z => c112 (by rw [z]; rfl))] | rw [if_neg c105, if_pos ((am_eqN (y := 0) (by omega) (by omega)).mp c112)]) rfl rfl rfl
    · refine w_iload rfl rfl rfl ?_
      refine w_goto (pc' := 124) rfl rfl ?_
      exact w_iret rfl (by unfold k_spl; first | rw [if_pos c105] | rw [if_neg c105, if_neg (fun z => c112 (by rw [z]; rfl))] | rw [if_neg c105, if_pos ((am_eqN (y := 0) (by omega) (by omega)).mp c112)]) rfl rfl rfl
  · refine w_bipush (x := Int32.ofInt (-2)) rfl rfl (by decide) ?_
    exact w_iret rfl (by unfold k_spl; first | rw [if_pos c105] | rw [if_neg c105, if_neg (fun z => c112 (by rw [z]; rfl))] | rw [if_neg c105, if_pos ((am_eqN (y := 0) (by omega) (by omega)).mp c112)]) rfl rfl rfl
theorem d_splice_no {k : Nat} {I : hI} {J : hJ} {R : hR} {x y : Int32} (hx : ¬ ((¬ x < Int32.ofNat 1 ∧ ¬ Int32.ofNat 792 < x) ∧ ¬ y < Int32.ofNat 0 ∧ ¬ Int32.ofNat 1 < y)) (hk : 1 ≤ k) : ct k 128 [.ref 0, .int x, .int y] I J R (some (.int (Int32.ofInt (-1)))) I J R := by
  obtain ⟨k, rfl⟩ : ∃ k', k = k' + 1 := ⟨k - 1, by omega⟩
  refine ct_of (q := am_m128) (o := 11) (rt := (some .int)) (co := am_c128) (L := [_, _, _, _, _, _, _, _]) rfl rfl rfl rfl rfl rfl ?_
  refine w_iload_n rfl rfl rfl ?_
  refine w_iconst (x := Int32.ofNat 1) rfl rfl (by decide) ?_
  refine w_ic_lt (t := 21) (f := 5) rfl rfl rfl (fun c2 => ?_) (fun c2 => ?_)
  · refine w_iconst (x := Int32.ofInt (-1)) rfl rfl (by decide) ?_
    exact w_iret rfl rfl rfl rfl rfl
  · refine w_iload_n rfl rfl rfl ?_
    refine w_sipush (x := Int32.ofNat 792) rfl rfl (by decide) ?_
    refine w_ic_gt (t := 21) (f := 12) rfl rfl rfl (fun c9 => ?_) (fun c9 => ?_)
    · refine w_iconst (x := Int32.ofInt (-1)) rfl rfl (by decide) ?_
      exact w_iret rfl rfl rfl rfl rfl
    · refine w_iload_n rfl rfl rfl ?_
      refine w_if_lt (t := 21) (f := 16) rfl rfl rfl (fun c13 => ?_) (fun c13 => ?_)
      · refine w_iconst (x := Int32.ofInt (-1)) rfl rfl (by decide) ?_
        exact w_iret rfl rfl rfl rfl rfl
      · refine w_iload_n rfl rfl rfl ?_
        refine w_iconst (x := Int32.ofNat 1) rfl rfl (by decide) ?_
        refine w_ic_le (t := 23) (f := 21) rfl rfl rfl (fun c18 => ?_) (fun c18 => ?_)
        · exact (hx ⟨⟨c2, c9⟩, c13, c18⟩).elim
        · refine w_iconst (x := Int32.ofInt (-1)) rfl rfl (by decide) ?_
          exact w_iret rfl rfl rfl rfl rfl
abbrev k_exP (I : hI) (T n F z b : Nat) : Prop := Int32.ofNat b &&& (Int32.ofNat F ^^^ Int32.ofInt (-1)) = 0 ∧ k_yo I T (Int32.ofNat b) n = Int32.ofNat z
def k_exa (I : hI) (T n F z : Nat) (j : Nat) : Nat := s_for (fun r a => if k_exP I T n F z r then a + 1 else a) j 0
theorem k_exa_1 {I : hI} {T n F z r : Nat} (h : k_exP I T n F z r) : k_exa I T n F z (r + 1) = k_exa I T n F z r + 1 := if_pos h
theorem k_exa_0 {I : hI} {T n F z r : Nat} (h : ¬ k_exP I T n F z r) : k_exa I T n F z (r + 1) = k_exa I T n F z r := if_neg h
theorem dl_exact {k : Nat} {I : hI} {J : hJ} {R : hR} {q : Option Value × am_H} {T : Nat} (hT : T = 9 ∨ T = 36) (h0 : R 0 3 = T) {n : Nat} (hn : n ≤ 8) (e5 : I (T + 5) 1 = Int32.ofNat n) {F z : Nat} (hF : F < 256) (hk : 2 ≤ k) (Z : wz k 11 (some .int) am_c130 57 [.ref 0, .int (Int32.ofNat z), .int (Int32.ofNat F), .int (Int32.ofNat (k_exa I T n F z (F + 1))), .int (Int32.ofNat (F + 1))] [] I J R q) : ∀ (j r : Nat) , r + j = F + 1 → wz k 11 (some .int) am_c130 23 [.ref 0, .int (Int32.ofNat z), .int (Int32.ofNat F), .int (Int32.ofNat (k_exa I T n F z r)), .int (Int32.ofNat r)] [] I J R q := by
  intro j
  induction j with
  | zero =>
    intro r e
    obtain rfl : F + 1 = r := by omega
    refine w_iload rfl rfl rfl ?_
    refine w_iload_n rfl rfl rfl ?_
    refine w_ic_gtN (t := 57) (f := 29) rfl rfl rfl (by omega) (by omega) (fun c26 => ?_) (fun c26 => absurd c26 (by omega))
    exact Z
  | succ j ih =>
    intro r e
    refine w_iload rfl rfl rfl ?_
    refine w_iload_n rfl rfl rfl ?_
    refine w_ic_gtN (t := 57) (f := 29) rfl rfl rfl (by omega) (by omega) (fun c26 => absurd c26 (by omega)) (fun c26 => ?_)
    refine w_iload rfl rfl rfl ?_
    refine w_iload_n rfl rfl rfl ?_
    refine w_iconst (x := Int32.ofInt (-1)) rfl rfl (by decide) ?_
    refine w_ixor rfl rfl ?_
    refine w_iand rfl rfl ?_
    refine w_if_ne (t := 51) (f := 38) rfl rfl rfl (fun c35 => ?_) (fun c35 => ?_)
    · refine w_iinc (L' := [_, _, _, _, _]) rfl rfl rfl (am_incN 1) rfl ?_
      refine w_goto (pc' := 23) rfl rfl ?_
      (first | rw [← k_exa_1 ⟨c35, c45⟩] | rw [← k_exa_0 (fun z => c45 z.2)] | rw [← k_exa_0 (fun z => c35 z.1)]); exact ih (r + 1) (by omega)
    · refine w_aload_n rfl rfl rfl ?_
      refine w_iload rfl rfl rfl ?_
      refine w_cv (q := am_m132) (as := [_]) (rest := []) (st' := [_]) rfl rfl rfl rfl rfl rfl sp0 rfl rfl rfl rfl (d_yardsOf hT h0 hn e5 (by omega)) rfl rfl ?_
      refine w_iload_n rfl rfl rfl ?_
      refine w_ic_ne (t := 51) (f := 48) rfl rfl rfl (fun c45 => ?_) (fun c45 => ?_)
      · refine w_iinc (L' := [_, _, _, _, _]) rfl rfl rfl (am_incN 1) rfl ?_
        refine w_goto (pc' := 23) rfl rfl ?_
        (first | rw [← k_exa_1 ⟨c35, c45⟩] | rw [← k_exa_0 (fun z => c45 z.2)] | rw [← k_exa_0 (fun z => c35 z.1)]); exact ih (r + 1) (by omega)
      · refine w_iinc (L' := [_, _, _, _, _]) rfl rfl rfl (am_incN 1) rfl ?_
        refine w_iinc (L' := [_, _, _, _, _]) rfl rfl rfl (am_incN 1) rfl ?_
        refine w_goto (pc' := 23) rfl rfl ?_
        (first | rw [← k_exa_1 ⟨c35, c45⟩] | rw [← k_exa_0 (fun z => c45 z.2)] | rw [← k_exa_0 (fun z => c35 z.1)]); exact ih (r + 1) (by omega)
theorem d_exact {k : Nat} {I : hI} {J : hJ} {R : hR} {T : Nat} (hT : T = 9 ∨ T = 36) (h0 : R 0 3 = T) {N : Nat → Nat} (t : ctk I T N) {z : Nat} (z2 : z ≤ 792) (hk : 4 ≤ k) : ct k 130 [.ref 0, .int (Int32.ofNat z)] I J R (some (.int (Int32.ofNat (k_exa I T (N 1) (k_fnB I (N 1)) z (k_fnB I (N 1) + 1))))) I J R := by
  obtain ⟨k, rfl⟩ : ∃ k', k = k' + 1 := ⟨k - 1, by omega⟩
  obtain ⟨⟨l1, l2, l3⟩, ⟨e5, e11, e3⟩, rM, tH, sM, ⟨e18, l18⟩, ⟨e21, l21⟩, ⟨e24, l24⟩⟩ := id t
  have hF := k_fnB_8 (I := I) l1
  refine ct_of (q := am_m130) (o := 11) (rt := (some .int)) (co := am_c130) (L := [_, _, _, _, _]) rfl rfl rfl rfl rfl rfl ?_
  refine w_iload_n rfl rfl rfl ?_
  refine w_if_lt (t := 11) (f := 4) rfl rfl rfl (fun c1 => absurd c1 (fun c => absurd ((am_ltN (y := 0) (by omega) (by omega)).mp c) (Nat.not_lt_zero z))) (fun c1 => ?_)
  refine w_iload_n rfl rfl rfl ?_
  refine w_sipush (x := Int32.ofNat 792) rfl rfl (by decide) ?_
  refine w_ic_leN (t := 13) (f := 11) rfl rfl rfl (by omega) (by omega) (fun c8 => ?_) (fun c8 => absurd c8 (by omega))
  refine w_aload_n rfl rfl rfl ?_
  refine w_cv (q := am_m131) (as := []) (rest := []) (st' := [_]) rfl rfl rfl rfl rfl rfl sp0 rfl rfl rfl rfl (d_freeRopes hT h0 l1 e5 (by omega)) rfl rfl ?_
  refine w_istore_n (L' := [_, _, _, _, _]) rfl rfl rfl ?_
  refine w_iconst (x := Int32.ofNat 0) rfl rfl (by decide) ?_
  refine w_istore_n (L' := [_, _, _, _, _]) rfl rfl rfl ?_
  refine w_iconst (x := Int32.ofNat 0) rfl rfl (by decide) ?_
  refine w_istore (L' := [_, _, _, _, _]) rfl rfl rfl ?_
  refine dl_exact hT h0 l1 e5 (z := z) hF (by omega) ?_ (k_fnB I (N 1) + 1) 0 (by omega)
  refine w_iload_n rfl rfl rfl ?_
  exact w_iret rfl rfl rfl rfl rfl
theorem d_exact_no {k : Nat} {I : hI} {J : hJ} {R : hR} {x : Int32} (hx : ¬ (¬ x < Int32.ofNat 0 ∧ ¬ Int32.ofNat 792 < x)) (hk : 1 ≤ k) : ct k 130 [.ref 0, .int x] I J R (some (.int (Int32.ofInt (-1)))) I J R := by
  obtain ⟨k, rfl⟩ : ∃ k', k = k' + 1 := ⟨k - 1, by omega⟩
  refine ct_of (q := am_m130) (o := 11) (rt := (some .int)) (co := am_c130) (L := [_, _, _, _, _]) rfl rfl rfl rfl rfl rfl ?_
  refine w_iload_n rfl rfl rfl ?_
  refine w_if_lt (t := 11) (f := 4) rfl rfl rfl (fun c1 => ?_) (fun c1 => ?_)
  · refine w_iconst (x := Int32.ofInt (-1)) rfl rfl (by decide) ?_
    exact w_iret rfl rfl rfl rfl rfl
  · refine w_iload_n rfl rfl rfl ?_
    refine w_sipush (x := Int32.ofNat 792) rfl rfl (by decide) ?_
    refine w_ic_le (t := 13) (f := 11) rfl rfl rfl (fun c8 => ?_) (fun c8 => ?_)
    · exact (hx ⟨c1, c8⟩).elim
    · refine w_iconst (x := Int32.ofInt (-1)) rfl rfl (by decide) ?_
      exact w_iret rfl rfl rfl rfl rfl
def k_yg (I : hI) (T r : Nat) : Int32 := if I 64 r = Int32.ofNat 1 then I (T + 8) r else Int32.ofNat 0
def k_gx (I : hI) (T n : Nat) : Int32 := s_for (fun r a => a ^^^ k_yg I T r) n (Int32.ofNat 0)
theorem k_gx_s (I : hI) (T n : Nat) : k_gx I T (n + 1) = k_gx I T n ^^^ k_yg I T n := rfl
def k_gf (I : hI) (T w : Nat) (x : Int32) : Nat → Nat → Int32
  | 0, _ => Int32.ofInt (-2)
  | j + 1, r => if k_yg I T r ^^^ x < k_yg I T r then (if w = 1 then Int32.ofNat r else k_yg I T r - (k_yg I T r ^^^ x)) else k_gf I T w x j (r + 1)
theorem k_gf_s (I : hI) (T w : Nat) (x : Int32) (j r : Nat) : k_gf I T w x (j + 1) r = if k_yg I T r ^^^ x < k_yg I T r then (if w = 1 then Int32.ofNat r else k_yg I T r - (k_yg I T r ^^^ x)) else k_gf I T w x j (r + 1) := rfl
def k_game (I : hI) (T n w : Nat) : Int32 := if w = 0 then (if k_gx I T n = 0 then Int32.ofNat 1 else Int32.ofNat 0) else k_gf I T w (k_gx I T n) n 0
theorem d_yardsInGame {k : Nat} {I : hI} {J : hJ} {R : hR} {T : Nat} (hT : T = 9 ∨ T = 36) (h0 : R 0 3 = T) {r : Nat} (hr : r < 8) (hk : 1 ≤ k) : ct k 135 [.ref 0, .int (Int32.ofNat r)] I J R (some (.int (k_yg I T r))) I J R := by
  obtain ⟨k, rfl⟩ : ∃ k', k = k' + 1 := ⟨k - 1, by omega⟩
  refine ct_of (q := am_m135) (o := 11) (rt := (some .int)) (co := am_c135) (L := [_, _]) rfl rfl rfl rfl rfl rfl ?_
  refine w_aload_n rfl rfl rfl ?_
  refine w_gf (t := .ref (63)) (v := .ref (63)) rfl rfl rfl sp0 rfl rfl rfl ?_
  refine w_gf (t := .ref (64)) (v := .ref (64)) rfl rfl rfl sp63 rfl rfl rfl ?_
  refine w_iload_n rfl rfl rfl ?_
  refine w_iaload rfl rfl sp64 rfl ⟨by omega, by omega⟩ rfl ?_
  refine w_iconst (x := Int32.ofNat 1) rfl rfl (by decide) ?_
  refine w_ic_ne (t := 25) (f := 13) rfl rfl rfl (fun c10 => ?_) (fun c10 => ?_)
  · refine w_iconst (x := Int32.ofNat 0) rfl rfl (by decide) ?_
    exact w_iret rfl (by unfold k_yg; first | rw [if_pos c10] | rw [if_neg c10]) rfl rfl rfl
  · refine w_aload_n rfl rfl rfl ?_
    refine w_gf (t := .retAddr 0) (v := .ref (T)) rfl rfl rfl sp0 rfl (congrArg Value.ref (by first | exact h0 | exact (am_u_na (by decide)).trans h0)) rfl ?_
    refine w_gf (t := .ref (T + 8)) (v := .ref (T + 8)) rfl rfl rfl (shT_0 hT) rfl rfl rfl ?_
    refine w_iload_n rfl rfl rfl ?_
    refine w_iaload rfl rfl (shT_8 hT) rfl ⟨by omega, by omega⟩ rfl ?_
    refine w_goto (pc' := 26) rfl rfl ?_
    exact w_iret rfl (by unfold k_yg; first | rw [if_pos c10] | rw [if_neg c10]) rfl rfl rfl
theorem dl_game1 {k : Nat} {I : hI} {J : hJ} {R : hR} {q : Option Value × am_H} {T : Nat} (hT : T = 9 ∨ T = 36) (h0 : R 0 3 = T) {n : Nat} (hn : n ≤ 8) (e5 : I (T + 5) 1 = Int32.ofNat n) {w : Nat} (hk : 1 ≤ k) (Z : wz k 11 (some .int) am_c134 43 [.ref 0, .int (Int32.ofNat w), .int (k_gx I T n), .int (Int32.ofNat n), am_un] [] I J R q) : ∀ (j r : Nat) , r + j = n → wz k 11 (some .int) am_c134 15 [.ref 0, .int (Int32.ofNat w), .int (k_gx I T r), .int (Int32.ofNat r), am_un] [] I J R q := by
  intro j
  induction j with
  | zero =>
    intro r e
    obtain rfl : n = r := by omega
    refine w_iload_n rfl rfl rfl ?_
    refine w_aload_n rfl rfl rfl ?_
    refine w_gf (t := .retAddr 0) (v := .ref (T)) rfl rfl rfl sp0 rfl (congrArg Value.ref (by first | exact h0 | exact (am_u_na (by decide)).trans h0)) rfl ?_
    refine w_gf (t := .ref (T + 5)) (v := .ref (T + 5)) rfl rfl rfl (shT_0 hT) rfl rfl rfl ?_
    refine w_gf (t := .int 0) (v := .int _) rfl rfl rfl (shT_5 hT) rfl (congrArg Value.int e5) rfl ?_
    refine w_ic_geN (t := 43) (f := 29) rfl rfl rfl (by omega) (by omega) (fun c26 => ?_) (fun c26 => absurd c26 (by omega))
    exact Z
  | succ j ih =>
    intro r e
    refine w_iload_n rfl rfl rfl ?_
    refine w_aload_n rfl rfl rfl ?_
    refine w_gf (t := .retAddr 0) (v := .ref (T)) rfl rfl rfl sp0 rfl (congrArg Value.ref (by first | exact h0 | exact (am_u_na (by decide)).trans h0)) rfl ?_
    refine w_gf (t := .ref (T + 5)) (v := .ref (T + 5)) rfl rfl rfl (shT_0 hT) rfl rfl rfl ?_
    refine w_gf (t := .int 0) (v := .int _) rfl rfl rfl (shT_5 hT) rfl (congrArg Value.int e5) rfl ?_
    refine w_ic_geN (t := 43) (f := 29) rfl rfl rfl (by omega) (by omega) (fun c26 => absurd c26 (by omega)) (fun c26 => ?_)
    refine w_iload_n rfl rfl rfl ?_
    refine w_aload_n rfl rfl rfl ?_
    refine w_iload_n rfl rfl rfl ?_
    refine w_cv (q := am_m135) (as := [_]) (rest := [_]) (st' := [_, _]) rfl rfl rfl rfl rfl rfl sp0 rfl rfl rfl rfl (d_yardsInGame hT h0 (by omega) (by omega)) rfl rfl ?_
    refine w_ixor rfl rfl ?_
    refine w_istore_n (L' := [_, _, _, _, _]) rfl rfl rfl ?_
    refine w_iinc (L' := [_, _, _, _, _]) rfl rfl rfl (am_incN 1) rfl ?_
    refine w_goto (pc' := 15) rfl rfl ?_
    exact ih (r + 1) (by omega)
theorem dl_game2 {k : Nat} {I : hI} {J : hJ} {R : hR} {T : Nat} (hT : T = 9 ∨ T = 36) (h0 : R 0 3 = T) {n : Nat} (hn : n ≤ 8) (e5 : I (T + 5) 1 = Int32.ofNat n) {w : Nat} (hw : w ≤ 2) {z : Int32} (hk : 1 ≤ k) : ∀ (j r : Nat) (u : Value), r + j = n → wz k 11 (some .int) am_c134 59 [.ref 0, .int (Int32.ofNat w), .int z, .int (Int32.ofNat r), u] [] I J R (some (.int (k_gf I T w z j r)), am_hp I J R) := by
  intro j
  induction j with
  | zero =>
    intro r u e
    obtain rfl : r = n := by omega
    refine w_iload_n rfl rfl rfl ?_
    refine w_aload_n rfl rfl rfl ?_
    refine w_gf (t := .retAddr 0) (v := .ref (T)) rfl rfl rfl sp0 rfl (congrArg Value.ref (by first | exact h0 | exact (am_u_na (by decide)).trans h0)) rfl ?_
    refine w_gf (t := .ref (T + 5)) (v := .ref (T + 5)) rfl rfl rfl (shT_0 hT) rfl rfl rfl ?_
    refine w_gf (t := .int 0) (v := .int _) rfl rfl rfl (shT_5 hT) rfl (congrArg Value.int e5) rfl ?_
    refine w_ic_geN (t := 112) (f := 73) rfl rfl rfl (by omega) (by omega) (fun c70 => ?_) (fun c70 => absurd c70 (by omega))
    refine w_bipush (x := Int32.ofInt (-2)) rfl rfl (by decide) ?_
    exact w_iret rfl rfl rfl rfl rfl
  | succ j ih =>
    intro r u e
    refine w_iload_n rfl rfl rfl ?_
    refine w_aload_n rfl rfl rfl ?_
    refine w_gf (t := .retAddr 0) (v := .ref (T)) rfl rfl rfl sp0 rfl (congrArg Value.ref (by first | exact h0 | exact (am_u_na (by decide)).trans h0)) rfl ?_
    refine w_gf (t := .ref (T + 5)) (v := .ref (T + 5)) rfl rfl rfl (shT_0 hT) rfl rfl rfl ?_
    refine w_gf (t := .int 0) (v := .int _) rfl rfl rfl (shT_5 hT) rfl (congrArg Value.int e5) rfl ?_
    refine w_ic_geN (t := 112) (f := 73) rfl rfl rfl (by omega) (by omega) (fun c70 => absurd c70 (by omega)) (fun c70 => ?_)
    refine w_aload_n rfl rfl rfl ?_
    refine w_iload_n rfl rfl rfl ?_
    refine w_cv (q := am_m135) (as := [_]) (rest := []) (st' := [_]) rfl rfl rfl rfl rfl rfl sp0 rfl rfl rfl rfl (d_yardsInGame hT h0 (by omega) (by omega)) rfl rfl ?_
    refine w_istore (L' := [_, _, _, _, _]) rfl rfl rfl ?_
    refine w_iload rfl rfl rfl ?_
    refine w_iload_n rfl rfl rfl ?_
    refine w_ixor rfl rfl ?_
    refine w_iload rfl rfl rfl ?_
    refine w_ic_ge (t := 106) (f := 89) rfl rfl rfl (fun c86 => ?_) (fun c86 => ?_)
    · refine w_iinc (L' := [_, _, _, _, _]) rfl rfl rfl (am_incN 1) rfl ?_
      refine w_goto (pc' := 59) rfl rfl ?_
      rw [k_gf_s, if_neg c86]
      exact ih (r + 1) _ (by omega)
    · refine w_iload_n rfl rfl rfl ?_
      refine w_iconst (x := Int32.ofNat 1) rfl rfl (by decide) ?_
      refine w_ic_neN (t := 98) (f := 94) rfl rfl rfl (by omega) (by omega) (fun c91 => ?_) (fun c91 => ?_)
      · refine w_iload rfl rfl rfl ?_
        refine w_iload rfl rfl rfl ?_
        refine w_iload_n rfl rfl rfl ?_
        refine w_ixor rfl rfl ?_
        refine w_isub rfl rfl ?_
        exact w_iret rfl (by rw [k_gf_s, if_pos c86]; first | rw [if_pos c91] | rw [if_neg c91]) rfl rfl rfl
      · refine w_iload_n rfl rfl rfl ?_
        refine w_goto (pc' := 105) rfl rfl ?_
        exact w_iret rfl (by rw [k_gf_s, if_pos c86]; first | rw [if_pos c91] | rw [if_neg c91]) rfl rfl rfl
theorem d_game {k : Nat} {I : hI} {J : hJ} {R : hR} {T : Nat} (hT : T = 9 ∨ T = 36) (h0 : R 0 3 = T) {N : Nat → Nat} (t : ctk I T N) {w : Nat} (hw : w ≤ 2) (hk : 2 ≤ k) : ct k 134 [.ref 0, .int (Int32.ofNat w)] I J R (some (.int (k_game I T (N 1) w))) I J R := by
  obtain ⟨k, rfl⟩ : ∃ k', k = k' + 1 := ⟨k - 1, by omega⟩
  obtain ⟨⟨l1, l2, l3⟩, ⟨e5, e11, e3⟩, rM, tH, sM, ⟨e18, l18⟩, ⟨e21, l21⟩, ⟨e24, l24⟩⟩ := id t
  refine ct_of (q := am_m134) (o := 11) (rt := (some .int)) (co := am_c134) (L := [_, _, _, _, _]) rfl rfl rfl rfl rfl rfl ?_
  refine w_iload_n rfl rfl rfl ?_
  refine w_if_lt (t := 9) (f := 4) rfl rfl rfl (fun c1 => absurd c1 (fun c => absurd ((am_ltN (y := 0) (by omega) (by omega)).mp c) (Nat.not_lt_zero w))) (fun c1 => ?_)
  refine w_iload_n rfl rfl rfl ?_
  refine w_iconst (x := Int32.ofNat 2) rfl rfl (by decide) ?_
  refine w_ic_leN (t := 11) (f := 9) rfl rfl rfl (by omega) (by omega) (fun c6 => ?_) (fun c6 => absurd c6 (by omega))
  refine w_iconst (x := Int32.ofNat 0) rfl rfl (by decide) ?_
  refine w_istore_n (L' := [_, _, _, _, _]) rfl rfl rfl ?_
  refine w_iconst (x := Int32.ofNat 0) rfl rfl (by decide) ?_
  refine w_istore_n (L' := [_, _, _, _, _]) rfl rfl rfl ?_
  refine dl_game1 hT h0 l1 e5 (by omega) ?_ (N 1) 0 (by omega)
  refine w_iload_n rfl rfl rfl ?_
  refine w_if_ne (t := 57) (f := 47) rfl rfl rfl (fun c44 => ?_) (fun c44 => ?_)
  · refine w_iconst (x := Int32.ofNat 0) rfl rfl (by decide) ?_
    refine w_istore_n (L' := [_, _, _, _, _]) rfl rfl rfl ?_
    rw [show k_game I T (N 1) w = k_gf I T w (k_gx I T (N 1)) (N 1) 0 from if_neg (fun z => c44 (by rw [z]; rfl))]
    exact dl_game2 hT h0 l1 e5 hw (by omega) (N 1) 0 _ (by omega)
  · refine w_iload_n rfl rfl rfl ?_
    refine w_if_ne (t := 55) (f := 51) rfl rfl rfl (fun c48 => ?_) (fun c48 => ?_)
    · refine w_iconst (x := Int32.ofNat 0) rfl rfl (by decide) ?_
      exact w_iret rfl (by rw [show k_game I T (N 1) w = (if k_gx I T (N 1) = 0 then Int32.ofNat 1 else Int32.ofNat 0) from if_pos ((am_eqN (y := 0) (by omega) (by omega)).mp c44)]; first | rw [if_pos c48] | rw [if_neg c48]) rfl rfl rfl
    · refine w_iconst (x := Int32.ofNat 1) rfl rfl (by decide) ?_
      refine w_goto (pc' := 56) rfl rfl ?_
      exact w_iret rfl (by rw [show k_game I T (N 1) w = (if k_gx I T (N 1) = 0 then Int32.ofNat 1 else Int32.ofNat 0) from if_pos ((am_eqN (y := 0) (by omega) (by omega)).mp c44)]; first | rw [if_pos c48] | rw [if_neg c48]) rfl rfl rfl
theorem d_game_no {k : Nat} {I : hI} {J : hJ} {R : hR} {x : Int32} (hx : ¬ (¬ x < Int32.ofNat 0 ∧ ¬ Int32.ofNat 2 < x)) (hk : 1 ≤ k) : ct k 134 [.ref 0, .int x] I J R (some (.int (Int32.ofInt (-1)))) I J R := by
  obtain ⟨k, rfl⟩ : ∃ k', k = k' + 1 := ⟨k - 1, by omega⟩
  refine ct_of (q := am_m134) (o := 11) (rt := (some .int)) (co := am_c134) (L := [_, _, _, _, _]) rfl rfl rfl rfl rfl rfl ?_
  refine w_iload_n rfl rfl rfl ?_
  refine w_if_lt (t := 9) (f := 4) rfl rfl rfl (fun c1 => ?_) (fun c1 => ?_)
  · refine w_iconst (x := Int32.ofInt (-1)) rfl rfl (by decide) ?_
    exact w_iret rfl rfl rfl rfl rfl
  · refine w_iload_n rfl rfl rfl ?_
    refine w_iconst (x := Int32.ofNat 2) rfl rfl (by decide) ?_
    refine w_ic_le (t := 11) (f := 9) rfl rfl rfl (fun c6 => ?_) (fun c6 => ?_)
    · exact (hx ⟨c1, c6⟩).elim
    · refine w_iconst (x := Int32.ofInt (-1)) rfl rfl (by decide) ?_
      exact w_iret rfl rfl rfl rfl rfl
