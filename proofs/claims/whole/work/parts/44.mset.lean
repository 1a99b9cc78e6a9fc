/-! The reference: sets of ropes, the game, what is seen. -/
theorem am_shl {r : Nat} (h : r ≤ 10) : Int32.ofNat 1 <<< (Int32.ofNat r &&& 31) = Int32.ofNat (2 ^ r) := by
  have : ∀ r : Fin 11, Int32.ofNat 1 <<< (Int32.ofNat r.val &&& 31) = Int32.ofNat (2 ^ r.val) := by decide
  exact this ⟨r, by omega⟩
theorem am_pw {r : Nat} (h : r ≤ 10) : 2 ^ r ≤ 1024 := by
  have : ∀ r : Fin 11, 2 ^ r.val ≤ 1024 := by decide
  exact this ⟨r, by omega⟩
variable {k o : Nat} {rt : Option FieldType} {co : List (List (Nat × Instr × Nat))} {pc pc' : Nat} {L L' st st' : List Value} {I I' : hI} {J J' : hJ} {R R' : hR} {r : Option Value × am_H}
theorem w_shlN {x : Nat} (ei : am_ins co pc = some (.ishl, 1)) (hp : pc + 1 = pc') (h : x ≤ 10) (z : wz k o rt co pc' L (.int (Int32.ofNat (2 ^ x)) :: st) I J R r) : wz k o rt co pc L (.int (Int32.ofNat x) :: .int (Int32.ofNat 1) :: st) I J R r := by
  rw [← am_shl h] at z
  exact w_ishl ei hp z
theorem am_divN {x y : Nat} (hx : x < 2147483648) (hy : y < 2147483648) (h0 : 0 < y) : Int32.ofNat x / Int32.ofNat y = Int32.ofNat (x / y) := by
  have hq : x / y < 2147483648 := Nat.lt_of_le_of_lt (Nat.div_le_self _ _) hx
  rw [← Int32.toInt_inj, Int32.toInt_div_of_ne_right, Int32.toInt_ofNat_of_lt hx, Int32.toInt_ofNat_of_lt hy, Int32.toInt_ofNat_of_lt hq]
  · rfl
  · intro e
    have := Int32.toInt_inj.mpr e
    rw [Int32.toInt_ofNat_of_lt hy] at this
    have h1 : (-1 : Int32).toInt = -1 := rfl
    omega
theorem am_remN {x y : Nat} (hx : x < 2147483648) (hy : y < 2147483648) (h0 : 0 < y) : Int32.ofNat x - Int32.ofNat x / Int32.ofNat y * Int32.ofNat y = Int32.ofNat (x % y) := by
  rw [am_divN hx hy h0, ← Int32.ofNat_mul]
  have e1 : x = x % y + x / y * y := by have := Nat.mod_add_div x y; rw [Nat.mul_comm] at this; exact this.symm
  have e2 : Int32.ofNat x = Int32.ofNat (x % y) + Int32.ofNat (x / y * y) := by rw [← Int32.ofNat_add, ← e1]
  rw [e2, Int32.add_sub_cancel]
theorem w_idivN {x y : Nat} (ei : am_ins co pc = some (.idiv, 1)) (hp : pc + 1 = pc') (h : x < 2147483648 ∧ y < 2147483648 ∧ 0 < y) (z : wz k o rt co pc' L (.int (Int32.ofNat (x / y)) :: st) I J R r) : wz k o rt co pc L (.int (Int32.ofNat y) :: .int (Int32.ofNat x) :: st) I J R r := by
  rw [← am_divN h.1 h.2.1 h.2.2] at z
  exact w_idiv ei hp (fun e => by have := (am_eqN (y := 0) h.2.1 (by decide)).mp e; omega) z
theorem w_iremN {x y : Nat} (ei : am_ins co pc = some (.irem, 1)) (hp : pc + 1 = pc') (h : x < 2147483648 ∧ y < 2147483648 ∧ 0 < y) (z : wz k o rt co pc' L (.int (Int32.ofNat (x % y)) :: st) I J R r) : wz k o rt co pc L (.int (Int32.ofNat y) :: .int (Int32.ofNat x) :: st) I J R r := by
  rw [← am_remN h.1 h.2.1 h.2.2] at z
  exact w_irem ei hp (fun e => by have := (am_eqN (y := 0) h.2.1 (by decide)).mp e; omega) z
section
end
def m_spS (I : hI) (nr : Nat) (n : Int32) (r : Nat) (b : Int32) : Int32 := if m_yd I (Int32.ofNat r) nr 0 (Int32.ofNat 0) < n then b else if b < 0 ∨ m_many (Int32.ofNat r) 10 < m_many b 10 ∨ (m_many (Int32.ofNat r) 10 = m_many b 10 ∧ m_yd I (Int32.ofNat r) nr 0 (Int32.ofNat 0) < m_yd I b nr 0 (Int32.ofNat 0)) then Int32.ofNat r else b
def m_sp (I : hI) (nr : Nat) (n : Int32) (r : Nat) : Int32 := s_for (m_spS I nr n) r (Int32.ofInt (-1))
theorem m_sp_s (I : hI) (nr : Nat) (n : Int32) (r : Nat) : m_sp I nr n (r + 1) = m_spS I nr n r (m_sp I nr n r) := rfl
def m_ex (I : hI) (nr : Nat) (n : Int32) (r : Nat) : Int32 := s_for (fun r a => a + (if m_yd I (Int32.ofNat r) nr 0 (Int32.ofNat 0) = n then Int32.ofNat 1 else Int32.ofNat 0)) r (Int32.ofNat 0)
def m_splice (I : hI) (nr : Nat) (n w : Nat) : Int32 := if m_sp I nr (Int32.ofNat n) (2 ^ nr) < 0 then Int32.ofInt (-2) else if w = 0 then m_sp I nr (Int32.ofNat n) (2 ^ nr) else m_yd I (m_sp I nr (Int32.ofNat n) (2 ^ nr)) nr 0 (Int32.ofNat 0) - Int32.ofNat n
theorem l_splice {k : Nat} {I : hI} {J : hJ} {R : hR} {q : Option Value × am_H} {n w nr e2 : Nat} (he : e2 = 2 ^ nr) (hn : nr ≤ 8) (h13 : I 110 13 = Int32.ofNat nr) (hk : 2 ≤ k) (Z : ∀ (u : Value) (v : Value), wz k 12 (some .int) am_c253 119 [.ref 110, .int (Int32.ofNat n), .int (Int32.ofNat w), .int (m_sp I nr (Int32.ofNat n) e2), .int (Int32.ofNat e2), u, v] [] I J R q) : ∀ (j r : Nat) (u : Value) (v : Value), r + j = e2 → wz k 12 (some .int) am_c253 32 [.ref 110, .int (Int32.ofNat n), .int (Int32.ofNat w), .int (m_sp I nr (Int32.ofNat n) r), .int (Int32.ofNat r), u, v] [] I J R q := by
  intro j
  induction j with
  | zero =>
    intro r u v e
    obtain rfl : e2 = r := by omega
    have h9 := am_pw (show nr ≤ 10 by omega)
    refine w_iload rfl rfl rfl ?_
    refine w_iconst (x := Int32.ofNat 1) rfl rfl (by decide) ?_
    refine w_aload_n rfl rfl rfl ?_
    refine w_gf (t := .int 0) (v := .int _) rfl rfl rfl sp110 rfl (congrArg Value.int h13) rfl ?_
    refine w_shlN rfl rfl (by omega) ?_
    refine w_ic_geN (t := 119) (f := 43) rfl rfl rfl (by omega) (by omega) (fun c40 => ?_) (fun c40 => absurd c40 (by omega))
    exact Z _ _
  | succ j ih =>
    intro r u v e
    have h9 := am_pw (show nr ≤ 10 by omega)
    refine w_iload rfl rfl rfl ?_
    refine w_iconst (x := Int32.ofNat 1) rfl rfl (by decide) ?_
    refine w_aload_n rfl rfl rfl ?_
    refine w_gf (t := .int 0) (v := .int _) rfl rfl rfl sp110 rfl (congrArg Value.int h13) rfl ?_
    refine w_shlN rfl rfl (by omega) ?_
    refine w_ic_geN (t := 119) (f := 43) rfl rfl rfl (by omega) (by omega) (fun c40 => absurd c40 (by omega)) (fun c40 => ?_)
    refine w_aload_n rfl rfl rfl ?_
    refine w_iload rfl rfl rfl ?_
    refine w_cv (q := am_m252) (as := [_]) (rest := []) (st' := [_]) rfl rfl rfl rfl rfl rfl sp110 rfl rfl rfl rfl (c_yardsOf hn h13 (by omega)) rfl rfl ?_
    refine w_istore (L' := [_, _, _, _, _, _, _]) rfl rfl rfl ?_
    refine w_iload rfl rfl rfl ?_
    refine w_iload_n rfl rfl rfl ?_
    refine w_ic_ge (t := 60) (f := 57) rfl rfl rfl (fun c54 => ?_) (fun c54 => ?_)
    · refine w_iload_n rfl rfl rfl ?_
      refine w_if_lt (t := 98) (f := 64) rfl rfl rfl (fun c61 => ?_) (fun c61 => ?_)
      · refine w_iconst (x := Int32.ofNat 1) rfl rfl (by decide) ?_
        refine w_goto (pc' := 103) rfl rfl ?_
        refine w_istore (L' := [_, _, _, _, _, _, _]) rfl rfl rfl ?_
        refine w_iload rfl rfl rfl ?_
        refine w_if_eq (t := 113) (f := 110) rfl rfl rfl (fun c107 => absurd c107 (by decide)) (fun c107 => ?_)
        clear c107
        refine w_iload rfl rfl rfl ?_
        refine w_istore_n (L' := [_, _, _, _, _, _, _]) rfl rfl rfl ?_
        refine w_iinc (L' := [_, _, _, _, _, _, _]) rfl rfl rfl (am_incN 1) rfl ?_
        refine w_goto (pc' := 32) rfl rfl ?_
        exact wz_L (ih (r + 1) _ _ (by omega)) (by rw [m_sp_s]; unfold m_spS; simp only [*, ite_true, ite_false, and_self, and_true, true_and, and_false, false_and, or_true, true_or, or_false, false_or, not_true, not_false_iff, Int32.lt_irrefl] <;> rfl)
      · refine w_iload rfl rfl rfl ?_
        refine w_cs (q := am_m251) (na := 1) (as := [_]) (st' := [_]) rfl rfl rfl rfl (by decide) rfl rfl (Nat.le_of_ble_eq_true rfl) rfl rfl rfl (c_manyOf (by omega)) rfl rfl ?_
        refine w_iload_n rfl rfl rfl ?_
        refine w_cs (q := am_m251) (na := 1) (as := [_]) (st' := [_, _]) rfl rfl rfl rfl (by decide) rfl rfl (Nat.le_of_ble_eq_true rfl) rfl rfl rfl (c_manyOf (by omega)) rfl rfl ?_
        refine w_ic_lt (t := 98) (f := 76) rfl rfl rfl (fun c73 => ?_) (fun c73 => ?_)
        · refine w_iconst (x := Int32.ofNat 1) rfl rfl (by decide) ?_
          refine w_goto (pc' := 103) rfl rfl ?_
          refine w_istore (L' := [_, _, _, _, _, _, _]) rfl rfl rfl ?_
          refine w_iload rfl rfl rfl ?_
          refine w_if_eq (t := 113) (f := 110) rfl rfl rfl (fun c107 => absurd c107 (by decide)) (fun c107 => ?_)
          clear c107
          refine w_iload rfl rfl rfl ?_
          refine w_istore_n (L' := [_, _, _, _, _, _, _]) rfl rfl rfl ?_
          refine w_iinc (L' := [_, _, _, _, _, _, _]) rfl rfl rfl (am_incN 1) rfl ?_
          refine w_goto (pc' := 32) rfl rfl ?_
          exact wz_L (ih (r + 1) _ _ (by omega)) (by rw [m_sp_s]; unfold m_spS; simp only [*, ite_true, ite_false, and_self, and_true, true_and, and_false, false_and, or_true, true_or, or_false, false_or, not_true, not_false_iff, Int32.lt_irrefl] <;> rfl)
        · refine w_iload rfl rfl rfl ?_
          refine w_cs (q := am_m251) (na := 1) (as := [_]) (st' := [_]) rfl rfl rfl rfl (by decide) rfl rfl (Nat.le_of_ble_eq_true rfl) rfl rfl rfl (c_manyOf (by omega)) rfl rfl ?_
          refine w_iload_n rfl rfl rfl ?_
          refine w_cs (q := am_m251) (na := 1) (as := [_]) (st' := [_, _]) rfl rfl rfl rfl (by decide) rfl rfl (Nat.le_of_ble_eq_true rfl) rfl rfl rfl (c_manyOf (by omega)) rfl rfl ?_
          refine w_ic_ne (t := 102) (f := 88) rfl rfl rfl (fun c85 => ?_) (fun c85 => ?_)
          · refine w_iconst (x := Int32.ofNat 0) rfl rfl (by decide) ?_
            refine w_istore (L' := [_, _, _, _, _, _, _]) rfl rfl rfl ?_
            refine w_iload rfl rfl rfl ?_
            refine w_if_eq (t := 113) (f := 110) rfl rfl rfl (fun c107 => ?_) (fun c107 => absurd c107 (by decide))
            clear c107
            refine w_iinc (L' := [_, _, _, _, _, _, _]) rfl rfl rfl (am_incN 1) rfl ?_
            refine w_goto (pc' := 32) rfl rfl ?_
            exact wz_L (ih (r + 1) _ _ (by omega)) (by rw [m_sp_s]; unfold m_spS; simp only [*, ite_true, ite_false, and_self, and_true, true_and, and_false, false_and, or_true, true_or, or_false, false_or, not_true, not_false_iff, Int32.lt_irrefl] <;> rfl)
          · refine w_iload rfl rfl rfl ?_
            refine w_aload_n rfl rfl rfl ?_
            refine w_iload_n rfl rfl rfl ?_
            refine w_cv (q := am_m252) (as := [_]) (rest := [_]) (st' := [_, _]) rfl rfl rfl rfl rfl rfl sp110 rfl rfl rfl rfl (c_yardsOf hn h13 (by omega)) rfl rfl ?_
            refine w_ic_ge (t := 102) (f := 98) rfl rfl rfl (fun c95 => ?_) (fun c95 => ?_)
            · refine w_iconst (x := Int32.ofNat 0) rfl rfl (by decide) ?_
              refine w_istore (L' := [_, _, _, _, _, _, _]) rfl rfl rfl ?_
              refine w_iload rfl rfl rfl ?_
              refine w_if_eq (t := 113) (f := 110) rfl rfl rfl (fun c107 => ?_) (fun c107 => absurd c107 (by decide))
              clear c107
              refine w_iinc (L' := [_, _, _, _, _, _, _]) rfl rfl rfl (am_incN 1) rfl ?_
              refine w_goto (pc' := 32) rfl rfl ?_
              exact wz_L (ih (r + 1) _ _ (by omega)) (by rw [m_sp_s]; unfold m_spS; simp only [*, ite_true, ite_false, and_self, and_true, true_and, and_false, false_and, or_true, true_or, or_false, false_or, not_true, not_false_iff, Int32.lt_irrefl] <;> rfl)
            · refine w_iconst (x := Int32.ofNat 1) rfl rfl (by decide) ?_
              refine w_goto (pc' := 103) rfl rfl ?_
              refine w_istore (L' := [_, _, _, _, _, _, _]) rfl rfl rfl ?_
              refine w_iload rfl rfl rfl ?_
              refine w_if_eq (t := 113) (f := 110) rfl rfl rfl (fun c107 => absurd c107 (by decide)) (fun c107 => ?_)
              clear c107
              refine w_iload rfl rfl rfl ?_
              refine w_istore_n (L' := [_, _, _, _, _, _, _]) rfl rfl rfl ?_
              refine w_iinc (L' := [_, _, _, _, _, _, _]) rfl rfl rfl (am_incN 1) rfl ?_
              refine w_goto (pc' := 32) rfl rfl ?_
              exact wz_L (ih (r + 1) _ _ (by omega)) (by rw [m_sp_s]; unfold m_spS; simp only [*, ite_true, ite_false, and_self, and_true, true_and, and_false, false_and, or_true, true_or, or_false, false_or, not_true, not_false_iff, Int32.lt_irrefl] <;> rfl)
    · refine w_goto (pc' := 113) rfl rfl ?_
      refine w_iinc (L' := [_, _, _, _, _, _, _]) rfl rfl rfl (am_incN 1) rfl ?_
      refine w_goto (pc' := 32) rfl rfl ?_
      exact wz_L (ih (r + 1) _ _ (by omega)) (by rw [m_sp_s]; unfold m_spS; simp only [*, ite_true, ite_false, and_self, and_true, true_and, and_false, false_and, or_true, true_or, or_false, false_or, not_true, not_false_iff, Int32.lt_irrefl] <;> rfl)
theorem c_splice {k : Nat} {I : hI} {J : hJ} {R : hR} {N : Nat → Nat} (t : tok I N) {n w : Nat} (h1 : 1 ≤ n) (h2 : n ≤ 792) (hw : w ≤ 1) (hk : 3 ≤ k) : ct k 253 [.ref 110, .int (Int32.ofNat n), .int (Int32.ofNat w)] I J R (some (.int (m_splice (m_z I) (N 1) n w))) (m_z I) J R := by
  obtain ⟨k, rfl⟩ : ∃ k', k = k' + 1 := ⟨k - 1, by omega⟩
  have hn := t.1.2.1
  have h13 := t.2.1.2.1
  have hn2 := t.1.2.2.1
  have h14 := t.2.1.2.2.1
  have t1 := tok_z t
  refine ct_of (q := am_m253) (L := [_, _, _, _, _, _, _]) rfl rfl rfl rfl rfl rfl ?_
  refine w_aload_n rfl rfl rfl ?_
  refine w_iconst (x := Int32.ofNat 0) rfl rfl (by decide) ?_
  refine w_pf rfl rfl rfl sp110 rfl rfl rfl ?_
  refine w_iload_n rfl rfl rfl ?_
  refine w_iconst (x := Int32.ofNat 1) rfl rfl (by decide) ?_
  refine w_sipush (x := Int32.ofNat 792) rfl rfl (by decide) ?_
  refine w_cs (q := am_m168) (na := 3) (as := [_, _, _]) (st' := [_]) rfl rfl rfl rfl (by decide) rfl rfl (Nat.le_of_ble_eq_true rfl) rfl rfl rfl (c_isIn (by omega)) rfl rfl ?_
  refine w_if_eqB (t := 25) (f := 16) rfl rfl rfl (fun c13 => absurd c13 (inok h1 h2 (by decide))) (fun c13 => ?_)
  refine w_iload_n rfl rfl rfl ?_
  refine w_iconst (x := Int32.ofNat 0) rfl rfl (by decide) ?_
  refine w_iconst (x := Int32.ofNat 1) rfl rfl (by decide) ?_
  refine w_cs (q := am_m168) (na := 3) (as := [_, _, _]) (st' := [_]) rfl rfl rfl rfl (by decide) rfl rfl (Nat.le_of_ble_eq_true rfl) rfl rfl rfl (c_isIn (by omega)) rfl rfl ?_
  refine w_if_neB (t := 27) (f := 25) rfl rfl rfl (fun c22 => ?_) (fun c22 => absurd c22 (inok (Nat.zero_le _) hw (by decide)))
  refine w_iconst (x := Int32.ofInt (-1)) rfl rfl (by decide) ?_
  refine w_istore_n (L' := [_, _, _, _, _, _, _]) rfl rfl rfl ?_
  refine w_iconst (x := Int32.ofNat 0) rfl rfl (by decide) ?_
  refine w_istore (L' := [_, _, _, _, _, _, _]) rfl rfl rfl ?_
  refine l_splice (I := m_z I) rfl hn t1.2.1.2.1 (by omega) (fun u v => ?_) (2 ^ N 1) 0 _ _ (by omega)
  refine w_iload_n rfl rfl rfl ?_
  refine w_if_ge (t := 128) (f := 123) rfl rfl rfl (fun c120 => ?_) (fun c120 => ?_)
  · refine w_iload_n rfl rfl rfl ?_
    refine w_if_ne (t := 136) (f := 132) rfl rfl rfl (fun c129 => ?_) (fun c129 => ?_)
    · refine w_aload_n rfl rfl rfl ?_
      refine w_iload_n rfl rfl rfl ?_
      refine w_cv (q := am_m252) (as := [_]) (rest := []) (st' := [_]) rfl rfl rfl rfl rfl rfl sp110 rfl rfl rfl rfl (c_yardsOf hn t1.2.1.2.1 (by omega)) rfl rfl ?_
      refine w_iload_n rfl rfl rfl ?_
      refine w_isub rfl rfl ?_
      exact w_iret rfl (by unfold m_splice; first | rw [if_pos c120] | (rw [if_neg c120]; first | rw [if_pos ((am_w0 (by omega)).mp c129)] | rw [if_neg (fun z => c129 ((am_w0 (by omega)).mpr z))])) rfl rfl rfl
    · refine w_iload_n rfl rfl rfl ?_
      refine w_goto (pc' := 143) rfl rfl ?_
      exact w_iret rfl (by unfold m_splice; first | rw [if_pos c120] | (rw [if_neg c120]; first | rw [if_pos ((am_w0 (by omega)).mp c129)] | rw [if_neg (fun z => c129 ((am_w0 (by omega)).mpr z))])) rfl rfl rfl
  · refine w_bipush (x := Int32.ofInt (-2)) rfl rfl (by decide) ?_
    refine w_goto (pc' := 143) rfl rfl ?_
    exact w_iret rfl (by unfold m_splice; first | rw [if_pos c120] | (rw [if_neg c120]; first | rw [if_pos ((am_w0 (by omega)).mp c129)] | rw [if_neg (fun z => c129 ((am_w0 (by omega)).mpr z))])) rfl rfl rfl
theorem c_splice_no {k : Nat} {I : hI} {J : hJ} {R : hR} {x y : Int32} (hx : ¬ ((¬ x < Int32.ofNat 1 ∧ ¬ Int32.ofNat 792 < x) ∧ ¬ y < Int32.ofNat 0 ∧ ¬ Int32.ofNat 1 < y)) (hk : 2 ≤ k) : ct k 253 [.ref 110, .int x, .int y] I J R (some (.int (Int32.ofInt (-1)))) (m_z I) J R := by
  obtain ⟨k, rfl⟩ : ∃ k', k = k' + 1 := ⟨k - 1, by omega⟩
  refine ct_of (q := am_m253) (L := [_, _, _, _, _, _, _]) rfl rfl rfl rfl rfl rfl ?_
  refine w_aload_n rfl rfl rfl ?_
  refine w_iconst (x := Int32.ofNat 0) rfl rfl (by decide) ?_
  refine w_pf rfl rfl rfl sp110 rfl rfl rfl ?_
  refine w_iload_n rfl rfl rfl ?_
  refine w_iconst (x := Int32.ofNat 1) rfl rfl (by decide) ?_
  refine w_sipush (x := Int32.ofNat 792) rfl rfl (by decide) ?_
  refine w_cs (q := am_m168) (na := 3) (as := [_, _, _]) (st' := [_]) rfl rfl rfl rfl (by decide) rfl rfl (Nat.le_of_ble_eq_true rfl) rfl rfl rfl (c_isIn (by omega)) rfl rfl ?_
  refine w_if_eqB (t := 25) (f := 16) rfl rfl rfl (fun c13 => ?_) (fun c13 => ?_)
  · refine w_iconst (x := Int32.ofInt (-1)) rfl rfl (by decide) ?_
    exact w_iret rfl rfl rfl rfl rfl
  · refine w_iload_n rfl rfl rfl ?_
    refine w_iconst (x := Int32.ofNat 0) rfl rfl (by decide) ?_
    refine w_iconst (x := Int32.ofNat 1) rfl rfl (by decide) ?_
    refine w_cs (q := am_m168) (na := 3) (as := [_, _, _]) (st' := [_]) rfl rfl rfl rfl (by decide) rfl rfl (Nat.le_of_ble_eq_true rfl) rfl rfl rfl (c_isIn (by omega)) rfl rfl ?_
    refine w_if_neB (t := 27) (f := 25) rfl rfl rfl (fun c22 => ?_) (fun c22 => ?_)
    · exact (hx ⟨c13, c22⟩).elim
    · refine w_iconst (x := Int32.ofInt (-1)) rfl rfl (by decide) ?_
      exact w_iret rfl rfl rfl rfl rfl
theorem l_exact {k : Nat} {I : hI} {J : hJ} {R : hR} {q : Option Value × am_H} {n nr e2 : Nat} (he : e2 = 2 ^ nr) (hn : nr ≤ 8) (h13 : I 110 13 = Int32.ofNat nr) (hk : 2 ≤ k) (Z : wz k 12 (some .int) am_c254 55 [.ref 110, .int (Int32.ofNat n), .int (m_ex I nr (Int32.ofNat n) e2), .int (Int32.ofNat e2)] [] I J R q) : ∀ (j r : Nat) , r + j = e2 → wz k 12 (some .int) am_c254 22 [.ref 110, .int (Int32.ofNat n), .int (m_ex I nr (Int32.ofNat n) r), .int (Int32.ofNat r)] [] I J R q := by
  intro j
  induction j with
  | zero =>
    intro r e
    obtain rfl : e2 = r := by omega
    have h9 := am_pw (show nr ≤ 10 by omega)
    refine w_iload_n rfl rfl rfl ?_
    refine w_iconst (x := Int32.ofNat 1) rfl rfl (by decide) ?_
    refine w_aload_n rfl rfl rfl ?_
    refine w_gf (t := .int 0) (v := .int _) rfl rfl rfl sp110 rfl (congrArg Value.int h13) rfl ?_
    refine w_shlN rfl rfl (by omega) ?_
    refine w_ic_geN (t := 55) (f := 32) rfl rfl rfl (by omega) (by omega) (fun c29 => ?_) (fun c29 => absurd c29 (by omega))
    exact Z
  | succ j ih =>
    intro r e
    have h9 := am_pw (show nr ≤ 10 by omega)
    refine w_iload_n rfl rfl rfl ?_
    refine w_iconst (x := Int32.ofNat 1) rfl rfl (by decide) ?_
    refine w_aload_n rfl rfl rfl ?_
    refine w_gf (t := .int 0) (v := .int _) rfl rfl rfl sp110 rfl (congrArg Value.int h13) rfl ?_
    refine w_shlN rfl rfl (by omega) ?_
    refine w_ic_geN (t := 55) (f := 32) rfl rfl rfl (by omega) (by omega) (fun c29 => absurd c29 (by omega)) (fun c29 => ?_)
    refine w_iload_n rfl rfl rfl ?_
    refine w_aload_n rfl rfl rfl ?_
    refine w_iload_n rfl rfl rfl ?_
    refine w_cv (q := am_m252) (as := [_]) (rest := [_]) (st' := [_, _]) rfl rfl rfl rfl rfl rfl sp110 rfl rfl rfl rfl (c_yardsOf hn h13 (by omega)) rfl rfl ?_
    refine w_iload_n rfl rfl rfl ?_
    refine w_ic_ne (t := 46) (f := 42) rfl rfl rfl (fun c39 => ?_) (fun c39 => ?_)
    · refine w_iconst (x := Int32.ofNat 0) rfl rfl (by decide) ?_
      refine w_iadd rfl rfl ?_
      refine w_istore_n (L' := [_, _, _, _]) rfl rfl rfl ?_
      refine w_iinc (L' := [_, _, _, _]) rfl rfl rfl (am_incN 1) rfl ?_
      refine w_goto (pc' := 22) rfl rfl ?_
      exact wz_L (ih (r + 1) (by omega)) (by simp only [m_ex, s_for, c39, ite_true, ite_false])
    · refine w_iconst (x := Int32.ofNat 1) rfl rfl (by decide) ?_
      refine w_goto (pc' := 47) rfl rfl ?_
      refine w_iadd rfl rfl ?_
      refine w_istore_n (L' := [_, _, _, _]) rfl rfl rfl ?_
      refine w_iinc (L' := [_, _, _, _]) rfl rfl rfl (am_incN 1) rfl ?_
      refine w_goto (pc' := 22) rfl rfl ?_
      exact wz_L (ih (r + 1) (by omega)) (by simp only [m_ex, s_for, c39, ite_true, ite_false])
theorem c_exact {k : Nat} {I : hI} {J : hJ} {R : hR} {N : Nat → Nat} (t : tok I N) {n : Nat} (h2 : n ≤ 792) (hk : 3 ≤ k) : ct k 254 [.ref 110, .int (Int32.ofNat n)] I J R (some (.int (m_ex (m_z I) (N 1) (Int32.ofNat n) (2 ^ N 1)))) (m_z I) J R := by
  obtain ⟨k, rfl⟩ : ∃ k', k = k' + 1 := ⟨k - 1, by omega⟩
  have hn := t.1.2.1
  have h13 := t.2.1.2.1
  have hn2 := t.1.2.2.1
  have h14 := t.2.1.2.2.1
  have t1 := tok_z t
  refine ct_of (q := am_m254) (L := [_, _, _, _]) rfl rfl rfl rfl rfl rfl ?_
  refine w_aload_n rfl rfl rfl ?_
  refine w_iconst (x := Int32.ofNat 0) rfl rfl (by decide) ?_
  refine w_pf rfl rfl rfl sp110 rfl rfl rfl ?_
  refine w_iload_n rfl rfl rfl ?_
  refine w_iconst (x := Int32.ofNat 0) rfl rfl (by decide) ?_
  refine w_sipush (x := Int32.ofNat 792) rfl rfl (by decide) ?_
  refine w_cs (q := am_m168) (na := 3) (as := [_, _, _]) (st' := [_]) rfl rfl rfl rfl (by decide) rfl rfl (Nat.le_of_ble_eq_true rfl) rfl rfl rfl (c_isIn (by omega)) rfl rfl ?_
  refine w_if_neB (t := 18) (f := 16) rfl rfl rfl (fun c13 => ?_) (fun c13 => absurd c13 (inok (Nat.zero_le _) h2 (by decide)))
  refine w_iconst (x := Int32.ofNat 0) rfl rfl (by decide) ?_
  refine w_istore_n (L' := [_, _, _, _]) rfl rfl rfl ?_
  refine w_iconst (x := Int32.ofNat 0) rfl rfl (by decide) ?_
  refine w_istore_n (L' := [_, _, _, _]) rfl rfl rfl ?_
  refine l_exact (I := m_z I) rfl hn t1.2.1.2.1 (by omega) ?_ (2 ^ N 1) 0 (by omega)
  refine w_iload_n rfl rfl rfl ?_
  exact w_iret rfl rfl rfl rfl rfl
theorem c_exact_no {k : Nat} {I : hI} {J : hJ} {R : hR} {x : Int32} (hx : ¬ (¬ x < Int32.ofNat 0 ∧ ¬ Int32.ofNat 792 < x)) (hk : 2 ≤ k) : ct k 254 [.ref 110, .int x] I J R (some (.int (Int32.ofInt (-1)))) (m_z I) J R := by
  obtain ⟨k, rfl⟩ : ∃ k', k = k' + 1 := ⟨k - 1, by omega⟩
  refine ct_of (q := am_m254) (L := [_, _, _, _]) rfl rfl rfl rfl rfl rfl ?_
  refine w_aload_n rfl rfl rfl ?_
  refine w_iconst (x := Int32.ofNat 0) rfl rfl (by decide) ?_
  refine w_pf rfl rfl rfl sp110 rfl rfl rfl ?_
  refine w_iload_n rfl rfl rfl ?_
  refine w_iconst (x := Int32.ofNat 0) rfl rfl (by decide) ?_
  refine w_sipush (x := Int32.ofNat 792) rfl rfl (by decide) ?_
  refine w_cs (q := am_m168) (na := 3) (as := [_, _, _]) (st' := [_]) rfl rfl rfl rfl (by decide) rfl rfl (Nat.le_of_ble_eq_true rfl) rfl rfl rfl (c_isIn (by omega)) rfl rfl ?_
  refine w_if_neB (t := 18) (f := 16) rfl rfl rfl (fun c13 => absurd c13 hx) (fun c13 => ?_)
  refine w_iconst (x := Int32.ofInt (-1)) rfl rfl (by decide) ?_
  exact w_iret rfl rfl rfl rfl rfl
def m_gx (I : hI) (r : Nat) : Int32 := s_for (fun r a => a ^^^ (if I 138 r = Int32.ofNat 1 then I 120 r else Int32.ofNat 0)) r (Int32.ofNat 0)
/-- the first rope that can be hauled -/
def m_gf (I : hI) (w : Nat) (x : Int32) : Nat → Nat → Int32
  | 0, _ => Int32.ofInt (-2)
  | j + 1, r => if I 138 r = Int32.ofNat 1 ∧ I 120 r ^^^ x < I 120 r then (if w = 0 then Int32.ofNat 0 else if w = 1 then Int32.ofNat r else I 120 r - (I 120 r ^^^ x)) else m_gf I w x j (r + 1)
theorem m_gf_s (I : hI) (w : Nat) (x : Int32) (j r : Nat) : m_gf I w x (j + 1) r = if I 138 r = Int32.ofNat 1 ∧ I 120 r ^^^ x < I 120 r then (if w = 0 then Int32.ofNat 0 else if w = 1 then Int32.ofNat r else I 120 r - (I 120 r ^^^ x)) else m_gf I w x j (r + 1) := rfl
def m_game (I : hI) (n w : Nat) : Int32 := if m_gx I n = 0 then (if w = 0 then Int32.ofNat 1 else Int32.ofInt (-2)) else m_gf I w (m_gx I n) n 0
theorem l_game1 {k : Nat} {I : hI} {J : hJ} {R : hR} {q : Option Value × am_H} {n w : Nat} (hn : n ≤ 8) (h13 : I 110 13 = Int32.ofNat n) (Z : wz k 12 (some .int) am_c258 57 [.ref 110, .int (Int32.ofNat w), .int (m_gx I n), .int (Int32.ofNat n), am_un] [] I J R q) : ∀ (j r : Nat) , r + j = n → wz k 12 (some .int) am_c258 20 [.ref 110, .int (Int32.ofNat w), .int (m_gx I r), .int (Int32.ofNat r), am_un] [] I J R q := by
  intro j
  induction j with
  | zero =>
    intro r e
    obtain rfl : n = r := by omega
    refine w_iload_n rfl rfl rfl ?_
    refine w_aload_n rfl rfl rfl ?_
    refine w_gf (t := .int 0) (v := .int _) rfl rfl rfl sp110 rfl (congrArg Value.int h13) rfl ?_
    refine w_ic_geN (t := 57) (f := 28) rfl rfl rfl (by omega) (by omega) (fun c25 => ?_) (fun c25 => absurd c25 (by omega))
    exact Z
  | succ j ih =>
    intro r e
    refine w_iload_n rfl rfl rfl ?_
    refine w_aload_n rfl rfl rfl ?_
    refine w_gf (t := .int 0) (v := .int _) rfl rfl rfl sp110 rfl (congrArg Value.int h13) rfl ?_
    refine w_ic_geN (t := 57) (f := 28) rfl rfl rfl (by omega) (by omega) (fun c25 => absurd c25 (by omega)) (fun c25 => ?_)
    refine w_iload_n rfl rfl rfl ?_
    refine w_aload_n rfl rfl rfl ?_
    refine w_gf (t := .ref (138)) (v := .ref (138)) rfl rfl rfl sp110 rfl rfl rfl ?_
    refine w_iload_n rfl rfl rfl ?_
    refine w_iaload rfl rfl sp138 rfl ⟨by omega, by omega⟩ rfl ?_
    refine w_iconst (x := Int32.ofNat 1) rfl rfl (by decide) ?_
    refine w_ic_ne (t := 48) (f := 39) rfl rfl rfl (fun c36 => ?_) (fun c36 => ?_)
    · refine w_iconst (x := Int32.ofNat 0) rfl rfl (by decide) ?_
      refine w_ixor rfl rfl ?_
      refine w_istore_n (L' := [_, _, _, _, _]) rfl rfl rfl ?_
      refine w_iinc (L' := [_, _, _, _, _]) rfl rfl rfl (am_incN 1) rfl ?_
      refine w_goto (pc' := 20) rfl rfl ?_
      exact wz_L (ih (r + 1) (by omega)) (by simp only [m_gx, s_for, c36, ite_true, ite_false])
    · refine w_aload_n rfl rfl rfl ?_
      refine w_gf (t := .ref (120)) (v := .ref (120)) rfl rfl rfl sp110 rfl rfl rfl ?_
      refine w_iload_n rfl rfl rfl ?_
      refine w_iaload rfl rfl sp120 rfl ⟨by omega, by omega⟩ rfl ?_
      refine w_goto (pc' := 49) rfl rfl ?_
      refine w_ixor rfl rfl ?_
      refine w_istore_n (L' := [_, _, _, _, _]) rfl rfl rfl ?_
      refine w_iinc (L' := [_, _, _, _, _]) rfl rfl rfl (am_incN 1) rfl ?_
      refine w_goto (pc' := 20) rfl rfl ?_
      exact wz_L (ih (r + 1) (by omega)) (by simp only [m_gx, s_for, c36, ite_true, ite_false])
theorem l_game2 {k : Nat} {I : hI} {J : hJ} {R : hR} {n w : Nat} {x : Int32} (hw : w ≤ 2) (hn : n ≤ 8) (h13 : I 110 13 = Int32.ofNat n) : ∀ (j r : Nat) (u : Value), r + j = n → wz k 12 (some .int) am_c258 74 [.ref 110, .int (Int32.ofNat w), .int x, .int (Int32.ofNat r), u] [] I J R (some (.int (m_gf I w x j r)), am_hp I J R) := by
  intro j
  induction j with
  | zero =>
    intro r u e
    obtain rfl : n = r := by omega
    refine w_iload_n rfl rfl rfl ?_
    refine w_aload_n rfl rfl rfl ?_
    refine w_gf (t := .int 0) (v := .int _) rfl rfl rfl sp110 rfl (congrArg Value.int h13) rfl ?_
    refine w_ic_geN (t := 149) (f := 82) rfl rfl rfl (by omega) (by omega) (fun c79 => ?_) (fun c79 => absurd c79 (by omega))
    refine w_bipush (x := Int32.ofInt (-2)) rfl rfl (by decide) ?_
    exact w_iret rfl rfl rfl rfl rfl
  | succ j ih =>
    intro r u e
    rw [m_gf_s]
    refine w_iload_n rfl rfl rfl ?_
    refine w_aload_n rfl rfl rfl ?_
    refine w_gf (t := .int 0) (v := .int _) rfl rfl rfl sp110 rfl (congrArg Value.int h13) rfl ?_
    refine w_ic_geN (t := 149) (f := 82) rfl rfl rfl (by omega) (by omega) (fun c79 => absurd c79 (by omega)) (fun c79 => ?_)
    refine w_aload_n rfl rfl rfl ?_
    refine w_gf (t := .ref (120)) (v := .ref (120)) rfl rfl rfl sp110 rfl rfl rfl ?_
    refine w_iload_n rfl rfl rfl ?_
    refine w_iaload rfl rfl sp120 rfl ⟨by omega, by omega⟩ rfl ?_
    refine w_iload_n rfl rfl rfl ?_
    refine w_ixor rfl rfl ?_
    refine w_istore (L' := [_, _, _, _, _]) rfl rfl rfl ?_
    refine w_aload_n rfl rfl rfl ?_
    refine w_gf (t := .ref (138)) (v := .ref (138)) rfl rfl rfl sp110 rfl rfl rfl ?_
    refine w_iload_n rfl rfl rfl ?_
    refine w_iaload rfl rfl sp138 rfl ⟨by omega, by omega⟩ rfl ?_
    refine w_iconst (x := Int32.ofNat 1) rfl rfl (by decide) ?_
    refine w_ic_ne (t := 143) (f := 102) rfl rfl rfl (fun c99 => ?_) (fun c99 => ?_)
    · refine w_iinc (L' := [_, _, _, _, _]) rfl rfl rfl (am_incN 1) rfl ?_
      refine w_goto (pc' := 74) rfl rfl ?_
      exact wz_r (ih (r + 1) _ (by omega)) (by first | rw [if_neg (fun z => c99 z.1)] | rw [if_neg (fun z => c110 z.2)])
    · refine w_iload rfl rfl rfl ?_
      refine w_aload_n rfl rfl rfl ?_
      refine w_gf (t := .ref (120)) (v := .ref (120)) rfl rfl rfl sp110 rfl rfl rfl ?_
      refine w_iload_n rfl rfl rfl ?_
      refine w_iaload rfl rfl sp120 rfl ⟨by omega, by omega⟩ rfl ?_
      refine w_ic_lt (t := 116) (f := 113) rfl rfl rfl (fun c110 => ?_) (fun c110 => ?_)
      · refine w_iload_n rfl rfl rfl ?_
        refine w_if_ne (t := 124) (f := 120) rfl rfl rfl (fun c117 => ?_) (fun c117 => ?_)
        · refine w_iload_n rfl rfl rfl ?_
          refine w_iconst (x := Int32.ofNat 1) rfl rfl (by decide) ?_
          refine w_ic_neN (t := 133) (f := 129) rfl rfl rfl (by omega) (by omega) (fun c126 => ?_) (fun c126 => ?_)
          · refine w_aload_n rfl rfl rfl ?_
            refine w_gf (t := .ref (120)) (v := .ref (120)) rfl rfl rfl sp110 rfl rfl rfl ?_
            refine w_iload_n rfl rfl rfl ?_
            refine w_iaload rfl rfl sp120 rfl ⟨by omega, by omega⟩ rfl ?_
            refine w_iload rfl rfl rfl ?_
            refine w_isub rfl rfl ?_
            exact w_iret rfl (by rw [if_pos ⟨c99, c110⟩]; first | rw [if_pos ((am_w0 (by omega)).mp c117)] | (rw [if_neg (fun z => c117 ((am_w0 (by omega)).mpr z))]; first | rw [if_pos c126] | rw [if_neg c126])) rfl rfl rfl
          · refine w_iload_n rfl rfl rfl ?_
            refine w_goto (pc' := 142) rfl rfl ?_
            exact w_iret rfl (by rw [if_pos ⟨c99, c110⟩]; first | rw [if_pos ((am_w0 (by omega)).mp c117)] | (rw [if_neg (fun z => c117 ((am_w0 (by omega)).mpr z))]; first | rw [if_pos c126] | rw [if_neg c126])) rfl rfl rfl
        · refine w_iconst (x := Int32.ofNat 0) rfl rfl (by decide) ?_
          refine w_goto (pc' := 142) rfl rfl ?_
          exact w_iret rfl (by rw [if_pos ⟨c99, c110⟩]; first | rw [if_pos ((am_w0 (by omega)).mp c117)] | (rw [if_neg (fun z => c117 ((am_w0 (by omega)).mpr z))]; first | rw [if_pos c126] | rw [if_neg c126])) rfl rfl rfl
      · refine w_goto (pc' := 143) rfl rfl ?_
        refine w_iinc (L' := [_, _, _, _, _]) rfl rfl rfl (am_incN 1) rfl ?_
        refine w_goto (pc' := 74) rfl rfl ?_
        exact wz_r (ih (r + 1) _ (by omega)) (by first | rw [if_neg (fun z => c99 z.1)] | rw [if_neg (fun z => c110 z.2)])
theorem c_game {k : Nat} {I : hI} {J : hJ} {R : hR} {N : Nat → Nat} (t : tok I N) {w : Nat} (hw : w ≤ 2) (hk : 2 ≤ k) : ct k 258 [.ref 110, .int (Int32.ofNat w)] I J R (some (.int (m_game (m_z I) (N 1) w))) (m_z I) J R := by
  obtain ⟨k, rfl⟩ : ∃ k', k = k' + 1 := ⟨k - 1, by omega⟩
  have hn := t.1.2.1
  have h13 := t.2.1.2.1
  have hn2 := t.1.2.2.1
  have h14 := t.2.1.2.2.1
  have t1 := tok_z t
  refine ct_of (q := am_m258) (L := [_, _, _, _, _]) rfl rfl rfl rfl rfl rfl ?_
  refine w_aload_n rfl rfl rfl ?_
  refine w_iconst (x := Int32.ofNat 0) rfl rfl (by decide) ?_
  refine w_pf rfl rfl rfl sp110 rfl rfl rfl ?_
  refine w_iload_n rfl rfl rfl ?_
  refine w_iconst (x := Int32.ofNat 0) rfl rfl (by decide) ?_
  refine w_iconst (x := Int32.ofNat 2) rfl rfl (by decide) ?_
  refine w_cs (q := am_m168) (na := 3) (as := [_, _, _]) (st' := [_]) rfl rfl rfl rfl (by decide) rfl rfl (Nat.le_of_ble_eq_true rfl) rfl rfl rfl (c_isIn (by omega)) rfl rfl ?_
  refine w_if_neB (t := 16) (f := 14) rfl rfl rfl (fun c11 => ?_) (fun c11 => absurd c11 (inok (Nat.zero_le _) hw (by decide)))
  refine w_iconst (x := Int32.ofNat 0) rfl rfl (by decide) ?_
  refine w_istore_n (L' := [_, _, _, _, _]) rfl rfl rfl ?_
  refine w_iconst (x := Int32.ofNat 0) rfl rfl (by decide) ?_
  refine w_istore_n (L' := [_, _, _, _, _]) rfl rfl rfl ?_
  refine l_game1 (I := m_z I) hn t1.2.1.2.1 ?_ (N 1) 0 (by omega)
  refine w_iload_n rfl rfl rfl ?_
  refine w_if_ne (t := 72) (f := 61) rfl rfl rfl (fun c58 => ?_) (fun c58 => ?_)
  · refine w_iconst (x := Int32.ofNat 0) rfl rfl (by decide) ?_
    refine w_istore_n (L' := [_, _, _, _, _]) rfl rfl rfl ?_
    exact wz_r (l_game2 (I := m_z I) hw hn t1.2.1.2.1 (N 1) 0 _ (by omega)) (by unfold m_game; rw [if_neg c58])
  · refine w_iload_n rfl rfl rfl ?_
    refine w_if_ne (t := 69) (f := 65) rfl rfl rfl (fun c62 => ?_) (fun c62 => ?_)
    · refine w_bipush (x := Int32.ofInt (-2)) rfl rfl (by decide) ?_
      exact w_iret rfl (by unfold m_game; rw [if_pos c58]; first | rw [if_pos ((am_w0 (by omega)).mp c62)] | rw [if_neg (fun z => c62 ((am_w0 (by omega)).mpr z))]) rfl rfl rfl
    · refine w_iconst (x := Int32.ofNat 1) rfl rfl (by decide) ?_
      refine w_goto (pc' := 71) rfl rfl ?_
      exact w_iret rfl (by unfold m_game; rw [if_pos c58]; first | rw [if_pos ((am_w0 (by omega)).mp c62)] | rw [if_neg (fun z => c62 ((am_w0 (by omega)).mpr z))]) rfl rfl rfl
theorem c_game_no {k : Nat} {I : hI} {J : hJ} {R : hR} {x : Int32} (hx : ¬ (¬ x < Int32.ofNat 0 ∧ ¬ Int32.ofNat 2 < x)) (hk : 2 ≤ k) : ct k 258 [.ref 110, .int x] I J R (some (.int (Int32.ofInt (-1)))) (m_z I) J R := by
  obtain ⟨k, rfl⟩ : ∃ k', k = k' + 1 := ⟨k - 1, by omega⟩
  refine ct_of (q := am_m258) (L := [_, _, _, _, _]) rfl rfl rfl rfl rfl rfl ?_
  refine w_aload_n rfl rfl rfl ?_
  refine w_iconst (x := Int32.ofNat 0) rfl rfl (by decide) ?_
  refine w_pf rfl rfl rfl sp110 rfl rfl rfl ?_
  refine w_iload_n rfl rfl rfl ?_
  refine w_iconst (x := Int32.ofNat 0) rfl rfl (by decide) ?_
  refine w_iconst (x := Int32.ofNat 2) rfl rfl (by decide) ?_
  refine w_cs (q := am_m168) (na := 3) (as := [_, _, _]) (st' := [_]) rfl rfl rfl rfl (by decide) rfl rfl (Nat.le_of_ble_eq_true rfl) rfl rfl rfl (c_isIn (by omega)) rfl rfl ?_
  refine w_if_neB (t := 16) (f := 14) rfl rfl rfl (fun c11 => absurd c11 hx) (fun c11 => ?_)
  refine w_iconst (x := Int32.ofInt (-1)) rfl rfl (by decide) ?_
  exact w_iret rfl rfl rfl rfl rfl
