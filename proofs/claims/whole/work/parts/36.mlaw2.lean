/-! The reference's laws: a knot's value, a law's, cut. -/
theorem w_isubN {k o : Nat} {rt : Option FieldType} {co : List (List (Nat × Instr × Nat))} {pc pc' : Nat} {L st : List Value} {I : hI} {J : hJ} {R : hR} {r : Option Value × am_H} {x y : Nat} (ei : am_ins co pc = some (.isub, 1)) (hp : pc + 1 = pc') (h : y ≤ x) (z : wz k o rt co pc' L (.int (Int32.ofNat (x - y)) :: st) I J R r) : wz k o rt co pc L (.int (Int32.ofNat y) :: .int (Int32.ofNat x) :: st) I J R r := by
  have e : Int32.ofNat x - Int32.ofNat y = Int32.ofNat (x - y) := by
    have e1 : x = (x - y) + y := by omega
    rw [e1, Int32.ofNat_add, Int32.add_sub_cancel]
    congr 1; omega
  rw [← e] at z
  exact w_isub ei hp z
theorem am_u_uu {α : Type} (I : Nat → Nat → α) (a k : Nat) (x y : α) : am_u (am_u I a k x) a k y = am_u I a k y := by
  funext b j
  unfold am_u
  by_cases h : b = a ∧ j = k
  · rw [if_pos h, if_pos h]
  · rw [if_neg h, if_neg h, if_neg h]
theorem am_u_na {α : Type} {I : Nat → Nat → α} {a k b j : Nat} {x : α} (h : b ≠ a) : am_u I a k x b j = I b j := congrFun (am_u_ne h) j
theorem am_fitb {x : Int32} (h : x = 0 ∨ x = 1) : am_fit .boolean (.int x) = true := by
  rcases h with rfl | rfl <;> rfl
def m_cmp (g : Int32) (x y : Int64) : Int32 := if g = Int32.ofNat 5 then (if x < y then 1 else 0) else if g = Int32.ofNat 6 then (if ¬ y < x then 1 else 0) else if g = Int32.ofNat 7 then (if x = y then 1 else 0) else if g = Int32.ofNat 8 then (if ¬ x = y then 1 else 0) else if g = Int32.ofNat 9 then (if ¬ x < y then 1 else 0) else (if y < x then 1 else 0)
theorem c_compares {k : Nat} {I : hI} {J : hJ} {R : hR} {g : Int32} {x y : Int64} (hk : 1 ≤ k) : ct k 207 [.int g, .long x, .long y] I J R (some (.int (m_cmp g x y))) I J R := by
  obtain ⟨k, rfl⟩ : ∃ k', k = k' + 1 := ⟨k - 1, by omega⟩
  refine ct_of (q := am_m207) (L := [_, _, _, _, _]) rfl rfl rfl rfl rfl rfl ?_
  refine w_iload_n rfl rfl rfl ?_
  refine w_ts (lo := 5) (hi := 9) (d := 96) rfl rfl (by decide) (fun sw => ?_) (fun n h1 h2 sw => ?_)
  · refine w_lload_n rfl rfl rfl ?_
    refine w_lload_n rfl rfl rfl ?_
    refine w_lc_le (t := 106) (f := 102) (p1 := 99) rfl rfl rfl rfl rfl (fun c99 => ?_) (fun c99 => ?_)
    · refine w_iconst (x := Int32.ofNat 0) rfl rfl (by decide) ?_
      exact w_bret rfl (by decide) (by simp only [m_cmp, sw 5 (by decide) (by decide), sw 6 (by decide) (by decide), sw 7 (by decide) (by decide), sw 8 (by decide) (by decide), sw 9 (by decide) (by decide), *, ite_true, ite_false] <;> rfl) rfl rfl rfl
    · refine w_iconst (x := Int32.ofNat 1) rfl rfl (by decide) ?_
      refine w_goto (pc' := 107) rfl rfl ?_
      exact w_bret rfl (by decide) (by simp only [m_cmp, sw 5 (by decide) (by decide), sw 6 (by decide) (by decide), sw 7 (by decide) (by decide), sw 8 (by decide) (by decide), sw 9 (by decide) (by decide), *, ite_true, ite_false] <;> rfl) rfl rfl rfl
  · have h3 : n = 5 ∨ n = 6 ∨ n = 7 ∨ n = 8 ∨ n = 9 := by omega
    rcases h3 with rfl | rfl | rfl | rfl | rfl
    · refine ⟨36, rfl, ?_⟩
      refine w_lload_n rfl rfl rfl ?_
      refine w_lload_n rfl rfl rfl ?_
      refine w_lc_ge (t := 46) (f := 42) (p1 := 39) rfl rfl rfl rfl rfl (fun c39 => ?_) (fun c39 => ?_)
      · refine w_iconst (x := Int32.ofNat 0) rfl rfl (by decide) ?_
        exact w_bret rfl (by decide) (by simp +decide only [m_cmp, *, ite_true, ite_false, and_self, and_true, true_and, and_false, false_and, or_true, true_or, or_false, false_or, not_true, not_false_iff] <;> rfl) rfl rfl rfl
      · refine w_iconst (x := Int32.ofNat 1) rfl rfl (by decide) ?_
        refine w_goto (pc' := 47) rfl rfl ?_
        exact w_bret rfl (by decide) (by simp +decide only [m_cmp, *, ite_true, ite_false, and_self, and_true, true_and, and_false, false_and, or_true, true_or, or_false, false_or, not_true, not_false_iff] <;> rfl) rfl rfl rfl
    · refine ⟨48, rfl, ?_⟩
      refine w_lload_n rfl rfl rfl ?_
      refine w_lload_n rfl rfl rfl ?_
      refine w_lc_gt (t := 58) (f := 54) (p1 := 51) rfl rfl rfl rfl rfl (fun c51 => ?_) (fun c51 => ?_)
      · refine w_iconst (x := Int32.ofNat 0) rfl rfl (by decide) ?_
        exact w_bret rfl (by decide) (by simp +decide only [m_cmp, *, ite_true, ite_false, and_self, and_true, true_and, and_false, false_and, or_true, true_or, or_false, false_or, not_true, not_false_iff] <;> rfl) rfl rfl rfl
      · refine w_iconst (x := Int32.ofNat 1) rfl rfl (by decide) ?_
        refine w_goto (pc' := 59) rfl rfl ?_
        exact w_bret rfl (by decide) (by simp +decide only [m_cmp, *, ite_true, ite_false, and_self, and_true, true_and, and_false, false_and, or_true, true_or, or_false, false_or, not_true, not_false_iff] <;> rfl) rfl rfl rfl
    · refine ⟨60, rfl, ?_⟩
      refine w_lload_n rfl rfl rfl ?_
      refine w_lload_n rfl rfl rfl ?_
      refine w_lc_ne (t := 70) (f := 66) (p1 := 63) rfl rfl rfl rfl rfl (fun c63 => ?_) (fun c63 => ?_)
      · refine w_iconst (x := Int32.ofNat 0) rfl rfl (by decide) ?_
        exact w_bret rfl (by decide) (by simp +decide only [m_cmp, *, ite_true, ite_false, and_self, and_true, true_and, and_false, false_and, or_true, true_or, or_false, false_or, not_true, not_false_iff] <;> rfl) rfl rfl rfl
      · refine w_iconst (x := Int32.ofNat 1) rfl rfl (by decide) ?_
        refine w_goto (pc' := 71) rfl rfl ?_
        exact w_bret rfl (by decide) (by simp +decide only [m_cmp, *, ite_true, ite_false, and_self, and_true, true_and, and_false, false_and, or_true, true_or, or_false, false_or, not_true, not_false_iff] <;> rfl) rfl rfl rfl
    · refine ⟨72, rfl, ?_⟩
      refine w_lload_n rfl rfl rfl ?_
      refine w_lload_n rfl rfl rfl ?_
      refine w_lc_eq (t := 82) (f := 78) (p1 := 75) rfl rfl rfl rfl rfl (fun c75 => ?_) (fun c75 => ?_)
      · refine w_iconst (x := Int32.ofNat 0) rfl rfl (by decide) ?_
        exact w_bret rfl (by decide) (by simp +decide only [m_cmp, *, ite_true, ite_false, and_self, and_true, true_and, and_false, false_and, or_true, true_or, or_false, false_or, not_true, not_false_iff] <;> rfl) rfl rfl rfl
      · refine w_iconst (x := Int32.ofNat 1) rfl rfl (by decide) ?_
        refine w_goto (pc' := 83) rfl rfl ?_
        exact w_bret rfl (by decide) (by simp +decide only [m_cmp, *, ite_true, ite_false, and_self, and_true, true_and, and_false, false_and, or_true, true_or, or_false, false_or, not_true, not_false_iff] <;> rfl) rfl rfl rfl
    · refine ⟨84, rfl, ?_⟩
      refine w_lload_n rfl rfl rfl ?_
      refine w_lload_n rfl rfl rfl ?_
      refine w_lc_lt (t := 94) (f := 90) (p1 := 87) rfl rfl rfl rfl rfl (fun c87 => ?_) (fun c87 => ?_)
      · refine w_iconst (x := Int32.ofNat 0) rfl rfl (by decide) ?_
        exact w_bret rfl (by decide) (by simp +decide only [m_cmp, *, ite_true, ite_false, and_self, and_true, true_and, and_false, false_and, or_true, true_or, or_false, false_or, not_true, not_false_iff] <;> rfl) rfl rfl rfl
      · refine w_iconst (x := Int32.ofNat 1) rfl rfl (by decide) ?_
        refine w_goto (pc' := 95) rfl rfl ?_
        exact w_bret rfl (by decide) (by simp +decide only [m_cmp, *, ite_true, ite_false, and_self, and_true, true_and, and_false, false_and, or_true, true_or, or_false, false_or, not_true, not_false_iff] <;> rfl) rfl rfl rfl
def m_op (g e : Int32) (x y : Int64) : Int32 × Int64 :=
  if g = Int32.ofNat 3 then (e, if ¬ x = 0 ∧ ¬ y = 0 then 1 else 0)
  else if g = Int32.ofNat 4 then (e, if ¬ x = 0 ∨ ¬ y = 0 then 1 else 0)
  else if g = Int32.ofNat 11 then (m_e1 e (m_bP (x + y)) (m_bPd (x + y)), m_v1 e (m_bP (x + y)) (m_bPd (x + y)) (x + y))
  else if g = Int32.ofNat 12 then (m_e1 e (m_bP (x - y)) (m_bPd (x - y)), m_v1 e (m_bP (x - y)) (m_bPd (x - y)) (x - y))
  else if g = Int32.ofNat 13 then (m_e1 e (m_tP x y) (m_tPd x y), m_v1 e (m_tP x y) (m_tPd x y) (x * y))
  else if g = Int32.ofNat 14 then (m_e1 e (y = 0) inferInstance, m_v1 e (y = 0) inferInstance (x / y))
  else (e, if m_cmp g x y = 0 then 0 else 1)
def m_val (I : hI) (J : hJ) (k : Nat) : Int32 × Int64 :=
  if I 131 k = 0 then (I 110 53, (I 132 k).toInt64)
  else if I 131 k = Int32.ofNat 1 then (I 110 53, J 136 (nn (I 132 k)))
  else if I 131 k = Int32.ofNat 2 then (I 110 53, if J 137 (nn (I 132 k)) = 0 then 1 else 0)
  else m_op (I 131 k) (I 110 53) (J 137 (nn (I 132 k))) (J 137 (nn (I 133 k)))
/-- a knot that can be worked out -/
def kok (I : hI) (k : Nat) : Prop := (I 131 k = Int32.ofNat 1 → okn (I 132 k) 7) ∧ (¬ I 131 k = 0 → ¬ I 131 k = Int32.ofNat 1 → okn (I 132 k) 64 ∧ (¬ I 131 k = Int32.ofNat 2 → okn (I 133 k) 64))
theorem c_valueOf {k : Nat} {I : hI} {J : hJ} {R : hR} {n : Nat} (hn : n < 64) (hK : kok I n) (hk : 2 ≤ k) : ct k 209 [.ref 110, .int (Int32.ofNat n)] I J R (some (.long (m_val I J n).2)) (am_u I 110 53 (m_val I J n).1) J R := by
  obtain ⟨k, rfl⟩ : ∃ k', k = k' + 1 := ⟨k - 1, by omega⟩
  refine ct_of (q := am_m209) (L := [_, _, _, _, _, _]) rfl rfl rfl rfl rfl rfl ?_
  refine w_aload_n rfl rfl rfl ?_
  refine w_gf (t := .ref (131)) (v := .ref (131)) rfl rfl rfl sp110 rfl rfl rfl ?_
  refine w_iload_n rfl rfl rfl ?_
  refine w_iaload rfl rfl sp131 rfl ⟨by omega, by omega⟩ rfl ?_
  refine w_if_ne (t := 17) (f := 9) rfl rfl rfl (fun c6 => ?_) (fun c6 => ?_)
  · refine w_aload_n rfl rfl rfl ?_
    refine w_gf (t := .ref (131)) (v := .ref (131)) rfl rfl rfl sp110 rfl rfl rfl ?_
    refine w_iload_n rfl rfl rfl ?_
    refine w_iaload rfl rfl sp131 rfl ⟨by omega, by omega⟩ rfl ?_
    refine w_iconst (x := Int32.ofNat 1) rfl rfl (by decide) ?_
    refine w_ic_ne (t := 39) (f := 27) rfl rfl rfl (fun c24 => ?_) (fun c24 => ?_)
    · refine w_aload_n rfl rfl rfl ?_
      refine w_gf (t := .ref (137)) (v := .ref (137)) rfl rfl rfl sp110 rfl rfl rfl ?_
      refine w_aload_n rfl rfl rfl ?_
      refine w_gf (t := .ref (132)) (v := .ref (132)) rfl rfl rfl sp110 rfl rfl rfl ?_
      refine w_iload_n rfl rfl rfl ?_
      refine w_iaload rfl rfl sp132 rfl ⟨by omega, by omega⟩ rfl ?_
      refine w_laload rfl rfl sp137 (hK.2 c6 c24).1.1 ⟨(hK.2 c6 c24).1.2, by omega⟩ ?_
      refine w_lstore_n (L' := [_, _, _, _, _, _]) rfl rfl rfl ?_
      refine w_aload_n rfl rfl rfl ?_
      refine w_gf (t := .ref (131)) (v := .ref (131)) rfl rfl rfl sp110 rfl rfl rfl ?_
      refine w_iload_n rfl rfl rfl ?_
      refine w_iaload rfl rfl sp131 rfl ⟨by omega, by omega⟩ rfl ?_
      refine w_iconst (x := Int32.ofNat 2) rfl rfl (by decide) ?_
      refine w_ic_ne (t := 73) (f := 61) rfl rfl rfl (fun c58 => ?_) (fun c58 => ?_)
      · refine w_aload_n rfl rfl rfl ?_
        refine w_gf (t := .ref (137)) (v := .ref (137)) rfl rfl rfl sp110 rfl rfl rfl ?_
        refine w_aload_n rfl rfl rfl ?_
        refine w_gf (t := .ref (133)) (v := .ref (133)) rfl rfl rfl sp110 rfl rfl rfl ?_
        refine w_iload_n rfl rfl rfl ?_
        refine w_iaload rfl rfl sp133 rfl ⟨by omega, by omega⟩ rfl ?_
        refine w_laload rfl rfl sp137 ((hK.2 c6 c24).2 c58).1 ⟨((hK.2 c6 c24).2 c58).2, by omega⟩ ?_
        refine w_lstore (L' := [_, _, _, _, _, _]) rfl rfl rfl ?_
        refine w_aload_n rfl rfl rfl ?_
        refine w_gf (t := .ref (131)) (v := .ref (131)) rfl rfl rfl sp110 rfl rfl rfl ?_
        refine w_iload_n rfl rfl rfl ?_
        refine w_iaload rfl rfl sp131 rfl ⟨by omega, by omega⟩ rfl ?_
        refine w_ts (lo := 3) (hi := 14) (d := 259) rfl rfl (by decide) (fun sw => ?_) (fun n h1 h2 sw => ?_)
        · refine w_aload_n rfl rfl rfl ?_
          refine w_gf (t := .ref (131)) (v := .ref (131)) rfl rfl rfl sp110 rfl rfl rfl ?_
          refine w_iload_n rfl rfl rfl ?_
          refine w_iaload rfl rfl sp131 rfl ⟨by omega, by omega⟩ rfl ?_
          refine w_lload_n rfl rfl rfl ?_
          refine w_lload rfl rfl rfl ?_
          refine w_cs (q := am_m207) (na := 3) (as := [_, _, _]) (st' := [_]) rfl rfl rfl rfl (by decide) rfl rfl (Nat.le_of_ble_eq_true rfl) rfl rfl rfl (c_compares (by omega)) rfl rfl ?_
          refine w_if_eq (t := 278) (f := 274) rfl rfl rfl (fun c271 => ?_) (fun c271 => ?_)
          · refine w_lconst (x := 0) rfl rfl (by decide) ?_
            exact w_lret rfl (by first | (rw [sw] at c271; simp +decide only [m_val, m_op, m_e1, m_v1, *, ite_true, ite_false, and_self, and_true, true_and, and_false, false_and, or_true, true_or, or_false, false_or, not_true, not_false_iff] <;> rfl) | (simp +decide only [m_val, m_op, m_e1, m_v1, *, ite_true, ite_false, and_self, and_true, true_and, and_false, false_and, or_true, true_or, or_false, false_or, not_true, not_false_iff, sw 3 (by decide) (by decide), sw 4 (by decide) (by decide), sw 11 (by decide) (by decide), sw 12 (by decide) (by decide), sw 13 (by decide) (by decide), sw 14 (by decide) (by decide)] <;> rfl)) (by first | (simp +decide only [m_val, m_op, m_e1, m_v1, *, ite_true, ite_false, and_self, and_true, true_and, and_false, false_and, or_true, true_or, or_false, false_or, not_true, not_false_iff] <;> first | exact (am_u_self _ _ _).symm | rfl) | (simp +decide only [m_val, m_op, m_e1, m_v1, *, ite_true, ite_false, and_self, and_true, true_and, and_false, false_and, or_true, true_or, or_false, false_or, not_true, not_false_iff, sw 3 (by decide) (by decide), sw 4 (by decide) (by decide), sw 11 (by decide) (by decide), sw 12 (by decide) (by decide), sw 13 (by decide) (by decide), sw 14 (by decide) (by decide)] <;> first | exact (am_u_self _ _ _).symm | rfl)) rfl rfl
          · refine w_lconst (x := 1) rfl rfl (by decide) ?_
            refine w_goto (pc' := 279) rfl rfl ?_
            exact w_lret rfl (by first | (rw [sw] at c271; simp +decide only [m_val, m_op, m_e1, m_v1, *, ite_true, ite_false, and_self, and_true, true_and, and_false, false_and, or_true, true_or, or_false, false_or, not_true, not_false_iff] <;> rfl) | (simp +decide only [m_val, m_op, m_e1, m_v1, *, ite_true, ite_false, and_self, and_true, true_and, and_false, false_and, or_true, true_or, or_false, false_or, not_true, not_false_iff, sw 3 (by decide) (by decide), sw 4 (by decide) (by decide), sw 11 (by decide) (by decide), sw 12 (by decide) (by decide), sw 13 (by decide) (by decide), sw 14 (by decide) (by decide)] <;> rfl)) (by first | (simp +decide only [m_val, m_op, m_e1, m_v1, *, ite_true, ite_false, and_self, and_true, true_and, and_false, false_and, or_true, true_or, or_false, false_or, not_true, not_false_iff] <;> first | exact (am_u_self _ _ _).symm | rfl) | (simp +decide only [m_val, m_op, m_e1, m_v1, *, ite_true, ite_false, and_self, and_true, true_and, and_false, false_and, or_true, true_or, or_false, false_or, not_true, not_false_iff, sw 3 (by decide) (by decide), sw 4 (by decide) (by decide), sw 11 (by decide) (by decide), sw 12 (by decide) (by decide), sw 13 (by decide) (by decide), sw 14 (by decide) (by decide)] <;> first | exact (am_u_self _ _ _).symm | rfl)) rfl rfl
        · have h3 : n = 3 ∨ n = 4 ∨ n = 5 ∨ n = 6 ∨ n = 7 ∨ n = 8 ∨ n = 9 ∨ n = 10 ∨ n = 11 ∨ n = 12 ∨ n = 13 ∨ n = 14 := by omega
          rcases h3 with rfl | rfl | rfl | rfl | rfl | rfl | rfl | rfl | rfl | rfl | rfl | rfl
          · refine ⟨156, rfl, ?_⟩
            refine w_lload_n rfl rfl rfl ?_
            refine w_lconst (x := 0) rfl rfl (by decide) ?_
            refine w_lc_eq (t := 173) (f := 162) (p1 := 159) rfl rfl rfl rfl rfl (fun c159 => ?_) (fun c159 => ?_)
            · refine w_lconst (x := 0) rfl rfl (by decide) ?_
              exact w_lret rfl (by simp +decide only [m_val, m_op, m_e1, m_v1, *, ite_true, ite_false, and_self, and_true, true_and, and_false, false_and, or_true, true_or, or_false, false_or, not_true, not_false_iff] <;> rfl) (by first | (simp +decide only [m_val, m_op, m_e1, m_v1, *, ite_true, ite_false, and_self, and_true, true_and, and_false, false_and, or_true, true_or, or_false, false_or, not_true, not_false_iff] <;> first | exact (am_u_self _ _ _).symm | rfl) | (simp +decide only [m_val, m_op, m_e1, m_v1, *, ite_true, ite_false, and_self, and_true, true_and, and_false, false_and, or_true, true_or, or_false, false_or, not_true, not_false_iff, sw 3 (by decide) (by decide), sw 4 (by decide) (by decide), sw 11 (by decide) (by decide), sw 12 (by decide) (by decide), sw 13 (by decide) (by decide), sw 14 (by decide) (by decide)] <;> first | exact (am_u_self _ _ _).symm | rfl)) rfl rfl
            · refine w_lload rfl rfl rfl ?_
              refine w_lconst (x := 0) rfl rfl (by decide) ?_
              refine w_lc_eq (t := 173) (f := 169) (p1 := 166) rfl rfl rfl rfl rfl (fun c166 => ?_) (fun c166 => ?_)
              · refine w_lconst (x := 0) rfl rfl (by decide) ?_
                exact w_lret rfl (by simp +decide only [m_val, m_op, m_e1, m_v1, *, ite_true, ite_false, and_self, and_true, true_and, and_false, false_and, or_true, true_or, or_false, false_or, not_true, not_false_iff] <;> rfl) (by first | (simp +decide only [m_val, m_op, m_e1, m_v1, *, ite_true, ite_false, and_self, and_true, true_and, and_false, false_and, or_true, true_or, or_false, false_or, not_true, not_false_iff] <;> first | exact (am_u_self _ _ _).symm | rfl) | (simp +decide only [m_val, m_op, m_e1, m_v1, *, ite_true, ite_false, and_self, and_true, true_and, and_false, false_and, or_true, true_or, or_false, false_or, not_true, not_false_iff, sw 3 (by decide) (by decide), sw 4 (by decide) (by decide), sw 11 (by decide) (by decide), sw 12 (by decide) (by decide), sw 13 (by decide) (by decide), sw 14 (by decide) (by decide)] <;> first | exact (am_u_self _ _ _).symm | rfl)) rfl rfl
              · refine w_lconst (x := 1) rfl rfl (by decide) ?_
                refine w_goto (pc' := 174) rfl rfl ?_
                exact w_lret rfl (by simp +decide only [m_val, m_op, m_e1, m_v1, *, ite_true, ite_false, and_self, and_true, true_and, and_false, false_and, or_true, true_or, or_false, false_or, not_true, not_false_iff] <;> rfl) (by first | (simp +decide only [m_val, m_op, m_e1, m_v1, *, ite_true, ite_false, and_self, and_true, true_and, and_false, false_and, or_true, true_or, or_false, false_or, not_true, not_false_iff] <;> first | exact (am_u_self _ _ _).symm | rfl) | (simp +decide only [m_val, m_op, m_e1, m_v1, *, ite_true, ite_false, and_self, and_true, true_and, and_false, false_and, or_true, true_or, or_false, false_or, not_true, not_false_iff, sw 3 (by decide) (by decide), sw 4 (by decide) (by decide), sw 11 (by decide) (by decide), sw 12 (by decide) (by decide), sw 13 (by decide) (by decide), sw 14 (by decide) (by decide)] <;> first | exact (am_u_self _ _ _).symm | rfl)) rfl rfl
          · refine ⟨175, rfl, ?_⟩
            refine w_lload_n rfl rfl rfl ?_
            refine w_lconst (x := 0) rfl rfl (by decide) ?_
            refine w_lc_ne (t := 188) (f := 181) (p1 := 178) rfl rfl rfl rfl rfl (fun c178 => ?_) (fun c178 => ?_)
            · refine w_lconst (x := 1) rfl rfl (by decide) ?_
              refine w_goto (pc' := 193) rfl rfl ?_
              exact w_lret rfl (by simp +decide only [m_val, m_op, m_e1, m_v1, *, ite_true, ite_false, and_self, and_true, true_and, and_false, false_and, or_true, true_or, or_false, false_or, not_true, not_false_iff] <;> rfl) (by first | (simp +decide only [m_val, m_op, m_e1, m_v1, *, ite_true, ite_false, and_self, and_true, true_and, and_false, false_and, or_true, true_or, or_false, false_or, not_true, not_false_iff] <;> first | exact (am_u_self _ _ _).symm | rfl) | (simp +decide only [m_val, m_op, m_e1, m_v1, *, ite_true, ite_false, and_self, and_true, true_and, and_false, false_and, or_true, true_or, or_false, false_or, not_true, not_false_iff, sw 3 (by decide) (by decide), sw 4 (by decide) (by decide), sw 11 (by decide) (by decide), sw 12 (by decide) (by decide), sw 13 (by decide) (by decide), sw 14 (by decide) (by decide)] <;> first | exact (am_u_self _ _ _).symm | rfl)) rfl rfl
            · refine w_lload rfl rfl rfl ?_
              refine w_lconst (x := 0) rfl rfl (by decide) ?_
              refine w_lc_eq (t := 192) (f := 188) (p1 := 185) rfl rfl rfl rfl rfl (fun c185 => ?_) (fun c185 => ?_)
              · refine w_lconst (x := 0) rfl rfl (by decide) ?_
                exact w_lret rfl (by simp +decide only [m_val, m_op, m_e1, m_v1, *, ite_true, ite_false, and_self, and_true, true_and, and_false, false_and, or_true, true_or, or_false, false_or, not_true, not_false_iff] <;> rfl) (by first | (simp +decide only [m_val, m_op, m_e1, m_v1, *, ite_true, ite_false, and_self, and_true, true_and, and_false, false_and, or_true, true_or, or_false, false_or, not_true, not_false_iff] <;> first | exact (am_u_self _ _ _).symm | rfl) | (simp +decide only [m_val, m_op, m_e1, m_v1, *, ite_true, ite_false, and_self, and_true, true_and, and_false, false_and, or_true, true_or, or_false, false_or, not_true, not_false_iff, sw 3 (by decide) (by decide), sw 4 (by decide) (by decide), sw 11 (by decide) (by decide), sw 12 (by decide) (by decide), sw 13 (by decide) (by decide), sw 14 (by decide) (by decide)] <;> first | exact (am_u_self _ _ _).symm | rfl)) rfl rfl
              · refine w_lconst (x := 1) rfl rfl (by decide) ?_
                refine w_goto (pc' := 193) rfl rfl ?_
                exact w_lret rfl (by simp +decide only [m_val, m_op, m_e1, m_v1, *, ite_true, ite_false, and_self, and_true, true_and, and_false, false_and, or_true, true_or, or_false, false_or, not_true, not_false_iff] <;> rfl) (by first | (simp +decide only [m_val, m_op, m_e1, m_v1, *, ite_true, ite_false, and_self, and_true, true_and, and_false, false_and, or_true, true_or, or_false, false_or, not_true, not_false_iff] <;> first | exact (am_u_self _ _ _).symm | rfl) | (simp +decide only [m_val, m_op, m_e1, m_v1, *, ite_true, ite_false, and_self, and_true, true_and, and_false, false_and, or_true, true_or, or_false, false_or, not_true, not_false_iff, sw 3 (by decide) (by decide), sw 4 (by decide) (by decide), sw 11 (by decide) (by decide), sw 12 (by decide) (by decide), sw 13 (by decide) (by decide), sw 14 (by decide) (by decide)] <;> first | exact (am_u_self _ _ _).symm | rfl)) rfl rfl
          · refine ⟨259, rfl, ?_⟩
            refine w_aload_n rfl rfl rfl ?_
            refine w_gf (t := .ref (131)) (v := .ref (131)) rfl rfl rfl sp110 rfl rfl rfl ?_
            refine w_iload_n rfl rfl rfl ?_
            refine w_iaload rfl rfl sp131 rfl ⟨by omega, by omega⟩ rfl ?_
            refine w_lload_n rfl rfl rfl ?_
            refine w_lload rfl rfl rfl ?_
            refine w_cs (q := am_m207) (na := 3) (as := [_, _, _]) (st' := [_]) rfl rfl rfl rfl (by decide) rfl rfl (Nat.le_of_ble_eq_true rfl) rfl rfl rfl (c_compares (by omega)) rfl rfl ?_
            refine w_if_eq (t := 278) (f := 274) rfl rfl rfl (fun c271 => ?_) (fun c271 => ?_)
            · refine w_lconst (x := 0) rfl rfl (by decide) ?_
              exact w_lret rfl (by first | (rw [sw] at c271; simp +decide only [m_val, m_op, m_e1, m_v1, *, ite_true, ite_false, and_self, and_true, true_and, and_false, false_and, or_true, true_or, or_false, false_or, not_true, not_false_iff] <;> rfl) | (simp +decide only [m_val, m_op, m_e1, m_v1, *, ite_true, ite_false, and_self, and_true, true_and, and_false, false_and, or_true, true_or, or_false, false_or, not_true, not_false_iff, sw 3 (by decide) (by decide), sw 4 (by decide) (by decide), sw 11 (by decide) (by decide), sw 12 (by decide) (by decide), sw 13 (by decide) (by decide), sw 14 (by decide) (by decide)] <;> rfl)) (by first | (simp +decide only [m_val, m_op, m_e1, m_v1, *, ite_true, ite_false, and_self, and_true, true_and, and_false, false_and, or_true, true_or, or_false, false_or, not_true, not_false_iff] <;> first | exact (am_u_self _ _ _).symm | rfl) | (simp +decide only [m_val, m_op, m_e1, m_v1, *, ite_true, ite_false, and_self, and_true, true_and, and_false, false_and, or_true, true_or, or_false, false_or, not_true, not_false_iff, sw 3 (by decide) (by decide), sw 4 (by decide) (by decide), sw 11 (by decide) (by decide), sw 12 (by decide) (by decide), sw 13 (by decide) (by decide), sw 14 (by decide) (by decide)] <;> first | exact (am_u_self _ _ _).symm | rfl)) rfl rfl
            · refine w_lconst (x := 1) rfl rfl (by decide) ?_
              refine w_goto (pc' := 279) rfl rfl ?_
              exact w_lret rfl (by first | (rw [sw] at c271; simp +decide only [m_val, m_op, m_e1, m_v1, *, ite_true, ite_false, and_self, and_true, true_and, and_false, false_and, or_true, true_or, or_false, false_or, not_true, not_false_iff] <;> rfl) | (simp +decide only [m_val, m_op, m_e1, m_v1, *, ite_true, ite_false, and_self, and_true, true_and, and_false, false_and, or_true, true_or, or_false, false_or, not_true, not_false_iff, sw 3 (by decide) (by decide), sw 4 (by decide) (by decide), sw 11 (by decide) (by decide), sw 12 (by decide) (by decide), sw 13 (by decide) (by decide), sw 14 (by decide) (by decide)] <;> rfl)) (by first | (simp +decide only [m_val, m_op, m_e1, m_v1, *, ite_true, ite_false, and_self, and_true, true_and, and_false, false_and, or_true, true_or, or_false, false_or, not_true, not_false_iff] <;> first | exact (am_u_self _ _ _).symm | rfl) | (simp +decide only [m_val, m_op, m_e1, m_v1, *, ite_true, ite_false, and_self, and_true, true_and, and_false, false_and, or_true, true_or, or_false, false_or, not_true, not_false_iff, sw 3 (by decide) (by decide), sw 4 (by decide) (by decide), sw 11 (by decide) (by decide), sw 12 (by decide) (by decide), sw 13 (by decide) (by decide), sw 14 (by decide) (by decide)] <;> first | exact (am_u_self _ _ _).symm | rfl)) rfl rfl
          · refine ⟨259, rfl, ?_⟩
            refine w_aload_n rfl rfl rfl ?_
            refine w_gf (t := .ref (131)) (v := .ref (131)) rfl rfl rfl sp110 rfl rfl rfl ?_
            refine w_iload_n rfl rfl rfl ?_
            refine w_iaload rfl rfl sp131 rfl ⟨by omega, by omega⟩ rfl ?_
            refine w_lload_n rfl rfl rfl ?_
            refine w_lload rfl rfl rfl ?_
            refine w_cs (q := am_m207) (na := 3) (as := [_, _, _]) (st' := [_]) rfl rfl rfl rfl (by decide) rfl rfl (Nat.le_of_ble_eq_true rfl) rfl rfl rfl (c_compares (by omega)) rfl rfl ?_
            refine w_if_eq (t := 278) (f := 274) rfl rfl rfl (fun c271 => ?_) (fun c271 => ?_)
            · refine w_lconst (x := 0) rfl rfl (by decide) ?_
              exact w_lret rfl (by first | (rw [sw] at c271; simp +decide only [m_val, m_op, m_e1, m_v1, *, ite_true, ite_false, and_self, and_true, true_and, and_false, false_and, or_true, true_or, or_false, false_or, not_true, not_false_iff] <;> rfl) | (simp +decide only [m_val, m_op, m_e1, m_v1, *, ite_true, ite_false, and_self, and_true, true_and, and_false, false_and, or_true, true_or, or_false, false_or, not_true, not_false_iff, sw 3 (by decide) (by decide), sw 4 (by decide) (by decide), sw 11 (by decide) (by decide), sw 12 (by decide) (by decide), sw 13 (by decide) (by decide), sw 14 (by decide) (by decide)] <;> rfl)) (by first | (simp +decide only [m_val, m_op, m_e1, m_v1, *, ite_true, ite_false, and_self, and_true, true_and, and_false, false_and, or_true, true_or, or_false, false_or, not_true, not_false_iff] <;> first | exact (am_u_self _ _ _).symm | rfl) | (simp +decide only [m_val, m_op, m_e1, m_v1, *, ite_true, ite_false, and_self, and_true, true_and, and_false, false_and, or_true, true_or, or_false, false_or, not_true, not_false_iff, sw 3 (by decide) (by decide), sw 4 (by decide) (by decide), sw 11 (by decide) (by decide), sw 12 (by decide) (by decide), sw 13 (by decide) (by decide), sw 14 (by decide) (by decide)] <;> first | exact (am_u_self _ _ _).symm | rfl)) rfl rfl
            · refine w_lconst (x := 1) rfl rfl (by decide) ?_
              refine w_goto (pc' := 279) rfl rfl ?_
              exact w_lret rfl (by first | (rw [sw] at c271; simp +decide only [m_val, m_op, m_e1, m_v1, *, ite_true, ite_false, and_self, and_true, true_and, and_false, false_and, or_true, true_or, or_false, false_or, not_true, not_false_iff] <;> rfl) | (simp +decide only [m_val, m_op, m_e1, m_v1, *, ite_true, ite_false, and_self, and_true, true_and, and_false, false_and, or_true, true_or, or_false, false_or, not_true, not_false_iff, sw 3 (by decide) (by decide), sw 4 (by decide) (by decide), sw 11 (by decide) (by decide), sw 12 (by decide) (by decide), sw 13 (by decide) (by decide), sw 14 (by decide) (by decide)] <;> rfl)) (by first | (simp +decide only [m_val, m_op, m_e1, m_v1, *, ite_true, ite_false, and_self, and_true, true_and, and_false, false_and, or_true, true_or, or_false, false_or, not_true, not_false_iff] <;> first | exact (am_u_self _ _ _).symm | rfl) | (simp +decide only [m_val, m_op, m_e1, m_v1, *, ite_true, ite_false, and_self, and_true, true_and, and_false, false_and, or_true, true_or, or_false, false_or, not_true, not_false_iff, sw 3 (by decide) (by decide), sw 4 (by decide) (by decide), sw 11 (by decide) (by decide), sw 12 (by decide) (by decide), sw 13 (by decide) (by decide), sw 14 (by decide) (by decide)] <;> first | exact (am_u_self _ _ _).symm | rfl)) rfl rfl
          · refine ⟨259, rfl, ?_⟩
            refine w_aload_n rfl rfl rfl ?_
            refine w_gf (t := .ref (131)) (v := .ref (131)) rfl rfl rfl sp110 rfl rfl rfl ?_
            refine w_iload_n rfl rfl rfl ?_
            refine w_iaload rfl rfl sp131 rfl ⟨by omega, by omega⟩ rfl ?_
            refine w_lload_n rfl rfl rfl ?_
            refine w_lload rfl rfl rfl ?_
            refine w_cs (q := am_m207) (na := 3) (as := [_, _, _]) (st' := [_]) rfl rfl rfl rfl (by decide) rfl rfl (Nat.le_of_ble_eq_true rfl) rfl rfl rfl (c_compares (by omega)) rfl rfl ?_
            refine w_if_eq (t := 278) (f := 274) rfl rfl rfl (fun c271 => ?_) (fun c271 => ?_)
            · refine w_lconst (x := 0) rfl rfl (by decide) ?_
              exact w_lret rfl (by first | (rw [sw] at c271; simp +decide only [m_val, m_op, m_e1, m_v1, *, ite_true, ite_false, and_self, and_true, true_and, and_false, false_and, or_true, true_or, or_false, false_or, not_true, not_false_iff] <;> rfl) | (simp +decide only [m_val, m_op, m_e1, m_v1, *, ite_true, ite_false, and_self, and_true, true_and, and_false, false_and, or_true, true_or, or_false, false_or, not_true, not_false_iff, sw 3 (by decide) (by decide), sw 4 (by decide) (by decide), sw 11 (by decide) (by decide), sw 12 (by decide) (by decide), sw 13 (by decide) (by decide), sw 14 (by decide) (by decide)] <;> rfl)) (by first | (simp +decide only [m_val, m_op, m_e1, m_v1, *, ite_true, ite_false, and_self, and_true, true_and, and_false, false_and, or_true, true_or, or_false, false_or, not_true, not_false_iff] <;> first | exact (am_u_self _ _ _).symm | rfl) | (simp +decide only [m_val, m_op, m_e1, m_v1, *, ite_true, ite_false, and_self, and_true, true_and, and_false, false_and, or_true, true_or, or_false, false_or, not_true, not_false_iff, sw 3 (by decide) (by decide), sw 4 (by decide) (by decide), sw 11 (by decide) (by decide), sw 12 (by decide) (by decide), sw 13 (by decide) (by decide), sw 14 (by decide) (by decide)] <;> first | exact (am_u_self _ _ _).symm | rfl)) rfl rfl
            · refine w_lconst (x := 1) rfl rfl (by decide) ?_
              refine w_goto (pc' := 279) rfl rfl ?_
              exact w_lret rfl (by first | (rw [sw] at c271; simp +decide only [m_val, m_op, m_e1, m_v1, *, ite_true, ite_false, and_self, and_true, true_and, and_false, false_and, or_true, true_or, or_false, false_or, not_true, not_false_iff] <;> rfl) | (simp +decide only [m_val, m_op, m_e1, m_v1, *, ite_true, ite_false, and_self, and_true, true_and, and_false, false_and, or_true, true_or, or_false, false_or, not_true, not_false_iff, sw 3 (by decide) (by decide), sw 4 (by decide) (by decide), sw 11 (by decide) (by decide), sw 12 (by decide) (by decide), sw 13 (by decide) (by decide), sw 14 (by decide) (by decide)] <;> rfl)) (by first | (simp +decide only [m_val, m_op, m_e1, m_v1, *, ite_true, ite_false, and_self, and_true, true_and, and_false, false_and, or_true, true_or, or_false, false_or, not_true, not_false_iff] <;> first | exact (am_u_self _ _ _).symm | rfl) | (simp +decide only [m_val, m_op, m_e1, m_v1, *, ite_true, ite_false, and_self, and_true, true_and, and_false, false_and, or_true, true_or, or_false, false_or, not_true, not_false_iff, sw 3 (by decide) (by decide), sw 4 (by decide) (by decide), sw 11 (by decide) (by decide), sw 12 (by decide) (by decide), sw 13 (by decide) (by decide), sw 14 (by decide) (by decide)] <;> first | exact (am_u_self _ _ _).symm | rfl)) rfl rfl
          · refine ⟨259, rfl, ?_⟩
            refine w_aload_n rfl rfl rfl ?_
            refine w_gf (t := .ref (131)) (v := .ref (131)) rfl rfl rfl sp110 rfl rfl rfl ?_
            refine w_iload_n rfl rfl rfl ?_
            refine w_iaload rfl rfl sp131 rfl ⟨by omega, by omega⟩ rfl ?_
            refine w_lload_n rfl rfl rfl ?_
            refine w_lload rfl rfl rfl ?_
            refine w_cs (q := am_m207) (na := 3) (as := [_, _, _]) (st' := [_]) rfl rfl rfl rfl (by decide) rfl rfl (Nat.le_of_ble_eq_true rfl) rfl rfl rfl (c_compares (by omega)) rfl rfl ?_
            refine w_if_eq (t := 278) (f := 274) rfl rfl rfl (fun c271 => ?_) (fun c271 => ?_)
            · refine w_lconst (x := 0) rfl rfl (by decide) ?_
              exact w_lret rfl (by first | (rw [sw] at c271; simp +decide only [m_val, m_op, m_e1, m_v1, *, ite_true, ite_false, and_self, and_true, true_and, and_false, false_and, or_true, true_or, or_false, false_or, not_true, not_false_iff] <;> rfl) | (simp +decide only [m_val, m_op, m_e1, m_v1, *, ite_true, ite_false, and_self, and_true, true_and, and_false, false_and, or_true, true_or, or_false, false_or, not_true, not_false_iff, sw 3 (by decide) (by decide), sw 4 (by decide) (by decide), sw 11 (by decide) (by decide), sw 12 (by decide) (by decide), sw 13 (by decide) (by decide), sw 14 (by decide) (by decide)] <;> rfl)) (by first | (simp +decide only [m_val, m_op, m_e1, m_v1, *, ite_true, ite_false, and_self, and_true, true_and, and_false, false_and, or_true, true_or, or_false, false_or, not_true, not_false_iff] <;> first | exact (am_u_self _ _ _).symm | rfl) | (simp +decide only [m_val, m_op, m_e1, m_v1, *, ite_true, ite_false, and_self, and_true, true_and, and_false, false_and, or_true, true_or, or_false, false_or, not_true, not_false_iff, sw 3 (by decide) (by decide), sw 4 (by decide) (by decide), sw 11 (by decide) (by decide), sw 12 (by decide) (by decide), sw 13 (by decide) (by decide), sw 14 (by decide) (by decide)] <;> first | exact (am_u_self _ _ _).symm | rfl)) rfl rfl
            · refine w_lconst (x := 1) rfl rfl (by decide) ?_
              refine w_goto (pc' := 279) rfl rfl ?_
              exact w_lret rfl (by first | (rw [sw] at c271; simp +decide only [m_val, m_op, m_e1, m_v1, *, ite_true, ite_false, and_self, and_true, true_and, and_false, false_and, or_true, true_or, or_false, false_or, not_true, not_false_iff] <;> rfl) | (simp +decide only [m_val, m_op, m_e1, m_v1, *, ite_true, ite_false, and_self, and_true, true_and, and_false, false_and, or_true, true_or, or_false, false_or, not_true, not_false_iff, sw 3 (by decide) (by decide), sw 4 (by decide) (by decide), sw 11 (by decide) (by decide), sw 12 (by decide) (by decide), sw 13 (by decide) (by decide), sw 14 (by decide) (by decide)] <;> rfl)) (by first | (simp +decide only [m_val, m_op, m_e1, m_v1, *, ite_true, ite_false, and_self, and_true, true_and, and_false, false_and, or_true, true_or, or_false, false_or, not_true, not_false_iff] <;> first | exact (am_u_self _ _ _).symm | rfl) | (simp +decide only [m_val, m_op, m_e1, m_v1, *, ite_true, ite_false, and_self, and_true, true_and, and_false, false_and, or_true, true_or, or_false, false_or, not_true, not_false_iff, sw 3 (by decide) (by decide), sw 4 (by decide) (by decide), sw 11 (by decide) (by decide), sw 12 (by decide) (by decide), sw 13 (by decide) (by decide), sw 14 (by decide) (by decide)] <;> first | exact (am_u_self _ _ _).symm | rfl)) rfl rfl
          · refine ⟨259, rfl, ?_⟩
            refine w_aload_n rfl rfl rfl ?_
            refine w_gf (t := .ref (131)) (v := .ref (131)) rfl rfl rfl sp110 rfl rfl rfl ?_
            refine w_iload_n rfl rfl rfl ?_
            refine w_iaload rfl rfl sp131 rfl ⟨by omega, by omega⟩ rfl ?_
            refine w_lload_n rfl rfl rfl ?_
            refine w_lload rfl rfl rfl ?_
            refine w_cs (q := am_m207) (na := 3) (as := [_, _, _]) (st' := [_]) rfl rfl rfl rfl (by decide) rfl rfl (Nat.le_of_ble_eq_true rfl) rfl rfl rfl (c_compares (by omega)) rfl rfl ?_
            refine w_if_eq (t := 278) (f := 274) rfl rfl rfl (fun c271 => ?_) (fun c271 => ?_)
            · refine w_lconst (x := 0) rfl rfl (by decide) ?_
              exact w_lret rfl (by first | (rw [sw] at c271; simp +decide only [m_val, m_op, m_e1, m_v1, *, ite_true, ite_false, and_self, and_true, true_and, and_false, false_and, or_true, true_or, or_false, false_or, not_true, not_false_iff] <;> rfl) | (simp +decide only [m_val, m_op, m_e1, m_v1, *, ite_true, ite_false, and_self, and_true, true_and, and_false, false_and, or_true, true_or, or_false, false_or, not_true, not_false_iff, sw 3 (by decide) (by decide), sw 4 (by decide) (by decide), sw 11 (by decide) (by decide), sw 12 (by decide) (by decide), sw 13 (by decide) (by decide), sw 14 (by decide) (by decide)] <;> rfl)) (by first | (simp +decide only [m_val, m_op, m_e1, m_v1, *, ite_true, ite_false, and_self, and_true, true_and, and_false, false_and, or_true, true_or, or_false, false_or, not_true, not_false_iff] <;> first | exact (am_u_self _ _ _).symm | rfl) | (simp +decide only [m_val, m_op, m_e1, m_v1, *, ite_true, ite_false, and_self, and_true, true_and, and_false, false_and, or_true, true_or, or_false, false_or, not_true, not_false_iff, sw 3 (by decide) (by decide), sw 4 (by decide) (by decide), sw 11 (by decide) (by decide), sw 12 (by decide) (by decide), sw 13 (by decide) (by decide), sw 14 (by decide) (by decide)] <;> first | exact (am_u_self _ _ _).symm | rfl)) rfl rfl
            · refine w_lconst (x := 1) rfl rfl (by decide) ?_
              refine w_goto (pc' := 279) rfl rfl ?_
              exact w_lret rfl (by first | (rw [sw] at c271; simp +decide only [m_val, m_op, m_e1, m_v1, *, ite_true, ite_false, and_self, and_true, true_and, and_false, false_and, or_true, true_or, or_false, false_or, not_true, not_false_iff] <;> rfl) | (simp +decide only [m_val, m_op, m_e1, m_v1, *, ite_true, ite_false, and_self, and_true, true_and, and_false, false_and, or_true, true_or, or_false, false_or, not_true, not_false_iff, sw 3 (by decide) (by decide), sw 4 (by decide) (by decide), sw 11 (by decide) (by decide), sw 12 (by decide) (by decide), sw 13 (by decide) (by decide), sw 14 (by decide) (by decide)] <;> rfl)) (by first | (simp +decide only [m_val, m_op, m_e1, m_v1, *, ite_true, ite_false, and_self, and_true, true_and, and_false, false_and, or_true, true_or, or_false, false_or, not_true, not_false_iff] <;> first | exact (am_u_self _ _ _).symm | rfl) | (simp +decide only [m_val, m_op, m_e1, m_v1, *, ite_true, ite_false, and_self, and_true, true_and, and_false, false_and, or_true, true_or, or_false, false_or, not_true, not_false_iff, sw 3 (by decide) (by decide), sw 4 (by decide) (by decide), sw 11 (by decide) (by decide), sw 12 (by decide) (by decide), sw 13 (by decide) (by decide), sw 14 (by decide) (by decide)] <;> first | exact (am_u_self _ _ _).symm | rfl)) rfl rfl
          · refine ⟨259, rfl, ?_⟩
            refine w_aload_n rfl rfl rfl ?_
            refine w_gf (t := .ref (131)) (v := .ref (131)) rfl rfl rfl sp110 rfl rfl rfl ?_
            refine w_iload_n rfl rfl rfl ?_
            refine w_iaload rfl rfl sp131 rfl ⟨by omega, by omega⟩ rfl ?_
            refine w_lload_n rfl rfl rfl ?_
            refine w_lload rfl rfl rfl ?_
            refine w_cs (q := am_m207) (na := 3) (as := [_, _, _]) (st' := [_]) rfl rfl rfl rfl (by decide) rfl rfl (Nat.le_of_ble_eq_true rfl) rfl rfl rfl (c_compares (by omega)) rfl rfl ?_
            refine w_if_eq (t := 278) (f := 274) rfl rfl rfl (fun c271 => ?_) (fun c271 => ?_)
            · refine w_lconst (x := 0) rfl rfl (by decide) ?_
              exact w_lret rfl (by first | (rw [sw] at c271; simp +decide only [m_val, m_op, m_e1, m_v1, *, ite_true, ite_false, and_self, and_true, true_and, and_false, false_and, or_true, true_or, or_false, false_or, not_true, not_false_iff] <;> rfl) | (simp +decide only [m_val, m_op, m_e1, m_v1, *, ite_true, ite_false, and_self, and_true, true_and, and_false, false_and, or_true, true_or, or_false, false_or, not_true, not_false_iff, sw 3 (by decide) (by decide), sw 4 (by decide) (by decide), sw 11 (by decide) (by decide), sw 12 (by decide) (by decide), sw 13 (by decide) (by decide), sw 14 (by decide) (by decide)] <;> rfl)) (by first | (simp +decide only [m_val, m_op, m_e1, m_v1, *, ite_true, ite_false, and_self, and_true, true_and, and_false, false_and, or_true, true_or, or_false, false_or, not_true, not_false_iff] <;> first | exact (am_u_self _ _ _).symm | rfl) | (simp +decide only [m_val, m_op, m_e1, m_v1, *, ite_true, ite_false, and_self, and_true, true_and, and_false, false_and, or_true, true_or, or_false, false_or, not_true, not_false_iff, sw 3 (by decide) (by decide), sw 4 (by decide) (by decide), sw 11 (by decide) (by decide), sw 12 (by decide) (by decide), sw 13 (by decide) (by decide), sw 14 (by decide) (by decide)] <;> first | exact (am_u_self _ _ _).symm | rfl)) rfl rfl
            · refine w_lconst (x := 1) rfl rfl (by decide) ?_
              refine w_goto (pc' := 279) rfl rfl ?_
              exact w_lret rfl (by first | (rw [sw] at c271; simp +decide only [m_val, m_op, m_e1, m_v1, *, ite_true, ite_false, and_self, and_true, true_and, and_false, false_and, or_true, true_or, or_false, false_or, not_true, not_false_iff] <;> rfl) | (simp +decide only [m_val, m_op, m_e1, m_v1, *, ite_true, ite_false, and_self, and_true, true_and, and_false, false_and, or_true, true_or, or_false, false_or, not_true, not_false_iff, sw 3 (by decide) (by decide), sw 4 (by decide) (by decide), sw 11 (by decide) (by decide), sw 12 (by decide) (by decide), sw 13 (by decide) (by decide), sw 14 (by decide) (by decide)] <;> rfl)) (by first | (simp +decide only [m_val, m_op, m_e1, m_v1, *, ite_true, ite_false, and_self, and_true, true_and, and_false, false_and, or_true, true_or, or_false, false_or, not_true, not_false_iff] <;> first | exact (am_u_self _ _ _).symm | rfl) | (simp +decide only [m_val, m_op, m_e1, m_v1, *, ite_true, ite_false, and_self, and_true, true_and, and_false, false_and, or_true, true_or, or_false, false_or, not_true, not_false_iff, sw 3 (by decide) (by decide), sw 4 (by decide) (by decide), sw 11 (by decide) (by decide), sw 12 (by decide) (by decide), sw 13 (by decide) (by decide), sw 14 (by decide) (by decide)] <;> first | exact (am_u_self _ _ _).symm | rfl)) rfl rfl
          · refine ⟨194, rfl, ?_⟩
            refine w_aload_n rfl rfl rfl ?_
            refine w_lload_n rfl rfl rfl ?_
            refine w_lload rfl rfl rfl ?_
            refine w_ladd rfl rfl ?_
            refine w_cv (q := am_m206) (as := [_]) (rest := []) (st' := [_]) rfl rfl rfl rfl rfl rfl sp110 rfl rfl rfl rfl (c_bounded (by omega)) rfl rfl ?_
            exact w_lret rfl (by simp +decide only [m_val, m_op, m_e1, m_v1, *, ite_true, ite_false, and_self, and_true, true_and, and_false, false_and, or_true, true_or, or_false, false_or, not_true, not_false_iff] <;> rfl) (by first | (simp +decide only [m_val, m_op, m_e1, m_v1, *, ite_true, ite_false, and_self, and_true, true_and, and_false, false_and, or_true, true_or, or_false, false_or, not_true, not_false_iff] <;> first | exact (am_u_self _ _ _).symm | rfl) | (simp +decide only [m_val, m_op, m_e1, m_v1, *, ite_true, ite_false, and_self, and_true, true_and, and_false, false_and, or_true, true_or, or_false, false_or, not_true, not_false_iff, sw 3 (by decide) (by decide), sw 4 (by decide) (by decide), sw 11 (by decide) (by decide), sw 12 (by decide) (by decide), sw 13 (by decide) (by decide), sw 14 (by decide) (by decide)] <;> first | exact (am_u_self _ _ _).symm | rfl)) rfl rfl
          · refine ⟨203, rfl, ?_⟩
            refine w_aload_n rfl rfl rfl ?_
            refine w_lload_n rfl rfl rfl ?_
            refine w_lload rfl rfl rfl ?_
            refine w_lsub rfl rfl ?_
            refine w_cv (q := am_m206) (as := [_]) (rest := []) (st' := [_]) rfl rfl rfl rfl rfl rfl sp110 rfl rfl rfl rfl (c_bounded (by omega)) rfl rfl ?_
            exact w_lret rfl (by simp +decide only [m_val, m_op, m_e1, m_v1, *, ite_true, ite_false, and_self, and_true, true_and, and_false, false_and, or_true, true_or, or_false, false_or, not_true, not_false_iff] <;> rfl) (by first | (simp +decide only [m_val, m_op, m_e1, m_v1, *, ite_true, ite_false, and_self, and_true, true_and, and_false, false_and, or_true, true_or, or_false, false_or, not_true, not_false_iff] <;> first | exact (am_u_self _ _ _).symm | rfl) | (simp +decide only [m_val, m_op, m_e1, m_v1, *, ite_true, ite_false, and_self, and_true, true_and, and_false, false_and, or_true, true_or, or_false, false_or, not_true, not_false_iff, sw 3 (by decide) (by decide), sw 4 (by decide) (by decide), sw 11 (by decide) (by decide), sw 12 (by decide) (by decide), sw 13 (by decide) (by decide), sw 14 (by decide) (by decide)] <;> first | exact (am_u_self _ _ _).symm | rfl)) rfl rfl
          · refine ⟨212, rfl, ?_⟩
            refine w_aload_n rfl rfl rfl ?_
            refine w_lload_n rfl rfl rfl ?_
            refine w_lload rfl rfl rfl ?_
            refine w_cv (q := am_m208) (as := [_, _]) (rest := []) (st' := [_]) rfl rfl rfl rfl rfl rfl sp110 rfl rfl rfl rfl (c_times (by omega)) rfl rfl ?_
            exact w_lret rfl (by simp +decide only [m_val, m_op, m_e1, m_v1, *, ite_true, ite_false, and_self, and_true, true_and, and_false, false_and, or_true, true_or, or_false, false_or, not_true, not_false_iff] <;> rfl) (by first | (simp +decide only [m_val, m_op, m_e1, m_v1, *, ite_true, ite_false, and_self, and_true, true_and, and_false, false_and, or_true, true_or, or_false, false_or, not_true, not_false_iff] <;> first | exact (am_u_self _ _ _).symm | rfl) | (simp +decide only [m_val, m_op, m_e1, m_v1, *, ite_true, ite_false, and_self, and_true, true_and, and_false, false_and, or_true, true_or, or_false, false_or, not_true, not_false_iff, sw 3 (by decide) (by decide), sw 4 (by decide) (by decide), sw 11 (by decide) (by decide), sw 12 (by decide) (by decide), sw 13 (by decide) (by decide), sw 14 (by decide) (by decide)] <;> first | exact (am_u_self _ _ _).symm | rfl)) rfl rfl
          · refine ⟨220, rfl, ?_⟩
            refine w_aload_n rfl rfl rfl ?_
            refine w_aload_n rfl rfl rfl ?_
            refine w_gf (t := .int 0) (v := .int _) rfl rfl rfl sp110 rfl (congrArg Value.int rfl) rfl ?_
            refine w_if_ne (t := 235) (f := 228) rfl rfl rfl (fun c225 => ?_) (fun c225 => ?_)
            · refine w_iconst (x := Int32.ofNat 1) rfl rfl (by decide) ?_
              refine w_goto (pc' := 240) rfl rfl ?_
              refine w_pf rfl rfl rfl sp110 rfl rfl rfl ?_
              refine w_aload_n rfl rfl rfl ?_
              refine w_gf (t := .int 0) (v := .int _) rfl rfl rfl sp110 rfl (congrArg Value.int am_u_at) rfl ?_
              refine w_if_eq (t := 254) (f := 250) rfl rfl rfl (fun c247 => absurd c247 (by decide)) (fun c247 => ?_)
              refine w_lconst (x := 0) rfl rfl (by decide) ?_
              refine w_goto (pc' := 258) rfl rfl ?_
              exact w_lret rfl (by simp +decide only [m_val, m_op, m_e1, m_v1, *, ite_true, ite_false, and_self, and_true, true_and, and_false, false_and, or_true, true_or, or_false, false_or, not_true, not_false_iff] <;> rfl) (by first | (simp +decide only [m_val, m_op, m_e1, m_v1, *, ite_true, ite_false, and_self, and_true, true_and, and_false, false_and, or_true, true_or, or_false, false_or, not_true, not_false_iff] <;> first | exact (am_u_self _ _ _).symm | rfl) | (simp +decide only [m_val, m_op, m_e1, m_v1, *, ite_true, ite_false, and_self, and_true, true_and, and_false, false_and, or_true, true_or, or_false, false_or, not_true, not_false_iff, sw 3 (by decide) (by decide), sw 4 (by decide) (by decide), sw 11 (by decide) (by decide), sw 12 (by decide) (by decide), sw 13 (by decide) (by decide), sw 14 (by decide) (by decide)] <;> first | exact (am_u_self _ _ _).symm | rfl)) rfl rfl
            · refine w_lload rfl rfl rfl ?_
              refine w_lconst (x := 0) rfl rfl (by decide) ?_
              refine w_lc_ne (t := 239) (f := 235) (p1 := 232) rfl rfl rfl rfl rfl (fun c232 => ?_) (fun c232 => ?_)
              · refine w_iconst (x := Int32.ofNat 0) rfl rfl (by decide) ?_
                refine w_pf rfl rfl rfl sp110 rfl rfl rfl ?_
                refine w_aload_n rfl rfl rfl ?_
                refine w_gf (t := .int 0) (v := .int _) rfl rfl rfl sp110 rfl (congrArg Value.int am_u_at) rfl ?_
                refine w_if_eq (t := 254) (f := 250) rfl rfl rfl (fun c247 => ?_) (fun c247 => absurd c247 (by decide))
                refine w_lload_n rfl rfl rfl ?_
                refine w_lload rfl rfl rfl ?_
                refine w_ldiv rfl rfl c232 ?_
                exact w_lret rfl (by simp +decide only [m_val, m_op, m_e1, m_v1, *, ite_true, ite_false, and_self, and_true, true_and, and_false, false_and, or_true, true_or, or_false, false_or, not_true, not_false_iff] <;> rfl) (by first | (simp +decide only [m_val, m_op, m_e1, m_v1, *, ite_true, ite_false, and_self, and_true, true_and, and_false, false_and, or_true, true_or, or_false, false_or, not_true, not_false_iff] <;> first | exact (am_u_self _ _ _).symm | rfl) | (simp +decide only [m_val, m_op, m_e1, m_v1, *, ite_true, ite_false, and_self, and_true, true_and, and_false, false_and, or_true, true_or, or_false, false_or, not_true, not_false_iff, sw 3 (by decide) (by decide), sw 4 (by decide) (by decide), sw 11 (by decide) (by decide), sw 12 (by decide) (by decide), sw 13 (by decide) (by decide), sw 14 (by decide) (by decide)] <;> first | exact (am_u_self _ _ _).symm | rfl)) rfl rfl
              · refine w_iconst (x := Int32.ofNat 1) rfl rfl (by decide) ?_
                refine w_goto (pc' := 240) rfl rfl ?_
                refine w_pf rfl rfl rfl sp110 rfl rfl rfl ?_
                refine w_aload_n rfl rfl rfl ?_
                refine w_gf (t := .int 0) (v := .int _) rfl rfl rfl sp110 rfl (congrArg Value.int am_u_at) rfl ?_
                refine w_if_eq (t := 254) (f := 250) rfl rfl rfl (fun c247 => absurd c247 (by decide)) (fun c247 => ?_)
                refine w_lconst (x := 0) rfl rfl (by decide) ?_
                refine w_goto (pc' := 258) rfl rfl ?_
                exact w_lret rfl (by simp +decide only [m_val, m_op, m_e1, m_v1, *, ite_true, ite_false, and_self, and_true, true_and, and_false, false_and, or_true, true_or, or_false, false_or, not_true, not_false_iff] <;> rfl) (by first | (simp +decide only [m_val, m_op, m_e1, m_v1, *, ite_true, ite_false, and_self, and_true, true_and, and_false, false_and, or_true, true_or, or_false, false_or, not_true, not_false_iff] <;> first | exact (am_u_self _ _ _).symm | rfl) | (simp +decide only [m_val, m_op, m_e1, m_v1, *, ite_true, ite_false, and_self, and_true, true_and, and_false, false_and, or_true, true_or, or_false, false_or, not_true, not_false_iff, sw 3 (by decide) (by decide), sw 4 (by decide) (by decide), sw 11 (by decide) (by decide), sw 12 (by decide) (by decide), sw 13 (by decide) (by decide), sw 14 (by decide) (by decide)] <;> first | exact (am_u_self _ _ _).symm | rfl)) rfl rfl
      · refine w_lload_n rfl rfl rfl ?_
        refine w_lconst (x := 0) rfl rfl (by decide) ?_
        refine w_lc_ne (t := 71) (f := 67) (p1 := 64) rfl rfl rfl rfl rfl (fun c64 => ?_) (fun c64 => ?_)
        · refine w_lconst (x := 0) rfl rfl (by decide) ?_
          exact w_lret rfl (by simp +decide only [m_val, m_op, m_e1, m_v1, *, ite_true, ite_false, and_self, and_true, true_and, and_false, false_and, or_true, true_or, or_false, false_or, not_true, not_false_iff] <;> rfl) (by first | (simp +decide only [m_val, m_op, m_e1, m_v1, *, ite_true, ite_false, and_self, and_true, true_and, and_false, false_and, or_true, true_or, or_false, false_or, not_true, not_false_iff] <;> first | exact (am_u_self _ _ _).symm | rfl) | (simp +decide only [m_val, m_op, m_e1, m_v1, *, ite_true, ite_false, and_self, and_true, true_and, and_false, false_and, or_true, true_or, or_false, false_or, not_true, not_false_iff, sw 3 (by decide) (by decide), sw 4 (by decide) (by decide), sw 11 (by decide) (by decide), sw 12 (by decide) (by decide), sw 13 (by decide) (by decide), sw 14 (by decide) (by decide)] <;> first | exact (am_u_self _ _ _).symm | rfl)) rfl rfl
        · refine w_lconst (x := 1) rfl rfl (by decide) ?_
          refine w_goto (pc' := 72) rfl rfl ?_
          exact w_lret rfl (by simp +decide only [m_val, m_op, m_e1, m_v1, *, ite_true, ite_false, and_self, and_true, true_and, and_false, false_and, or_true, true_or, or_false, false_or, not_true, not_false_iff] <;> rfl) (by first | (simp +decide only [m_val, m_op, m_e1, m_v1, *, ite_true, ite_false, and_self, and_true, true_and, and_false, false_and, or_true, true_or, or_false, false_or, not_true, not_false_iff] <;> first | exact (am_u_self _ _ _).symm | rfl) | (simp +decide only [m_val, m_op, m_e1, m_v1, *, ite_true, ite_false, and_self, and_true, true_and, and_false, false_and, or_true, true_or, or_false, false_or, not_true, not_false_iff, sw 3 (by decide) (by decide), sw 4 (by decide) (by decide), sw 11 (by decide) (by decide), sw 12 (by decide) (by decide), sw 13 (by decide) (by decide), sw 14 (by decide) (by decide)] <;> first | exact (am_u_self _ _ _).symm | rfl)) rfl rfl
    · refine w_aload_n rfl rfl rfl ?_
      refine w_gf (t := .ref (136)) (v := .ref (136)) rfl rfl rfl sp110 rfl rfl rfl ?_
      refine w_aload_n rfl rfl rfl ?_
      refine w_gf (t := .ref (132)) (v := .ref (132)) rfl rfl rfl sp110 rfl rfl rfl ?_
      refine w_iload_n rfl rfl rfl ?_
      refine w_iaload rfl rfl sp132 rfl ⟨by omega, by omega⟩ rfl ?_
      refine w_laload rfl rfl sp136 (hK.1 c24).1 ⟨(hK.1 c24).2, by omega⟩ ?_
      exact w_lret rfl (by simp +decide only [m_val, m_op, m_e1, m_v1, *, ite_true, ite_false, and_self, and_true, true_and, and_false, false_and, or_true, true_or, or_false, false_or, not_true, not_false_iff] <;> rfl) (by first | (simp +decide only [m_val, m_op, m_e1, m_v1, *, ite_true, ite_false, and_self, and_true, true_and, and_false, false_and, or_true, true_or, or_false, false_or, not_true, not_false_iff] <;> first | exact (am_u_self _ _ _).symm | rfl) | (simp +decide only [m_val, m_op, m_e1, m_v1, *, ite_true, ite_false, and_self, and_true, true_and, and_false, false_and, or_true, true_or, or_false, false_or, not_true, not_false_iff, sw 3 (by decide) (by decide), sw 4 (by decide) (by decide), sw 11 (by decide) (by decide), sw 12 (by decide) (by decide), sw 13 (by decide) (by decide), sw 14 (by decide) (by decide)] <;> first | exact (am_u_self _ _ _).symm | rfl)) rfl rfl
  · refine w_aload_n rfl rfl rfl ?_
    refine w_gf (t := .ref (132)) (v := .ref (132)) rfl rfl rfl sp110 rfl rfl rfl ?_
    refine w_iload_n rfl rfl rfl ?_
    refine w_iaload rfl rfl sp132 rfl ⟨by omega, by omega⟩ rfl ?_
    refine w_i2l rfl rfl ?_
    exact w_lret rfl (by simp +decide only [m_val, m_op, m_e1, m_v1, *, ite_true, ite_false, and_self, and_true, true_and, and_false, false_and, or_true, true_or, or_false, false_or, not_true, not_false_iff] <;> rfl) (by first | (simp +decide only [m_val, m_op, m_e1, m_v1, *, ite_true, ite_false, and_self, and_true, true_and, and_false, false_and, or_true, true_or, or_false, false_or, not_true, not_false_iff] <;> first | exact (am_u_self _ _ _).symm | rfl) | (simp +decide only [m_val, m_op, m_e1, m_v1, *, ite_true, ite_false, and_self, and_true, true_and, and_false, false_and, or_true, true_or, or_false, false_or, not_true, not_false_iff, sw 3 (by decide) (by decide), sw 4 (by decide) (by decide), sw 11 (by decide) (by decide), sw 12 (by decide) (by decide), sw 13 (by decide) (by decide), sw 14 (by decide) (by decide)] <;> first | exact (am_u_self _ _ _).symm | rfl)) rfl rfl
def lf (I : hI) (w : Nat) : Nat := nn (I 129 w)
def ln (I : hI) (w : Nat) : Nat := nn (I 130 w) - nn (I 129 w)
/-- a law that can be worked out -/
def lok (I : hI) (w : Nat) : Prop := I 129 w = Int32.ofNat (lf I w) ∧ I 130 w = Int32.ofNat (lf I w + ln I w) ∧ 1 ≤ ln I w ∧ lf I w + ln I w ≤ 64 ∧ ∀ i, i < lf I w + ln I w → kok I i
def m_lw (I : hI) (J : hJ) (f r : Nat) : Int32 × hJ := s_for (fun i p => ((m_val (am_u I 110 53 p.1) p.2 (f + i)).1, am_u p.2 137 (f + i) (m_val (am_u I 110 53 p.1) p.2 (f + i)).2)) r (Int32.ofNat 0, J)
theorem kok_u {I : hI} {j n : Nat} {x : Int32} (h : kok I n) : kok (am_u I 110 j x) n := by
  unfold kok at h ⊢
  rw [am_u_na (by decide), am_u_na (by decide), am_u_na (by decide)]
  exact h
theorem l_lawOf {k : Nat} {I : hI} {J : hJ} {R : hR} {q : Option Value × am_H} {w f n : Nat} (hw : w < 3) (h130 : I 130 w = Int32.ofNat (f + n)) (h64 : f + n ≤ 64) (hK : ∀ i, i < f + n → kok I i) (hk : 2 ≤ k) (Z : wz k 12 (some .long) am_c223 39 [.ref 110, .int (Int32.ofNat w), .int (Int32.ofNat (f + n))] [] (am_u I 110 53 (m_lw I J f n).1) ((m_lw I J f n).2) R q) : ∀ (j r : Nat) , r + j = n → wz k 12 (some .long) am_c223 12 [.ref 110, .int (Int32.ofNat w), .int (Int32.ofNat (f + r))] [] (am_u I 110 53 (m_lw I J f r).1) ((m_lw I J f r).2) R q := by
  intro j
  induction j with
  | zero =>
    intro r e
    obtain rfl : n = r := by omega
    refine w_iload_n rfl rfl rfl ?_
    refine w_aload_n rfl rfl rfl ?_
    refine w_gf (t := .ref (130)) (v := .ref (130)) rfl rfl rfl sp110 rfl rfl rfl ?_
    refine w_iload_n rfl rfl rfl ?_
    refine w_iaload rfl rfl sp130 rfl ⟨by omega, by omega⟩ ((congrFun (am_u_ne (by decide)) _).trans h130) ?_
    refine w_ic_geN (t := 39) (f := 22) rfl rfl rfl (by omega) (by omega) (fun c19 => ?_) (fun c19 => absurd c19 (by omega))
    exact Z
  | succ j ih =>
    intro r e
    refine w_iload_n rfl rfl rfl ?_
    refine w_aload_n rfl rfl rfl ?_
    refine w_gf (t := .ref (130)) (v := .ref (130)) rfl rfl rfl sp110 rfl rfl rfl ?_
    refine w_iload_n rfl rfl rfl ?_
    refine w_iaload rfl rfl sp130 rfl ⟨by omega, by omega⟩ ((congrFun (am_u_ne (by decide)) _).trans h130) ?_
    refine w_ic_geN (t := 39) (f := 22) rfl rfl rfl (by omega) (by omega) (fun c19 => absurd c19 (by omega)) (fun c19 => ?_)
    refine w_aload_n rfl rfl rfl ?_
    refine w_gf (t := .ref (137)) (v := .ref (137)) rfl rfl rfl sp110 rfl rfl rfl ?_
    refine w_iload_n rfl rfl rfl ?_
    refine w_aload_n rfl rfl rfl ?_
    refine w_iload_n rfl rfl rfl ?_
    refine w_cv (q := am_m209) (as := [_]) (rest := [_, _]) (st' := [_, _, _]) rfl rfl rfl rfl rfl rfl sp110 rfl rfl rfl rfl (c_valueOf (by omega) (kok_u (hK _ (by omega))) (by omega)) rfl rfl ?_
    refine w_lastore rfl rfl sp137 rfl ⟨by omega, by omega⟩ ?_
    refine w_iinc (L' := [_, _, _]) rfl rfl rfl (am_incN 1) rfl ?_
    refine w_goto (pc' := 12) rfl rfl ?_
    exact wz_J (ih (r + 1) (by omega)) rfl (by simp only [m_lw, s_for, am_u_uu]) rfl
def m_ls (I : hI) (J : hJ) (w : Nat) : Int32 × hJ := m_lw I J (lf I w) (ln I w)
def m_law (I : hI) (J : hJ) (w : Nat) : Int64 := if (m_ls I J w).1 = 0 then (m_ls I J w).2 137 (lf I w + ln I w - 1) else 0
theorem c_lawOf {k : Nat} {I : hI} {J : hJ} {R : hR} {w : Nat} (hw : w < 3) (hL : lok I w) (hk : 3 ≤ k) : ct k 223 [.ref 110, .int (Int32.ofNat w)] I J R (some (.long (m_law I J w))) (am_u I 110 53 (m_ls I J w).1) ((m_ls I J w).2) R := by
  obtain ⟨k, rfl⟩ : ∃ k', k = k' + 1 := ⟨k - 1, by omega⟩
  have h64 := hL.2.2.2.1
  have h1 := hL.2.2.1
  refine ct_of (q := am_m223) (L := [_, _, _]) rfl rfl rfl rfl rfl rfl ?_
  refine w_aload_n rfl rfl rfl ?_
  refine w_iconst (x := Int32.ofNat 0) rfl rfl (by decide) ?_
  refine w_pf rfl rfl rfl sp110 rfl rfl rfl ?_
  refine w_aload_n rfl rfl rfl ?_
  refine w_gf (t := .ref (129)) (v := .ref (129)) rfl rfl rfl sp110 rfl rfl rfl ?_
  refine w_iload_n rfl rfl rfl ?_
  refine w_iaload rfl rfl sp129 rfl ⟨by omega, by omega⟩ ((congrFun (am_u_ne (by decide)) _).trans hL.1) ?_
  refine w_istore_n (L' := [_, _, _]) rfl rfl rfl ?_
  refine l_lawOf hw hL.2.1 hL.2.2.2.1 hL.2.2.2.2 (by omega) ?_ (ln I w) 0 (by omega)
  refine w_aload_n rfl rfl rfl ?_
  refine w_gf (t := .int 0) (v := .int _) rfl rfl rfl sp110 rfl (congrArg Value.int am_u_at) rfl ?_
  refine w_if_eq (t := 50) (f := 46) rfl rfl rfl (fun c43 => ?_) (fun c43 => ?_)
  · refine w_aload_n rfl rfl rfl ?_
    refine w_gf (t := .ref (137)) (v := .ref (137)) rfl rfl rfl sp110 rfl rfl rfl ?_
    refine w_aload_n rfl rfl rfl ?_
    refine w_gf (t := .ref (130)) (v := .ref (130)) rfl rfl rfl sp110 rfl rfl rfl ?_
    refine w_iload_n rfl rfl rfl ?_
    refine w_iaload rfl rfl sp130 rfl ⟨by omega, by omega⟩ ((congrFun (am_u_ne (by decide)) _).trans hL.2.1) ?_
    refine w_iconst (x := Int32.ofNat 1) rfl rfl (by decide) ?_
    refine w_isubN rfl rfl (by omega) ?_
    refine w_laload rfl rfl sp137 rfl ⟨by omega, by omega⟩ ?_
    exact w_lret rfl (by simp only [m_law, m_ls, *, ite_true, ite_false, and_self, and_true, true_and, and_false, false_and, or_true, true_or, or_false, false_or, not_true, not_false_iff] <;> rfl) rfl rfl rfl
  · refine w_lconst (x := 0) rfl rfl (by decide) ?_
    refine w_goto (pc' := 63) rfl rfl ?_
    exact w_lret rfl (by simp only [m_law, m_ls, *, ite_true, ite_false, and_self, and_true, true_and, and_false, false_and, or_true, true_or, or_false, false_or, not_true, not_false_iff] <;> rfl) rfl rfl rfl
