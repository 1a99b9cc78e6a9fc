/-! The class: shapes at any place, arraycopy, a state. -/
theorem shT_0 {T : Nat} (h : T = 9 ∨ T = 36) : am_shL[T]? = some (.inr (.inl (10, [.int 0, .ref (T + 1), .ref (T + 3), .ref (T + 4), .ref (T + 5), .ref (T + 7), .ref (T + 8), .ref (T + 9), .ref (T + 10), .ref (T + 11), .ref (T + 13), .int 0, .ref (T + 14), .ref (T + 15), .ref (T + 16), .int 0, .int 0, .int 0, .ref (T + 17)]))) := by
  rcases h with rfl | rfl <;> rfl
theorem shT_1 {T : Nat} (h : T = 9 ∨ T = 36) : am_shL[T + 1]? = some (.inr (.inl (5, [.ref (T + 2), .int 0]))) := by
  rcases h with rfl | rfl <;> rfl
theorem shT_2 {T : Nat} (h : T = 9 ∨ T = 36) : am_shL[T + 2]? = some (.inl (.int, false, 6)) := by
  rcases h with rfl | rfl <;> rfl
theorem shT_3 {T : Nat} (h : T = 9 ∨ T = 36) : am_shL[T + 3]? = some (.inl (.int, false, 6)) := by
  rcases h with rfl | rfl <;> rfl
theorem shT_4 {T : Nat} (h : T = 9 ∨ T = 36) : am_shL[T + 4]? = some (.inl (.int, false, 6)) := by
  rcases h with rfl | rfl <;> rfl
theorem shT_5 {T : Nat} (h : T = 9 ∨ T = 36) : am_shL[T + 5]? = some (.inr (.inl (5, [.ref (T + 6), .int 0]))) := by
  rcases h with rfl | rfl <;> rfl
theorem shT_6 {T : Nat} (h : T = 9 ∨ T = 36) : am_shL[T + 6]? = some (.inl (.int, false, 8)) := by
  rcases h with rfl | rfl <;> rfl
theorem shT_7 {T : Nat} (h : T = 9 ∨ T = 36) : am_shL[T + 7]? = some (.inl (.int, false, 8)) := by
  rcases h with rfl | rfl <;> rfl
theorem shT_8 {T : Nat} (h : T = 9 ∨ T = 36) : am_shL[T + 8]? = some (.inl (.int, false, 8)) := by
  rcases h with rfl | rfl <;> rfl
theorem shT_9 {T : Nat} (h : T = 9 ∨ T = 36) : am_shL[T + 9]? = some (.inl (.int, false, 8)) := by
  rcases h with rfl | rfl <;> rfl
theorem shT_10 {T : Nat} (h : T = 9 ∨ T = 36) : am_shL[T + 10]? = some (.inl (.int, false, 8)) := by
  rcases h with rfl | rfl <;> rfl
theorem shT_11 {T : Nat} (h : T = 9 ∨ T = 36) : am_shL[T + 11]? = some (.inr (.inl (5, [.ref (T + 12), .int 0]))) := by
  rcases h with rfl | rfl <;> rfl
theorem shT_12 {T : Nat} (h : T = 9 ∨ T = 36) : am_shL[T + 12]? = some (.inl (.int, false, 5)) := by
  rcases h with rfl | rfl <;> rfl
theorem shT_13 {T : Nat} (h : T = 9 ∨ T = 36) : am_shL[T + 13]? = some (.inl (.int, false, 5)) := by
  rcases h with rfl | rfl <;> rfl
theorem shT_14 {T : Nat} (h : T = 9 ∨ T = 36) : am_shL[T + 14]? = some (.inl (.int, false, 10)) := by
  rcases h with rfl | rfl <;> rfl
theorem shT_15 {T : Nat} (h : T = 9 ∨ T = 36) : am_shL[T + 15]? = some (.inl (.int, false, 10)) := by
  rcases h with rfl | rfl <;> rfl
theorem shT_16 {T : Nat} (h : T = 9 ∨ T = 36) : am_shL[T + 16]? = some (.inl (.int, false, 10)) := by
  rcases h with rfl | rfl <;> rfl
theorem shT_17 {T : Nat} (h : T = 9 ∨ T = 36) : am_shL[T + 17]? = some (.inr (.inr [some (T + 18), some (T + 21), some (T + 24)])) := by
  rcases h with rfl | rfl <;> rfl
theorem shT_18 {T : Nat} (h : T = 9 ∨ T = 36) : am_shL[T + 18]? = some (.inr (.inl (3, [.int 0, .ref (T + 19), .ref (T + 20)]))) := by
  rcases h with rfl | rfl <;> rfl
theorem shT_19 {T : Nat} (h : T = 9 ∨ T = 36) : am_shL[T + 19]? = some (.inl (.int, false, 64)) := by
  rcases h with rfl | rfl <;> rfl
theorem shT_20 {T : Nat} (h : T = 9 ∨ T = 36) : am_shL[T + 20]? = some (.inl (.int, false, 64)) := by
  rcases h with rfl | rfl <;> rfl
theorem shT_21 {T : Nat} (h : T = 9 ∨ T = 36) : am_shL[T + 21]? = some (.inr (.inl (3, [.int 0, .ref (T + 22), .ref (T + 23)]))) := by
  rcases h with rfl | rfl <;> rfl
theorem shT_22 {T : Nat} (h : T = 9 ∨ T = 36) : am_shL[T + 22]? = some (.inl (.int, false, 64)) := by
  rcases h with rfl | rfl <;> rfl
theorem shT_23 {T : Nat} (h : T = 9 ∨ T = 36) : am_shL[T + 23]? = some (.inl (.int, false, 64)) := by
  rcases h with rfl | rfl <;> rfl
theorem shT_24 {T : Nat} (h : T = 9 ∨ T = 36) : am_shL[T + 24]? = some (.inr (.inl (3, [.int 0, .ref (T + 25), .ref (T + 26)]))) := by
  rcases h with rfl | rfl <;> rfl
theorem shT_25 {T : Nat} (h : T = 9 ∨ T = 36) : am_shL[T + 25]? = some (.inl (.int, false, 64)) := by
  rcases h with rfl | rfl <;> rfl
theorem shT_26 {T : Nat} (h : T = 9 ∨ T = 36) : am_shL[T + 26]? = some (.inl (.int, false, 64)) := by
  rcases h with rfl | rfl <;> rfl
theorem shS_0 {S : Nat} (h : S = 63 ∨ S = 70 ∨ S = 77) : am_shL[S]? = some (.inr (.inl (7, [.int 0, .long 0, .int 0, .ref (S + 1), .ref (S + 2), .ref (S + 3), .ref (S + 4), .ref (S + 5), .ref (S + 6)]))) := by
  rcases h with rfl | rfl | rfl <;> rfl
theorem shS_1 {S : Nat} (h : S = 63 ∨ S = 70 ∨ S = 77) : am_shL[S + 1]? = some (.inl (.int, false, 8)) := by
  rcases h with rfl | rfl | rfl <;> rfl
theorem shS_2 {S : Nat} (h : S = 63 ∨ S = 70 ∨ S = 77) : am_shL[S + 2]? = some (.inl (.int, false, 8)) := by
  rcases h with rfl | rfl | rfl <;> rfl
theorem shS_3 {S : Nat} (h : S = 63 ∨ S = 70 ∨ S = 77) : am_shL[S + 3]? = some (.inl (.int, false, 8)) := by
  rcases h with rfl | rfl | rfl <;> rfl
theorem shS_4 {S : Nat} (h : S = 63 ∨ S = 70 ∨ S = 77) : am_shL[S + 4]? = some (.inl (.int, false, 5)) := by
  rcases h with rfl | rfl | rfl <;> rfl
theorem shS_5 {S : Nat} (h : S = 63 ∨ S = 70 ∨ S = 77) : am_shL[S + 5]? = some (.inl (.int, false, 5)) := by
  rcases h with rfl | rfl | rfl <;> rfl
theorem shS_6 {S : Nat} (h : S = 63 ∨ S = 70 ∨ S = 77) : am_shL[S + 6]? = some (.inl (.int, false, 5)) := by
  rcases h with rfl | rfl | rfl <;> rfl
/-- part of a row copied -/
def am_cq (I : hI) (a0 sp a dp n : Nat) : hI := fun b j => if b = a ∧ dp ≤ j ∧ j < dp + n then I a0 (sp + (j - dp)) else I b j
theorem am_cq_list (f g : Nat → Int32) (sp dp n m0 m : Nat) (h0 : sp + n ≤ m0) (h1 : dp + n ≤ m) : ((List.range m).map g).take dp ++ (((List.range m0).map f).drop sp).take n ++ ((List.range m).map g).drop (dp + n) = (List.range m).map (fun j => if dp ≤ j ∧ j < dp + n then f (sp + (j - dp)) else g j) := by
  refine List.ext_getElem? fun i => ?_
  rw [List.getElem?_map]
  by_cases hi : i < m
  · rw [List.getElem?_range hi]
    by_cases h2 : i < dp
    · rw [List.append_assoc, List.getElem?_append_left (by rw [List.length_take, List.length_map, List.length_range]; omega), List.getElem?_take_of_lt h2, List.getElem?_map, List.getElem?_range hi]
      show _ = some (if dp ≤ i ∧ i < dp + n then _ else _)
      rw [if_neg (by omega)]
      rfl
    · by_cases h3 : i < dp + n
      · rw [List.append_assoc, List.getElem?_append_right (by rw [List.length_take, List.length_map, List.length_range]; omega), List.length_take, List.length_map, List.length_range, Nat.min_eq_left (by omega), List.getElem?_append_left (by rw [List.length_take, List.length_drop, List.length_map, List.length_range]; omega), List.getElem?_take_of_lt (by omega), List.getElem?_drop, List.getElem?_map, List.getElem?_range (by omega)]
        show _ = some (if dp ≤ i ∧ i < dp + n then _ else _)
        rw [if_pos (by omega)]
        rfl
      · rw [List.append_assoc, List.getElem?_append_right (by rw [List.length_take, List.length_map, List.length_range]; omega), List.length_take, List.length_map, List.length_range, Nat.min_eq_left (by omega), List.getElem?_append_right (by rw [List.length_take, List.length_drop, List.length_map, List.length_range]; omega), List.length_take, List.length_drop, List.length_map, List.length_range, Nat.min_eq_left (by omega), List.getElem?_drop, List.getElem?_map, show dp + n + (i - dp - n) = i by omega, List.getElem?_range hi]
        show _ = some (if dp ≤ i ∧ i < dp + n then _ else _)
        rw [if_neg (by omega)]
        rfl
  · have hA : (List.range m)[i]? = none := List.getElem?_eq_none (by rw [List.length_range]; omega)
    rw [hA, List.getElem?_eq_none (by simp only [List.length_append, List.length_take, List.length_drop, List.length_map, List.length_range]; omega)]
    rfl
variable {k o : Nat} {rt : Option FieldType} {co : List (List (Nat × Instr × Nat))} {pc pc' : Nat} {L L' st st' : List Value} {I I' : hI} {J J' : hJ} {R R' : hR} {r : Option Value × am_H}
theorem w_cpy {j n1 n2 a0 a sp dp n m0 m : Nat} (ei : am_ins co pc = some (.invokestatic j, 3)) (hp : pc + 3 = pc') (hm : am_mr o j = some (2001, n1, n2)) (h0 : am_shL[a0]? = some (.inl (.int, false, m0))) (h1 : am_shL[a]? = some (.inl (.int, false, m))) (hs : sp + n ≤ m0 ∧ m0 ≤ 1024) (hd : dp + n ≤ m ∧ m ≤ 1024) (hr : (st.map fun v => v.category).sum ≤ 8) (z : wz k o rt co pc' L st (am_cq I a0 sp a dp n) J R r) : wz k o rt co pc L (.int (Int32.ofNat n) :: .int (Int32.ofNat dp) :: .ref a :: .int (Int32.ofNat sp) :: .ref a0 :: st) I J R r := by
  refine w_hw ei rfl hp rfl rfl rfl ?_ z
  show (match am_mr o j with
    | some (2001, _, _) => am_cpy (.int (Int32.ofNat n) :: .int (Int32.ofNat dp) :: .ref a :: .int (Int32.ofNat sp) :: .ref a0 :: st) (am_hp I J R)
    | _ => none) = _
  rw [hm]
  show am_cpy (.int (Int32.ofNat n) :: .int (Int32.ofNat dp) :: .ref a :: .int (Int32.ofNat sp) :: .ref a0 :: st) (am_hp I J R) = _
  unfold am_cpy
  dsimp only
  rw [am_hp_get h0, am_hp_get h1]
  have en : (Int32.ofNat n).toNatClampNeg = n := nn_ofNat (by omega)
  have ed : (Int32.ofNat dp).toNatClampNeg = dp := nn_ofNat (by omega)
  have es : (Int32.ofNat sp).toNatClampNeg = sp := nn_ofNat (by omega)
  unfold am_cell
  dsimp only
  rw [en, ed, es, List.length_map, List.length_range, List.length_map, List.length_range, if_pos ⟨am_oN0 (by omega), am_oN0 (by omega), am_oN0 (by omega), hs.1, hd.1, hr⟩, am_cq_list _ _ _ _ _ _ _ hs.1 hd.1]
  refine congrArg (fun h => some (st, h)) ?_
  refine am_hp_set h1 ?_ ?_
  · show (Sum.inl (FieldType.int, Sum.inl ((List.range m).map (am_cq I a0 sp a dp n a))) : am_E) = _
    refine congrArg (fun f => (Sum.inl (FieldType.int, Sum.inl ((List.range m).map f)) : am_E)) ?_
    funext j
    unfold am_cq
    by_cases hj : dp ≤ j ∧ j < dp + n
    · rw [if_pos ⟨rfl, hj⟩, if_pos hj]
    · rw [if_neg (fun z => hj z.2), if_neg hj]
  · intro b s e
    have e1 : am_cq I a0 sp a dp n b = I b := by
      funext j
      unfold am_cq
      rw [if_neg (fun z => e z.1)]
    rcases s with ⟨t, l, q⟩ | ⟨c, ts⟩ | l
    · cases l
      · show (Sum.inl (t, Sum.inl ((List.range q).map (am_cq I a0 sp a dp n b))) : am_E) = _
        rw [e1]; rfl
      · rfl
    · show (Sum.inr (c, ts.mapIdx (am_fv (am_cq I a0 sp a dp n) J R b)) : am_E) = Sum.inr (c, ts.mapIdx (am_fv I J R b))
      have e2 : am_fv (am_cq I a0 sp a dp n) J R b = am_fv I J R b := by
        funext j v
        unfold am_fv
        rw [e1]
      rw [e2]
    · rfl
section
end
def k_bear (I : hI) (S : Nat) (x : Int32) (n : Nat) : Int32 := s_for (fun r a => if I (S + 3) r = x ∧ I (S + 1) r = Int32.ofNat 1 then a + I (S + 2) r else a) n (Int32.ofNat 0)
theorem k_bear_s (I : hI) (S : Nat) (x : Int32) (n : Nat) : k_bear I S x (n + 1) = if I (S + 3) n = x ∧ I (S + 1) n = Int32.ofNat 1 then k_bear I S x n + I (S + 2) n else k_bear I S x n := rfl
theorem l_bear {k : Nat} {I : hI} {J : hJ} {R : hR} {q : Option Value × am_H} {S : Nat} (hS : S = 63 ∨ S = 70 ∨ S = 77) {x : Int32} (Z : wz k 7 (some .int) am_c66 45 [.ref S, .int x, .int (k_bear I S x 8), .int (Int32.ofNat 8)] [] I J R q) : ∀ (j r : Nat) , r + j = 8 → wz k 7 (some .int) am_c66 4 [.ref S, .int x, .int (k_bear I S x r), .int (Int32.ofNat r)] [] I J R q := by
  intro j
  induction j with
  | zero =>
    intro r e
    obtain rfl : 8 = r := by omega
    refine w_iload_n rfl rfl rfl ?_
    refine w_bipush (x := Int32.ofNat 8) rfl rfl (by decide) ?_
    refine w_ic_geN (t := 45) (f := 10) rfl rfl rfl (by omega) (by omega) (fun c7 => ?_) (fun c7 => absurd c7 (by omega))
    exact Z
  | succ j ih =>
    intro r e
    refine w_iload_n rfl rfl rfl ?_
    refine w_bipush (x := Int32.ofNat 8) rfl rfl (by decide) ?_
    refine w_ic_geN (t := 45) (f := 10) rfl rfl rfl (by omega) (by omega) (fun c7 => absurd c7 (by omega)) (fun c7 => ?_)
    refine w_aload_n rfl rfl rfl ?_
    refine w_gf (t := .ref (S + 3)) (v := .ref (S + 3)) rfl rfl rfl (shS_0 hS) rfl rfl rfl ?_
    refine w_iload_n rfl rfl rfl ?_
    refine w_iaload rfl rfl (shS_3 hS) rfl ⟨by omega, by omega⟩ rfl ?_
    refine w_iload_n rfl rfl rfl ?_
    refine w_ic_ne (t := 39) (f := 20) rfl rfl rfl (fun c17 => ?_) (fun c17 => ?_)
    · refine w_iinc (L' := [_, _, _, _]) rfl rfl rfl (am_incN 1) rfl ?_
      refine w_goto (pc' := 4) rfl rfl ?_
      exact wz_L (ih (r + 1) (by omega)) (by rw [k_bear_s]; simp only [*, ite_true, ite_false, and_self, and_true, true_and, and_false, false_and, or_true, true_or, or_false, false_or, not_true, not_false_iff])
    · refine w_aload_n rfl rfl rfl ?_
      refine w_gf (t := .ref (S + 1)) (v := .ref (S + 1)) rfl rfl rfl (shS_0 hS) rfl rfl rfl ?_
      refine w_iload_n rfl rfl rfl ?_
      refine w_iaload rfl rfl (shS_1 hS) rfl ⟨by omega, by omega⟩ rfl ?_
      refine w_iconst (x := Int32.ofNat 1) rfl rfl (by decide) ?_
      refine w_ic_ne (t := 39) (f := 30) rfl rfl rfl (fun c27 => ?_) (fun c27 => ?_)
      · refine w_iinc (L' := [_, _, _, _]) rfl rfl rfl (am_incN 1) rfl ?_
        refine w_goto (pc' := 4) rfl rfl ?_
        exact wz_L (ih (r + 1) (by omega)) (by rw [k_bear_s]; simp only [*, ite_true, ite_false, and_self, and_true, true_and, and_false, false_and, or_true, true_or, or_false, false_or, not_true, not_false_iff])
      · refine w_iload_n rfl rfl rfl ?_
        refine w_aload_n rfl rfl rfl ?_
        refine w_gf (t := .ref (S + 2)) (v := .ref (S + 2)) rfl rfl rfl (shS_0 hS) rfl rfl rfl ?_
        refine w_iload_n rfl rfl rfl ?_
        refine w_iaload rfl rfl (shS_2 hS) rfl ⟨by omega, by omega⟩ rfl ?_
        refine w_iadd rfl rfl ?_
        refine w_istore_n (L' := [_, _, _, _]) rfl rfl rfl ?_
        refine w_iinc (L' := [_, _, _, _]) rfl rfl rfl (am_incN 1) rfl ?_
        refine w_goto (pc' := 4) rfl rfl ?_
        exact wz_L (ih (r + 1) (by omega)) (by rw [k_bear_s]; simp only [*, ite_true, ite_false, and_self, and_true, true_and, and_false, false_and, or_true, true_or, or_false, false_or, not_true, not_false_iff])
theorem d_bear {k : Nat} {I : hI} {J : hJ} {R : hR} {S : Nat} (hS : S = 63 ∨ S = 70 ∨ S = 77) {x : Int32} (hk : 1 ≤ k) : ct k 66 [.ref S, .int x] I J R (some (.int (k_bear I S x 8))) I J R := by
  obtain ⟨k, rfl⟩ : ∃ k', k = k' + 1 := ⟨k - 1, by omega⟩
  refine ct_of (q := am_m66) (o := 7) (rt := (some .int)) (co := am_c66) (L := [_, _, _, _]) rfl rfl rfl rfl rfl rfl ?_
  refine w_iconst (x := Int32.ofNat 0) rfl rfl (by decide) ?_
  refine w_istore_n (L' := [_, _, _, _]) rfl rfl rfl ?_
  refine w_iconst (x := Int32.ofNat 0) rfl rfl (by decide) ?_
  refine w_istore_n (L' := [_, _, _, _]) rfl rfl rfl ?_
  refine l_bear hS ?_ 8 0 (by omega)
  refine w_iload_n rfl rfl rfl ?_
  exact w_iret rfl rfl rfl rfl rfl
def k_within (I : hI) (S : Nat) (x : Int32) (n : Nat) : Int32 := s_for (fun r a => if I (S + 3) r = x then a ||| Int32.ofNat (2 ^ r) else a) n (Int32.ofNat 0)
theorem k_within_s (I : hI) (S : Nat) (x : Int32) (n : Nat) : k_within I S x (n + 1) = if I (S + 3) n = x then k_within I S x n ||| Int32.ofNat (2 ^ n) else k_within I S x n := rfl
theorem l_within {k : Nat} {I : hI} {J : hJ} {R : hR} {q : Option Value × am_H} {S : Nat} (hS : S = 63 ∨ S = 70 ∨ S = 77) {x : Int32} (Z : wz k 7 (some .int) am_c67 32 [.ref S, .int x, .int (k_within I S x 8), .int (Int32.ofNat 8)] [] I J R q) : ∀ (j r : Nat) , r + j = 8 → wz k 7 (some .int) am_c67 4 [.ref S, .int x, .int (k_within I S x r), .int (Int32.ofNat r)] [] I J R q := by
  intro j
  induction j with
  | zero =>
    intro r e
    obtain rfl : 8 = r := by omega
    refine w_iload_n rfl rfl rfl ?_
    refine w_bipush (x := Int32.ofNat 8) rfl rfl (by decide) ?_
    refine w_ic_geN (t := 32) (f := 10) rfl rfl rfl (by omega) (by omega) (fun c7 => ?_) (fun c7 => absurd c7 (by omega))
    exact Z
  | succ j ih =>
    intro r e
    refine w_iload_n rfl rfl rfl ?_
    refine w_bipush (x := Int32.ofNat 8) rfl rfl (by decide) ?_
    refine w_ic_geN (t := 32) (f := 10) rfl rfl rfl (by omega) (by omega) (fun c7 => absurd c7 (by omega)) (fun c7 => ?_)
    refine w_aload_n rfl rfl rfl ?_
    refine w_gf (t := .ref (S + 3)) (v := .ref (S + 3)) rfl rfl rfl (shS_0 hS) rfl rfl rfl ?_
    refine w_iload_n rfl rfl rfl ?_
    refine w_iaload rfl rfl (shS_3 hS) rfl ⟨by omega, by omega⟩ rfl ?_
    refine w_iload_n rfl rfl rfl ?_
    refine w_ic_ne (t := 26) (f := 20) rfl rfl rfl (fun c17 => ?_) (fun c17 => ?_)
    · refine w_iinc (L' := [_, _, _, _]) rfl rfl rfl (am_incN 1) rfl ?_
      refine w_goto (pc' := 4) rfl rfl ?_
      exact wz_L (ih (r + 1) (by omega)) (by rw [k_within_s]; simp only [*, ite_true, ite_false, and_self, and_true, true_and, and_false, false_and, or_true, true_or, or_false, false_or, not_true, not_false_iff])
    · refine w_iload_n rfl rfl rfl ?_
      refine w_iconst (x := Int32.ofNat 1) rfl rfl (by decide) ?_
      refine w_iload_n rfl rfl rfl ?_
      refine w_shlN rfl rfl (by omega) ?_
      refine w_ior rfl rfl ?_
      refine w_istore_n (L' := [_, _, _, _]) rfl rfl rfl ?_
      refine w_iinc (L' := [_, _, _, _]) rfl rfl rfl (am_incN 1) rfl ?_
      refine w_goto (pc' := 4) rfl rfl ?_
      exact wz_L (ih (r + 1) (by omega)) (by rw [k_within_s]; simp only [*, ite_true, ite_false, and_self, and_true, true_and, and_false, false_and, or_true, true_or, or_false, false_or, not_true, not_false_iff])
theorem d_within {k : Nat} {I : hI} {J : hJ} {R : hR} {S : Nat} (hS : S = 63 ∨ S = 70 ∨ S = 77) {x : Int32} (hk : 1 ≤ k) : ct k 67 [.ref S, .int x] I J R (some (.int (k_within I S x 8))) I J R := by
  obtain ⟨k, rfl⟩ : ∃ k', k = k' + 1 := ⟨k - 1, by omega⟩
  refine ct_of (q := am_m67) (o := 7) (rt := (some .int)) (co := am_c67) (L := [_, _, _, _]) rfl rfl rfl rfl rfl rfl ?_
  refine w_iconst (x := Int32.ofNat 0) rfl rfl (by decide) ?_
  refine w_istore_n (L' := [_, _, _, _]) rfl rfl rfl ?_
  refine w_iconst (x := Int32.ofNat 0) rfl rfl (by decide) ?_
  refine w_istore_n (L' := [_, _, _, _]) rfl rfl rfl ?_
  refine l_within hS ?_ 8 0 (by omega)
  refine w_iload_n rfl rfl rfl ?_
  exact w_iret rfl rfl rfl rfl rfl
theorem d_isFree {k : Nat} {I : hI} {J : hJ} {R : hR} {S : Nat} (hS : S = 63 ∨ S = 70 ∨ S = 77) {r : Nat} (hr : r < 8) (hk : 1 ≤ k) : ct k 68 [.ref S, .int (Int32.ofNat r)] I J R (some (.int (if I (S + 1) r = Int32.ofNat 1 ∧ I (S + 3) r = Int32.ofInt (-1) then 1 else 0))) I J R := by
  obtain ⟨k, rfl⟩ : ∃ k', k = k' + 1 := ⟨k - 1, by omega⟩
  refine ct_of (q := am_m68) (o := 7) (rt := (some .boolean)) (co := am_c68) (L := [_, _]) rfl rfl rfl rfl rfl rfl ?_
  refine w_aload_n rfl rfl rfl ?_
  refine w_gf (t := .ref (S + 1)) (v := .ref (S + 1)) rfl rfl rfl (shS_0 hS) rfl rfl rfl ?_
  refine w_iload_n rfl rfl rfl ?_
  refine w_iaload rfl rfl (shS_1 hS) rfl ⟨by omega, by omega⟩ rfl ?_
  refine w_iconst (x := Int32.ofNat 1) rfl rfl (by decide) ?_
  refine w_ic_ne (t := 24) (f := 10) rfl rfl rfl (fun c7 => ?_) (fun c7 => ?_)
  · refine w_iconst (x := Int32.ofNat 0) rfl rfl (by decide) ?_
    exact w_bret rfl (by decide) (by simp only [*, ite_true, ite_false, and_self, and_true, true_and, and_false, false_and, or_true, true_or, or_false, false_or, not_true, not_false_iff] <;> rfl) rfl rfl rfl
  · refine w_aload_n rfl rfl rfl ?_
    refine w_gf (t := .ref (S + 3)) (v := .ref (S + 3)) rfl rfl rfl (shS_0 hS) rfl rfl rfl ?_
    refine w_iload_n rfl rfl rfl ?_
    refine w_iaload rfl rfl (shS_3 hS) rfl ⟨by omega, by omega⟩ rfl ?_
    refine w_iconst (x := Int32.ofInt (-1)) rfl rfl (by decide) ?_
    refine w_ic_ne (t := 24) (f := 20) rfl rfl rfl (fun c17 => ?_) (fun c17 => ?_)
    · refine w_iconst (x := Int32.ofNat 0) rfl rfl (by decide) ?_
      exact w_bret rfl (by decide) (by simp only [*, ite_true, ite_false, and_self, and_true, true_and, and_false, false_and, or_true, true_or, or_false, false_or, not_true, not_false_iff] <;> rfl) rfl rfl rfl
    · refine w_iconst (x := Int32.ofNat 1) rfl rfl (by decide) ?_
      refine w_goto (pc' := 25) rfl rfl ?_
      exact w_bret rfl (by decide) (by simp only [*, ite_true, ite_false, and_self, and_true, true_and, and_false, false_and, or_true, true_or, or_false, false_or, not_true, not_false_iff] <;> rfl) rfl rfl rfl
theorem d_putToSea {k : Nat} {I : hI} {J : hJ} {R : hR} {S : Nat} (hS : S = 63 ∨ S = 70 ∨ S = 77) {x : Nat} {d : Int32} (hx : x < 5) (hk : 1 ≤ k) : ct k 69 [.ref S, .int (Int32.ofNat x), .int d] I J R none (am_u (am_u I (S + 4) x (Int32.ofNat 1)) (S + 5) x d) J R := by
  obtain ⟨k, rfl⟩ : ∃ k', k = k' + 1 := ⟨k - 1, by omega⟩
  refine ct_of (q := am_m69) (o := 7) (rt := none) (co := am_c69) (L := [_, _, _]) rfl rfl rfl rfl rfl rfl ?_
  refine w_aload_n rfl rfl rfl ?_
  refine w_gf (t := .ref (S + 4)) (v := .ref (S + 4)) rfl rfl rfl (shS_0 hS) rfl rfl rfl ?_
  refine w_iload_n rfl rfl rfl ?_
  refine w_iconst (x := Int32.ofNat 1) rfl rfl (by decide) ?_
  refine w_iastore rfl rfl (shS_4 hS) rfl ⟨by omega, by omega⟩ ?_
  refine w_aload_n rfl rfl rfl ?_
  refine w_gf (t := .ref (S + 5)) (v := .ref (S + 5)) rfl rfl rfl (shS_0 hS) rfl rfl rfl ?_
  refine w_iload_n rfl rfl rfl ?_
  refine w_iload_n rfl rfl rfl ?_
  refine w_iastore rfl rfl (shS_5 hS) rfl ⟨by omega, by omega⟩ ?_
  exact w_ret rfl rfl rfl rfl
def k_spend (I : hI) (S x : Nat) : hI := if I (S + 5) x - Int32.ofNat 1 = 0 then am_u (am_u (am_u I (S + 5) x (I (S + 5) x - Int32.ofNat 1)) (S + 4) x (Int32.ofNat 0)) (S + 6) x (I (S + 6) x + Int32.ofNat 1) else am_u I (S + 5) x (I (S + 5) x - Int32.ofNat 1)
theorem d_spendDay {k : Nat} {I : hI} {J : hJ} {R : hR} {S : Nat} (hS : S = 63 ∨ S = 70 ∨ S = 77) {x : Nat} (hx : x < 5) (hk : 1 ≤ k) : ct k 70 [.ref S, .int (Int32.ofNat x)] I J R none (k_spend I S x) J R := by
  obtain ⟨k, rfl⟩ : ∃ k', k = k' + 1 := ⟨k - 1, by omega⟩
  refine ct_of (q := am_m70) (o := 7) (rt := none) (co := am_c70) (L := [_, _]) rfl rfl rfl rfl rfl rfl ?_
  refine w_aload_n rfl rfl rfl ?_
  refine w_gf (t := .ref (S + 5)) (v := .ref (S + 5)) rfl rfl rfl (shS_0 hS) rfl rfl rfl ?_
  refine w_iload_n rfl rfl rfl ?_
  refine w_dup2 rfl rfl rfl rfl ?_
  refine w_iaload rfl rfl (shS_5 hS) rfl ⟨by omega, by omega⟩ rfl ?_
  refine w_iconst (x := Int32.ofNat 1) rfl rfl (by decide) ?_
  refine w_isub rfl rfl ?_
  refine w_iastore rfl rfl (shS_5 hS) rfl ⟨by omega, by omega⟩ ?_
  refine w_aload_n rfl rfl rfl ?_
  refine w_gf (t := .ref (S + 5)) (v := .ref (S + 5)) rfl rfl rfl (shS_0 hS) rfl rfl rfl ?_
  refine w_iload_n rfl rfl rfl ?_
  refine w_iaload rfl rfl (shS_5 hS) rfl ⟨by omega, by omega⟩ am_u_at ?_
  refine w_if_ne (t := 36) (f := 19) rfl rfl rfl (fun c16 => ?_) (fun c16 => ?_)
  · exact w_ret rfl (by unfold k_spend; first | rw [if_pos c16] | rw [if_neg c16]) rfl rfl
  · refine w_aload_n rfl rfl rfl ?_
    refine w_gf (t := .ref (S + 4)) (v := .ref (S + 4)) rfl rfl rfl (shS_0 hS) rfl rfl rfl ?_
    refine w_iload_n rfl rfl rfl ?_
    refine w_iconst (x := Int32.ofNat 0) rfl rfl (by decide) ?_
    refine w_iastore rfl rfl (shS_4 hS) rfl ⟨by omega, by omega⟩ ?_
    refine w_aload_n rfl rfl rfl ?_
    refine w_gf (t := .ref (S + 6)) (v := .ref (S + 6)) rfl rfl rfl (shS_0 hS) rfl rfl rfl ?_
    refine w_iload_n rfl rfl rfl ?_
    refine w_dup2 rfl rfl rfl rfl ?_
    refine w_iaload rfl rfl (shS_6 hS) rfl ⟨by omega, by omega⟩ ((congrFun (am_u_ne (by omega)) _).trans (congrFun (am_u_ne (by omega)) _)) ?_
    refine w_iconst (x := Int32.ofNat 1) rfl rfl (by decide) ?_
    refine w_iadd rfl rfl ?_
    refine w_iastore rfl rfl (shS_6 hS) rfl ⟨by omega, by omega⟩ ?_
    exact w_ret rfl (by unfold k_spend; first | rw [if_pos c16] | rw [if_neg c16]) rfl rfl
def k_dr (J : hJ) (S : Nat) : Int64 := (J S 1 * 1103515245 + 12345) &&& 2147483647
theorem d_draw {k : Nat} {I : hI} {J : hJ} {R : hR} {S : Nat} (hS : S = 63 ∨ S = 70 ∨ S = 77) (hk : 1 ≤ k) : ct k 71 [.ref S] I J R (some (.int (k_dr J S / 65536).toInt32)) I (am_u J S 1 (k_dr J S)) R := by
  obtain ⟨k, rfl⟩ : ∃ k', k = k' + 1 := ⟨k - 1, by omega⟩
  refine ct_of (q := am_m71) (o := 7) (rt := (some .int)) (co := am_c71) (L := [_]) rfl rfl rfl rfl rfl rfl ?_
  refine w_aload_n rfl rfl rfl ?_
  refine w_aload_n rfl rfl rfl ?_
  refine w_gf (t := .long 0) (v := .long _) rfl rfl rfl (shS_0 hS) rfl (congrArg Value.long rfl) rfl ?_
  refine w_ldc2_w rfl rfl rfl ?_
  refine w_lmul rfl rfl ?_
  refine w_ldc2_w rfl rfl rfl ?_
  refine w_ladd rfl rfl ?_
  refine w_ldc2_w rfl rfl rfl ?_
  refine w_land rfl rfl ?_
  refine w_pfL rfl rfl rfl (shS_0 hS) rfl rfl rfl ?_
  refine w_aload_n rfl rfl rfl ?_
  refine w_gf (t := .long 0) (v := .long _) rfl rfl rfl (shS_0 hS) rfl (congrArg Value.long am_u_at) rfl ?_
  refine w_ldc2_w rfl rfl rfl ?_
  refine w_ldiv rfl rfl (by decide) ?_
  refine w_l2i rfl rfl ?_
  exact w_iret rfl rfl rfl rfl rfl
def k_copy (I : hI) (S F : Nat) : hI := am_cq (am_cq (am_cq (am_cq (am_cq (am_cq (am_u (am_u I S 0 (I F 0)) S 2 (I F 2)) (F + 1) 0 (S + 1) 0 8) (F + 2) 0 (S + 2) 0 8) (F + 3) 0 (S + 3) 0 8) (F + 4) 0 (S + 4) 0 5) (F + 5) 0 (S + 5) 0 5) (F + 6) 0 (S + 6) 0 5
theorem d_copy {k : Nat} {I : hI} {J : hJ} {R : hR} {S : Nat} (hS : S = 63 ∨ S = 70 ∨ S = 77) {F : Nat} (hF : F = 63 ∨ F = 70 ∨ F = 77) (hFS : F ≠ S) (hk : 1 ≤ k) : ct k 65 [.ref S, .ref F] I J R none (k_copy I S F) (am_u J S 1 (J F 1)) R := by
  obtain ⟨k, rfl⟩ : ∃ k', k = k' + 1 := ⟨k - 1, by omega⟩
  refine ct_of (q := am_m65) (o := 7) (rt := none) (co := am_c65) (L := [_, _]) rfl rfl rfl rfl rfl rfl ?_
  refine w_aload_n rfl rfl rfl ?_
  refine w_aload_n rfl rfl rfl ?_
  refine w_gf (t := .int 0) (v := .int _) rfl rfl rfl (shS_0 hF) rfl (congrArg Value.int rfl) rfl ?_
  refine w_pf rfl rfl rfl (shS_0 hS) rfl rfl rfl ?_
  refine w_aload_n rfl rfl rfl ?_
  refine w_aload_n rfl rfl rfl ?_
  refine w_gf (t := .long 0) (v := .long _) rfl rfl rfl (shS_0 hF) rfl (congrArg Value.long rfl) rfl ?_
  refine w_pfL rfl rfl rfl (shS_0 hS) rfl rfl rfl ?_
  refine w_aload_n rfl rfl rfl ?_
  refine w_aload_n rfl rfl rfl ?_
  refine w_gf (t := .int 0) (v := .int _) rfl rfl rfl (shS_0 hF) rfl (congrArg Value.int (congrFun (am_u_ne (by omega)) _)) rfl ?_
  refine w_pf rfl rfl rfl (shS_0 hS) rfl rfl rfl ?_
  refine w_aload_n rfl rfl rfl ?_
  refine w_gf (t := .ref (F + 1)) (v := .ref (F + 1)) rfl rfl rfl (shS_0 hF) rfl rfl rfl ?_
  refine w_iconst (x := Int32.ofNat 0) rfl rfl (by decide) ?_
  refine w_aload_n rfl rfl rfl ?_
  refine w_gf (t := .ref (S + 1)) (v := .ref (S + 1)) rfl rfl rfl (shS_0 hS) rfl rfl rfl ?_
  refine w_iconst (x := Int32.ofNat 0) rfl rfl (by decide) ?_
  refine w_bipush (x := Int32.ofNat 8) rfl rfl (by decide) ?_
  refine w_cpy rfl rfl rfl (shS_1 hF) (shS_1 hS) ⟨by omega, by omega⟩ ⟨by omega, by omega⟩ (Nat.le_of_ble_eq_true rfl) ?_
  refine w_aload_n rfl rfl rfl ?_
  refine w_gf (t := .ref (F + 2)) (v := .ref (F + 2)) rfl rfl rfl (shS_0 hF) rfl rfl rfl ?_
  refine w_iconst (x := Int32.ofNat 0) rfl rfl (by decide) ?_
  refine w_aload_n rfl rfl rfl ?_
  refine w_gf (t := .ref (S + 2)) (v := .ref (S + 2)) rfl rfl rfl (shS_0 hS) rfl rfl rfl ?_
  refine w_iconst (x := Int32.ofNat 0) rfl rfl (by decide) ?_
  refine w_bipush (x := Int32.ofNat 8) rfl rfl (by decide) ?_
  refine w_cpy rfl rfl rfl (shS_2 hF) (shS_2 hS) ⟨by omega, by omega⟩ ⟨by omega, by omega⟩ (Nat.le_of_ble_eq_true rfl) ?_
  refine w_aload_n rfl rfl rfl ?_
  refine w_gf (t := .ref (F + 3)) (v := .ref (F + 3)) rfl rfl rfl (shS_0 hF) rfl rfl rfl ?_
  refine w_iconst (x := Int32.ofNat 0) rfl rfl (by decide) ?_
  refine w_aload_n rfl rfl rfl ?_
  refine w_gf (t := .ref (S + 3)) (v := .ref (S + 3)) rfl rfl rfl (shS_0 hS) rfl rfl rfl ?_
  refine w_iconst (x := Int32.ofNat 0) rfl rfl (by decide) ?_
  refine w_bipush (x := Int32.ofNat 8) rfl rfl (by decide) ?_
  refine w_cpy rfl rfl rfl (shS_3 hF) (shS_3 hS) ⟨by omega, by omega⟩ ⟨by omega, by omega⟩ (Nat.le_of_ble_eq_true rfl) ?_
  refine w_aload_n rfl rfl rfl ?_
  refine w_gf (t := .ref (F + 4)) (v := .ref (F + 4)) rfl rfl rfl (shS_0 hF) rfl rfl rfl ?_
  refine w_iconst (x := Int32.ofNat 0) rfl rfl (by decide) ?_
  refine w_aload_n rfl rfl rfl ?_
  refine w_gf (t := .ref (S + 4)) (v := .ref (S + 4)) rfl rfl rfl (shS_0 hS) rfl rfl rfl ?_
  refine w_iconst (x := Int32.ofNat 0) rfl rfl (by decide) ?_
  refine w_iconst (x := Int32.ofNat 5) rfl rfl (by decide) ?_
  refine w_cpy rfl rfl rfl (shS_4 hF) (shS_4 hS) ⟨by omega, by omega⟩ ⟨by omega, by omega⟩ (Nat.le_of_ble_eq_true rfl) ?_
  refine w_aload_n rfl rfl rfl ?_
  refine w_gf (t := .ref (F + 5)) (v := .ref (F + 5)) rfl rfl rfl (shS_0 hF) rfl rfl rfl ?_
  refine w_iconst (x := Int32.ofNat 0) rfl rfl (by decide) ?_
  refine w_aload_n rfl rfl rfl ?_
  refine w_gf (t := .ref (S + 5)) (v := .ref (S + 5)) rfl rfl rfl (shS_0 hS) rfl rfl rfl ?_
  refine w_iconst (x := Int32.ofNat 0) rfl rfl (by decide) ?_
  refine w_iconst (x := Int32.ofNat 5) rfl rfl (by decide) ?_
  refine w_cpy rfl rfl rfl (shS_5 hF) (shS_5 hS) ⟨by omega, by omega⟩ ⟨by omega, by omega⟩ (Nat.le_of_ble_eq_true rfl) ?_
  refine w_aload_n rfl rfl rfl ?_
  refine w_gf (t := .ref (F + 6)) (v := .ref (F + 6)) rfl rfl rfl (shS_0 hF) rfl rfl rfl ?_
  refine w_iconst (x := Int32.ofNat 0) rfl rfl (by decide) ?_
  refine w_aload_n rfl rfl rfl ?_
  refine w_gf (t := .ref (S + 6)) (v := .ref (S + 6)) rfl rfl rfl (shS_0 hS) rfl rfl rfl ?_
  refine w_iconst (x := Int32.ofNat 0) rfl rfl (by decide) ?_
  refine w_iconst (x := Int32.ofNat 5) rfl rfl (by decide) ?_
  refine w_cpy rfl rfl rfl (shS_6 hF) (shS_6 hS) ⟨by omega, by omega⟩ ⟨by omega, by omega⟩ (Nat.le_of_ble_eq_true rfl) ?_
  exact w_ret rfl rfl rfl rfl
