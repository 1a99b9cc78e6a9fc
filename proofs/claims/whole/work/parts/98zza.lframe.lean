/-! The law's frame: its steps are counted; calls run at depth 20. -/
def lz (ys : List Int32) (n pc : Nat) (L st : List Value) (I : hI) (J : hJ) (R : hR) : Prop := ∃ N I' J' R', am_loop (fun m a h => am_run 20 N m a h) (some ys) 13 false (some .boolean) am_c288 n pc L st (am_hp I J R) = some (some (.int 1), am_hp I' J' R')
section
variable {ys : List Int32} {n pc pc' : Nat} {L L' st st' : List Value} {I I' : hI} {J J' : hJ} {R R' : hR}
theorem lz_of (N0 : Nat) (e : am_step (fun m a h => am_run 20 N0 m a h) (some ys) 13 false (some .boolean) am_c288 pc L st (am_hp I J R) = some (.inl (pc', L', st', am_hp I' J' R'))) (w : lz ys n pc' L' st' I' J' R') : lz ys (n + 1) pc L st I J R := by
  obtain ⟨N, I2, J2, R2, h⟩ := w
  refine ⟨N0 + N, I2, J2, R2, ?_⟩
  have hc : am_cle (fun m a h => am_run 20 N0 m a h) (fun m a h => am_run 20 (N0 + N) m a h) := fun mn a h r z => am_run_mono 20 20 N0 (N0 + N) mn a h r (Nat.le_refl _) (Nat.le_add_right _ _) z
  have hd : am_cle (fun m a h => am_run 20 N m a h) (fun m a h => am_run 20 (N0 + N) m a h) := fun mn a h r z => am_run_mono 20 20 N (N0 + N) mn a h r (Nat.le_refl _) (Nat.le_add_left _ _) z
  unfold am_loop
  rw [am_step_mono hc e]
  exact am_loop_mono hd n n _ _ _ _ _ (Nat.le_refl _) h
theorem lz_le {m : Nat} (w : lz ys m pc L st I J R) (h : m ≤ n) : lz ys n pc L st I J R := by
  obtain ⟨N, I2, J2, R2, e⟩ := w
  exact ⟨N, I2, J2, R2, am_loop_mono (fun mn a h r z => z) m n _ _ _ _ _ h e⟩
theorem l_pu {i : Instr} {w : Nat} (ei : am_ins am_c288 pc = some (i, w)) (hl : am_len i w = true) (hp : pc + w = pc') (e : am_pu none 13 i L st (am_hp I J R) = some st') (z : lz ys n pc' L st' I J R) : lz ys (n + 1) pc L st I J R := by
  subst hp
  exact lz_of 0 (am_step_sc (st_pu ei hl e)) z
theorem l_pus {i : Instr} {w : Nat} (ei : am_ins am_c288 pc = some (i, w)) (hl : am_len i w = true) (hp : pc + w = pc') (e : am_pu (some ys) 13 i L st (am_hp I J R) = some st') (z : lz ys n pc' L st' I J R) : lz ys (n + 1) pc L st I J R := by
  subst hp
  refine lz_of 0 ?_ z
  unfold am_step
  rw [ei]
  dsimp only
  rw [if_pos hl, e]
theorem l_lo {i : Instr} {w : Nat} (ei : am_ins am_c288 pc = some (i, w)) (hl : am_len i w = true) (hp : pc + w = pc') (e0 : am_pu none 13 i L st (am_hp I J R) = none) (e : am_lo i L st = some (L', st')) (z : lz ys n pc' L' st' I J R) : lz ys (n + 1) pc L st I J R := by
  subst hp
  exact lz_of 0 (am_step_sc (st_lo ei hl e0 e)) z
theorem l_br {i : Instr} {w : Nat} (ei : am_ins am_c288 pc = some (i, w)) (hl : am_len i w = true) (e0 : am_pu none 13 i L st (am_hp I J R) = none) (e1 : am_lo i L st = none) (e : am_br i pc st = some (pc', st')) (z : lz ys n pc' L st' I J R) : lz ys (n + 1) pc L st I J R := lz_of 0 (am_step_sc (st_br ei hl e0 e1 e)) z
/-- one int of the script -/
theorem l_ld {c j p6 : Nat} {u v : Value} (h1 : am_ins am_c288 pc = some (.aload_n 0, 1)) (h2 : am_ins am_c288 (pc + 1) = some (.iload 4, 2)) (h3 : am_ins am_c288 (pc + 3) = some (.iconst (Int.ofNat c), 1)) (h4 : am_ins am_c288 (pc + 4) = some (.iadd, 1)) (h5 : am_ins am_c288 (pc + 5) = some (.iaload, 1)) (hp : pc + 6 = p6) (hy : ys.length ≤ 3072) (hj : j + c < ys.length) (z : lz ys n p6 (am_L0 (Int32.ofNat j) u v) (.int (ys.getD (j + c) 0) :: st) I J R) : lz ys (n + 5) pc (am_L0 (Int32.ofNat j) u v) st I J R := by
  subst hp
  have e : Int32.ofNat j + Int32.ofInt (Int.ofNat c) = Int32.ofNat (j + c) := by
    rw [show Int32.ofInt (Int.ofNat c) = Int32.ofNat c from rfl, ← Int32.ofNat_add]
  have s1 : lz ys (n + 1) (pc + 5) (am_L0 (Int32.ofNat j) u v) (.int (Int32.ofNat (j + c)) :: .retAddr 0 :: st) I J R := by
    refine l_pus h5 rfl rfl ?_ z
    show (if FieldType.int = .int ∧ ¬ (Int32.ofNat (j + c) < 0 ∨ ys.length ≤ (Int32.ofNat (j + c)).toNatClampNeg) then some (Value.int (ys.getD (Int32.ofNat (j + c)).toNatClampNeg 0) :: st) else none) = _
    have n0 : ¬ Int32.ofNat (j + c) < 0 := by
      show ¬ Int32.ofNat (j + c) < Int32.ofNat 0
      rw [am_ltN (by omega) (by omega)]; omega
    rw [show (Int32.ofNat (j + c)).toNatClampNeg = j + c from nn_ofNat (by omega), if_pos ⟨rfl, fun g => g.elim n0 (by omega)⟩]
  have s2 : lz ys (n + 2) (pc + 4) (am_L0 (Int32.ofNat j) u v) (.int (Int32.ofInt (Int.ofNat c)) :: .int (Int32.ofNat j) :: .retAddr 0 :: st) I J R := by
    refine l_pu (st' := .int (Int32.ofNat (j + c)) :: .retAddr 0 :: st) h4 rfl rfl ?_ s1
    show some (Value.int (Int32.ofNat j + Int32.ofInt (Int.ofNat c)) :: .retAddr 0 :: st) = _
    rw [e]
  refine l_pu h1 rfl rfl rfl ?_
  refine l_pu h2 rfl rfl rfl ?_
  exact l_pu h3 rfl rfl rfl s2
theorem l_cv {j mn n1 n2 na a : Nat} {ts rest as : List Value} {q : am_M} {v : Option Value} (ei : am_ins am_c288 pc = some (.invokevirtual j, 3)) (hp : pc + 3 = pc') (hm : am_mr 13 j = some (mn, n1, n2)) (hq : am_me[mn]? = some q) (hna : q.2.2.2.2.2.1 = na) (hd : st.drop na = .ref a :: rest) (hs : am_shL[a]? = some (.inr (.inl (q.2.2.2.2.1, ts)))) (h0 : q.2.2.2.2.2.2.1 = 0) (hr : am_rm rest = true) (ha : (st.take na).reverse = as) (hpl : (st.take na).all am_pl = true) (hc : ct 20 mn (.ref a :: as) I J R v I' J' R') (hv : am_nd v = true) (hst : v.toList ++ rest = st') (z : lz ys n pc' L st' I' J' R') : lz ys (n + 1) pc L st I J R := by
  obtain ⟨N, hc⟩ := hc
  subst hp
  refine lz_of N (am_step_sc (st_iv ei rfl rfl rfl rfl rfl rfl ?_)) z
  unfold am_iv
  dsimp only
  rw [hm]
  dsimp only
  rw [hq]
  dsimp only
  rw [hna, hd]
  dsimp only
  rw [am_hp_get hs]
  show (if q.2.2.2.2.1 = q.2.2.2.2.1 ∧ q.2.2.2.2.2.2.1 = 0 ∧ am_rm rest = true ∧ (st.take na).all am_pl = true then (am_run 20 N mn (.ref a :: (st.take na).reverse) (am_hp I J R)).bind (fun z => if am_nd z.1 = true then some (z.1.toList ++ rest, z.2) else none) else none) = _
  rw [if_pos ⟨rfl, h0, hr, hpl⟩, ha, hc, Option.bind_some]
  dsimp only
  rw [if_pos hv, hst]
theorem l_eq {off : Int} {x : Int32} {t : Nat} (ei : am_ins am_c288 pc = some (.if_icmp .eq off, 3)) (ht : am_tg pc off = some t) (z : lz ys n t L st I J R) : lz ys (n + 1) pc L (.int x :: .int x :: st) I J R := by
  refine l_br ei rfl rfl rfl ?_ z
  show am_b2 (fun x y => decide (x = y)) pc off (.int x :: .int x :: st) = _
  rw [am_b2_ok ht, if_pos (decide_eq_true rfl)]
theorem l_ez {off : Int} {t : Nat} (ei : am_ins am_c288 pc = some (.ifCond .eq off, 3)) (ht : am_tg pc off = some t) (z : lz ys n t L st I J R) : lz ys (n + 1) pc L (.int 0 :: st) I J R := by
  refine l_br ei rfl rfl rfl ?_ z
  show am_b1 (fun x => decide (x = 0)) pc off (.int 0 :: st) = _
  rw [am_b1_ok ht, if_pos (decide_eq_true rfl)]
theorem l_cmp (x : Int64) : lg_cmp x x = 0 := by
  unfold lg_cmp
  rw [if_neg (Int64.lt_irrefl), if_pos rfl]
theorem l_lcmp {x : Int64} (ei : am_ins am_c288 pc = some (.lcmp, 1)) (hp : pc + 1 = pc') (z : lz ys n pc' L (.int 0 :: st) I J R) : lz ys (n + 1) pc L (.long x :: .long x :: st) I J R := by
  refine l_pu ei rfl hp ?_ z
  show some (Value.int (lg_cmp x x) :: st) = _
  rw [l_cmp]
end
/-- what a method answers is of its type -/
theorem st_inr {call : am_C} {sc : Option (List Int32)} {o : Nat} {ini : Bool} {rt : Option FieldType} {co : List (List (Nat × Instr × Nat))} {pc : Nat} {L st : List Value} {h h1 : am_H} {v : Option Value} (e : am_step call sc o ini rt co pc L st h = some (.inr (v, h1))) : ∃ i, am_rt o i rt st = some v := by
  unfold am_step at e
  split at e
  · cases e
  · rename_i i w _
    refine ⟨i, ?_⟩
    split at e
    · split at e
      · cases e
      · split at e
        · cases e
        · split at e
          · cases e
          · split at e
            · cases e
            · split at e
              · rename_i z; rw [z]; cases e; rfl
              · split at e
                · cases e
                · split at e
                  · cases e
                  · split at e
                    · cases e
                    · split at e
                      · cases e
                      · cases e
    · cases e
theorem lo_rt {call : am_C} {sc : Option (List Int32)} {o : Nat} {ini : Bool} {rt : Option FieldType} {co : List (List (Nat × Instr × Nat))} : ∀ (n pc : Nat) (L st : List Value) (h : am_H) (v : Option Value) (h1 : am_H), am_loop call sc o ini rt co n pc L st h = some (v, h1) → ∃ i st', am_rt o i rt st' = some v := by
  intro n
  induction n with
  | zero => intro pc L st h v h1 e; cases e
  | succ n ih =>
    intro pc L st h v h1 e
    rcases am_loop_inv e with e | ⟨pc1, L1, st1, h2, e1, e2⟩
    · obtain ⟨i, z⟩ := st_inr e
      exact ⟨i, st, z⟩
    · exact ih _ _ _ _ _ _ e2
theorem ct_rt {k mn : Nat} {as : List Value} {I I' : hI} {J J' : hJ} {R R' : hR} {v : Option Value} {q : am_M} {o : Nat} {rt : Option FieldType} (hq : am_me[mn]? = some q) (ho : q.2.2.2.2.1 = o) (hr : q.2.2.2.1 = rt) (c : ct k mn as I J R v I' J' R') : ∃ i st', am_rt o i rt st' = some v := by
  obtain ⟨N, e⟩ := c
  cases k with
  | zero => cases e
  | succ k =>
    unfold am_run at e
    rw [hq] at e
    dsimp only at e
    split at e
    · rw [ho, hr] at e
      exact lo_rt _ _ _ _ _ _ _ e
    · cases e
theorem rt_int {o : Nat} {i : Instr} {st : List Value} {v : Value} (ho : ¬ o = 11) (e : am_rt o i (some .int) st = some (some v)) : ∃ x, v = .int x := by
  cases i
  case ireturn =>
    revert e
    show (match some FieldType.int, st with
      | some .int, [.int v] => some (some (Value.int v))
      | some .boolean, [.int v] => if v = 0 ∨ v = 1 then some (some (.int v)) else none
      | _, _ => none) = _ → _
    split
    · intro e; cases e; exact ⟨_, rfl⟩
    · intro e; split at e
      · cases e; exact ⟨_, rfl⟩
      · cases e
    · intro e; cases e
  case new j =>
    revert e
    show (if o = 11 ∧ st = [] then _ else none) = _ → _
    rw [if_neg (fun z => ho z.1)]
    intro e; cases e
  all_goals (first | (exact nomatch e) | (unfold am_rt at e; revert e; simp))
theorem rt_bool {o : Nat} {i : Instr} {st : List Value} {v : Value} (ho : ¬ o = 11) (e : am_rt o i (some .boolean) st = some (some v)) : ∃ x, v = .int x := by
  cases i
  case ireturn =>
    revert e
    show (match some FieldType.boolean, st with
      | some .int, [.int v] => some (some (Value.int v))
      | some .boolean, [.int v] => if v = 0 ∨ v = 1 then some (some (.int v)) else none
      | _, _ => none) = _ → _
    split
    · intro e; cases e; exact ⟨_, rfl⟩
    · intro e; split at e
      · cases e; exact ⟨_, rfl⟩
      · cases e
    · intro e; cases e
  case new j =>
    revert e
    show (if o = 11 ∧ st = [] then _ else none) = _ → _
    rw [if_neg (fun z => ho z.1)]
    intro e; cases e
  all_goals (first | (exact nomatch e) | (unfold am_rt at e; revert e; simp))
theorem rt_long {o : Nat} {i : Instr} {st : List Value} {v : Value} (ho : ¬ o = 11) (e : am_rt o i (some .long) st = some (some v)) : ∃ x, v = .long x := by
  cases i
  case lreturn =>
    revert e
    show (match some FieldType.long, st with
      | some .long, [.long v] => some (some (Value.long v))
      | _, _ => none) = _ → _
    split
    · intro e; cases e; exact ⟨_, rfl⟩
    · intro e; cases e
  case new j =>
    revert e
    show (if o = 11 ∧ st = [] then _ else none) = _ → _
    rw [if_neg (fun z => ho z.1)]
    intro e; cases e
  all_goals (first | (exact nomatch e) | (unfold am_rt at e; revert e; simp))
