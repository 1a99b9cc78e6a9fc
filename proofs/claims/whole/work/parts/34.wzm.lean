/-! More steps: longs compared, switches, Math, System.arraycopy. -/
variable {k o : Nat} {rt : Option FieldType} {co : List (List (Nat × Instr × Nat))} {pc pc' : Nat} {L L' st st' : List Value} {I I' : hI} {J J' : hJ} {R R' : hR} {r : Option Value × am_H}
theorem w_lc_eq {off : Int} {x y : Int64} {t f p1 : Nat} (ei : am_ins co pc = some (.lcmp, 1)) (hp : pc + 1 = p1) (ej : am_ins co p1 = some (.ifCond .eq off, 3)) (ht : am_tg p1 off = some t) (hf : p1 + 3 = f) (zt : x = y → wz k o rt co t L st I J R r) (zf : ¬ x = y → wz k o rt co f L st I J R r) : wz k o rt co pc L (.long y :: .long x :: st) I J R r := w_lcmp ei hp (w_if_eq ej ht hf (fun h => zt ((lg_cmp_eq x y).mp h)) (fun h => zf (fun e => h ((lg_cmp_eq x y).mpr e))))
theorem w_lc_ne {off : Int} {x y : Int64} {t f p1 : Nat} (ei : am_ins co pc = some (.lcmp, 1)) (hp : pc + 1 = p1) (ej : am_ins co p1 = some (.ifCond .ne off, 3)) (ht : am_tg p1 off = some t) (hf : p1 + 3 = f) (zt : ¬ x = y → wz k o rt co t L st I J R r) (zf : x = y → wz k o rt co f L st I J R r) : wz k o rt co pc L (.long y :: .long x :: st) I J R r := w_lcmp ei hp (w_if_ne ej ht hf (fun h => zt (fun e => h ((lg_cmp_eq x y).mpr e))) (fun h => zf ((lg_cmp_eq x y).mp h)))
theorem w_lc_lt {off : Int} {x y : Int64} {t f p1 : Nat} (ei : am_ins co pc = some (.lcmp, 1)) (hp : pc + 1 = p1) (ej : am_ins co p1 = some (.ifCond .lt off, 3)) (ht : am_tg p1 off = some t) (hf : p1 + 3 = f) (zt : x < y → wz k o rt co t L st I J R r) (zf : ¬ x < y → wz k o rt co f L st I J R r) : wz k o rt co pc L (.long y :: .long x :: st) I J R r := w_lcmp ei hp (w_if_lt ej ht hf (fun h => zt ((lg_cmp_lt x y).mp h)) (fun h => zf (fun e => h ((lg_cmp_lt x y).mpr e))))
theorem w_lc_ge {off : Int} {x y : Int64} {t f p1 : Nat} (ei : am_ins co pc = some (.lcmp, 1)) (hp : pc + 1 = p1) (ej : am_ins co p1 = some (.ifCond .ge off, 3)) (ht : am_tg p1 off = some t) (hf : p1 + 3 = f) (zt : ¬ x < y → wz k o rt co t L st I J R r) (zf : x < y → wz k o rt co f L st I J R r) : wz k o rt co pc L (.long y :: .long x :: st) I J R r := w_lcmp ei hp (w_if_ge ej ht hf (fun h => zt (Int64.not_lt.mpr ((lg_cmp_ge x y).mp (Int32.not_lt.mp h)))) (fun h => zf (Int64.not_le.mp (fun e => Int32.not_le.mpr h ((lg_cmp_ge x y).mpr e)))))
theorem w_lc_gt {off : Int} {x y : Int64} {t f p1 : Nat} (ei : am_ins co pc = some (.lcmp, 1)) (hp : pc + 1 = p1) (ej : am_ins co p1 = some (.ifCond .gt off, 3)) (ht : am_tg p1 off = some t) (hf : p1 + 3 = f) (zt : y < x → wz k o rt co t L st I J R r) (zf : ¬ y < x → wz k o rt co f L st I J R r) : wz k o rt co pc L (.long y :: .long x :: st) I J R r := w_lcmp ei hp (w_if_gt ej ht hf (fun h => zt ((lg_cmp_gt x y).mp h)) (fun h => zf (fun e => h ((lg_cmp_gt x y).mpr e))))
theorem w_lc_le {off : Int} {x y : Int64} {t f p1 : Nat} (ei : am_ins co pc = some (.lcmp, 1)) (hp : pc + 1 = p1) (ej : am_ins co p1 = some (.ifCond .le off, 3)) (ht : am_tg p1 off = some t) (hf : p1 + 3 = f) (zt : ¬ y < x → wz k o rt co t L st I J R r) (zf : y < x → wz k o rt co f L st I J R r) : wz k o rt co pc L (.long y :: .long x :: st) I J R r := w_lcmp ei hp (w_if_le ej ht hf (fun h => zt (Int64.not_lt.mpr ((lg_cmp_le x y).mp (Int32.not_lt.mp h)))) (fun h => zf (Int64.not_le.mp (fun e => Int32.not_le.mpr h ((lg_cmp_le x y).mpr e)))))
def am_tsw (offs : Array Int) (pc n : Nat) : Option Nat := (offs[n]?).bind (am_tg pc)
theorem w_ts {dflt : Int} {lo hi : Nat} {offs : Array Int} {w d : Nat} {x : Int32} (ei : am_ins co pc = some (.tableswitch dflt lo hi offs, w)) (hd : am_tg pc dflt = some d) (hh : hi < 100) (zd : (∀ n : Nat, lo ≤ n → n ≤ hi → ¬ x = Int32.ofNat n) → wz k o rt co d L st I J R r) (zc : ∀ n : Nat, lo ≤ n → n ≤ hi → x = Int32.ofNat n → ∃ t, am_tsw offs pc (n - lo) = some t ∧ wz k o rt co t L st I J R r) : wz k o rt co pc L (.int x :: st) I J R r := by
  have hx : ∀ n : Nat, n ≤ hi → (Int32.ofNat n).toInt = n := fun n hn => Int32.toInt_ofNat_of_lt (by omega)
  by_cases hc : x.toInt < (lo : Int) ∨ (hi : Int) < x.toInt
  · refine w_br ei rfl rfl rfl ?_ (zd (fun n h1 h2 e => ?_))
    · show am_sw lo hi dflt offs pc (.int x :: st) = _
      unfold am_sw
      dsimp only
      rw [if_pos hc, hd]; rfl
    · subst e
      rw [hx n h2] at hc
      omega
  · have h0 : x = Int32.ofNat x.toInt.toNat := by
      rw [← Int32.toInt_inj, hx _ (by omega)]
      omega
    obtain ⟨t, e1, e2⟩ := zc x.toInt.toNat (by omega) (by omega) h0
    refine w_br ei rfl rfl rfl ?_ e2
    show am_sw lo hi dflt offs pc (.int x :: st) = _
    unfold am_sw
    dsimp only
    have e3 : (x.toInt - (lo : Int)).toNat = x.toInt.toNat - lo := by omega
    rw [if_neg hc, e3]
    unfold am_tsw at e1
    cases e4 : offs[x.toInt.toNat - lo]? with
    | none => rw [e4] at e1; cases e1
    | some off =>
      rw [e4] at e1
      dsimp only
      rw [show am_tg pc off = some t from e1]
      rfl
/-- Math.max and the like -/
theorem w_ma {j mn n1 n2 : Nat} (ei : am_ins co pc = some (.invokestatic j, 3)) (hp : pc + 3 = pc') (hm : am_mr o j = some (mn, n1, n2)) (h3 : 3000 < mn) (e : am_ma o (.invokestatic j) st = some st') (z : wz k o rt co pc' L st' I J R r) : wz k o rt co pc L st I J R r := by
  subst hp
  refine wz_of 0 (st_ma ei rfl rfl rfl rfl ?_ rfl ?_ rfl ?_ e) z
  · show (match am_mr o j with
      | some (2001, _, _) => am_cpy st (am_hp I J R)
      | _ => none) = none
    rw [hm]
    split
    · rename_i hh; cases hh; omega
    · rfl
  · unfold am_iv
    dsimp only
    rw [hm]
    dsimp only
    rw [am_me_no (by omega)]
  · unfold am_xt
    dsimp only
    rw [hm]
    split
    · rename_i hh; cases hh; omega
    · rfl
theorem w_max {j n1 n2 : Nat} {x y : Int32} (ei : am_ins co pc = some (.invokestatic j, 3)) (hp : pc + 3 = pc') (hm : am_mr o j = some (3001, n1, n2)) (hr : am_rm (.int y :: .int x :: st) = true) (z : wz k o rt co pc' L (.int (if x < y then y else x) :: st) I J R r) : wz k o rt co pc L (.int y :: .int x :: st) I J R r := by
  refine w_ma ei hp hm (by decide) ?_ z
  unfold am_ma
  dsimp only
  rw [hm]
  dsimp only
  rw [if_pos hr]
  rfl
theorem w_min {j n1 n2 : Nat} {x y : Int32} (ei : am_ins co pc = some (.invokestatic j, 3)) (hp : pc + 3 = pc') (hm : am_mr o j = some (3002, n1, n2)) (hr : am_rm (.int y :: .int x :: st) = true) (z : wz k o rt co pc' L (.int (if y < x then y else x) :: st) I J R r) : wz k o rt co pc L (.int y :: .int x :: st) I J R r := by
  refine w_ma ei hp hm (by decide) ?_ z
  unfold am_ma
  dsimp only
  rw [hm]
  dsimp only
  rw [if_pos hr]
  rfl
theorem w_abs {j n1 n2 : Nat} {x : Int32} (ei : am_ins co pc = some (.invokestatic j, 3)) (hp : pc + 3 = pc') (hm : am_mr o j = some (3003, n1, n2)) (hr : am_rm (.int x :: st) = true) (z : wz k o rt co pc' L (.int (if 0 ≤ x then x else 0 - x) :: st) I J R r) : wz k o rt co pc L (.int x :: st) I J R r := by
  refine w_ma ei hp hm (by decide) ?_ z
  unfold am_ma
  dsimp only
  rw [hm]
  dsimp only
  rw [if_pos hr]
  rfl
theorem w_maxL {j n1 n2 : Nat} {x y : Int64} (ei : am_ins co pc = some (.invokestatic j, 3)) (hp : pc + 3 = pc') (hm : am_mr o j = some (3004, n1, n2)) (hr : am_rm (.long y :: .long x :: st) = true) (z : wz k o rt co pc' L (.long (if y < x then x else y) :: st) I J R r) : wz k o rt co pc L (.long y :: .long x :: st) I J R r := by
  refine w_ma ei hp hm (by decide) ?_ z
  unfold am_ma
  dsimp only
  rw [hm]
  dsimp only
  rw [if_pos hr]
  rfl
theorem w_minL {j n1 n2 : Nat} {x y : Int64} (ei : am_ins co pc = some (.invokestatic j, 3)) (hp : pc + 3 = pc') (hm : am_mr o j = some (3005, n1, n2)) (hr : am_rm (.long y :: .long x :: st) = true) (z : wz k o rt co pc' L (.long (if y < x then y else x) :: st) I J R r) : wz k o rt co pc L (.long y :: .long x :: st) I J R r := by
  refine w_ma ei hp hm (by decide) ?_ z
  unfold am_ma
  dsimp only
  rw [hm]
  dsimp only
  rw [if_pos hr]
  rfl
