/-! Steps that write, branch, call, end. -/
variable {k o : Nat} {rt : Option FieldType} {co : List (List (Nat × Instr × Nat))} {pc pc' : Nat} {L L' st st' : List Value} {I I' : hI} {J J' : hJ} {R R' : hR} {r : Option Value × am_H}
theorem w_lo {i : Instr} {w : Nat} (ei : am_ins co pc = some (i, w)) (hl : am_len i w = true) (hp : pc + w = pc') (e0 : am_pu none o i L st (am_hp I J R) = none) (e : am_lo i L st = some (L', st')) (z : wz k o rt co pc' L' st' I J R r) : wz k o rt co pc L st I J R r := by
  subst hp
  exact wz_of 0 (st_lo ei hl e0 e) z
theorem am_sto_ok {j : Nat} {p : Value → Bool} {v : Value} (hv : p v = true) (e : am_s1 L j v = some L') : am_sto L j p (v :: st) = some (L', st) := by
  unfold am_sto
  dsimp only
  rw [if_pos hv, e]
  rfl
theorem w_istore_n {j : Fin 4} {x : Int32} (ei : am_ins co pc = some (.istore_n j, 1)) (hp : pc + 1 = pc') (e : am_s1 L j (.int x) = some L') (z : wz k o rt co pc' L' st I J R r) : wz k o rt co pc L (.int x :: st) I J R r := w_lo ei rfl hp rfl (show am_lo (.istore_n j) L (.int x :: st) = some (L', st) from am_sto_ok (p := am_isI) rfl e) z
theorem w_istore {j : Nat} {x : Int32} (ei : am_ins co pc = some (.istore j, 2)) (hp : pc + 2 = pc') (e : am_s1 L j (.int x) = some L') (z : wz k o rt co pc' L' st I J R r) : wz k o rt co pc L (.int x :: st) I J R r := w_lo ei rfl hp rfl (show am_lo (.istore j) L (.int x :: st) = some (L', st) from am_sto_ok (p := am_isI) rfl e) z
theorem w_astore_n {j : Fin 4} {a : Nat} (ei : am_ins co pc = some (.astore_n j, 1)) (hp : pc + 1 = pc') (e : am_s1 L j (.ref a) = some L') (z : wz k o rt co pc' L' st I J R r) : wz k o rt co pc L (.ref a :: st) I J R r := w_lo ei rfl hp rfl (show am_lo (.astore_n j) L (.ref a :: st) = some (L', st) from am_sto_ok (p := am_isA) rfl e) z
theorem w_astore {j a : Nat} (ei : am_ins co pc = some (.astore j, 2)) (hp : pc + 2 = pc') (e : am_s1 L j (.ref a) = some L') (z : wz k o rt co pc' L' st I J R r) : wz k o rt co pc L (.ref a :: st) I J R r := w_lo ei rfl hp rfl (show am_lo (.astore j) L (.ref a :: st) = some (L', st) from am_sto_ok (p := am_isA) rfl e) z
theorem w_lstore_n {j : Fin 4} {x : Int64} (ei : am_ins co pc = some (.lstore_n j, 1)) (hp : pc + 1 = pc') (e : am_s2 L j (.long x) = some L') (z : wz k o rt co pc' L' st I J R r) : wz k o rt co pc L (.long x :: st) I J R r := by
  refine w_lo ei rfl hp rfl ?_ z
  show (am_s2 L j (.long x)).map _ = _
  rw [e]; rfl
theorem w_lstore {j : Nat} {x : Int64} (ei : am_ins co pc = some (.lstore j, 2)) (hp : pc + 2 = pc') (e : am_s2 L j (.long x) = some L') (z : wz k o rt co pc' L' st I J R r) : wz k o rt co pc L (.long x :: st) I J R r := by
  refine w_lo ei rfl hp rfl ?_ z
  show (am_s2 L j (.long x)).map _ = _
  rw [e]; rfl
theorem w_iinc {j : Nat} {c : Int} {x y : Int32} (ei : am_ins co pc = some (.iinc j c, 3)) (hp : pc + 3 = pc') (hv : L[j]? = some (.int x)) (hy : x + Int32.ofInt c = y) (e : am_s1 L j (.int y) = some L') (z : wz k o rt co pc' L' st I J R r) : wz k o rt co pc L st I J R r := by
  refine w_lo ei rfl hp rfl ?_ z
  show (match L[j]? with
    | some (.int x) => (am_s1 L j (.int (x + Int32.ofInt c))).map (fun L1 => (L1, st))
    | _ => none) = _
  rw [hv]
  dsimp only
  rw [hy, e]; rfl
/-- a cell is written -/
theorem w_hw {i : Instr} {w : Nat} (ei : am_ins co pc = some (i, w)) (hl : am_len i w = true) (hp : pc + w = pc') (e0 : am_pu none o i L st (am_hp I J R) = none) (e1 : am_lo i L st = none) (e2 : am_br i pc st = none) (e : am_hw o false i st (am_hp I J R) = some (st', am_hp I' J' R')) (z : wz k o rt co pc' L st' I' J' R' r) : wz k o rt co pc L st I J R r := by
  subst hp
  exact wz_of 0 (st_hw ei hl e0 e1 e2 e) z
theorem am_pf_ok {j a ci kf n1 n2 : Nat} {ts : List Value} {t v : Value} (hf : am_fr o j = some (ci, kf, n1, n2)) (hs : am_shL[a]? = some (.inr (.inl (ci, ts)))) (ht : ts[kf]? = some t) (hq : am_fit (am_fty ci kf) v = true) (hn : am_fin ci kf = false) : am_pf o false j (v :: .ref a :: st) (am_hp I J R) = some (st, (am_hp I J R).set a (.inr (ci, (ts.mapIdx (am_fv I J R a)).set kf v))) := by
  unfold am_pf
  rw [hf]
  dsimp only
  rw [am_hp_get hs]
  show (if ci = ci ∧ kf < (ts.mapIdx (am_fv I J R a)).length ∧ am_fit (am_fty ci kf) v = true ∧ (am_fin ci kf = false ∨ (false = true ∧ o = ci ∧ n1 = 0)) then some (st, (am_hp I J R).set a (.inr (ci, (ts.mapIdx (am_fv I J R a)).set kf v))) else none) = _
  rw [if_pos ⟨rfl, by rw [List.length_mapIdx]; exact (List.getElem?_eq_some_iff.mp ht).1, hq, Or.inl hn⟩]
theorem w_pf {j a ci kf n1 n2 : Nat} {ts : List Value} {x y : Int32} (ei : am_ins co pc = some (.putfield j, 3)) (hp : pc + 3 = pc') (hf : am_fr o j = some (ci, kf, n1, n2)) (hs : am_shL[a]? = some (.inr (.inl (ci, ts)))) (ht : ts[kf]? = some (.int y)) (hq : am_fit (am_fty ci kf) (.int x) = true) (hn : am_fin ci kf = false) (z : wz k o rt co pc' L st (am_u I a kf x) J R r) : wz k o rt co pc L (.int x :: .ref a :: st) I J R r := by
  refine w_hw ei rfl hp rfl rfl rfl ?_ z
  show am_pf o false j (.int x :: .ref a :: st) (am_hp I J R) = _
  rw [am_pf_ok hf hs ht hq hn, am_setF hs ht]
theorem w_pfL {j a ci kf n1 n2 : Nat} {ts : List Value} {x y : Int64} (ei : am_ins co pc = some (.putfield j, 3)) (hp : pc + 3 = pc') (hf : am_fr o j = some (ci, kf, n1, n2)) (hs : am_shL[a]? = some (.inr (.inl (ci, ts)))) (ht : ts[kf]? = some (.long y)) (hq : am_fit (am_fty ci kf) (.long x) = true) (hn : am_fin ci kf = false) (z : wz k o rt co pc' L st I (am_u J a kf x) R r) : wz k o rt co pc L (.long x :: .ref a :: st) I J R r := by
  refine w_hw ei rfl hp rfl rfl rfl ?_ z
  show am_pf o false j (.long x :: .ref a :: st) (am_hp I J R) = _
  rw [am_pf_ok hf hs ht hq hn, am_setG hs ht]
theorem w_pfR {j a ci kf n1 n2 q : Nat} {ts : List Value} {y : Nat} (ei : am_ins co pc = some (.putfield j, 3)) (hp : pc + 3 = pc') (hf : am_fr o j = some (ci, kf, n1, n2)) (hs : am_shL[a]? = some (.inr (.inl (ci, ts)))) (ht : ts[kf]? = some (.retAddr y)) (hq : am_fit (am_fty ci kf) (.ref q) = true) (hn : am_fin ci kf = false) (z : wz k o rt co pc' L st I J (am_u R a kf q) r) : wz k o rt co pc L (.ref q :: .ref a :: st) I J R r := by
  refine w_hw ei rfl hp rfl rfl rfl ?_ z
  show am_pf o false j (.ref q :: .ref a :: st) (am_hp I J R) = _
  rw [am_pf_ok hf hs ht hq hn, am_setR hs ht]
theorem w_iastore {a m n : Nat} {x v : Int32} (ei : am_ins co pc = some (.iastore, 1)) (hp : pc + 1 = pc') (hs : am_shL[a]? = some (.inl (.int, false, m))) (hx : x = Int32.ofNat n) (hn : n < m ∧ m ≤ 1024) (z : wz k o rt co pc' L st (am_u I a n v) J R r) : wz k o rt co pc L (.int v :: .int x :: .ref a :: st) I J R r := by
  refine w_hw ei rfl hp rfl rfl rfl ?_ z
  show am_ias (.int v :: .int x :: .ref a :: st) (am_hp I J R) = _
  unfold am_ias
  dsimp only
  rw [am_hp_get hs]
  obtain ⟨e1, e2⟩ := am_nlt hx (by omega) m hn.1
  show (if ¬ (x < 0 ∨ ((List.range m).map (I a)).length ≤ x.toNatClampNeg) then some (st, (am_hp I J R).set a (.inl (.int, .inl (((List.range m).map (I a)).set x.toNatClampNeg v)))) else none) = _
  rw [List.length_map, List.length_range, if_pos e1, e2, am_setA hs]
theorem w_bastore {a m n : Nat} {x v : Int32} (ei : am_ins co pc = some (.bastore, 1)) (hp : pc + 1 = pc') (hs : am_shL[a]? = some (.inl (.boolean, false, m))) (hx : x = Int32.ofNat n) (hn : n < m ∧ m ≤ 1024) (hv : v = 0 ∨ v = 1) (z : wz k o rt co pc' L st (am_u I a n v) J R r) : wz k o rt co pc L (.int v :: .int x :: .ref a :: st) I J R r := by
  refine w_hw ei rfl hp rfl rfl rfl ?_ z
  show am_bas (.int v :: .int x :: .ref a :: st) (am_hp I J R) = _
  unfold am_bas
  dsimp only
  rw [am_hp_get hs]
  obtain ⟨e1, e2⟩ := am_nlt hx (by omega) m hn.1
  show (if (v = 0 ∨ v = 1) ∧ ¬ (x < 0 ∨ ((List.range m).map (I a)).length ≤ x.toNatClampNeg) then some (st, (am_hp I J R).set a (.inl (.boolean, .inl (((List.range m).map (I a)).set x.toNatClampNeg v)))) else none) = _
  rw [List.length_map, List.length_range, if_pos ⟨hv, e1⟩, e2, am_setA hs]
theorem w_lastore {a m n : Nat} {x : Int32} {v : Int64} (ei : am_ins co pc = some (.lastore, 1)) (hp : pc + 1 = pc') (hs : am_shL[a]? = some (.inl (.long, true, m))) (hx : x = Int32.ofNat n) (hn : n < m ∧ m ≤ 1024) (z : wz k o rt co pc' L st I (am_u J a n v) R r) : wz k o rt co pc L (.long v :: .int x :: .ref a :: st) I J R r := by
  refine w_hw ei rfl hp rfl rfl rfl ?_ z
  show am_las (.long v :: .int x :: .ref a :: st) (am_hp I J R) = _
  unfold am_las
  dsimp only
  rw [am_hp_get hs]
  obtain ⟨e1, e2⟩ := am_nlt hx (by omega) m hn.1
  show (if ¬ (x < 0 ∨ ((List.range m).map (J a)).length ≤ x.toNatClampNeg) then some (st, (am_hp I J R).set a (.inl (.long, .inr (.inl (((List.range m).map (J a)).set x.toNatClampNeg v))))) else none) = _
  rw [List.length_map, List.length_range, if_pos e1, e2, am_setL hs]
/-- branches -/
theorem w_br {i : Instr} {w : Nat} (ei : am_ins co pc = some (i, w)) (hl : am_len i w = true) (e0 : am_pu none o i L st (am_hp I J R) = none) (e1 : am_lo i L st = none) (e : am_br i pc st = some (pc', st')) (z : wz k o rt co pc' L st' I J R r) : wz k o rt co pc L st I J R r := wz_of 0 (st_br ei hl e0 e1 e) z
theorem w_goto {off : Int} (ei : am_ins co pc = some (.goto off, 3)) (ht : am_tg pc off = some pc') (z : wz k o rt co pc' L st I J R r) : wz k o rt co pc L st I J R r := by
  refine w_br ei rfl rfl rfl ?_ z
  show (am_tg pc off).map _ = _
  rw [ht]; rfl
theorem am_b1_ok {p : Int32 → Bool} {off : Int} {x : Int32} {t : Nat} (ht : am_tg pc off = some t) : am_b1 p pc off (.int x :: st) = some (if p x = true then t else pc + 3, st) := by
  unfold am_b1
  rw [ht]; rfl
theorem am_b2_ok {p : Int32 → Int32 → Bool} {off : Int} {x y : Int32} {t : Nat} (ht : am_tg pc off = some t) : am_b2 p pc off (.int y :: .int x :: st) = some (if p x y = true then t else pc + 3, st) := by
  unfold am_b2
  rw [ht]; rfl
theorem am_itz {P : Prop} {d : Decidable P} {t f : Nat} (zt : P → wz k o rt co t L st I J R r) (zf : ¬ P → wz k o rt co f L st I J R r) : wz k o rt co (if decide P = true then t else f) L st I J R r := by
  by_cases h : P
  · rw [if_pos (decide_eq_true h)]; exact zt h
  · rw [if_neg (fun c => h (of_decide_eq_true c))]; exact zf h
theorem w_if_eq {off : Int} {x : Int32} {t f : Nat} (ei : am_ins co pc = some (.ifCond .eq off, 3)) (ht : am_tg pc off = some t) (hf : pc + 3 = f) (zt : x = 0 → wz k o rt co t L st I J R r) (zf : ¬ x = 0 → wz k o rt co f L st I J R r) : wz k o rt co pc L (.int x :: st) I J R r := by
  subst hf; exact w_br (pc' := if decide (x = 0) = true then t else pc + 3) (st' := st) ei rfl rfl rfl (am_b1_ok (p := fun x => decide (x = 0)) ht) (am_itz zt zf)
theorem w_if_ne {off : Int} {x : Int32} {t f : Nat} (ei : am_ins co pc = some (.ifCond .ne off, 3)) (ht : am_tg pc off = some t) (hf : pc + 3 = f) (zt : ¬ x = 0 → wz k o rt co t L st I J R r) (zf : x = 0 → wz k o rt co f L st I J R r) : wz k o rt co pc L (.int x :: st) I J R r := by
  subst hf; exact w_br (pc' := if decide (¬ x = 0) = true then t else pc + 3) (st' := st) ei rfl rfl rfl (am_b1_ok (p := fun x => decide (¬ x = 0)) ht) (am_itz zt (fun h => zf (Decidable.of_not_not h)))
theorem w_if_lt {off : Int} {x : Int32} {t f : Nat} (ei : am_ins co pc = some (.ifCond .lt off, 3)) (ht : am_tg pc off = some t) (hf : pc + 3 = f) (zt : x < 0 → wz k o rt co t L st I J R r) (zf : ¬ x < 0 → wz k o rt co f L st I J R r) : wz k o rt co pc L (.int x :: st) I J R r := by
  subst hf; exact w_br (pc' := if decide (x < 0) = true then t else pc + 3) (st' := st) ei rfl rfl rfl (am_b1_ok (p := fun x => decide (x < 0)) ht) (am_itz zt zf)
theorem w_if_ge {off : Int} {x : Int32} {t f : Nat} (ei : am_ins co pc = some (.ifCond .ge off, 3)) (ht : am_tg pc off = some t) (hf : pc + 3 = f) (zt : ¬ x < 0 → wz k o rt co t L st I J R r) (zf : x < 0 → wz k o rt co f L st I J R r) : wz k o rt co pc L (.int x :: st) I J R r := by
  subst hf; exact w_br (pc' := if decide (0 ≤ x) = true then t else pc + 3) (st' := st) ei rfl rfl rfl (am_b1_ok (p := fun x => decide (0 ≤ x)) ht) (am_itz (fun h => zt (Int32.not_lt.mpr h)) (fun h => zf (Int32.not_le.mp h)))
theorem w_if_gt {off : Int} {x : Int32} {t f : Nat} (ei : am_ins co pc = some (.ifCond .gt off, 3)) (ht : am_tg pc off = some t) (hf : pc + 3 = f) (zt : 0 < x → wz k o rt co t L st I J R r) (zf : ¬ 0 < x → wz k o rt co f L st I J R r) : wz k o rt co pc L (.int x :: st) I J R r := by
  subst hf; exact w_br (pc' := if decide (0 < x) = true then t else pc + 3) (st' := st) ei rfl rfl rfl (am_b1_ok (p := fun x => decide (0 < x)) ht) (am_itz zt zf)
theorem w_if_le {off : Int} {x : Int32} {t f : Nat} (ei : am_ins co pc = some (.ifCond .le off, 3)) (ht : am_tg pc off = some t) (hf : pc + 3 = f) (zt : ¬ 0 < x → wz k o rt co t L st I J R r) (zf : 0 < x → wz k o rt co f L st I J R r) : wz k o rt co pc L (.int x :: st) I J R r := by
  subst hf; exact w_br (pc' := if decide (x ≤ 0) = true then t else pc + 3) (st' := st) ei rfl rfl rfl (am_b1_ok (p := fun x => decide (x ≤ 0)) ht) (am_itz (fun h => zt (Int32.not_lt.mpr h)) (fun h => zf (Int32.not_le.mp h)))
theorem w_ic_eq {off : Int} {x y : Int32} {t f : Nat} (ei : am_ins co pc = some (.if_icmp .eq off, 3)) (ht : am_tg pc off = some t) (hf : pc + 3 = f) (zt : x = y → wz k o rt co t L st I J R r) (zf : ¬ x = y → wz k o rt co f L st I J R r) : wz k o rt co pc L (.int y :: .int x :: st) I J R r := by
  subst hf; exact w_br (pc' := if decide (x = y) = true then t else pc + 3) (st' := st) ei rfl rfl rfl (am_b2_ok (p := fun x y => decide (x = y)) ht) (am_itz zt zf)
theorem w_ic_ne {off : Int} {x y : Int32} {t f : Nat} (ei : am_ins co pc = some (.if_icmp .ne off, 3)) (ht : am_tg pc off = some t) (hf : pc + 3 = f) (zt : ¬ x = y → wz k o rt co t L st I J R r) (zf : x = y → wz k o rt co f L st I J R r) : wz k o rt co pc L (.int y :: .int x :: st) I J R r := by
  subst hf; exact w_br (pc' := if decide (¬ x = y) = true then t else pc + 3) (st' := st) ei rfl rfl rfl (am_b2_ok (p := fun x y => decide (¬ x = y)) ht) (am_itz zt (fun h => zf (Decidable.of_not_not h)))
theorem w_ic_lt {off : Int} {x y : Int32} {t f : Nat} (ei : am_ins co pc = some (.if_icmp .lt off, 3)) (ht : am_tg pc off = some t) (hf : pc + 3 = f) (zt : x < y → wz k o rt co t L st I J R r) (zf : ¬ x < y → wz k o rt co f L st I J R r) : wz k o rt co pc L (.int y :: .int x :: st) I J R r := by
  subst hf; exact w_br (pc' := if decide (x < y) = true then t else pc + 3) (st' := st) ei rfl rfl rfl (am_b2_ok (p := fun x y => decide (x < y)) ht) (am_itz zt zf)
theorem w_ic_ge {off : Int} {x y : Int32} {t f : Nat} (ei : am_ins co pc = some (.if_icmp .ge off, 3)) (ht : am_tg pc off = some t) (hf : pc + 3 = f) (zt : ¬ x < y → wz k o rt co t L st I J R r) (zf : x < y → wz k o rt co f L st I J R r) : wz k o rt co pc L (.int y :: .int x :: st) I J R r := by
  subst hf; exact w_br (pc' := if decide (y ≤ x) = true then t else pc + 3) (st' := st) ei rfl rfl rfl (am_b2_ok (p := fun x y => decide (y ≤ x)) ht) (am_itz (fun h => zt (Int32.not_lt.mpr h)) (fun h => zf (Int32.not_le.mp h)))
theorem w_ic_gt {off : Int} {x y : Int32} {t f : Nat} (ei : am_ins co pc = some (.if_icmp .gt off, 3)) (ht : am_tg pc off = some t) (hf : pc + 3 = f) (zt : y < x → wz k o rt co t L st I J R r) (zf : ¬ y < x → wz k o rt co f L st I J R r) : wz k o rt co pc L (.int y :: .int x :: st) I J R r := by
  subst hf; exact w_br (pc' := if decide (y < x) = true then t else pc + 3) (st' := st) ei rfl rfl rfl (am_b2_ok (p := fun x y => decide (y < x)) ht) (am_itz zt zf)
theorem w_ic_le {off : Int} {x y : Int32} {t f : Nat} (ei : am_ins co pc = some (.if_icmp .le off, 3)) (ht : am_tg pc off = some t) (hf : pc + 3 = f) (zt : ¬ y < x → wz k o rt co t L st I J R r) (zf : y < x → wz k o rt co f L st I J R r) : wz k o rt co pc L (.int y :: .int x :: st) I J R r := by
  subst hf; exact w_br (pc' := if decide (x ≤ y) = true then t else pc + 3) (st' := st) ei rfl rfl rfl (am_b2_ok (p := fun x y => decide (x ≤ y)) ht) (am_itz (fun h => zt (Int32.not_lt.mpr h)) (fun h => zf (Int32.not_le.mp h)))
theorem w_ic_eqN {off : Int} {x y : Nat} {t f : Nat} (ei : am_ins co pc = some (.if_icmp .eq off, 3)) (ht : am_tg pc off = some t) (hf : pc + 3 = f) (hx : x < 2147483648) (hy : y < 2147483648) (zt : x = y → wz k o rt co t L st I J R r) (zf : ¬ x = y → wz k o rt co f L st I J R r) : wz k o rt co pc L (.int (Int32.ofNat y) :: .int (Int32.ofNat x) :: st) I J R r := w_ic_eq ei ht hf (fun h => zt ((am_eqN hx hy).mp h)) (fun h => zf (fun e => h ((am_eqN hx hy).mpr e)))
theorem w_ic_neN {off : Int} {x y : Nat} {t f : Nat} (ei : am_ins co pc = some (.if_icmp .ne off, 3)) (ht : am_tg pc off = some t) (hf : pc + 3 = f) (hx : x < 2147483648) (hy : y < 2147483648) (zt : ¬ x = y → wz k o rt co t L st I J R r) (zf : x = y → wz k o rt co f L st I J R r) : wz k o rt co pc L (.int (Int32.ofNat y) :: .int (Int32.ofNat x) :: st) I J R r := w_ic_ne ei ht hf (fun h => zt (fun e => h ((am_eqN hx hy).mpr e))) (fun h => zf ((am_eqN hx hy).mp h))
theorem w_ic_ltN {off : Int} {x y : Nat} {t f : Nat} (ei : am_ins co pc = some (.if_icmp .lt off, 3)) (ht : am_tg pc off = some t) (hf : pc + 3 = f) (hx : x < 2147483648) (hy : y < 2147483648) (zt : x < y → wz k o rt co t L st I J R r) (zf : ¬ x < y → wz k o rt co f L st I J R r) : wz k o rt co pc L (.int (Int32.ofNat y) :: .int (Int32.ofNat x) :: st) I J R r := w_ic_lt ei ht hf (fun h => zt ((am_ltN hx hy).mp h)) (fun h => zf (fun e => h ((am_ltN hx hy).mpr e)))
theorem w_ic_geN {off : Int} {x y : Nat} {t f : Nat} (ei : am_ins co pc = some (.if_icmp .ge off, 3)) (ht : am_tg pc off = some t) (hf : pc + 3 = f) (hx : x < 2147483648) (hy : y < 2147483648) (zt : y ≤ x → wz k o rt co t L st I J R r) (zf : ¬ y ≤ x → wz k o rt co f L st I J R r) : wz k o rt co pc L (.int (Int32.ofNat y) :: .int (Int32.ofNat x) :: st) I J R r := w_ic_ge ei ht hf (fun h => zt ((am_leN hy hx).mp (Int32.not_lt.mp h))) (fun h => zf (fun e => Int32.not_le.mpr h ((am_leN hy hx).mpr e)))
theorem w_ic_gtN {off : Int} {x y : Nat} {t f : Nat} (ei : am_ins co pc = some (.if_icmp .gt off, 3)) (ht : am_tg pc off = some t) (hf : pc + 3 = f) (hx : x < 2147483648) (hy : y < 2147483648) (zt : y < x → wz k o rt co t L st I J R r) (zf : ¬ y < x → wz k o rt co f L st I J R r) : wz k o rt co pc L (.int (Int32.ofNat y) :: .int (Int32.ofNat x) :: st) I J R r := w_ic_gt ei ht hf (fun h => zt ((am_ltN hy hx).mp h)) (fun h => zf (fun e => h ((am_ltN hy hx).mpr e)))
theorem w_ic_leN {off : Int} {x y : Nat} {t f : Nat} (ei : am_ins co pc = some (.if_icmp .le off, 3)) (ht : am_tg pc off = some t) (hf : pc + 3 = f) (hx : x < 2147483648) (hy : y < 2147483648) (zt : x ≤ y → wz k o rt co t L st I J R r) (zf : ¬ x ≤ y → wz k o rt co f L st I J R r) : wz k o rt co pc L (.int (Int32.ofNat y) :: .int (Int32.ofNat x) :: st) I J R r := w_ic_le ei ht hf (fun h => zt ((am_leN hx hy).mp (Int32.not_lt.mp h))) (fun h => zf (fun e => Int32.not_le.mpr h ((am_leN hx hy).mpr e)))
/-- ends -/
theorem w_ret (ei : am_ins co pc = some (.return_, 1)) (hi : I = I') (hj : J = J') (hr : R = R') : wz k o none co pc L [] I J R (none, am_hp I' J' R') := wz_end (st_rt ei rfl rfl rfl rfl rfl rfl) hi hj hr
theorem w_iret {x y : Int32} (ei : am_ins co pc = some (.ireturn, 1)) (hx : x = y) (hi : I = I') (hj : J = J') (hr : R = R') : wz k o (some .int) co pc L [.int x] I J R (some (.int y), am_hp I' J' R') := by
  subst hx; exact wz_end (st_rt ei rfl rfl rfl rfl rfl rfl) hi hj hr
theorem w_bret {x y : Int32} (ei : am_ins co pc = some (.ireturn, 1)) (hb : x = 0 ∨ x = 1) (hx : x = y) (hi : I = I') (hj : J = J') (hr : R = R') : wz k o (some .boolean) co pc L [.int x] I J R (some (.int y), am_hp I' J' R') := by
  subst hx; exact wz_end (st_rt ei rfl rfl rfl rfl rfl (if_pos hb)) hi hj hr
theorem w_lret {x y : Int64} (ei : am_ins co pc = some (.lreturn, 1)) (hx : x = y) (hi : I = I') (hj : J = J') (hr : R = R') : wz k o (some .long) co pc L [.long x] I J R (some (.long y), am_hp I' J' R') := by
  subst hx; exact wz_end (st_rt ei rfl rfl rfl rfl rfl rfl) hi hj hr
theorem w_aret {s : String} {a : Nat} (ei : am_ins co pc = some (.areturn, 1)) (hi : I = I') (hj : J = J') (hr : R = R') : wz k o (some (.object s)) co pc L [.ref a] I J R (some (.ref a), am_hp I' J' R') := wz_end (st_rt ei rfl rfl rfl rfl rfl rfl) hi hj hr
/-- calls -/
theorem w_iv {i : Instr} (ei : am_ins co pc = some (i, 3)) (hl : am_len i 3 = true) (hp : pc + 3 = pc') (e0 : am_pu none o i L st (am_hp I J R) = none) (e1 : am_lo i L st = none) (e2 : am_br i pc st = none) (e3 : am_hw o false i st (am_hp I J R) = none) (e4 : am_rt o i rt st = none) (e : ∃ N, am_iv (fun m a h => am_run k N m a h) o i st (am_hp I J R) = some (st', am_hp I' J' R')) (z : wz k o rt co pc' L st' I' J' R' r) : wz k o rt co pc L st I J R r := by
  obtain ⟨N, e⟩ := e
  subst hp
  exact wz_of N (st_iv ei hl e0 e1 e2 e3 e4 e) z
theorem w_cv {j mn n1 n2 na a : Nat} {ts rest as : List Value} {q : am_M} {v : Option Value} (ei : am_ins co pc = some (.invokevirtual j, 3)) (hp : pc + 3 = pc') (hm : am_mr o j = some (mn, n1, n2)) (hq : am_me[mn]? = some q) (hna : q.2.2.2.2.2.1 = na) (hd : st.drop na = .ref a :: rest) (hs : am_shL[a]? = some (.inr (.inl (q.2.2.2.2.1, ts)))) (h0 : q.2.2.2.2.2.2.1 = 0) (hr : am_rm rest = true) (ha : (st.take na).reverse = as) (hpl : (st.take na).all am_pl = true) (hc : ct k mn (.ref a :: as) I J R v I' J' R') (hv : am_nd v = true) (hst : v.toList ++ rest = st') (z : wz k o rt co pc' L st' I' J' R' r) : wz k o rt co pc L st I J R r := by
  obtain ⟨N, hc⟩ := hc
  refine w_iv ei rfl hp rfl rfl rfl rfl rfl ⟨N, ?_⟩ z
  unfold am_iv
  dsimp only
  rw [hm]
  dsimp only
  rw [hq]
  dsimp only
  rw [hna, hd]
  dsimp only
  rw [am_hp_get hs]
  show (if q.2.2.2.2.1 = q.2.2.2.2.1 ∧ q.2.2.2.2.2.2.1 = 0 ∧ am_rm rest = true ∧ (st.take na).all am_pl = true then (am_run k N mn (.ref a :: (st.take na).reverse) (am_hp I J R)).bind (fun z => if am_nd z.1 = true then some (z.1.toList ++ rest, z.2) else none) else none) = _
  rw [if_pos ⟨rfl, h0, hr, hpl⟩, ha, hc, Option.bind_some]
  dsimp only
  rw [if_pos hv, hst]
theorem w_cs {j mn n1 n2 na : Nat} {as : List Value} {q : am_M} {v : Option Value} (ei : am_ins co pc = some (.invokestatic j, 3)) (hp : pc + 3 = pc') (hm : am_mr o j = some (mn, n1, n2)) (hq : am_me[mn]? = some q) (h1 : mn ≠ 2001) (hna : q.2.2.2.2.2.1 = na) (h0 : q.2.2.2.2.2.2.1 = 1) (hl : na ≤ st.length) (hr : am_rm (st.drop na) = true) (ha : (st.take na).reverse = as) (hpl : (st.take na).all am_pl = true) (hc : ct k mn as I J R v I' J' R') (hv : am_nd v = true) (hst : v.toList ++ st.drop na = st') (z : wz k o rt co pc' L st' I' J' R' r) : wz k o rt co pc L st I J R r := by
  obtain ⟨N, hc⟩ := hc
  refine w_iv ei rfl hp rfl rfl rfl ?_ rfl ⟨N, ?_⟩ z
  · show (match am_mr o j with
      | some (2001, _, _) => am_cpy st (am_hp I J R)
      | _ => none) = none
    rw [hm]
    split
    · rename_i hh; cases hh; exact absurd rfl h1
    · rfl
  · unfold am_iv
    dsimp only
    rw [hm]
    dsimp only
    rw [hq]
    dsimp only
    rw [hna, if_pos ⟨h0, hl, hr, hpl⟩, ha]
    show (am_run k N mn as (am_hp I J R)).bind (fun z => if am_nd z.1 = true then some (z.1.toList ++ st.drop na, z.2) else none) = _
    rw [hc, Option.bind_some]
    dsimp only
    rw [if_pos hv, hst]
theorem wz_L {L' : List Value} (z : wz k o rt co pc L st I J R r) (e : L = L') : wz k o rt co pc L' st I J R r := by
  subst e; exact z
theorem wz_M {L' : List Value} {I' : hI} (z : wz k o rt co pc L st I J R r) (e : L = L') (i : I = I') : wz k o rt co pc L' st I' J R r := by
  subst e i; exact z
theorem wz_J {L' : List Value} {I' : hI} {J' : hJ} (z : wz k o rt co pc L st I J R r) (e : L = L') (i : I = I') (j : J = J') : wz k o rt co pc L' st I' J' R r := by
  subst e i j; exact z
theorem wz_r {r' : Option Value × am_H} (z : wz k o rt co pc L st I J R r) (e : r = r') : wz k o rt co pc L st I J R r' := by
  subst e; exact z
theorem am_b01 {P : Prop} {d : Decidable P} : (if P then (1 : Int32) else 0) = 0 ↔ ¬ P := by
  by_cases h : P
  · rw [if_pos h]; exact ⟨fun z => absurd z (by decide), fun z => absurd h z⟩
  · rw [if_neg h]; exact ⟨fun _ => h, fun _ => rfl⟩
/-- a boolean that stands for P -/
theorem w_if_eqB {off : Int} {P : Prop} {d : Decidable P} {t f : Nat} (ei : am_ins co pc = some (.ifCond .eq off, 3)) (ht : am_tg pc off = some t) (hf : pc + 3 = f) (zt : ¬ P → wz k o rt co t L st I J R r) (zf : P → wz k o rt co f L st I J R r) : wz k o rt co pc L (.int (if P then 1 else 0) :: st) I J R r := w_if_eq ei ht hf (fun h => zt (am_b01.mp h)) (fun h => zf (Decidable.of_not_not (fun z => h (am_b01.mpr z))))
theorem w_if_neB {off : Int} {P : Prop} {d : Decidable P} {t f : Nat} (ei : am_ins co pc = some (.ifCond .ne off, 3)) (ht : am_tg pc off = some t) (hf : pc + 3 = f) (zt : P → wz k o rt co t L st I J R r) (zf : ¬ P → wz k o rt co f L st I J R r) : wz k o rt co pc L (.int (if P then 1 else 0) :: st) I J R r := w_if_ne ei ht hf (fun h => zt (Decidable.of_not_not (fun z => h (am_b01.mpr z)))) (fun h => zf (am_b01.mp h))
theorem am_bt {P : Prop} {d : Decidable P} (h : P) : (1 : Int32) = if P then 1 else 0 := (if_pos h).symm
theorem am_bf {P : Prop} {d : Decidable P} (h : ¬ P) : (0 : Int32) = if P then 1 else 0 := (if_neg h).symm
theorem am_b02 {P : Prop} {d : Decidable P} : (if P then (1 : Int32) else 0) = 0 ∨ (if P then (1 : Int32) else 0) = 1 := by
  by_cases h : P
  · rw [if_pos h]; exact Or.inr rfl
  · rw [if_neg h]; exact Or.inl rfl
