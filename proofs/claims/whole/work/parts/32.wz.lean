/-! Steps of a method over such heaps, an instruction a row: wz says that from here the method comes to its end r. -/
def wz (k o : Nat) (rt : Option FieldType) (co : List (List (Nat × Instr × Nat))) (pc : Nat) (L st : List Value) (I : hI) (J : hJ) (R : hR) (r : Option Value × am_H) : Prop := ∃ N n, am_loop (fun m a h => am_run k N m a h) none o false rt co n pc L st (am_hp I J R) = some r
/-- a method's run -/
def ct (k mn : Nat) (args : List Value) (I : hI) (J : hJ) (R : hR) (v : Option Value) (I' : hI) (J' : hJ) (R' : hR) : Prop := ∃ N, am_run k N mn args (am_hp I J R) = some (v, am_hp I' J' R')
theorem ct_mono {k k' mn : Nat} {args : List Value} {I I' : hI} {J J' : hJ} {R R' : hR} {v : Option Value} (h : ct k mn args I J R v I' J' R') (hk : k ≤ k') : ct k' mn args I J R v I' J' R' := by
  obtain ⟨N, e⟩ := h
  exact ⟨N, am_run_mono k k' N N _ _ _ _ hk (Nat.le_refl _) e⟩
variable {k o : Nat} {rt : Option FieldType} {co : List (List (Nat × Instr × Nat))} {pc pc' : Nat} {L L' st st' : List Value} {I I' : hI} {J J' : hJ} {R R' : hR} {r : Option Value × am_H}
theorem wz_of (N0 : Nat) (e : am_step (fun m a h => am_run k N0 m a h) none o false rt co pc L st (am_hp I J R) = some (.inl (pc', L', st', am_hp I' J' R'))) (w : wz k o rt co pc' L' st' I' J' R' r) : wz k o rt co pc L st I J R r := by
  obtain ⟨N, n, h⟩ := w
  refine ⟨N0 + N, n + 1, ?_⟩
  have hc : am_cle (fun m a h => am_run k N0 m a h) (fun m a h => am_run k (N0 + N) m a h) := fun mn a h r z => am_run_mono k k N0 (N0 + N) mn a h r (Nat.le_refl _) (Nat.le_add_right _ _) z
  have hd : am_cle (fun m a h => am_run k N m a h) (fun m a h => am_run k (N0 + N) m a h) := fun mn a h r z => am_run_mono k k N (N0 + N) mn a h r (Nat.le_refl _) (Nat.le_add_left _ _) z
  unfold am_loop
  rw [am_step_mono hc e]
  exact am_loop_mono hd n n _ _ _ _ _ (Nat.le_refl _) h
theorem wz_end {v : Option Value} {I' : hI} {J' : hJ} {R' : hR} (e : am_step (fun m a h => am_run k 0 m a h) none o false rt co pc L st (am_hp I J R) = some (.inr (v, am_hp I J R))) (hi : I = I') (hj : J = J') (hr : R = R') : wz k o rt co pc L st I J R (v, am_hp I' J' R') := by
  subst hi hj hr
  refine ⟨0, 1, ?_⟩
  unfold am_loop
  rw [e]
def am_lc (n : Nat) (args : List Value) : Option (List Value) := if (am_en args).length ≤ n then some (am_en args ++ List.replicate (n - (am_en args).length) am_un) else none
theorem ct_of {mn : Nat} {args : List Value} {v : Option Value} {q : am_M} (hq : am_me[mn]? = some q) (ho : q.2.2.2.2.1 = o) (hi : (q.1.name == "<init>") = false) (hr : q.2.2.2.1 = rt) (hc : am_co.getD mn [] = co) (hL : am_lc q.2.2.1 args = some L) (w : wz k o rt co 0 L [] I J R (v, am_hp I' J' R')) : ct (k + 1) mn args I J R v I' J' R' := by
  obtain ⟨N, n, h⟩ := w
  refine ⟨N + n, ?_⟩
  unfold am_run
  rw [hq]
  dsimp only
  unfold am_lc at hL
  by_cases hl : (am_en args).length ≤ q.2.2.1
  · rw [if_pos hl] at hL ⊢
    cases hL
    rw [ho, hi, hr, hc]
    exact am_loop_mono (fun mn a h r z => am_run_mono k k N (N + n) mn a h r (Nat.le_refl _) (Nat.le_add_right _ _) z) n (N + n) _ _ _ _ _ (Nat.le_add_left _ _) h
  · rw [if_neg hl] at hL
    cases hL
section
variable {call : am_C} {h h' : am_H} {i : Instr} {w : Nat}
theorem st_pu (ei : am_ins co pc = some (i, w)) (hl : am_len i w = true) (e : am_pu none o i L st h = some st') : am_step call none o false rt co pc L st h = some (.inl (pc + w, L, st', h)) := by
  unfold am_step
  rw [ei]
  dsimp only
  rw [if_pos hl, e]
theorem st_lo (ei : am_ins co pc = some (i, w)) (hl : am_len i w = true) (e0 : am_pu none o i L st h = none) (e : am_lo i L st = some (L', st')) : am_step call none o false rt co pc L st h = some (.inl (pc + w, L', st', h)) := by
  unfold am_step
  rw [ei]
  dsimp only
  rw [if_pos hl, e0]
  dsimp only
  rw [e]
theorem st_br (ei : am_ins co pc = some (i, w)) (hl : am_len i w = true) (e0 : am_pu none o i L st h = none) (e1 : am_lo i L st = none) (e : am_br i pc st = some (pc', st')) : am_step call none o false rt co pc L st h = some (.inl (pc', L, st', h)) := by
  unfold am_step
  rw [ei]
  dsimp only
  rw [if_pos hl, e0]
  dsimp only
  rw [e1]
  dsimp only
  rw [e]
theorem st_hw (ei : am_ins co pc = some (i, w)) (hl : am_len i w = true) (e0 : am_pu none o i L st h = none) (e1 : am_lo i L st = none) (e2 : am_br i pc st = none) (e : am_hw o false i st h = some (st', h')) : am_step call none o false rt co pc L st h = some (.inl (pc + w, L, st', h')) := by
  unfold am_step
  rw [ei]
  dsimp only
  rw [if_pos hl, e0]
  dsimp only
  rw [e1]
  dsimp only
  rw [e2]
  dsimp only
  rw [e]
theorem st_rt {v : Option Value} (ei : am_ins co pc = some (i, w)) (hl : am_len i w = true) (e0 : am_pu none o i L st h = none) (e1 : am_lo i L st = none) (e2 : am_br i pc st = none) (e3 : am_hw o false i st h = none) (e : am_rt o i rt st = some v) : am_step call none o false rt co pc L st h = some (.inr (v, h)) := by
  unfold am_step
  rw [ei]
  dsimp only
  rw [if_pos hl, e0]
  dsimp only
  rw [e1]
  dsimp only
  rw [e2]
  dsimp only
  rw [e3]
  dsimp only
  rw [e]
theorem st_iv (ei : am_ins co pc = some (i, w)) (hl : am_len i w = true) (e0 : am_pu none o i L st h = none) (e1 : am_lo i L st = none) (e2 : am_br i pc st = none) (e3 : am_hw o false i st h = none) (e4 : am_rt o i rt st = none) (e : am_iv call o i st h = some (st', h')) : am_step call none o false rt co pc L st h = some (.inl (pc + w, L, st', h')) := by
  unfold am_step
  rw [ei]
  dsimp only
  rw [if_pos hl, e0]
  dsimp only
  rw [e1]
  dsimp only
  rw [e2]
  dsimp only
  rw [e3]
  dsimp only
  rw [e4]
  dsimp only
  rw [e]
theorem st_ma (ei : am_ins co pc = some (i, w)) (hl : am_len i w = true) (e0 : am_pu none o i L st h = none) (e1 : am_lo i L st = none) (e2 : am_br i pc st = none) (e3 : am_hw o false i st h = none) (e4 : am_rt o i rt st = none) (e5 : am_iv call o i st h = none) (e6 : am_mk o i st h = none) (e7 : am_xt call o i st h = none) (e : am_ma o i st = some st') : am_step call none o false rt co pc L st h = some (.inl (pc + w, L, st', h)) := by
  unfold am_step
  rw [ei]
  dsimp only
  rw [if_pos hl, e0]
  dsimp only
  rw [e1]
  dsimp only
  rw [e2]
  dsimp only
  rw [e3]
  dsimp only
  rw [e4]
  dsimp only
  rw [e5]
  dsimp only
  rw [e6]
  dsimp only
  rw [e7]
  dsimp only
  rw [e]
end
/-- instructions that make a new stack and don't look at the heap -/
theorem w_pu {i : Instr} {w : Nat} (ei : am_ins co pc = some (i, w)) (hl : am_len i w = true) (hp : pc + w = pc') (e : am_pu none o i L st (am_hp I J R) = some st') (z : wz k o rt co pc' L st' I J R r) : wz k o rt co pc L st I J R r := by
  subst hp
  exact wz_of 0 (st_pu ei hl e) z
theorem w_iconst {c : Int} {x : Int32} (ei : am_ins co pc = some (.iconst c, 1)) (hp : pc + 1 = pc') (hx : Int32.ofInt c = x) (z : wz k o rt co pc' L (.int x :: st) I J R r) : wz k o rt co pc L st I J R r := by
  subst hx; exact w_pu ei rfl hp rfl z
theorem w_bipush {c : Int} {x : Int32} (ei : am_ins co pc = some (.bipush c, 2)) (hp : pc + 2 = pc') (hx : (Int8.ofInt c).toInt32 = x) (z : wz k o rt co pc' L (.int x :: st) I J R r) : wz k o rt co pc L st I J R r := by
  subst hx; exact w_pu ei rfl hp rfl z
theorem w_sipush {c : Int} {x : Int32} (ei : am_ins co pc = some (.sipush c, 3)) (hp : pc + 3 = pc') (hx : (Int16.ofInt c).toInt32 = x) (z : wz k o rt co pc' L (.int x :: st) I J R r) : wz k o rt co pc L st I J R r := by
  subst hx; exact w_pu ei rfl hp rfl z
theorem w_ldc {j n : Nat} {x : Int32} (ei : am_ins co pc = some (.ldc j, 2)) (hp : pc + 2 = pc') (hx : am_ci o j = some (x, n)) (z : wz k o rt co pc' L (.int x :: st) I J R r) : wz k o rt co pc L st I J R r := by
  refine w_pu ei rfl hp ?_ z
  show (am_ci o j).map _ = _
  rw [hx]; rfl
theorem w_ldc_w {j n : Nat} {x : Int32} (ei : am_ins co pc = some (.ldc_w j, 3)) (hp : pc + 3 = pc') (hx : am_ci o j = some (x, n)) (z : wz k o rt co pc' L (.int x :: st) I J R r) : wz k o rt co pc L st I J R r := by
  refine w_pu ei rfl hp ?_ z
  show (am_ci o j).map _ = _
  rw [hx]; rfl
theorem w_ldc2_w {j n : Nat} {x : Int64} (ei : am_ins co pc = some (.ldc2_w j, 3)) (hp : pc + 3 = pc') (hx : am_cj o j = some (x, n)) (z : wz k o rt co pc' L (.long x :: st) I J R r) : wz k o rt co pc L st I J R r := by
  refine w_pu ei rfl hp ?_ z
  show (am_cj o j).map _ = _
  rw [hx]; rfl
theorem w_lconst {c : Fin 2} {x : Int64} (ei : am_ins co pc = some (.lconst c, 1)) (hp : pc + 1 = pc') (hx : Int64.ofNat (c : Nat) = x) (z : wz k o rt co pc' L (.long x :: st) I J R r) : wz k o rt co pc L st I J R r := by
  subst hx; exact w_pu ei rfl hp rfl z
theorem am_ld_ok {j : Nat} {p : Value → Bool} {v : Value} (hv : L[j]? = some v) (hp : p v = true) : am_ld L j p st = some (v :: st) := by
  unfold am_ld
  rw [hv]
  exact if_pos hp
theorem w_iload_n {j : Fin 4} {x : Int32} (ei : am_ins co pc = some (.iload_n j, 1)) (hp : pc + 1 = pc') (hv : L[(j : Nat)]? = some (.int x)) (z : wz k o rt co pc' L (.int x :: st) I J R r) : wz k o rt co pc L st I J R r := w_pu ei rfl hp (am_ld_ok hv rfl) z
theorem w_iload {j : Nat} {x : Int32} (ei : am_ins co pc = some (.iload j, 2)) (hp : pc + 2 = pc') (hv : L[j]? = some (.int x)) (z : wz k o rt co pc' L (.int x :: st) I J R r) : wz k o rt co pc L st I J R r := w_pu ei rfl hp (am_ld_ok hv rfl) z
theorem w_lload_n {j : Fin 4} {x : Int64} (ei : am_ins co pc = some (.lload_n j, 1)) (hp : pc + 1 = pc') (hv : L[(j : Nat)]? = some (.long x)) (z : wz k o rt co pc' L (.long x :: st) I J R r) : wz k o rt co pc L st I J R r := w_pu ei rfl hp (am_ld_ok hv rfl) z
theorem w_lload {j : Nat} {x : Int64} (ei : am_ins co pc = some (.lload j, 2)) (hp : pc + 2 = pc') (hv : L[j]? = some (.long x)) (z : wz k o rt co pc' L (.long x :: st) I J R r) : wz k o rt co pc L st I J R r := w_pu ei rfl hp (am_ld_ok hv rfl) z
theorem w_aload_n {j : Fin 4} {a : Nat} (ei : am_ins co pc = some (.aload_n j, 1)) (hp : pc + 1 = pc') (hv : L[(j : Nat)]? = some (.ref a)) (z : wz k o rt co pc' L (.ref a :: st) I J R r) : wz k o rt co pc L st I J R r := w_pu ei rfl hp (am_ld_ok hv rfl) z
theorem w_aload {j a : Nat} (ei : am_ins co pc = some (.aload j, 2)) (hp : pc + 2 = pc') (hv : L[j]? = some (.ref a)) (z : wz k o rt co pc' L (.ref a :: st) I J R r) : wz k o rt co pc L st I J R r := w_pu ei rfl hp (am_ld_ok hv rfl) z
theorem w_iadd {x y : Int32} (ei : am_ins co pc = some (.iadd, 1)) (hp : pc + 1 = pc') (z : wz k o rt co pc' L (.int (x + y) :: st) I J R r) : wz k o rt co pc L (.int y :: .int x :: st) I J R r := w_pu ei rfl hp rfl z
theorem w_isub {x y : Int32} (ei : am_ins co pc = some (.isub, 1)) (hp : pc + 1 = pc') (z : wz k o rt co pc' L (.int (x - y) :: st) I J R r) : wz k o rt co pc L (.int y :: .int x :: st) I J R r := w_pu ei rfl hp rfl z
theorem w_imul {x y : Int32} (ei : am_ins co pc = some (.imul, 1)) (hp : pc + 1 = pc') (z : wz k o rt co pc' L (.int (x * y) :: st) I J R r) : wz k o rt co pc L (.int y :: .int x :: st) I J R r := w_pu ei rfl hp rfl z
theorem w_idiv {x y : Int32} (ei : am_ins co pc = some (.idiv, 1)) (hp : pc + 1 = pc') (hy : y ≠ 0) (z : wz k o rt co pc' L (.int (x / y) :: st) I J R r) : wz k o rt co pc L (.int y :: .int x :: st) I J R r := by
  refine w_pu ei rfl hp ?_ z
  show ((if y = 0 then none else some (Value.int (x / y))).map (· :: st)) = _
  rw [if_neg hy]; rfl
theorem w_irem {x y : Int32} (ei : am_ins co pc = some (.irem, 1)) (hp : pc + 1 = pc') (hy : y ≠ 0) (z : wz k o rt co pc' L (.int (x - x / y * y) :: st) I J R r) : wz k o rt co pc L (.int y :: .int x :: st) I J R r := by
  refine w_pu ei rfl hp ?_ z
  show ((if y = 0 then none else some (Value.int (x - x / y * y))).map (· :: st)) = _
  rw [if_neg hy]; rfl
theorem w_iand {x y : Int32} (ei : am_ins co pc = some (.iand, 1)) (hp : pc + 1 = pc') (z : wz k o rt co pc' L (.int (x &&& y) :: st) I J R r) : wz k o rt co pc L (.int y :: .int x :: st) I J R r := w_pu ei rfl hp rfl z
theorem w_ior {x y : Int32} (ei : am_ins co pc = some (.ior, 1)) (hp : pc + 1 = pc') (z : wz k o rt co pc' L (.int (x ||| y) :: st) I J R r) : wz k o rt co pc L (.int y :: .int x :: st) I J R r := w_pu ei rfl hp rfl z
theorem w_ixor {x y : Int32} (ei : am_ins co pc = some (.ixor, 1)) (hp : pc + 1 = pc') (z : wz k o rt co pc' L (.int (x ^^^ y) :: st) I J R r) : wz k o rt co pc L (.int y :: .int x :: st) I J R r := w_pu ei rfl hp rfl z
theorem w_ishl {x y : Int32} (ei : am_ins co pc = some (.ishl, 1)) (hp : pc + 1 = pc') (z : wz k o rt co pc' L (.int (x <<< (y &&& 31)) :: st) I J R r) : wz k o rt co pc L (.int y :: .int x :: st) I J R r := w_pu ei rfl hp rfl z
theorem w_ishr {x y : Int32} (ei : am_ins co pc = some (.ishr, 1)) (hp : pc + 1 = pc') (z : wz k o rt co pc' L (.int (x >>> (y &&& 31)) :: st) I J R r) : wz k o rt co pc L (.int y :: .int x :: st) I J R r := w_pu ei rfl hp rfl z
theorem w_ineg {x : Int32} (ei : am_ins co pc = some (.ineg, 1)) (hp : pc + 1 = pc') (z : wz k o rt co pc' L (.int (-x) :: st) I J R r) : wz k o rt co pc L (.int x :: st) I J R r := w_pu ei rfl hp rfl z
theorem w_i2l {x : Int32} (ei : am_ins co pc = some (.i2l, 1)) (hp : pc + 1 = pc') (z : wz k o rt co pc' L (.long x.toInt64 :: st) I J R r) : wz k o rt co pc L (.int x :: st) I J R r := w_pu ei rfl hp rfl z
theorem w_l2i {x : Int64} (ei : am_ins co pc = some (.l2i, 1)) (hp : pc + 1 = pc') (z : wz k o rt co pc' L (.int x.toInt32 :: st) I J R r) : wz k o rt co pc L (.long x :: st) I J R r := w_pu ei rfl hp rfl z
theorem w_lneg {x : Int64} (ei : am_ins co pc = some (.lneg, 1)) (hp : pc + 1 = pc') (z : wz k o rt co pc' L (.long (-x) :: st) I J R r) : wz k o rt co pc L (.long x :: st) I J R r := w_pu ei rfl hp rfl z
theorem w_ladd {x y : Int64} (ei : am_ins co pc = some (.ladd, 1)) (hp : pc + 1 = pc') (z : wz k o rt co pc' L (.long (x + y) :: st) I J R r) : wz k o rt co pc L (.long y :: .long x :: st) I J R r := w_pu ei rfl hp rfl z
theorem w_lsub {x y : Int64} (ei : am_ins co pc = some (.lsub, 1)) (hp : pc + 1 = pc') (z : wz k o rt co pc' L (.long (x - y) :: st) I J R r) : wz k o rt co pc L (.long y :: .long x :: st) I J R r := w_pu ei rfl hp rfl z
theorem w_lmul {x y : Int64} (ei : am_ins co pc = some (.lmul, 1)) (hp : pc + 1 = pc') (z : wz k o rt co pc' L (.long (x * y) :: st) I J R r) : wz k o rt co pc L (.long y :: .long x :: st) I J R r := w_pu ei rfl hp rfl z
theorem w_land {x y : Int64} (ei : am_ins co pc = some (.land, 1)) (hp : pc + 1 = pc') (z : wz k o rt co pc' L (.long (x &&& y) :: st) I J R r) : wz k o rt co pc L (.long y :: .long x :: st) I J R r := w_pu ei rfl hp rfl z
theorem w_ldiv {x y : Int64} (ei : am_ins co pc = some (.ldiv, 1)) (hp : pc + 1 = pc') (hy : y ≠ 0) (z : wz k o rt co pc' L (.long (x / y) :: st) I J R r) : wz k o rt co pc L (.long y :: .long x :: st) I J R r := by
  refine w_pu ei rfl hp ?_ z
  show ((if y = 0 then none else some (Value.long (x / y))).map (· :: st)) = _
  rw [if_neg hy]; rfl
theorem w_lrem {x y : Int64} (ei : am_ins co pc = some (.lrem, 1)) (hp : pc + 1 = pc') (hy : y ≠ 0) (z : wz k o rt co pc' L (.long (x - x / y * y) :: st) I J R r) : wz k o rt co pc L (.long y :: .long x :: st) I J R r := by
  refine w_pu ei rfl hp ?_ z
  show ((if y = 0 then none else some (Value.long (x - x / y * y))).map (· :: st)) = _
  rw [if_neg hy]; rfl
theorem w_lcmp {x y : Int64} (ei : am_ins co pc = some (.lcmp, 1)) (hp : pc + 1 = pc') (z : wz k o rt co pc' L (.int (lg_cmp x y) :: st) I J R r) : wz k o rt co pc L (.long y :: .long x :: st) I J R r := w_pu ei rfl hp rfl z
theorem w_dup {v : Value} (ei : am_ins co pc = some (.dup, 1)) (hp : pc + 1 = pc') (hv : v.category = 1) (z : wz k o rt co pc' L (v :: v :: st) I J R r) : wz k o rt co pc L (v :: st) I J R r := w_pu ei rfl hp (if_pos hv) z
theorem w_dup2 {v v2 : Value} (ei : am_ins co pc = some (.dup2, 1)) (hp : pc + 1 = pc') (hv : v.category = 1) (hv2 : v2.category = 1) (z : wz k o rt co pc' L (v :: v2 :: v :: v2 :: st) I J R r) : wz k o rt co pc L (v :: v2 :: st) I J R r := w_pu ei rfl hp (if_pos ⟨hv, hv2⟩) z
theorem w_pop {v : Value} (ei : am_ins co pc = some (.pop, 1)) (hp : pc + 1 = pc') (hv : v.category = 1) (z : wz k o rt co pc' L st I J R r) : wz k o rt co pc L (v :: st) I J R r := w_pu ei rfl hp (if_pos hv) z
/-- a field: v is what the template and I, J, R say -/
theorem w_gf {j a ci kf n1 n2 : Nat} {ts : List Value} {t v : Value} (ei : am_ins co pc = some (.getfield j, 3)) (hp : pc + 3 = pc') (hf : am_fr o j = some (ci, kf, n1, n2)) (hs : am_shL[a]? = some (.inr (.inl (ci, ts)))) (ht : ts[kf]? = some t) (hv : am_fv I J R a kf t = v) (hq : am_pl v = true) (z : wz k o rt co pc' L (v :: st) I J R r) : wz k o rt co pc L (.ref a :: st) I J R r := by
  refine w_pu ei rfl hp ?_ z
  show am_gf o j (.ref a :: st) (am_hp I J R) = _
  unfold am_gf
  rw [hf]
  dsimp only
  rw [am_hp_get hs]
  show (match (ts.mapIdx (am_fv I J R a))[kf]? with
        | some v => if ci = ci ∧ am_pl v = true then some (v :: st) else none
        | none => none) = _
  rw [List.getElem?_mapIdx, ht]
  show (if ci = ci ∧ am_pl (am_fv I J R a kf t) = true then some (am_fv I J R a kf t :: st) else none) = _
  rw [hv, if_pos ⟨rfl, hq⟩]
theorem am_nlt {x : Int32} {n : Nat} (hx : x = Int32.ofNat n) (hn : n < 100000) (m : Nat) (hm : n < m) : ¬ (x < 0 ∨ m ≤ x.toNatClampNeg) ∧ x.toNatClampNeg = n := by
  subst hx
  have e : (Int32.ofNat n).toInt = n := Int32.toInt_ofNat_of_lt (by omega)
  have e2 : (Int32.ofNat n).toNatClampNeg = n := by
    show (Int32.ofNat n).toInt.toNat = n
    rw [e]; rfl
  refine ⟨?_, e2⟩
  rw [e2, Int32.lt_iff_toInt_lt, e]
  show ¬ ((n : Int) < 0 ∨ m ≤ n)
  omega
theorem am_rg_get {α : Type} {f : Nat → α} {m n : Nat} {d : α} (h : n < m) : ((List.range m).map f).getD n d = f n := by
  rw [List.getD_eq_getElem?_getD, List.getElem?_map, List.getElem?_range h]
  rfl
theorem w_iaload {a m n : Nat} {x v : Int32} (ei : am_ins co pc = some (.iaload, 1)) (hp : pc + 1 = pc') (hs : am_shL[a]? = some (.inl (.int, false, m))) (hx : x = Int32.ofNat n) (hn : n < m ∧ m ≤ 1024) (hv : I a n = v) (z : wz k o rt co pc' L (.int v :: st) I J R r) : wz k o rt co pc L (.int x :: .ref a :: st) I J R r := by
  refine w_pu ei rfl hp ?_ z
  show am_ial .int none (.int x :: .ref a :: st) (am_hp I J R) = _
  unfold am_ial
  dsimp only
  rw [am_hp_get hs]
  obtain ⟨e1, e2⟩ := am_nlt hx (by omega) m hn.1
  show (if FieldType.int = FieldType.int ∧ ¬ (x < 0 ∨ ((List.range m).map (I a)).length ≤ x.toNatClampNeg) then some (Value.int (((List.range m).map (I a)).getD x.toNatClampNeg 0) :: st) else none) = _
  rw [List.length_map, List.length_range, if_pos ⟨rfl, e1⟩, e2, am_rg_get hn.1, hv]
theorem w_baload {a m n : Nat} {x v : Int32} (ei : am_ins co pc = some (.baload, 1)) (hp : pc + 1 = pc') (hs : am_shL[a]? = some (.inl (.boolean, false, m))) (hx : x = Int32.ofNat n) (hn : n < m ∧ m ≤ 1024) (hv : I a n = v) (z : wz k o rt co pc' L (.int v :: st) I J R r) : wz k o rt co pc L (.int x :: .ref a :: st) I J R r := by
  refine w_pu ei rfl hp ?_ z
  show am_ial .boolean none (.int x :: .ref a :: st) (am_hp I J R) = _
  unfold am_ial
  dsimp only
  rw [am_hp_get hs]
  obtain ⟨e1, e2⟩ := am_nlt hx (by omega) m hn.1
  show (if FieldType.boolean = FieldType.boolean ∧ ¬ (x < 0 ∨ ((List.range m).map (I a)).length ≤ x.toNatClampNeg) then some (Value.int (((List.range m).map (I a)).getD x.toNatClampNeg 0) :: st) else none) = _
  rw [List.length_map, List.length_range, if_pos ⟨rfl, e1⟩, e2, am_rg_get hn.1, hv]
theorem w_laload {a m n : Nat} {x : Int32} (ei : am_ins co pc = some (.laload, 1)) (hp : pc + 1 = pc') (hs : am_shL[a]? = some (.inl (.long, true, m))) (hx : x = Int32.ofNat n) (hn : n < m ∧ m ≤ 1024) (z : wz k o rt co pc' L (.long (J a n) :: st) I J R r) : wz k o rt co pc L (.int x :: .ref a :: st) I J R r := by
  refine w_pu ei rfl hp ?_ z
  show am_lal (.int x :: .ref a :: st) (am_hp I J R) = _
  unfold am_lal
  dsimp only
  rw [am_hp_get hs]
  obtain ⟨e1, e2⟩ := am_nlt hx (by omega) m hn.1
  show (if ¬ (x < 0 ∨ ((List.range m).map (J a)).length ≤ x.toNatClampNeg) then some (Value.long (((List.range m).map (J a)).getD x.toNatClampNeg 0) :: st) else none) = _
  rw [List.length_map, List.length_range, if_pos e1, e2, am_rg_get hn.1]
theorem w_aaload {a n q : Nat} {l : List (Option Nat)} {x : Int32} (ei : am_ins co pc = some (.aaload, 1)) (hp : pc + 1 = pc') (hs : am_shL[a]? = some (.inr (.inr l))) (hx : x = Int32.ofNat n) (hn : n < l.length ∧ l.length ≤ 1024) (hq : l.getD n none = some q) (z : wz k o rt co pc' L (.ref q :: st) I J R r) : wz k o rt co pc L (.int x :: .ref a :: st) I J R r := by
  refine w_pu ei rfl hp ?_ z
  show am_aal (.int x :: .ref a :: st) (am_hp I J R) = _
  unfold am_aal
  dsimp only
  rw [am_hp_get hs]
  obtain ⟨e1, e2⟩ := am_nlt hx (by omega) l.length hn.1
  show (if "RopeWalk$Law" = "RopeWalk$Law" ∧ ¬ (x < 0 ∨ l.length ≤ x.toNatClampNeg) then (match l.getD x.toNatClampNeg none with
        | some q => some (Value.ref q :: st)
        | none => none) else none) = _
  rw [if_pos ⟨rfl, e1⟩, e2, hq]
theorem w_alen {a m : Nat} {t : FieldType} (ei : am_ins co pc = some (.arraylength, 1)) (hp : pc + 1 = pc') (hs : am_shL[a]? = some (.inl (t, false, m))) (ht : t ∈ am_tys) (z : wz k o rt co pc' L (.int (Int32.ofNat m) :: st) I J R r) : wz k o rt co pc L (.ref a :: st) I J R r := by
  refine w_pu ei rfl hp ?_ z
  show am_aln none (.ref a :: st) (am_hp I J R) = _
  unfold am_aln
  dsimp only
  rw [am_hp_get hs]
  show (if t ∈ am_tys then some (Value.int (Int32.ofNat ((List.range m).map (I a)).length) :: st) else none) = _
  rw [if_pos ht, List.length_map, List.length_range]
theorem w_alenL {a m : Nat} {t : FieldType} (ei : am_ins co pc = some (.arraylength, 1)) (hp : pc + 1 = pc') (hs : am_shL[a]? = some (.inl (t, true, m))) (ht : t ∈ am_tys) (z : wz k o rt co pc' L (.int (Int32.ofNat m) :: st) I J R r) : wz k o rt co pc L (.ref a :: st) I J R r := by
  refine w_pu ei rfl hp ?_ z
  show am_aln none (.ref a :: st) (am_hp I J R) = _
  unfold am_aln
  dsimp only
  rw [am_hp_get hs]
  show (if t ∈ am_tys then some (Value.int (Int32.ofNat ((List.range m).map (J a)).length) :: st) else none) = _
  rw [if_pos ht, List.length_map, List.length_range]
theorem w_iaddN {x y : Nat} (ei : am_ins co pc = some (.iadd, 1)) (hp : pc + 1 = pc') (z : wz k o rt co pc' L (.int (Int32.ofNat (x + y)) :: st) I J R r) : wz k o rt co pc L (.int (Int32.ofNat y) :: .int (Int32.ofNat x) :: st) I J R r := by
  rw [Int32.ofNat_add] at z
  exact w_iadd ei hp z
theorem w_imulN {x y : Nat} (ei : am_ins co pc = some (.imul, 1)) (hp : pc + 1 = pc') (z : wz k o rt co pc' L (.int (Int32.ofNat (x * y)) :: st) I J R r) : wz k o rt co pc L (.int (Int32.ofNat y) :: .int (Int32.ofNat x) :: st) I J R r := by
  rw [Int32.ofNat_mul] at z
  exact w_imul ei hp z
theorem am_incN {x : Nat} (c : Nat) : Int32.ofNat x + Int32.ofInt (c : Int) = Int32.ofNat (x + c) := by
  rw [Int32.ofNat_add]; rfl
theorem am_ltN {x y : Nat} (hx : x < 2147483648) (hy : y < 2147483648) : Int32.ofNat x < Int32.ofNat y ↔ x < y := by
  rw [Int32.lt_iff_toInt_lt, Int32.toInt_ofNat_of_lt hx, Int32.toInt_ofNat_of_lt hy]
  omega
theorem am_leN {x y : Nat} (hx : x < 2147483648) (hy : y < 2147483648) : Int32.ofNat x ≤ Int32.ofNat y ↔ x ≤ y := by
  rw [Int32.le_iff_toInt_le, Int32.toInt_ofNat_of_lt hx, Int32.toInt_ofNat_of_lt hy]
  omega
theorem am_eqN {x y : Nat} (hx : x < 2147483648) (hy : y < 2147483648) : Int32.ofNat x = Int32.ofNat y ↔ x = y := by
  rw [← Int32.toInt_inj, Int32.toInt_ofNat_of_lt hx, Int32.toInt_ofNat_of_lt hy]
  omega
