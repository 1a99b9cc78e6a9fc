/-! The law's frame: see and rope. -/
section
variable {ys : List Int32} {n pc pc' : Nat} {L L' st st' : List Value} {I I' : hI} {J J' : hJ} {R R' : hR}
theorem l_goto {off : Int} {t : Nat} (ei : am_ins am_c288 pc = some (.goto off, 3)) (ht : am_tg pc off = some t) (z : lz ys n t L st I J R) : lz ys (n + 1) pc L st I J R := by
  refine l_br (st' := st) ei rfl rfl rfl ?_ z
  show (am_tg pc off).map (fun t => (t, st)) = _
  rw [ht]; rfl
theorem l_ife {off : Int} {t f : Nat} {x : Int32} (ei : am_ins am_c288 pc = some (.ifCond .eq off, 3)) (ht : am_tg pc off = some t) (hf : pc + 3 = f) (zt : x = 0 → lz ys n t L st I J R) (zf : ¬ x = 0 → lz ys n f L st I J R) : lz ys (n + 1) pc L (.int x :: st) I J R := by
  subst hf
  by_cases c : x = 0
  · refine l_br ei rfl rfl rfl ?_ (zt c)
    show am_b1 (fun x => decide (x = 0)) pc off (.int x :: st) = _
    rw [am_b1_ok ht, if_pos (decide_eq_true c)]
  · refine l_br ei rfl rfl rfl ?_ (zf c)
    show am_b1 (fun x => decide (x = 0)) pc off (.int x :: st) = _
    rw [am_b1_ok ht, if_neg (fun z => c (of_decide_eq_true z))]
theorem l_ifn {off : Int} {t f : Nat} {x : Int32} (ei : am_ins am_c288 pc = some (.ifCond .ne off, 3)) (ht : am_tg pc off = some t) (hf : pc + 3 = f) (zt : ¬ x = 0 → lz ys n t L st I J R) (zf : x = 0 → lz ys n f L st I J R) : lz ys (n + 1) pc L (.int x :: st) I J R := by
  subst hf
  by_cases c : x = 0
  · refine l_br ei rfl rfl rfl ?_ (zf c)
    show am_b1 (fun x => decide (¬ x = 0)) pc off (.int x :: st) = _
    rw [am_b1_ok ht, if_neg (fun z => (of_decide_eq_true z : ¬ x = 0) c)]
  · refine l_br ei rfl rfl rfl ?_ (zt c)
    show am_b1 (fun x => decide (¬ x = 0)) pc off (.int x :: st) = _
    rw [am_b1_ok ht, if_pos (decide_eq_true c)]
/-- an int as a boolean -/
def l_bo (x : Int32) : Int32 := if x = 0 then 0 else 1
theorem l_bo01 (x : Int32) : l_bo x = 0 ∨ l_bo x = 1 := by
  unfold l_bo
  by_cases c : x = 0
  · rw [if_pos c]; exact Or.inl rfl
  · rw [if_neg c]; exact Or.inr rfl
theorem l_nz {x : Int32} {p3 p4 p7 p8 : Nat} (e1 : am_ins am_c288 pc = some (.ifCond .eq 7, 3)) (h3 : pc + 3 = p3) (e2 : am_ins am_c288 p3 = some (.iconst 1, 1)) (h4 : p3 + 1 = p4) (e3 : am_ins am_c288 p4 = some (.goto 4, 3)) (t1 : am_tg pc 7 = some p7) (e4 : am_ins am_c288 p7 = some (.iconst 0, 1)) (t2 : am_tg p4 4 = some p8) (h8 : p7 + 1 = p8) (z : lz ys n p8 L (.int (l_bo x) :: st) I J R) : lz ys (n + 3) pc L (.int x :: st) I J R := by
  refine l_ife (n := n + 2) e1 t1 h3 (fun c => ?_) (fun c => ?_)
  · rw [show l_bo x = 0 from if_pos c] at z
    exact lz_le (l_pu (st' := .int 0 :: st) e4 rfl h8 rfl z) (by omega)
  · rw [show l_bo x = 1 from if_neg c] at z
    exact l_pu (st' := .int 1 :: st) e2 rfl h4 rfl (l_goto e3 t2 z)
theorem st_xt {call : am_C} {co : List (List (Nat × Instr × Nat))} {o w : Nat} {rt : Option FieldType} {h h' : am_H} {i : Instr} (ei : am_ins co pc = some (i, w)) (hl : am_len i w = true) (e0 : am_pu none o i L st h = none) (e1 : am_lo i L st = none) (e2 : am_br i pc st = none) (e3 : am_hw o false i st h = none) (e4 : am_rt o i rt st = none) (e5 : am_iv call o i st h = none) (e6 : am_mk o i st h = none) (e : am_xt call o i st h = some (st', h')) : am_step call none o false rt co pc L st h = some (.inl (pc + w, L, st', h')) := by
  unfold am_step
  rw [ei]
  dsimp only
  rw [if_pos hl, e0]
  dsimp only
  rw [e1]
  dsimp only
  rw [e2]
  dsimp only
  rw [e3]
  dsimp only
  rw [e4]
  dsimp only
  rw [e5]
  dsimp only
  rw [e6]
  dsimp only
  rw [e]
theorem l_xt {N0 : Nat} (e : am_xt (fun m a h => am_run 20 N0 m a h) 13 (.invokestatic 39) st (am_hp I J R) = some (st', am_hp I' J' R')) (z : lz ys n 377 L st' I' J' R') : lz ys (n + 1) 374 L st I J R := by
  refine lz_of N0 (am_step_sc (st_xt (i := .invokestatic 39) (w := 3) rfl rfl rfl rfl rfl rfl rfl rfl rfl e)) z
def xtr (call : am_C) (q a : Nat) (x y : Int32) (h : am_H) : Option (List Value × am_H) := match call am_rope [.ref a, .int x, .int y] h with
  | some (some (.int v), h1) => match h1[q]? with
    | some (.inl (.long, .inr (.inl l))) => if 0 < l.length then some ([.int 0], h1.set q (.inl (.long, .inr (.inl (l.set 0 v.toInt64))))) else none
    | _ => none
  | some (some (.double e), h1) => if e = 1 then some ([.int 1], h1) else if e = 2 then some ([.int 2], h1) else none
  | _ => none
def xtq (call : am_C) (q a : Nat) (x y : Int32) (h : am_H) : Option (List Value × am_H) := if am_rm [] = true ∧ h.length = am_full then
    match h[a]? with
    | some (.inr (11, _)) => xtr call q a x y h
    | _ => none
  else none
theorem xt_39 (call : am_C) (q a : Nat) (x y : Int32) (h : am_H) : am_xt call 13 (.invokestatic 39) [.ref q, .int y, .int x, .ref a] h = xtq call q a x y h := rfl
theorem xt_go {N : Nat} {x y : Int32} {p : Option (List Value × am_H)} (e : xtr (fun m a h => am_run 20 N m a h) 155 0 x y (am_hp I J R) = p) : am_xt (fun m a h => am_run 20 N m a h) 13 (.invokestatic 39) [.ref 155, .int y, .int x, .ref 0] (am_hp I J R) = p := by
  rw [xt_39]
  unfold xtq
  rw [if_pos ⟨rfl, am_hp_len I J R⟩, am_hp_get sp0]
  exact e
theorem xtr_1 {call : am_C} {q a : Nat} {x y r : Int32} {h h1 : am_H} {l : List Int64} (e : call am_rope [.ref a, .int x, .int y] h = some (some (.int r), h1)) (e1 : h1[q]? = some (.inl (.long, .inr (.inl l)))) (e2 : 0 < l.length) : xtr call q a x y h = some ([.int 0], h1.set q (.inl (.long, .inr (.inl (l.set 0 r.toInt64))))) := by
  unfold xtr
  rw [e]
  dsimp only
  rw [e1]
  dsimp only
  rw [if_pos e2]
theorem xtr_2 {call : am_C} {q a : Nat} {x y : Int32} {h h1 : am_H} (e : call am_rope [.ref a, .int x, .int y] h = some (some (.double 1), h1)) : xtr call q a x y h = some ([.int 1], h1) := by
  unfold xtr
  rw [e]
  dsimp only
  rw [if_pos rfl]
theorem xtr_3 {call : am_C} {q a : Nat} {x y : Int32} {h h1 : am_H} (e : call am_rope [.ref a, .int x, .int y] h = some (some (.double 2), h1)) : xtr call q a x y h = some ([.int 2], h1) := by
  unfold xtr
  rw [e]
  dsimp only
  rw [if_neg (by decide), if_pos rfl]
theorem l_x1 {r : Int32} {x y : Int32} (c : ct 20 113 [.ref 0, .int x, .int y] I J R (some (.int r)) I J R) (z : lz ys n 377 L [.int 0] I (am_u J 155 0 r.toInt64) R) : lz ys (n + 1) 374 L [.ref 155, .int y, .int x, .ref 0] I J R := by
  obtain ⟨N, e⟩ := c
  refine l_xt (N0 := N) (xt_go ((xtr_1 e (am_hp_get sp155) ?_).trans ?_)) z
  · rw [List.length_map, List.length_range]; decide
  · rw [am_setL sp155]
theorem l_x2 {x y : Int32} (c : ct 20 113 [.ref 0, .int x, .int y] I J R (some (.double 1)) I J R) (z : lz ys n 377 L [.int 1] I J R) : lz ys (n + 1) 374 L [.ref 155, .int y, .int x, .ref 0] I J R := by
  obtain ⟨N, e⟩ := c
  exact l_xt (N0 := N) (xt_go (xtr_2 e)) z
theorem l_x3 {x y : Int32} (c : ct 20 113 [.ref 0, .int x, .int y] I J R (some (.double 2)) I J R) (z : lz ys n 377 L [.int 2] I J R) : lz ys (n + 1) 374 L [.ref 155, .int y, .int x, .ref 0] I J R := by
  obtain ⟨N, e⟩ := c
  exact l_xt (N0 := N) (xt_go (xtr_3 e)) z
end
/-- see -/
theorem lc_25 {ys : List Int32} {n j : Nat} {u v : Value} {I : hI} {J : hJ} {R : hR} (hy : ys.length ≤ 3072) (hj : j + 6 ≤ ys.length) (G : ∀ I J R u v, INV I J R → lz ys n 1413 (am_L0 (Int32.ofNat j) u v) [] I J R) (h : INV I J R) : lz ys (n + 80) 1062 (am_L0 (Int32.ofNat j) u v) [] I J R := by
  obtain ⟨w, I1, J1, R1, I2, J2, c1, c2, h2⟩ := op_see (ys.getD (j + 1) 0) (ys.getD (j + 2) 0) (l_bo (ys.getD (j + 3) 0)) (l_bo01 _) I J R h
  obtain ⟨x, rfl⟩ : ∃ x, w = .int x := by
    obtain ⟨i, st', e⟩ := ct_rt (q := am_m267) (o := 12) (rt := some .int) rfl rfl rfl c2
    exact rt_int (by decide) e
  refine l_pu (pc' := 1063) rfl rfl rfl rfl ?_
  refine l_ld (c := 1) (p6 := 1069) rfl rfl rfl rfl rfl rfl hy (by omega) ?_
  refine l_ld (c := 2) (p6 := 1075) rfl rfl rfl rfl rfl rfl hy (by omega) ?_
  refine l_ld (c := 3) (p6 := 1081) rfl rfl rfl rfl rfl rfl hy (by omega) ?_
  refine l_nz (p3 := 1084) (p4 := 1085) (p7 := 1088) (p8 := 1089) rfl rfl rfl rfl rfl rfl rfl rfl rfl ?_
  refine l_cv (pc' := 1092) (q := am_m147) (as := [_, _, _]) (rest := []) (st' := [_]) rfl rfl rfl rfl rfl rfl sp0 rfl rfl rfl rfl c1 rfl rfl ?_
  refine l_pu (pc' := 1093) rfl rfl rfl rfl ?_
  refine l_ld (c := 1) (p6 := 1099) rfl rfl rfl rfl rfl rfl hy (by omega) ?_
  refine l_ld (c := 2) (p6 := 1105) rfl rfl rfl rfl rfl rfl hy (by omega) ?_
  refine l_ld (c := 3) (p6 := 1111) rfl rfl rfl rfl rfl rfl hy (by omega) ?_
  refine l_nz (p3 := 1114) (p4 := 1115) (p7 := 1118) (p8 := 1119) rfl rfl rfl rfl rfl rfl rfl rfl rfl ?_
  refine l_cv (pc' := 1122) (q := am_m267) (as := [_, _, _]) (rest := [_]) (st' := [_, _]) rfl rfl rfl rfl rfl rfl sp110 rfl rfl rfl rfl c2 rfl rfl ?_
  exact l_eq (t := 1413) rfl rfl (lz_le (G I2 J2 R1 u v h2) (by omega))
/-- behind the law's own rope: the reference's answers are held against what it came to -/
theorem lc_4t {ys : List Int32} {n j : Nat} {u v : Value} {I I2 : hI} {J : hJ} {R : hR} (hy : ys.length ≤ 3072) (hj : j + 6 ≤ ys.length) (G : ∀ I J R u v, INV I J R → lz ys n 1413 (am_L0 (Int32.ofNat j) u v) [] I J R) {e z : Int32} (c : ct 20 237 [.ref 110, .int (ys.getD (j + 1) 0), .int (ys.getD (j + 2) 0)] I J R (some (.int z)) I2 J R) (e2 : I2 110 2 = e) (hz : e = 0 → J 155 0 = z.toInt64) (h : INV I2 J R) : lz ys (n + 40) 377 (am_L0 (Int32.ofNat j) u v) [.int e] I J R := by
  have c3 : ct 20 166 [.ref 110] I2 J R (some (.int e)) I2 J R := by
    have := c_thrown (k := 20) (I := I2) (J := J) (R := R) (by omega)
    rw [e2] at this
    exact this
  refine l_lo (pc' := 379) (L' := am_L0 (Int32.ofNat j) (.int e) v) (st' := []) rfl rfl rfl rfl rfl ?_
  refine l_pu (pc' := 380) rfl rfl rfl rfl ?_
  refine l_ld (c := 1) (p6 := 386) rfl rfl rfl rfl rfl rfl hy (by omega) ?_
  refine l_ld (c := 2) (p6 := 392) rfl rfl rfl rfl rfl rfl hy (by omega) ?_
  refine l_cv (pc' := 395) (q := am_m237) (as := [_, _]) (rest := []) (st' := [_]) rfl rfl rfl rfl rfl rfl sp110 rfl rfl rfl rfl c rfl rfl ?_
  refine l_lo (pc' := 397) (L' := am_L0 (Int32.ofNat j) (.int e) (.int z)) (st' := []) rfl rfl rfl rfl rfl ?_
  refine l_pu (pc' := 398) rfl rfl rfl rfl ?_
  refine l_cv (pc' := 401) (q := am_m166) (as := []) (rest := []) (st' := [_]) rfl rfl rfl rfl rfl rfl sp110 rfl rfl rfl rfl c3 rfl rfl ?_
  refine l_pu (pc' := 403) rfl rfl rfl rfl ?_
  refine l_eq (t := 408) rfl rfl ?_
  refine l_pu (pc' := 410) rfl rfl rfl rfl ?_
  have z9 : ∀ m, n ≤ m → lz ys (m + 1) 425 (am_L0 (Int32.ofNat j) (.int e) (.int z)) [] I2 J R := fun m hm => l_goto (t := 1413) rfl rfl (lz_le (G I2 J R _ _ h) hm)
  refine l_ifn (t := 425) (f := 413) rfl rfl rfl (fun _ => lz_le (z9 n (Nat.le_refl n)) (by omega)) (fun e0 => ?_)
  refine l_pu (pc' := 414) rfl rfl rfl rfl ?_
  refine l_pu (pc' := 415) rfl rfl rfl rfl ?_
  refine l_pu (pc' := 416) (st' := [.long (z.toInt64)]) rfl rfl rfl ?_ ?_
  · show am_lal [.int 0, .ref 155] (am_hp I2 J R) = _
    unfold am_lal
    dsimp only
    rw [am_hp_get sp155, ← hz e0]
    rfl
  refine l_pu (pc' := 418) rfl rfl rfl rfl ?_
  refine l_pu (pc' := 419) rfl rfl rfl rfl ?_
  refine l_lcmp (pc' := 420) rfl rfl ?_
  exact l_ez (t := 425) rfl rfl (lz_le (z9 n (Nat.le_refl n)) (by omega))
theorem INV_2 {I : hI} {J : hJ} {R : hR} {x : Int32} (h : INV I J R) : INV (am_u I 110 2 x) J R := by
  obtain ⟨T, O, N, u, q, h, r0, r2⟩ := h
  refine ⟨T, O, N, u, q, REL_cc (REL_t h (fun _ _ _ => rfl) (tM_u (x := x) (a := 110) (k := 2) (by omega)) rfl rfl rfl rfl) (fun a i g => am_u_na (by omega)) (fun _ _ _ => rfl) rfl rfl rfl rfl, r0, r2⟩
theorem INV_J {I : hI} {J : hJ} {R : hR} {x : Int64} (h : INV I J R) : INV I (am_u J 155 0 x) R := by
  obtain ⟨T, O, N, u, q, h, r0, r2⟩ := h
  exact ⟨T, O, N, u, q, REL_cc h (fun _ _ _ => rfl) (fun _ _ _ => rfl) (am_u_na (by decide)) (am_u_na (by decide)) (am_u_na (by decide)) (am_u_na (by decide)), r0, r2⟩
