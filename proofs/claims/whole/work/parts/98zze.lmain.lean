/-! The law's loop, whole: every script runs to its end and answers true. -/
def lwT : List Nat := [200, 273, 298, 323, 360, 428, 465, 502, 540, 577, 602, 627, 664, 689, 738, 763, 788, 813, 850, 875, 900, 925, 938, 975, 1024, 1062, 1127, 1152, 1177, 1202, 1251, 1300, 1349, 1362, 1375, 1388]
def lwO : Array Int := #[160, 233, 258, 283, 320, 388, 425, 462, 500, 537, 562, 587, 624, 649, 698, 723, 748, 773, 810, 835, 860, 885, 898, 935, 984, 1022, 1087, 1112, 1137, 1162, 1211, 1260, 1309, 1322, 1335, 1348]
theorem lw_t : ∀ m, m < 36 → am_tsw lwO 40 m = some (lwT.getD m 0) := by decide +kernel
theorem l_ts {ys : List Int32} {n : Nat} {L : List Value} {I : hI} {J : hJ} {R : hR} {x : Int32} (zd : lz ys n 1413 L [] I J R) (zc : ∀ m, m < 36 → lz ys n (lwT.getD m 0) L [] I J R) : lz ys (n + 1) 40 L [.int x] I J R := by
  have ei : am_ins am_c288 40 = some (.tableswitch 1373 0 35 lwO, 160) := rfl
  by_cases hc : x.toInt < (0 : Int) ∨ (35 : Int) < x.toInt
  · refine l_br (st' := []) ei rfl rfl rfl ?_ zd
    show am_sw 0 35 1373 lwO 40 [.int x] = _
    unfold am_sw
    dsimp only
    rw [if_pos hc]; rfl
  · have hm : x.toInt.toNat < 36 := by omega
    refine l_br (st' := []) ei rfl rfl rfl ?_ (zc _ hm)
    show am_sw 0 35 1373 lwO 40 [.int x] = _
    unfold am_sw
    dsimp only
    have e3 : (x.toInt - 0).toNat = x.toInt.toNat := by omega
    have e1 := lw_t _ hm
    rw [if_neg hc, e3]
    unfold am_tsw at e1
    cases e4 : lwO[x.toInt.toNat]? with
    | none => rw [e4] at e1; cases e1
    | some off =>
      rw [e4] at e1
      dsimp only
      rw [show am_tg 40 off = some (lwT.getD x.toInt.toNat 0) from e1]
      rfl
theorem l_head {ys : List Int32} {n j : Nat} {u v : Value} {I : hI} {J : hJ} {R : hR} (hy : ys.length ≤ 3072) (hj : j + 6 ≤ ys.length) (zd : lz ys n 1413 (am_L0 (Int32.ofNat j) u v) [] I J R) (zc : ∀ m, m < 36 → lz ys n (lwT.getD m 0) (am_L0 (Int32.ofNat j) u v) [] I J R) : lz ys (n + 12) 23 (am_L0 (Int32.ofNat j) u v) [] I J R := by
  have hs : Int32.ofNat ys.length - (Int8.ofInt 6).toInt32 = Int32.ofNat (ys.length - 6) := by
    rw [show (Int8.ofInt 6).toInt32 = Int32.ofNat 6 by decide]
    have e : ys.length = (ys.length - 6) + 6 := by omega
    conv => lhs; rw [e, Int32.ofNat_add]
    rw [Int32.add_sub_cancel]
  refine l_pu (pc' := 25) rfl rfl rfl rfl ?_
  refine l_pu (pc' := 26) rfl rfl rfl rfl ?_
  refine l_pus (pc' := 27) (st' := [.int (Int32.ofNat ys.length), .int (Int32.ofNat j)]) rfl rfl rfl rfl ?_
  refine l_pu (pc' := 29) rfl rfl rfl rfl ?_
  refine l_pu (pc' := 30) (st' := [.int (Int32.ofNat (ys.length - 6)), .int (Int32.ofNat j)]) rfl rfl rfl ?_ ?_
  · show some [Value.int (Int32.ofNat ys.length - (Int8.ofInt 6).toInt32), .int (Int32.ofNat j)] = _
    rw [hs]
  refine l_br (pc' := 33) (st' := []) (i := .if_icmp .gt 1389) (w := 3) rfl rfl rfl rfl ?_ ?_
  · show am_b2 (fun x y => decide (y < x)) 30 1389 [.int (Int32.ofNat (ys.length - 6)), .int (Int32.ofNat j)] = _
    rw [am_b2_ok (t := 1419) rfl, if_neg]
    intro z
    have z1 : Int32.ofNat (ys.length - 6) < Int32.ofNat j := of_decide_eq_true z
    rw [am_ltN (by omega) (by omega)] at z1
    omega
  refine l_pu (pc' := 34) rfl rfl rfl rfl ?_
  refine l_pu (pc' := 36) rfl rfl rfl rfl ?_
  refine l_pus (pc' := 37) (st' := [.int (ys.getD j 0)]) rfl rfl rfl ?_ ?_
  · show (if FieldType.int = .int ∧ ¬ (Int32.ofNat j < 0 ∨ ys.length ≤ (Int32.ofNat j).toNatClampNeg) then some [Value.int (ys.getD (Int32.ofNat j).toNatClampNeg 0)] else none) = _
    have n0 : ¬ Int32.ofNat j < 0 := by
      show ¬ Int32.ofNat j < Int32.ofNat 0
      rw [am_ltN (by omega) (by omega)]; omega
    rw [show (Int32.ofNat j).toNatClampNeg = j from nn_ofNat (by omega), if_pos ⟨rfl, fun g => g.elim n0 (by omega)⟩]
  refine l_pu (pc' := 39) rfl rfl rfl rfl ?_
  refine l_pu (pc' := 40) rfl rfl rfl rfl ?_
  exact l_ts zd zc
theorem lc_all {ys : List Int32} {n j : Nat} {u v : Value} {I : hI} {J : hJ} {R : hR} (hy : ys.length ≤ 3072) (hj : j + 6 ≤ ys.length) (G : ∀ I J R u v, INV I J R → lz ys n 1413 (am_L0 (Int32.ofNat j) u v) [] I J R) (h : INV I J R) : ∀ m, m < 36 → lz ys (n + 80) (lwT.getD m 0) (am_L0 (Int32.ofNat j) u v) [] I J R
  | 0, _ => lc_0 hy hj G h
  | 1, _ => lc_1 hy hj G h
  | 2, _ => lc_2 hy hj G h
  | 3, _ => lc_3 hy hj G h
  | 4, _ => lc_4 hy hj G h
  | 5, _ => lc_5 hy hj G h
  | 6, _ => lc_6 hy hj G h
  | 7, _ => lc_7 hy hj G h
  | 8, _ => lc_8 hy hj G h
  | 9, _ => lc_9 hy hj G h
  | 10, _ => lc_10 hy hj G h
  | 11, _ => lc_11 hy hj G h
  | 12, _ => lc_12 hy hj G h
  | 13, _ => lc_13 hy hj G h
  | 14, _ => lc_14 hy hj G h
  | 15, _ => lc_15 hy hj G h
  | 16, _ => lc_16 hy hj G h
  | 17, _ => lc_17 hy hj G h
  | 18, _ => lc_18 hy hj G h
  | 19, _ => lc_19 hy hj G h
  | 20, _ => lc_20 hy hj G h
  | 21, _ => lc_21 hy hj G h
  | 22, _ => lc_22 hy hj G h
  | 23, _ => lc_23 hy hj G h
  | 24, _ => lc_24 hy hj G h
  | 25, _ => lc_25 hy hj G h
  | 26, _ => lc_26 hy hj G h
  | 27, _ => lc_27 hy hj G h
  | 28, _ => lc_28 hy hj G h
  | 29, _ => lc_29 hy hj G h
  | 30, _ => lc_30 hy hj G h
  | 31, _ => lc_31 hy hj G h
  | 32, _ => lc_32 hy hj G h
  | 33, _ => lc_33 hy hj G h
  | 34, _ => lc_34 hy hj G h
  | 35, _ => lc_35 hy hj G h
  | m + 36, hm => absurd hm (by omega)
theorem l_main {ys : List Int32} (hy : ys.length ≤ 3072) : ∀ (m j : Nat) (u v : Value) (I : hI) (J : hJ) (R : hR), INV I J R → j + 6 * m ≤ ys.length → ys.length < j + 6 * m + 6 → lz ys (100 * m + 8) 23 (am_L0 (Int32.ofNat j) u v) [] I J R := by
  intro m
  induction m with
  | zero =>
    intro j u v I J R h h1 h2
    refine ⟨0, I, J, R, am_exit _ ys (Int32.ofNat j) u v (am_hp I J R) ?_⟩
    rw [show (Int8.ofInt 6).toInt32 = Int32.ofNat 6 by decide]
    by_cases c : 6 ≤ ys.length
    · have e : ys.length = (ys.length - 6) + 6 := by omega
      have hs : Int32.ofNat ys.length - Int32.ofNat 6 = Int32.ofNat (ys.length - 6) := by
        conv => lhs; rw [e, Int32.ofNat_add]
        rw [Int32.add_sub_cancel]
      rw [hs, am_ltN (by omega) (by omega)]
      omega
    · have z0 : ¬ Int32.ofNat j < 0 := by
        show ¬ Int32.ofNat j < Int32.ofNat 0
        rw [am_ltN (by omega) (by omega)]; omega
      refine Int32.lt_of_lt_of_le ?_ (Int32.not_lt.mp z0)
      have : ys.length = 0 ∨ ys.length = 1 ∨ ys.length = 2 ∨ ys.length = 3 ∨ ys.length = 4 ∨ ys.length = 5 := by omega
      rcases this with z | z | z | z | z | z <;> (rw [z]; decide)
  | succ m ih =>
    intro j u v I J R h h1 h2
    have G : ∀ I J R u v, INV I J R → lz ys (100 * m + 8 + 2) 1413 (am_L0 (Int32.ofNat j) u v) [] I J R := fun I J R u v g => by
      refine l_lo (pc' := 1416) (L' := am_L0 (Int32.ofNat (j + 6)) u v) (st' := []) (i := .iinc 4 6) (w := 3) rfl rfl rfl rfl ?_ (l_goto (t := 23) rfl rfl (ih (j + 6) u v I J R g (by omega) (by omega)))
      rw [Int32.ofNat_add]
      rfl
    refine lz_le (l_head (n := 100 * m + 8 + 2 + 80) hy (by omega) (lz_le (G I J R u v h) (by omega)) (lc_all hy (by omega) G h)) (by omega)
theorem l_goal (ys : List Int32) (hy : ys.length ≤ 3072) : am_goal ys := by
  obtain ⟨N, I', J', R', e⟩ := l_main hy (ys.length / 6) 0 am_un am_un sgI sgJ sgR INV_0 (by omega) (by omega)
  rw [← sg_ok] at e
  have e' : am_loop (fun mn a h => am_run (18 + 2) (N + 8000) mn a h) (some ys) 13 false (some .boolean) am_c288 (100 * (ys.length / 6) + 8) 23 (am_L0 0 am_un am_un) [] am_h0 = some (some (.int 1), am_hp I' J' R') := am_loop_mono (fun mn a h r z => am_run_mono 20 20 N (N + 8000) mn a h r (Nat.le_refl _) (Nat.le_add_right _ _) z) _ _ _ _ _ _ _ (Nat.le_refl _) e
  have hl : (am_hp I' J' R').length = am_full := am_hp_len I' J' R'
  have gw := am_loop_gw (fun mn a h v h1 z => am_run_gw _ _ mn a h v h1 z) _ _ _ _ _ _ _ e'
  have es := (am_eqs (am_gw_eq gw (hl.trans am_i0_eq.2.1.symm))).2.trans am_i0_eq.2.2
  refine ⟨18, N + 8000, 100 * (ys.length / 6) + 8, am_hp I' J' R', by decide, by decide, by omega, e', hl, ?_, ?_⟩
  · rw [hl]; unfold am_full; omega
  · rw [es]; omega
