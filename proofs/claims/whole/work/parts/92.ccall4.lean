/-! The class: calls (four): chance, loses, homes, weakest. -/
theorem am_uR {R : hR} {T : Nat} (h : R 84 3 = T) : am_u R 84 3 T = R := by
  have e := am_u_self R 84 3
  rw [h] at e
  exact e
theorem d_startTrialR {k : Nat} {I : hI} {J : hJ} {R : hR} {T : Nat} (hT : T = 9 ∨ T = 36) (h0 : R 0 3 = T) (hR : R 84 3 = T) {x b : Int32} (hk : 2 ≤ k) : ct k 124 [.ref 0, .int x, .int b] I J R none (k_stt I T x b) (am_u J 77 1 (J 63 1)) R := by
  have d := d_startTrial (k := k) (I := I) (J := J) (x := x) (b := b) hT h0 hk
  rw [am_uR hR] at d
  exact d
theorem l_ch0 {k : Nat} {R : hR} {T n s : Nat} {N : Nat → Nat} {x : Int32} {q : Option Value × am_H} (hT : T = 9 ∨ T = 36) (h0 : R 0 3 = T) (hR : R 84 3 = T) (hn : n ≤ 99) (hs : s < 5) {p0 : Int32 × Int64 × hI × hJ} (t0 : ctk p0.2.2.1 T N) (hk : 8 ≤ k) (Z : wz k 11 (some .int) am_c153 100 [.ref 0, .int x, .int (Int32.ofNat n), .int (Int32.ofNat s), .long (k_chL T N n s 10 p0).2.1, am_un, .int (k_chL T N n s 10 p0).1, .int (Int32.ofNat 10)] [] (k_chL T N n s 10 p0).2.2.1 (k_chL T N n s 10 p0).2.2.2 R q) : ∀ (j r : Nat), r + j = 10 → wz k 11 (some .int) am_c153 35 [.ref 0, .int x, .int (Int32.ofNat n), .int (Int32.ofNat s), .long (k_chL T N n s r p0).2.1, am_un, .int (k_chL T N n s r p0).1, .int (Int32.ofNat r)] [] (k_chL T N n s r p0).2.2.1 (k_chL T N n s r p0).2.2.2 R q := by
  intro j
  induction j with
  | zero =>
    intro r e
    obtain rfl : 10 = r := by omega
    refine w_iload rfl rfl rfl ?_
    refine w_bipush (x := Int32.ofNat 10) rfl rfl (by decide) ?_
    refine w_ic_geN (t := 100) (f := 42) rfl rfl rfl (by omega) (by omega) (fun c39 => ?_) (fun c39 => absurd c39 (by omega))
    exact Z
  | succ j ih =>
    intro r e
    have t := k_chL_t (n := n) (s := s) hT t0 r
    have ih1 := ih (r + 1) (by omega)
    rw [k_chL_s] at ih1
    revert t ih1
    generalize k_chL T N n s r p0 = p
    intro t ih1
    refine w_iload rfl rfl rfl ?_
    refine w_bipush (x := Int32.ofNat 10) rfl rfl (by decide) ?_
    refine w_ic_geN (t := 100) (f := 42) rfl rfl rfl (by omega) (by omega) (fun c39 => absurd c39 (by omega)) (fun c39 => ?_)
    refine w_aload_n rfl rfl rfl ?_
    refine w_iload_n rfl rfl rfl ?_
    refine w_iconst (x := Int32.ofNat 0) rfl rfl (by decide) ?_
    refine w_cv (q := am_m124) (as := [_, _]) (rest := []) (st' := []) rfl rfl rfl rfl rfl rfl sp0 rfl rfl rfl rfl (d_startTrialR hT h0 hR (by omega)) rfl rfl ?_
    refine w_aload_n rfl rfl rfl ?_
    refine w_gf (t := .ref (77)) (v := .ref (77)) rfl rfl rfl sp0 rfl rfl rfl ?_
    refine w_lload rfl rfl rfl ?_
    refine w_pfL rfl rfl rfl sp77 rfl rfl rfl ?_
    refine w_aload_n rfl rfl rfl ?_
    refine w_gf (t := .ref (84)) (v := .ref (84)) rfl rfl rfl sp0 rfl rfl rfl ?_
    refine w_aload_n rfl rfl rfl ?_
    refine w_gf (t := .ref (77)) (v := .ref (77)) rfl rfl rfl sp0 rfl rfl rfl ?_
    refine w_iload_n rfl rfl rfl ?_
    refine w_cv (q := am_m14) (as := [_, _]) (rest := []) (st' := []) rfl rfl rfl rfl rfl rfl sp84 rfl rfl rfl rfl (d_passMany hT hR (Or.inr (Or.inr rfl)) (ctk_F hT cF_stt t) (by omega) (by omega)) rfl rfl ?_
    refine w_aload_n rfl rfl rfl ?_
    refine w_gf (t := .ref (77)) (v := .ref (77)) rfl rfl rfl sp0 rfl rfl rfl ?_
    refine w_gf (t := .long 0) (v := .long _) rfl rfl rfl sp77 rfl (congrArg Value.long rfl) rfl ?_
    refine w_lstore (L' := [_, _, _, _, _, _, _, _]) rfl rfl rfl ?_
    refine w_aload_n rfl rfl rfl ?_
    refine w_gf (t := .ref (77)) (v := .ref (77)) rfl rfl rfl sp0 rfl rfl rfl ?_
    refine w_gf (t := .ref (81)) (v := .ref (81)) rfl rfl rfl sp77 rfl rfl rfl ?_
    refine w_iload_n rfl rfl rfl ?_
    refine w_iaload rfl rfl sp81 rfl ⟨by omega, by omega⟩ rfl ?_
    refine w_iconst (x := Int32.ofNat 2) rfl rfl (by decide) ?_
    refine w_ic_ne (t := 94) (f := 91) rfl rfl rfl (fun c88 => ?_) (fun c88 => ?_)
    · refine w_iinc (L' := [_, _, _, _, _, _, _, _]) rfl rfl rfl (am_incN 1) rfl ?_
      refine w_goto (pc' := 35) rfl rfl ?_
      unfold k_chS at ih1
      dsimp only at ih1
      first
        | (rw [if_pos c88] at ih1; exact ih1)
        | (rw [if_neg c88] at ih1; exact ih1)
    · refine w_iinc (L' := [_, _, _, _, _, _, _, _]) rfl rfl rfl rfl rfl ?_
      refine w_iinc (L' := [_, _, _, _, _, _, _, _]) rfl rfl rfl (am_incN 1) rfl ?_
      refine w_goto (pc' := 35) rfl rfl ?_
      unfold k_chS at ih1
      dsimp only at ih1
      first
        | (rw [if_pos c88] at ih1; exact ih1)
        | (rw [if_neg c88] at ih1; exact ih1)
theorem l_chE {k : Nat} {I : hI} {J : hJ} {R : hR} {T n s : Nat} {N : Nat → Nat} {x y : Int32} (hT : T = 9 ∨ T = 36) (h0 : R 0 3 = T) (hn : n ≤ 99) (hs : s < 5) (t : ctk I T N) (hk : 8 ≤ k) (hy : (if (k_days T 77 N n (k_stt I T (Int32.ofNat s) (Int32.ofNat 0), am_u (am_u J 77 1 (J 63 1)) 77 1 x.toInt64)).1 81 s = Int32.ofNat 2 then Int32.ofNat 0 + Int32.ofInt 1 else Int32.ofNat 0) = y) : wz k 11 (some .int) am_c153 35 [.ref 0, .int x, .int (Int32.ofNat n), .int (Int32.ofNat s), .long ((k_days T 77 N n (k_stt I T (Int32.ofNat s) (Int32.ofNat 0), am_u (am_u J 77 1 (J 63 1)) 77 1 x.toInt64)).2 77 1), am_un, .int y, .int (Int32.ofNat 1)] [] (k_days T 77 N n (k_stt I T (Int32.ofNat s) (Int32.ofNat 0), am_u (am_u J 77 1 (J 63 1)) 77 1 x.toInt64)).1 (k_days T 77 N n (k_stt I T (Int32.ofNat s) (Int32.ofNat 0), am_u (am_u J 77 1 (J 63 1)) 77 1 x.toInt64)).2 (am_u R 84 3 T) (some (.int (k_chL T N n s 10 (Int32.ofNat 0, x.toInt64, I, J)).1), am_hp (k_chL T N n s 10 (Int32.ofNat 0, x.toInt64, I, J)).2.2.1 (k_chL T N n s 10 (Int32.ofNat 0, x.toInt64, I, J)).2.2.2 (am_u R 84 3 T)) := by
  subst hy
  refine l_ch0 (p0 := (Int32.ofNat 0, x.toInt64, I, J)) hT ((am_u_na (by decide)).trans h0) am_u_at hn hs t hk ?_ 9 1 (by omega)
  refine w_iload rfl rfl rfl ?_
  exact w_iret rfl rfl rfl rfl rfl
theorem d_chance {k : Nat} {I : hI} {J : hJ} {R : hR} {T : Nat} (hT : T = 9 ∨ T = 36) (h0 : R 0 3 = T) {N : Nat → Nat} (t : ctk I T N) {x : Int32} {n : Nat} (hx : ¬ x < 0) (h1 : 1 ≤ n) (h2 : n ≤ 99) {s : Nat} (hs : s < N 2) (hk : 9 ≤ k) : ct k 153 [.ref 0, .int x, .int (Int32.ofNat n), .int (Int32.ofNat s)] I J R (some (.int (k_chL T N n s 10 (Int32.ofNat 0, x.toInt64, I, J)).1)) ((k_chL T N n s 10 (Int32.ofNat 0, x.toInt64, I, J)).2.2.1) ((k_chL T N n s 10 (Int32.ofNat 0, x.toInt64, I, J)).2.2.2) (am_u R 84 3 T) := by
  obtain ⟨k, rfl⟩ : ∃ k', k = k' + 1 := ⟨k - 1, by omega⟩
  obtain ⟨⟨l1, l2, l3⟩, ⟨e5, e11, e3⟩, rM, tH, sM, ⟨e18, l18⟩, ⟨e21, l21⟩, ⟨e24, l24⟩⟩ := id t
  refine ct_of (q := am_m153) (o := 11) (rt := (some .int)) (co := am_c153) (L := [_, _, _, _, _, _, _, _]) rfl rfl rfl rfl rfl rfl ?_
  refine w_iload_n rfl rfl rfl ?_
  refine w_if_lt (t := 23) (f := 4) rfl rfl rfl (fun c1 => absurd c1 hx) (fun c1 => ?_)
  refine w_iload_n rfl rfl rfl ?_
  refine w_iconst (x := Int32.ofNat 1) rfl rfl (by decide) ?_
  refine w_ic_ltN (t := 23) (f := 9) rfl rfl rfl (by omega) (by omega) (fun c6 => absurd c6 (by omega)) (fun c6 => ?_)
  refine w_iload_n rfl rfl rfl ?_
  refine w_bipush (x := Int32.ofNat 99) rfl rfl (by decide) ?_
  refine w_ic_gtN (t := 23) (f := 15) rfl rfl rfl (by omega) (by omega) (fun c12 => absurd c12 (by omega)) (fun c12 => ?_)
  refine w_aload_n rfl rfl rfl ?_
  refine w_iload_n rfl rfl rfl ?_
  refine w_cv (q := am_m162) (as := [_]) (rest := []) (st' := [_]) rfl rfl rfl rfl rfl rfl sp0 rfl rfl rfl rfl (d_isShip hT h0 (by omega)) rfl rfl ?_
  refine w_if_neB (t := 25) (f := 23) rfl rfl rfl (fun c20 => ?_) (fun c20 => absurd c20 (k_isok hs (by omega) e11))
  refine w_iload_n rfl rfl rfl ?_
  refine w_i2l rfl rfl ?_
  refine w_lstore (L' := [_, _, _, _, _, _, _, _]) rfl rfl rfl ?_
  refine w_iconst (x := Int32.ofNat 0) rfl rfl (by decide) ?_
  refine w_istore (L' := [_, _, _, _, _, _, _, _]) rfl rfl rfl ?_
  refine w_iconst (x := Int32.ofNat 0) rfl rfl (by decide) ?_
  refine w_istore (L' := [_, _, _, _, _, _, _, _]) rfl rfl rfl ?_
  skip
  refine w_iload rfl rfl rfl ?_
  refine w_bipush (x := Int32.ofNat 10) rfl rfl (by decide) ?_
  refine w_ic_geN (t := 100) (f := 42) rfl rfl rfl (by omega) (by omega) (fun c39 => absurd c39 (by omega)) (fun c39 => ?_)
  refine w_aload_n rfl rfl rfl ?_
  refine w_iload_n rfl rfl rfl ?_
  refine w_iconst (x := Int32.ofNat 0) rfl rfl (by decide) ?_
  refine w_cv (q := am_m124) (as := [_, _]) (rest := []) (st' := []) rfl rfl rfl rfl rfl rfl sp0 rfl rfl rfl rfl (d_startTrial hT h0 (by omega)) rfl rfl ?_
  refine w_aload_n rfl rfl rfl ?_
  refine w_gf (t := .ref (77)) (v := .ref (77)) rfl rfl rfl sp0 rfl rfl rfl ?_
  refine w_lload rfl rfl rfl ?_
  refine w_pfL rfl rfl rfl sp77 rfl rfl rfl ?_
  refine w_aload_n rfl rfl rfl ?_
  refine w_gf (t := .ref (84)) (v := .ref (84)) rfl rfl rfl sp0 rfl rfl rfl ?_
  refine w_aload_n rfl rfl rfl ?_
  refine w_gf (t := .ref (77)) (v := .ref (77)) rfl rfl rfl sp0 rfl rfl rfl ?_
  refine w_iload_n rfl rfl rfl ?_
  refine w_cv (q := am_m14) (as := [_, _]) (rest := []) (st' := []) rfl rfl rfl rfl rfl rfl sp84 rfl rfl rfl rfl (d_passMany hT am_u_at (Or.inr (Or.inr rfl)) (ctk_F hT cF_stt t) (by omega) (by omega)) rfl rfl ?_
  refine w_aload_n rfl rfl rfl ?_
  refine w_gf (t := .ref (77)) (v := .ref (77)) rfl rfl rfl sp0 rfl rfl rfl ?_
  refine w_gf (t := .long 0) (v := .long _) rfl rfl rfl sp77 rfl (congrArg Value.long rfl) rfl ?_
  refine w_lstore (L' := [_, _, _, _, _, _, _, _]) rfl rfl rfl ?_
  refine w_aload_n rfl rfl rfl ?_
  refine w_gf (t := .ref (77)) (v := .ref (77)) rfl rfl rfl sp0 rfl rfl rfl ?_
  refine w_gf (t := .ref (81)) (v := .ref (81)) rfl rfl rfl sp77 rfl rfl rfl ?_
  refine w_iload_n rfl rfl rfl ?_
  refine w_iaload rfl rfl sp81 rfl ⟨by omega, by omega⟩ rfl ?_
  refine w_iconst (x := Int32.ofNat 2) rfl rfl (by decide) ?_
  refine w_ic_ne (t := 94) (f := 91) rfl rfl rfl (fun c88 => ?_) (fun c88 => ?_)
  · refine w_iinc (L' := [_, _, _, _, _, _, _, _]) rfl rfl rfl (am_incN 1) rfl ?_
    refine w_goto (pc' := 35) rfl rfl ?_
    exact l_chE hT h0 h2 (by omega) t (by omega) (by first | exact if_pos c88 | exact if_neg c88)
  · refine w_iinc (L' := [_, _, _, _, _, _, _, _]) rfl rfl rfl (am_incN 1) rfl ?_
    refine w_iinc (L' := [_, _, _, _, _, _, _, _]) rfl rfl rfl (am_incN 1) rfl ?_
    refine w_goto (pc' := 35) rfl rfl ?_
    exact l_chE hT h0 h2 (by omega) t (by omega) (by first | exact if_pos c88 | exact if_neg c88)
theorem d_chance_no {k : Nat} {I : hI} {J : hJ} {R : hR} {T : Nat} (hT : T = 9 ∨ T = 36) (h0 : R 0 3 = T) {x y z : Int32} (hx : ¬ (¬ x < 0 ∧ (¬ y < Int32.ofNat 1 ∧ ¬ Int32.ofNat 99 < y) ∧ (¬ z < 0 ∧ z < I (T + 11) 1))) (hk : 2 ≤ k) : ct k 153 [.ref 0, .int x, .int y, .int z] I J R (some (.int (Int32.ofInt (-1)))) I J R := by
  obtain ⟨k, rfl⟩ : ∃ k', k = k' + 1 := ⟨k - 1, by omega⟩
  refine ct_of (q := am_m153) (o := 11) (rt := (some .int)) (co := am_c153) (L := [_, _, _, _, _, _, _, _]) rfl rfl rfl rfl rfl rfl ?_
  refine w_iload_n rfl rfl rfl ?_
  refine w_if_lt (t := 23) (f := 4) rfl rfl rfl (fun c1 => ?_) (fun c1 => ?_)
  · refine w_iconst (x := Int32.ofInt (-1)) rfl rfl (by decide) ?_
    exact w_iret rfl rfl rfl rfl rfl
  · refine w_iload_n rfl rfl rfl ?_
    refine w_iconst (x := Int32.ofNat 1) rfl rfl (by decide) ?_
    refine w_ic_lt (t := 23) (f := 9) rfl rfl rfl (fun c6 => ?_) (fun c6 => ?_)
    · refine w_iconst (x := Int32.ofInt (-1)) rfl rfl (by decide) ?_
      exact w_iret rfl rfl rfl rfl rfl
    · refine w_iload_n rfl rfl rfl ?_
      refine w_bipush (x := Int32.ofNat 99) rfl rfl (by decide) ?_
      refine w_ic_gt (t := 23) (f := 15) rfl rfl rfl (fun c12 => ?_) (fun c12 => ?_)
      · refine w_iconst (x := Int32.ofInt (-1)) rfl rfl (by decide) ?_
        exact w_iret rfl rfl rfl rfl rfl
      · refine w_aload_n rfl rfl rfl ?_
        refine w_iload_n rfl rfl rfl ?_
        refine w_cv (q := am_m162) (as := [_]) (rest := []) (st' := [_]) rfl rfl rfl rfl rfl rfl sp0 rfl rfl rfl rfl (d_isShip hT h0 (by omega)) rfl rfl ?_
        refine w_if_neB (t := 25) (f := 23) rfl rfl rfl (fun c20 => ?_) (fun c20 => ?_)
        · exact (hx ⟨c1, ⟨c6, c12⟩, c20⟩).elim
        · refine w_iconst (x := Int32.ofInt (-1)) rfl rfl (by decide) ?_
          exact w_iret rfl rfl rfl rfl rfl
def k_los (T : Nat) (N : Nat → Nat) (s : Nat) : Nat → Nat → hI × hJ → Int32 × hI × hJ
  | 0, _, p => (Int32.ofInt (-2), p)
  | j + 1, i, p => if k_cs p.1 T 77 (N 2) 0 = 0 then (Int32.ofInt (-2), p) else if (k_day T 77 N p).1 81 s = Int32.ofNat 2 then (Int32.ofNat i, k_day T 77 N p) else k_los T N s j (i + 1) (k_day T 77 N p)
theorem k_los_s (T : Nat) (N : Nat → Nat) (s j i : Nat) (p : hI × hJ) : k_los T N s (j + 1) i p = if k_cs p.1 T 77 (N 2) 0 = 0 then (Int32.ofInt (-2), p) else if (k_day T 77 N p).1 81 s = Int32.ofNat 2 then (Int32.ofNat i, k_day T 77 N p) else k_los T N s j (i + 1) (k_day T 77 N p) := rfl
def k_hom (T : Nat) (N : Nat → Nat) (s : Nat) : Nat → Nat → hI × hJ → Int32 × hI × hJ
  | 0, _, p => (Int32.ofInt (-2), p)
  | j + 1, i, p => if k_cs p.1 T 77 (N 2) 0 = 0 then (Int32.ofInt (-2), p) else if (k_day T 77 N p).1 69 s < (k_day T 77 N p).1 83 s then (Int32.ofNat i, k_day T 77 N p) else k_hom T N s j (i + 1) (k_day T 77 N p)
theorem k_hom_s (T : Nat) (N : Nat → Nat) (s j i : Nat) (p : hI × hJ) : k_hom T N s (j + 1) i p = if k_cs p.1 T 77 (N 2) 0 = 0 then (Int32.ofInt (-2), p) else if (k_day T 77 N p).1 69 s < (k_day T 77 N p).1 83 s then (Int32.ofNat i, k_day T 77 N p) else k_hom T N s j (i + 1) (k_day T 77 N p) := rfl
theorem dl_loses {k : Nat} {R : hR} {T s : Nat} {N : Nat → Nat} (hT : T = 9 ∨ T = 36) (hR : R 84 3 = T) (hs : s < 5) (hk : 6 ≤ k) : ∀ (j r : Nat) (I : hI) (J : hJ), r + j = 200 → ctk I T N → wz k 11 (some .int) am_c125 33 [.ref 0, .int (Int32.ofNat s), .int (Int32.ofNat r)] [] I J R (some (.int (k_los T N s j r (I, J)).1), am_hp (k_los T N s j r (I, J)).2.1 (k_los T N s j r (I, J)).2.2 R) := by
  intro j
  induction j with
  | zero =>
    intro r I J e t
    refine w_iload_n rfl rfl rfl ?_
    refine w_sipush (x := Int32.ofNat 199) rfl rfl (by decide) ?_
    refine w_ic_gtN (t := 86) (f := 40) rfl rfl rfl (by omega) (by omega) (fun c37 => ?_) (fun c37 => absurd c37 (by omega))
    refine w_bipush (x := Int32.ofInt (-2)) rfl rfl (by decide) ?_
    exact w_iret rfl rfl rfl rfl rfl
  | succ j ih =>
    intro r I J e t
    refine w_iload_n rfl rfl rfl ?_
    refine w_sipush (x := Int32.ofNat 199) rfl rfl (by decide) ?_
    refine w_ic_gtN (t := 86) (f := 40) rfl rfl rfl (by omega) (by omega) (fun c37 => absurd c37 (by omega)) (fun c37 => ?_)
    refine w_aload_n rfl rfl rfl ?_
    refine w_gf (t := .ref (84)) (v := .ref (84)) rfl rfl rfl sp0 rfl rfl rfl ?_
    refine w_aload_n rfl rfl rfl ?_
    refine w_gf (t := .ref (77)) (v := .ref (77)) rfl rfl rfl sp0 rfl rfl rfl ?_
    refine w_cv (q := am_m16) (as := [_]) (rest := []) (st' := [_]) rfl rfl rfl rfl rfl rfl sp84 rfl rfl rfl rfl (d_canSail hT hR (Or.inr (Or.inr rfl)) t.1.2.1 t.2.1.2.1 (by omega)) rfl rfl ?_
    refine w_if_eq (t := 86) (f := 54) rfl rfl rfl (fun c51 => ?_) (fun c51 => ?_)
    · refine w_bipush (x := Int32.ofInt (-2)) rfl rfl (by decide) ?_
      exact w_iret rfl (by rw [k_los_s]; first | rw [if_pos c51] | rw [if_neg c51, if_pos c75]) (by rw [k_los_s]; first | rw [if_pos c51] | rw [if_neg c51, if_pos c75]) (by rw [k_los_s]; first | rw [if_pos c51] | rw [if_neg c51, if_pos c75]) rfl
    · refine w_aload_n rfl rfl rfl ?_
      refine w_gf (t := .ref (84)) (v := .ref (84)) rfl rfl rfl sp0 rfl rfl rfl ?_
      refine w_aload_n rfl rfl rfl ?_
      refine w_gf (t := .ref (77)) (v := .ref (77)) rfl rfl rfl sp0 rfl rfl rfl ?_
      refine w_cv (q := am_m15) (as := [_]) (rest := []) (st' := []) rfl rfl rfl rfl rfl rfl sp84 rfl rfl rfl rfl (d_pass hT hR (Or.inr (Or.inr rfl)) t (by omega)) rfl rfl ?_
      refine w_aload_n rfl rfl rfl ?_
      refine w_gf (t := .ref (77)) (v := .ref (77)) rfl rfl rfl sp0 rfl rfl rfl ?_
      refine w_gf (t := .ref (81)) (v := .ref (81)) rfl rfl rfl sp77 rfl rfl rfl ?_
      refine w_iload_n rfl rfl rfl ?_
      refine w_iaload rfl rfl sp81 rfl ⟨by omega, by omega⟩ rfl ?_
      refine w_iconst (x := Int32.ofNat 2) rfl rfl (by decide) ?_
      refine w_ic_ne (t := 80) (f := 78) rfl rfl rfl (fun c75 => ?_) (fun c75 => ?_)
      · refine w_iinc (L' := [_, _, _]) rfl rfl rfl (am_incN 1) rfl ?_
        refine w_goto (pc' := 33) rfl rfl ?_
        rw [k_los_s, if_neg c51, if_neg c75]
        exact ih (r + 1) _ _ (by omega) (ctk_F hT (cF_day (Or.inr (Or.inr rfl))) t)
      · refine w_iload_n rfl rfl rfl ?_
        exact w_iret rfl (by rw [k_los_s]; first | rw [if_pos c51] | rw [if_neg c51, if_pos c75]) (by rw [k_los_s]; first | rw [if_pos c51] | rw [if_neg c51, if_pos c75]) (by rw [k_los_s]; first | rw [if_pos c51] | rw [if_neg c51, if_pos c75]) rfl
theorem d_loses {k : Nat} {I : hI} {J : hJ} {R : hR} {T : Nat} (hT : T = 9 ∨ T = 36) (h0 : R 0 3 = T) {N : Nat → Nat} (t : ctk I T N) {s : Nat} (hs : s < N 2) (hL : ¬ I 67 s = Int32.ofNat 2) (hk : 7 ≤ k) : ct k 125 [.ref 0, .int (Int32.ofNat s)] I J R (some (.int (k_los T N s 199 1 (k_stt I T (Int32.ofNat s) (Int32.ofNat 1), am_u J 77 1 (J 63 1))).1)) ((k_los T N s 199 1 (k_stt I T (Int32.ofNat s) (Int32.ofNat 1), am_u J 77 1 (J 63 1))).2.1) ((k_los T N s 199 1 (k_stt I T (Int32.ofNat s) (Int32.ofNat 1), am_u J 77 1 (J 63 1))).2.2) (am_u R 84 3 T) := by
  obtain ⟨k, rfl⟩ : ∃ k', k = k' + 1 := ⟨k - 1, by omega⟩
  obtain ⟨⟨l1, l2, l3⟩, ⟨e5, e11, e3⟩, rM, tH, sM, ⟨e18, l18⟩, ⟨e21, l21⟩, ⟨e24, l24⟩⟩ := id t
  refine ct_of (q := am_m125) (o := 11) (rt := (some .int)) (co := am_c125) (L := [_, _, _]) rfl rfl rfl rfl rfl rfl ?_
  refine w_aload_n rfl rfl rfl ?_
  refine w_iload_n rfl rfl rfl ?_
  refine w_cv (q := am_m162) (as := [_]) (rest := []) (st' := [_]) rfl rfl rfl rfl rfl rfl sp0 rfl rfl rfl rfl (d_isShip hT h0 (by omega)) rfl rfl ?_
  refine w_if_neB (t := 10) (f := 8) rfl rfl rfl (fun c5 => ?_) (fun c5 => absurd c5 (k_isok hs (by omega) e11))
  refine w_aload_n rfl rfl rfl ?_
  refine w_gf (t := .ref (63)) (v := .ref (63)) rfl rfl rfl sp0 rfl rfl rfl ?_
  refine w_gf (t := .ref (67)) (v := .ref (67)) rfl rfl rfl sp63 rfl rfl rfl ?_
  refine w_iload_n rfl rfl rfl ?_
  refine w_iaload rfl rfl sp67 rfl ⟨by omega, by omega⟩ rfl ?_
  refine w_iconst (x := Int32.ofNat 2) rfl rfl (by decide) ?_
  refine w_ic_ne (t := 25) (f := 23) rfl rfl rfl (fun c20 => ?_) (fun c20 => absurd c20 hL)
  refine w_aload_n rfl rfl rfl ?_
  refine w_iload_n rfl rfl rfl ?_
  refine w_iconst (x := Int32.ofNat 1) rfl rfl (by decide) ?_
  refine w_cv (q := am_m124) (as := [_, _]) (rest := []) (st' := []) rfl rfl rfl rfl rfl rfl sp0 rfl rfl rfl rfl (d_startTrial hT h0 (by omega)) rfl rfl ?_
  refine w_iconst (x := Int32.ofNat 1) rfl rfl (by decide) ?_
  refine w_istore_n (L' := [_, _, _]) rfl rfl rfl ?_
  exact dl_loses hT am_u_at (by omega) (by omega) 199 1 _ _ (by omega) (ctk_F hT cF_stt t)
theorem d_loses_no {k : Nat} {I : hI} {J : hJ} {R : hR} {T : Nat} (hT : T = 9 ∨ T = 36) (h0 : R 0 3 = T) {x : Int32} (hx : ¬ (¬ x < 0 ∧ x < I (T + 11) 1)) (hk : 2 ≤ k) : ct k 125 [.ref 0, .int x] I J R (some (.int (Int32.ofInt (-1)))) I J R := by
  obtain ⟨k, rfl⟩ : ∃ k', k = k' + 1 := ⟨k - 1, by omega⟩
  refine ct_of (q := am_m125) (o := 11) (rt := (some .int)) (co := am_c125) (L := [_, _, _]) rfl rfl rfl rfl rfl rfl ?_
  refine w_aload_n rfl rfl rfl ?_
  refine w_iload_n rfl rfl rfl ?_
  refine w_cv (q := am_m162) (as := [_]) (rest := []) (st' := [_]) rfl rfl rfl rfl rfl rfl sp0 rfl rfl rfl rfl (d_isShip hT h0 (by omega)) rfl rfl ?_
  refine w_if_neB (t := 10) (f := 8) rfl rfl rfl (fun c5 => absurd c5 hx) (fun c5 => ?_)
  refine w_iconst (x := Int32.ofInt (-1)) rfl rfl (by decide) ?_
  exact w_iret rfl rfl rfl rfl rfl
theorem dl_homes {k : Nat} {R : hR} {T s : Nat} {N : Nat → Nat} (hT : T = 9 ∨ T = 36) (hR : R 84 3 = T) (hs : s < 5) (hk : 6 ≤ k) : ∀ (j r : Nat) (I : hI) (J : hJ), r + j = 200 → ctk I T N → wz k 11 (some .int) am_c126 18 [.ref 0, .int (Int32.ofNat s), .int (Int32.ofNat r)] [] I J R (some (.int (k_hom T N s j r (I, J)).1), am_hp (k_hom T N s j r (I, J)).2.1 (k_hom T N s j r (I, J)).2.2 R) := by
  intro j
  induction j with
  | zero =>
    intro r I J e t
    refine w_iload_n rfl rfl rfl ?_
    refine w_sipush (x := Int32.ofNat 199) rfl rfl (by decide) ?_
    refine w_ic_gtN (t := 79) (f := 25) rfl rfl rfl (by omega) (by omega) (fun c22 => ?_) (fun c22 => absurd c22 (by omega))
    refine w_bipush (x := Int32.ofInt (-2)) rfl rfl (by decide) ?_
    exact w_iret rfl rfl rfl rfl rfl
  | succ j ih =>
    intro r I J e t
    refine w_iload_n rfl rfl rfl ?_
    refine w_sipush (x := Int32.ofNat 199) rfl rfl (by decide) ?_
    refine w_ic_gtN (t := 79) (f := 25) rfl rfl rfl (by omega) (by omega) (fun c22 => absurd c22 (by omega)) (fun c22 => ?_)
    refine w_aload_n rfl rfl rfl ?_
    refine w_gf (t := .ref (84)) (v := .ref (84)) rfl rfl rfl sp0 rfl rfl rfl ?_
    refine w_aload_n rfl rfl rfl ?_
    refine w_gf (t := .ref (77)) (v := .ref (77)) rfl rfl rfl sp0 rfl rfl rfl ?_
    refine w_cv (q := am_m16) (as := [_]) (rest := []) (st' := [_]) rfl rfl rfl rfl rfl rfl sp84 rfl rfl rfl rfl (d_canSail hT hR (Or.inr (Or.inr rfl)) t.1.2.1 t.2.1.2.1 (by omega)) rfl rfl ?_
    refine w_if_eq (t := 79) (f := 39) rfl rfl rfl (fun c36 => ?_) (fun c36 => ?_)
    · refine w_bipush (x := Int32.ofInt (-2)) rfl rfl (by decide) ?_
      exact w_iret rfl (by rw [k_hom_s]; first | rw [if_pos c36] | rw [if_neg c36, if_pos c68]) (by rw [k_hom_s]; first | rw [if_pos c36] | rw [if_neg c36, if_pos c68]) (by rw [k_hom_s]; first | rw [if_pos c36] | rw [if_neg c36, if_pos c68]) rfl
    · refine w_aload_n rfl rfl rfl ?_
      refine w_gf (t := .ref (84)) (v := .ref (84)) rfl rfl rfl sp0 rfl rfl rfl ?_
      refine w_aload_n rfl rfl rfl ?_
      refine w_gf (t := .ref (77)) (v := .ref (77)) rfl rfl rfl sp0 rfl rfl rfl ?_
      refine w_cv (q := am_m15) (as := [_]) (rest := []) (st' := []) rfl rfl rfl rfl rfl rfl sp84 rfl rfl rfl rfl (d_pass hT hR (Or.inr (Or.inr rfl)) t (by omega)) rfl rfl ?_
      refine w_aload_n rfl rfl rfl ?_
      refine w_gf (t := .ref (77)) (v := .ref (77)) rfl rfl rfl sp0 rfl rfl rfl ?_
      refine w_gf (t := .ref (83)) (v := .ref (83)) rfl rfl rfl sp77 rfl rfl rfl ?_
      refine w_iload_n rfl rfl rfl ?_
      refine w_iaload rfl rfl sp83 rfl ⟨by omega, by omega⟩ rfl ?_
      refine w_aload_n rfl rfl rfl ?_
      refine w_gf (t := .ref (63)) (v := .ref (63)) rfl rfl rfl sp0 rfl rfl rfl ?_
      refine w_gf (t := .ref (69)) (v := .ref (69)) rfl rfl rfl sp63 rfl rfl rfl ?_
      refine w_iload_n rfl rfl rfl ?_
      refine w_iaload rfl rfl sp69 rfl ⟨by omega, by omega⟩ rfl ?_
      refine w_ic_le (t := 73) (f := 71) rfl rfl rfl (fun c68 => ?_) (fun c68 => ?_)
      · refine w_iinc (L' := [_, _, _]) rfl rfl rfl (am_incN 1) rfl ?_
        refine w_goto (pc' := 18) rfl rfl ?_
        rw [k_hom_s, if_neg c36, if_neg c68]
        exact ih (r + 1) _ _ (by omega) (ctk_F hT (cF_day (Or.inr (Or.inr rfl))) t)
      · refine w_iload_n rfl rfl rfl ?_
        exact w_iret rfl (by rw [k_hom_s]; first | rw [if_pos c36] | rw [if_neg c36, if_pos c68]) (by rw [k_hom_s]; first | rw [if_pos c36] | rw [if_neg c36, if_pos c68]) (by rw [k_hom_s]; first | rw [if_pos c36] | rw [if_neg c36, if_pos c68]) rfl
theorem d_homes {k : Nat} {I : hI} {J : hJ} {R : hR} {T : Nat} (hT : T = 9 ∨ T = 36) (h0 : R 0 3 = T) {N : Nat → Nat} (t : ctk I T N) {s : Nat} (hs : s < N 2) (hk : 7 ≤ k) : ct k 126 [.ref 0, .int (Int32.ofNat s)] I J R (some (.int (k_hom T N s 199 1 (k_stt I T (Int32.ofNat s) (Int32.ofNat 1), am_u J 77 1 (J 63 1))).1)) ((k_hom T N s 199 1 (k_stt I T (Int32.ofNat s) (Int32.ofNat 1), am_u J 77 1 (J 63 1))).2.1) ((k_hom T N s 199 1 (k_stt I T (Int32.ofNat s) (Int32.ofNat 1), am_u J 77 1 (J 63 1))).2.2) (am_u R 84 3 T) := by
  obtain ⟨k, rfl⟩ : ∃ k', k = k' + 1 := ⟨k - 1, by omega⟩
  obtain ⟨⟨l1, l2, l3⟩, ⟨e5, e11, e3⟩, rM, tH, sM, ⟨e18, l18⟩, ⟨e21, l21⟩, ⟨e24, l24⟩⟩ := id t
  refine ct_of (q := am_m126) (o := 11) (rt := (some .int)) (co := am_c126) (L := [_, _, _]) rfl rfl rfl rfl rfl rfl ?_
  refine w_aload_n rfl rfl rfl ?_
  refine w_iload_n rfl rfl rfl ?_
  refine w_cv (q := am_m162) (as := [_]) (rest := []) (st' := [_]) rfl rfl rfl rfl rfl rfl sp0 rfl rfl rfl rfl (d_isShip hT h0 (by omega)) rfl rfl ?_
  refine w_if_neB (t := 10) (f := 8) rfl rfl rfl (fun c5 => ?_) (fun c5 => absurd c5 (k_isok hs (by omega) e11))
  refine w_aload_n rfl rfl rfl ?_
  refine w_iload_n rfl rfl rfl ?_
  refine w_iconst (x := Int32.ofNat 1) rfl rfl (by decide) ?_
  refine w_cv (q := am_m124) (as := [_, _]) (rest := []) (st' := []) rfl rfl rfl rfl rfl rfl sp0 rfl rfl rfl rfl (d_startTrial hT h0 (by omega)) rfl rfl ?_
  refine w_iconst (x := Int32.ofNat 1) rfl rfl (by decide) ?_
  refine w_istore_n (L' := [_, _, _]) rfl rfl rfl ?_
  exact dl_homes hT am_u_at (by omega) (by omega) 199 1 _ _ (by omega) (ctk_F hT cF_stt t)
theorem d_homes_no {k : Nat} {I : hI} {J : hJ} {R : hR} {T : Nat} (hT : T = 9 ∨ T = 36) (h0 : R 0 3 = T) {x : Int32} (hx : ¬ (¬ x < 0 ∧ x < I (T + 11) 1)) (hk : 2 ≤ k) : ct k 126 [.ref 0, .int x] I J R (some (.int (Int32.ofInt (-1)))) I J R := by
  obtain ⟨k, rfl⟩ : ∃ k', k = k' + 1 := ⟨k - 1, by omega⟩
  refine ct_of (q := am_m126) (o := 11) (rt := (some .int)) (co := am_c126) (L := [_, _, _]) rfl rfl rfl rfl rfl rfl ?_
  refine w_aload_n rfl rfl rfl ?_
  refine w_iload_n rfl rfl rfl ?_
  refine w_cv (q := am_m162) (as := [_]) (rest := []) (st' := [_]) rfl rfl rfl rfl rfl rfl sp0 rfl rfl rfl rfl (d_isShip hT h0 (by omega)) rfl rfl ?_
  refine w_if_neB (t := 10) (f := 8) rfl rfl rfl (fun c5 => absurd c5 hx) (fun c5 => ?_)
  refine w_iconst (x := Int32.ofInt (-1)) rfl rfl (by decide) ?_
  exact w_iret rfl rfl rfl rfl rfl
theorem d_loses_0 {k : Nat} {I : hI} {J : hJ} {R : hR} {T : Nat} (hT : T = 9 ∨ T = 36) (h0 : R 0 3 = T) {N : Nat → Nat} (t : ctk I T N) {s : Nat} (hs : s < N 2) (hL : I 67 s = Int32.ofNat 2) (hk : 2 ≤ k) : ct k 125 [.ref 0, .int (Int32.ofNat s)] I J R (some (.int (Int32.ofNat 0))) I J R := by
  obtain ⟨k, rfl⟩ : ∃ k', k = k' + 1 := ⟨k - 1, by omega⟩
  obtain ⟨⟨l1, l2, l3⟩, ⟨e5, e11, e3⟩, rM, tH, sM, ⟨e18, l18⟩, ⟨e21, l21⟩, ⟨e24, l24⟩⟩ := id t
  refine ct_of (q := am_m125) (o := 11) (rt := (some .int)) (co := am_c125) (L := [_, _, _]) rfl rfl rfl rfl rfl rfl ?_
  refine w_aload_n rfl rfl rfl ?_
  refine w_iload_n rfl rfl rfl ?_
  refine w_cv (q := am_m162) (as := [_]) (rest := []) (st' := [_]) rfl rfl rfl rfl rfl rfl sp0 rfl rfl rfl rfl (d_isShip hT h0 (by omega)) rfl rfl ?_
  refine w_if_neB (t := 10) (f := 8) rfl rfl rfl (fun c5 => ?_) (fun c5 => absurd c5 (k_isok hs (by omega) e11))
  refine w_aload_n rfl rfl rfl ?_
  refine w_gf (t := .ref (63)) (v := .ref (63)) rfl rfl rfl sp0 rfl rfl rfl ?_
  refine w_gf (t := .ref (67)) (v := .ref (67)) rfl rfl rfl sp63 rfl rfl rfl ?_
  refine w_iload_n rfl rfl rfl ?_
  refine w_iaload rfl rfl sp67 rfl ⟨by omega, by omega⟩ rfl ?_
  refine w_iconst (x := Int32.ofNat 2) rfl rfl (by decide) ?_
  refine w_ic_ne (t := 25) (f := 23) rfl rfl rfl (fun c20 => absurd c20 (not_not_intro hL)) (fun c20 => ?_)
  refine w_iconst (x := Int32.ofNat 0) rfl rfl (by decide) ?_
  exact w_iret rfl rfl rfl rfl rfl
def k_wkP (I : hI) (s : Int32) (r : Nat) (b : Int32) : Prop := (I 66 r = s ∧ I 64 r = Int32.ofNat 1) ∧ (b < 0 ∨ I 65 r < I 65 (nn b))
def k_wkD (I : hI) (s : Int32) (r : Nat) (b : Int32) : Decidable (k_wkP I s r b) := inferInstanceAs (Decidable (_ ∧ _))
def k_wkk (I : hI) (s : Int32) (r : Nat) : Int32 := s_for (fun r b => @ite _ (k_wkP I s r b) (k_wkD I s r b) (Int32.ofNat r) b) r (Int32.ofInt (-2))
theorem k_wkk_s (I : hI) (s : Int32) (r : Nat) : k_wkk I s (r + 1) = @ite _ (k_wkP I s r (k_wkk I s r)) (k_wkD I s r (k_wkk I s r)) (Int32.ofNat r) (k_wkk I s r) := rfl
theorem k_wkk_ok (I : hI) (s : Int32) : ∀ r, r ≤ 8 → k_wkk I s r < 0 ∨ okn (k_wkk I s r) 8 := by
  intro r
  induction r with
  | zero => intro _; exact Or.inl (show Int32.ofInt (-2) < 0 by decide)
  | succ r ih =>
    intro h
    rw [k_wkk_s]
    by_cases c : k_wkP I s r (k_wkk I s r)
    · rw [if_pos c]; exact Or.inr (okn_of (by omega) (by omega))
    · rw [if_neg c]; exact ih (by omega)
theorem k_wkk_1 {I : hI} {s : Int32} {r : Nat} (h : k_wkP I s r (k_wkk I s r)) : k_wkk I s (r + 1) = Int32.ofNat r := if_pos h
theorem k_wkk_0 {I : hI} {s : Int32} {r : Nat} (h : ¬ k_wkP I s r (k_wkk I s r)) : k_wkk I s (r + 1) = k_wkk I s r := if_neg h
theorem dl_weakest {k : Nat} {I : hI} {J : hJ} {R : hR} {T n : Nat} (hT : T = 9 ∨ T = 36) (h0 : R 0 3 = T) (hn : n ≤ 8) (e5 : I (T + 5) 1 = Int32.ofNat n) {s : Int32} : ∀ (j r : Nat) (u : Value), r + j = n → wz k 11 (some .int) am_c127 15 [.ref 0, .int s, .int (k_wkk I s r), .int (Int32.ofNat r), u] [] I J R (some (.int (k_wkk I s n)), am_hp I J R) := by
  intro j
  induction j with
  | zero =>
    intro r u e
    obtain rfl : r = n := by omega
    refine w_iload_n rfl rfl rfl ?_
    refine w_aload_n rfl rfl rfl ?_
    refine w_gf (t := .retAddr 0) (v := .ref (T)) rfl rfl rfl sp0 rfl (congrArg Value.ref (by first | exact h0 | exact (am_u_na (by decide)).trans h0)) rfl ?_
    refine w_gf (t := .ref (T + 5)) (v := .ref (T + 5)) rfl rfl rfl (shT_0 hT) rfl rfl rfl ?_
    refine w_gf (t := .int 0) (v := .int _) rfl rfl rfl (shT_5 hT) rfl (congrArg Value.int e5) rfl ?_
    refine w_ic_geN (t := 100) (f := 29) rfl rfl rfl (by omega) (by omega) (fun c26 => ?_) (fun c26 => absurd c26 (by omega))
    refine w_iload_n rfl rfl rfl ?_
    exact w_iret rfl rfl rfl rfl rfl
  | succ j ih =>
    intro r u e
    have ok := k_wkk_ok I s r (by omega)
    refine w_iload_n rfl rfl rfl ?_
    refine w_aload_n rfl rfl rfl ?_
    refine w_gf (t := .retAddr 0) (v := .ref (T)) rfl rfl rfl sp0 rfl (congrArg Value.ref (by first | exact h0 | exact (am_u_na (by decide)).trans h0)) rfl ?_
    refine w_gf (t := .ref (T + 5)) (v := .ref (T + 5)) rfl rfl rfl (shT_0 hT) rfl rfl rfl ?_
    refine w_gf (t := .int 0) (v := .int _) rfl rfl rfl (shT_5 hT) rfl (congrArg Value.int e5) rfl ?_
    refine w_ic_geN (t := 100) (f := 29) rfl rfl rfl (by omega) (by omega) (fun c26 => absurd c26 (by omega)) (fun c26 => ?_)
    refine w_aload_n rfl rfl rfl ?_
    refine w_gf (t := .ref (63)) (v := .ref (63)) rfl rfl rfl sp0 rfl rfl rfl ?_
    refine w_gf (t := .ref (66)) (v := .ref (66)) rfl rfl rfl sp63 rfl rfl rfl ?_
    refine w_iload_n rfl rfl rfl ?_
    refine w_iaload rfl rfl sp66 rfl ⟨by omega, by omega⟩ rfl ?_
    refine w_iload_n rfl rfl rfl ?_
    refine w_ic_ne (t := 59) (f := 42) rfl rfl rfl (fun c39 => ?_) (fun c39 => ?_)
    · refine w_iconst (x := Int32.ofNat 0) rfl rfl (by decide) ?_
      refine w_istore (L' := [_, _, _, _, _]) rfl rfl rfl ?_
      refine w_iload rfl rfl rfl ?_
      refine w_if_eq (t := 94) (f := 67) rfl rfl rfl (fun c64 => ?_) (fun c64 => absurd c64 (by decide))
      clear c64
      refine w_iinc (L' := [_, _, _, _, _]) rfl rfl rfl (am_incN 1) rfl ?_
      refine w_goto (pc' := 15) rfl rfl ?_
      first
        | (rw [← k_wkk_1 ⟨⟨c39, c52⟩, Or.inl c68⟩]; exact ih (r + 1) _ (by omega))
        | (rw [← k_wkk_1 ⟨⟨c39, c52⟩, Or.inr c89⟩]; exact ih (r + 1) _ (by omega))
        | (rw [← k_wkk_0 (fun z => z.2.elim c68 c89)]; exact ih (r + 1) _ (by omega))
        | (rw [← k_wkk_0 (fun z => c52 z.1.2)]; exact ih (r + 1) _ (by omega))
        | (rw [← k_wkk_0 (fun z => c39 z.1.1)]; exact ih (r + 1) _ (by omega))
    · refine w_aload_n rfl rfl rfl ?_
      refine w_gf (t := .ref (63)) (v := .ref (63)) rfl rfl rfl sp0 rfl rfl rfl ?_
      refine w_gf (t := .ref (64)) (v := .ref (64)) rfl rfl rfl sp63 rfl rfl rfl ?_
      refine w_iload_n rfl rfl rfl ?_
      refine w_iaload rfl rfl sp64 rfl ⟨by omega, by omega⟩ rfl ?_
      refine w_iconst (x := Int32.ofNat 1) rfl rfl (by decide) ?_
      refine w_ic_ne (t := 59) (f := 55) rfl rfl rfl (fun c52 => ?_) (fun c52 => ?_)
      · refine w_iconst (x := Int32.ofNat 0) rfl rfl (by decide) ?_
        refine w_istore (L' := [_, _, _, _, _]) rfl rfl rfl ?_
        refine w_iload rfl rfl rfl ?_
        refine w_if_eq (t := 94) (f := 67) rfl rfl rfl (fun c64 => ?_) (fun c64 => absurd c64 (by decide))
        clear c64
        refine w_iinc (L' := [_, _, _, _, _]) rfl rfl rfl (am_incN 1) rfl ?_
        refine w_goto (pc' := 15) rfl rfl ?_
        first
          | (rw [← k_wkk_1 ⟨⟨c39, c52⟩, Or.inl c68⟩]; exact ih (r + 1) _ (by omega))
          | (rw [← k_wkk_1 ⟨⟨c39, c52⟩, Or.inr c89⟩]; exact ih (r + 1) _ (by omega))
          | (rw [← k_wkk_0 (fun z => z.2.elim c68 c89)]; exact ih (r + 1) _ (by omega))
          | (rw [← k_wkk_0 (fun z => c52 z.1.2)]; exact ih (r + 1) _ (by omega))
          | (rw [← k_wkk_0 (fun z => c39 z.1.1)]; exact ih (r + 1) _ (by omega))
      · refine w_iconst (x := Int32.ofNat 1) rfl rfl (by decide) ?_
        refine w_goto (pc' := 60) rfl rfl ?_
        refine w_istore (L' := [_, _, _, _, _]) rfl rfl rfl ?_
        refine w_iload rfl rfl rfl ?_
        refine w_if_eq (t := 94) (f := 67) rfl rfl rfl (fun c64 => absurd c64 (by decide)) (fun c64 => ?_)
        clear c64
        refine w_iload_n rfl rfl rfl ?_
        refine w_if_lt (t := 92) (f := 71) rfl rfl rfl (fun c68 => ?_) (fun c68 => ?_)
        · refine w_iload_n rfl rfl rfl ?_
          refine w_istore_n (L' := [_, _, _, _, _]) rfl rfl rfl ?_
          refine w_iinc (L' := [_, _, _, _, _]) rfl rfl rfl (am_incN 1) rfl ?_
          refine w_goto (pc' := 15) rfl rfl ?_
          first
            | (rw [← k_wkk_1 ⟨⟨c39, c52⟩, Or.inl c68⟩]; exact ih (r + 1) _ (by omega))
            | (rw [← k_wkk_1 ⟨⟨c39, c52⟩, Or.inr c89⟩]; exact ih (r + 1) _ (by omega))
            | (rw [← k_wkk_0 (fun z => z.2.elim c68 c89)]; exact ih (r + 1) _ (by omega))
            | (rw [← k_wkk_0 (fun z => c52 z.1.2)]; exact ih (r + 1) _ (by omega))
            | (rw [← k_wkk_0 (fun z => c39 z.1.1)]; exact ih (r + 1) _ (by omega))
        · refine w_aload_n rfl rfl rfl ?_
          refine w_gf (t := .ref (63)) (v := .ref (63)) rfl rfl rfl sp0 rfl rfl rfl ?_
          refine w_gf (t := .ref (65)) (v := .ref (65)) rfl rfl rfl sp63 rfl rfl rfl ?_
          refine w_iload_n rfl rfl rfl ?_
          refine w_iaload rfl rfl sp65 rfl ⟨by omega, by omega⟩ rfl ?_
          refine w_aload_n rfl rfl rfl ?_
          refine w_gf (t := .ref (63)) (v := .ref (63)) rfl rfl rfl sp0 rfl rfl rfl ?_
          refine w_gf (t := .ref (65)) (v := .ref (65)) rfl rfl rfl sp63 rfl rfl rfl ?_
          refine w_iload_n rfl rfl rfl ?_
          refine w_iaload rfl rfl sp65 (ok.resolve_left c68).1 ⟨((ok.resolve_left c68).2), by omega⟩ rfl ?_
          refine w_ic_ge (t := 94) (f := 92) rfl rfl rfl (fun c89 => ?_) (fun c89 => ?_)
          · refine w_iinc (L' := [_, _, _, _, _]) rfl rfl rfl (am_incN 1) rfl ?_
            refine w_goto (pc' := 15) rfl rfl ?_
            first
              | (rw [← k_wkk_1 ⟨⟨c39, c52⟩, Or.inl c68⟩]; exact ih (r + 1) _ (by omega))
              | (rw [← k_wkk_1 ⟨⟨c39, c52⟩, Or.inr c89⟩]; exact ih (r + 1) _ (by omega))
              | (rw [← k_wkk_0 (fun z => z.2.elim c68 c89)]; exact ih (r + 1) _ (by omega))
              | (rw [← k_wkk_0 (fun z => c52 z.1.2)]; exact ih (r + 1) _ (by omega))
              | (rw [← k_wkk_0 (fun z => c39 z.1.1)]; exact ih (r + 1) _ (by omega))
          · refine w_iload_n rfl rfl rfl ?_
            refine w_istore_n (L' := [_, _, _, _, _]) rfl rfl rfl ?_
            refine w_iinc (L' := [_, _, _, _, _]) rfl rfl rfl (am_incN 1) rfl ?_
            refine w_goto (pc' := 15) rfl rfl ?_
            first
              | (rw [← k_wkk_1 ⟨⟨c39, c52⟩, Or.inl c68⟩]; exact ih (r + 1) _ (by omega))
              | (rw [← k_wkk_1 ⟨⟨c39, c52⟩, Or.inr c89⟩]; exact ih (r + 1) _ (by omega))
              | (rw [← k_wkk_0 (fun z => z.2.elim c68 c89)]; exact ih (r + 1) _ (by omega))
              | (rw [← k_wkk_0 (fun z => c52 z.1.2)]; exact ih (r + 1) _ (by omega))
              | (rw [← k_wkk_0 (fun z => c39 z.1.1)]; exact ih (r + 1) _ (by omega))
theorem d_weakest {k : Nat} {I : hI} {J : hJ} {R : hR} {T : Nat} (hT : T = 9 ∨ T = 36) (h0 : R 0 3 = T) {N : Nat → Nat} (t : ctk I T N) {s : Nat} (hs : s < N 2) (hk : 2 ≤ k) : ct k 127 [.ref 0, .int (Int32.ofNat s)] I J R (some (.int (k_wkk I (Int32.ofNat s) (N 1)))) I J R := by
  obtain ⟨k, rfl⟩ : ∃ k', k = k' + 1 := ⟨k - 1, by omega⟩
  obtain ⟨⟨l1, l2, l3⟩, ⟨e5, e11, e3⟩, rM, tH, sM, ⟨e18, l18⟩, ⟨e21, l21⟩, ⟨e24, l24⟩⟩ := id t
  refine ct_of (q := am_m127) (o := 11) (rt := (some .int)) (co := am_c127) (L := [_, _, _, _, _]) rfl rfl rfl rfl rfl rfl ?_
  refine w_aload_n rfl rfl rfl ?_
  refine w_iload_n rfl rfl rfl ?_
  refine w_cv (q := am_m162) (as := [_]) (rest := []) (st' := [_]) rfl rfl rfl rfl rfl rfl sp0 rfl rfl rfl rfl (d_isShip hT h0 (by omega)) rfl rfl ?_
  refine w_if_neB (t := 10) (f := 8) rfl rfl rfl (fun c5 => ?_) (fun c5 => absurd c5 (k_isok hs (by omega) e11))
  refine w_bipush (x := Int32.ofInt (-2)) rfl rfl (by decide) ?_
  refine w_istore_n (L' := [_, _, _, _, _]) rfl rfl rfl ?_
  refine w_iconst (x := Int32.ofNat 0) rfl rfl (by decide) ?_
  refine w_istore_n (L' := [_, _, _, _, _]) rfl rfl rfl ?_
  exact dl_weakest hT h0 l1 e5 (N 1) 0 _ (by omega)
theorem d_weakest_no {k : Nat} {I : hI} {J : hJ} {R : hR} {T : Nat} (hT : T = 9 ∨ T = 36) (h0 : R 0 3 = T) {x : Int32} (hx : ¬ (¬ x < 0 ∧ x < I (T + 11) 1)) (hk : 2 ≤ k) : ct k 127 [.ref 0, .int x] I J R (some (.int (Int32.ofInt (-1)))) I J R := by
  obtain ⟨k, rfl⟩ : ∃ k', k = k' + 1 := ⟨k - 1, by omega⟩
  refine ct_of (q := am_m127) (o := 11) (rt := (some .int)) (co := am_c127) (L := [_, _, _, _, _]) rfl rfl rfl rfl rfl rfl ?_
  refine w_aload_n rfl rfl rfl ?_
  refine w_iload_n rfl rfl rfl ?_
  refine w_cv (q := am_m162) (as := [_]) (rest := []) (st' := [_]) rfl rfl rfl rfl rfl rfl sp0 rfl rfl rfl rfl (d_isShip hT h0 (by omega)) rfl rfl ?_
  refine w_if_neB (t := 10) (f := 8) rfl rfl rfl (fun c5 => absurd c5 hx) (fun c5 => ?_)
  refine w_iconst (x := Int32.ofInt (-1)) rfl rfl (by decide) ?_
  exact w_iret rfl rfl rfl rfl rfl
