/-! The class: calls (two): text, law, rig, takeOut, mend, sail, go, undo, keep, back, see, strike, known. -/
theorem cF_cq {I : hI} {a0 sp a dp n : Nat} (h : a < 9 ∨ 63 ≤ a) : cF I (am_cq I a0 sp a dp n) := cF_of fun b h1 h2 => am_cq_ne (by omega)
theorem cF_room {I : hI} {u : Nat} : cF I (k_room I u) := by
  unfold k_room; split
  · exact cF_rf I
  · exact cF_tr (cF_tr (cF_tr (cF_tr (cF_tr (cF_u (by omega)) (cF_cq (by omega))) (cF_cq (by omega))) (cF_cq (by omega))) (cF_cq (by omega))) (cF_cq (by omega))
theorem cF_nr {I : hI} {S u r : Nat} : cF I (k_nr I S u r) := cF_tr (cF_tr (cF_tr (cF_tr (cF_tr cF_room (cF_u (by omega))) (cF_u (by omega))) (cF_u (by omega))) (cF_u (by omega))) (cF_u (by omega))
theorem cF_ns {I : hI} {u : Nat} {x : Int32} : cF I (k_ns I u x) := cF_tr (cF_tr (cF_tr cF_room (cF_u (by omega))) (cF_u (by omega))) (cF_u (by omega))
theorem cF_db {I : hI} {T : Nat} {b : Int32} : cF I (k_db I T b) := by
  have h : ∀ {I : hI} {j : Nat} {x : Int32}, cF I (am_u I 84 j x) := fun {I j x} => cF_u (by omega)
  exact cF_tr (cF_tr (cF_tr (cF_tr (cF_tr (cF_tr (cF_tr (cF_tr h h) h) h) h) h) h) h) h
def k_anew (I : hI) (T m : Nat) : hI := k_sfg (am_u (am_u (k_begin I 63 T m) 0 9 (Int32.ofNat 0)) 96 0 (Int32.ofNat 0))
theorem d_startAnew {k : Nat} {I : hI} {J : hJ} {R : hR} {T : Nat} (hT : T = 9 ∨ T = 36) (h0 : R 0 3 = T) {m : Nat} (hm : m ≤ 8) (h5 : I (T + 5) 1 = Int32.ofNat m) (hk : 2 ≤ k) : ct k 110 [.ref 0] I J R none (k_anew I T m) (am_u J 63 1 (I T 17).toInt64) R := by
  obtain ⟨k, rfl⟩ : ∃ k', k = k' + 1 := ⟨k - 1, by omega⟩
  refine ct_of (q := am_m110) (o := 11) (rt := none) (co := am_c110) (L := [_]) rfl rfl rfl rfl rfl rfl ?_
  refine w_aload_n rfl rfl rfl ?_
  refine w_gf (t := .ref (63)) (v := .ref (63)) rfl rfl rfl sp0 rfl rfl rfl ?_
  refine w_aload_n rfl rfl rfl ?_
  refine w_gf (t := .retAddr 0) (v := .ref (T)) rfl rfl rfl sp0 rfl (congrArg Value.ref (by first | exact h0 | exact (am_u_na (by decide)).trans h0)) rfl ?_
  refine w_cv (q := am_m64) (as := [_]) (rest := []) (st' := []) rfl rfl rfl rfl rfl rfl sp63 rfl rfl rfl rfl (d_begin (Or.inl rfl) hT hm h5 (by omega)) rfl rfl ?_
  refine w_aload_n rfl rfl rfl ?_
  refine w_iconst (x := Int32.ofNat 0) rfl rfl (by decide) ?_
  refine w_pf rfl rfl rfl sp0 rfl rfl rfl ?_
  refine w_aload_n rfl rfl rfl ?_
  refine w_gf (t := .ref (96)) (v := .ref (96)) rfl rfl rfl sp0 rfl rfl rfl ?_
  refine w_cv (q := am_m7) (as := []) (rest := []) (st' := []) rfl rfl rfl rfl rfl rfl sp96 rfl rfl rfl rfl (d_cforget (by omega)) rfl rfl ?_
  refine w_aload_n rfl rfl rfl ?_
  refine w_gf (t := .ref (88)) (v := .ref (88)) rfl rfl rfl sp0 rfl rfl rfl ?_
  refine w_cv (q := am_m52) (as := []) (rest := []) (st' := []) rfl rfl rfl rfl rfl rfl sp88 rfl rfl rfl rfl (d_sforget (by omega)) rfl rfl ?_
  exact w_ret rfl rfl rfl rfl
def k_txF (I : hI) (O n : Nat) : hI := am_u (am_u (k_txt (am_u I 0 1 (Int32.ofNat 0)) O n).2 0 4 ((k_txt (am_u I 0 1 (Int32.ofNat 0)) O n).2 3 7)) 0 5 ((k_txt (am_u I 0 1 (Int32.ofNat 0)) O n).2 3 8)
def k_txO (I : hI) (O n m : Nat) : hI := k_anew (k_txF I O n) O m
theorem thk_u {I : hI} {O a j : Nat} {x : Int32} (h : a ≠ O + 3) (t : thk I O) : thk (am_u I a j x) O := fun m hm => by rw [am_u_na h.symm]; exact t m hm
theorem d_text_bad {k : Nat} {I : hI} {J : hJ} {R : hR} {T O : Nat} (hT : T = 9 ∨ T = 36) (h0 : R 0 3 = T) (hO : O = 9 ∨ O = 36) (h2 : R 2 2 = O) {n z : Nat} (hn : n ≤ z) (hz : z ≤ 700) (h1 : I 0 1 = Int32.ofNat z) (th : thk I O) (h : (k_txt (am_u I 0 1 (Int32.ofNat 0)) O n).1 = 0) (hk : 8 ≤ k) : ct k 109 [.ref 0, .int (Int32.ofNat n)] I J R (some (.int (Int32.ofInt (-1)))) (k_txF I O n) J (am_u R 3 1 1) := by
  obtain ⟨k, rfl⟩ : ∃ k', k = k' + 1 := ⟨k - 1, by omega⟩
  refine ct_of (q := am_m109) (o := 11) (rt := (some .int)) (co := am_c109) (L := [_, _, _]) rfl rfl rfl rfl rfl rfl ?_
  refine w_iload_n rfl rfl rfl ?_
  refine w_if_lt (t := 12) (f := 4) rfl rfl rfl (fun c1 => absurd c1 (fun c => absurd ((am_ltN (y := 0) (by omega) (by omega)).mp c) (Nat.not_lt_zero n))) (fun c1 => ?_)
  refine w_iload_n rfl rfl rfl ?_
  refine w_aload_n rfl rfl rfl ?_
  refine w_gf (t := .int 0) (v := .int _) rfl rfl rfl sp0 rfl (congrArg Value.int h1) rfl ?_
  refine w_ic_leN (t := 15) (f := 12) rfl rfl rfl (by omega) (by omega) (fun c9 => ?_) (fun c9 => absurd c9 (by omega))
  refine w_aload_n rfl rfl rfl ?_
  refine w_iconst (x := Int32.ofNat 0) rfl rfl (by decide) ?_
  refine w_pf rfl rfl rfl sp0 rfl rfl rfl ?_
  refine w_aload_n rfl rfl rfl ?_
  refine w_gf (t := .ref (2)) (v := .ref (2)) rfl rfl rfl sp0 rfl rfl rfl ?_
  refine w_aload_n rfl rfl rfl ?_
  refine w_gf (t := .ref (1)) (v := .ref (1)) rfl rfl rfl sp0 rfl rfl rfl ?_
  refine w_iload_n rfl rfl rfl ?_
  refine w_cv (q := am_m76) (as := [_, _]) (rest := []) (st' := [_]) rfl rfl rfl rfl rfl rfl sp2 rfl rfl rfl rfl (d_readAll hO h2 (by omega) (thk_u (by omega) th) (by omega)) rfl rfl ?_
  refine w_istore_n (L' := [_, _, _]) rfl rfl rfl ?_
  refine w_aload_n rfl rfl rfl ?_
  refine w_aload_n rfl rfl rfl ?_
  refine w_gf (t := .ref (2)) (v := .ref (2)) rfl rfl rfl sp0 rfl rfl rfl ?_
  refine w_cv (q := am_m73) (as := []) (rest := [_]) (st' := [_, _]) rfl rfl rfl rfl rfl rfl sp2 rfl rfl rfl rfl (d_faultKind (by omega)) rfl rfl ?_
  refine w_pf rfl rfl rfl sp0 rfl rfl rfl ?_
  refine w_aload_n rfl rfl rfl ?_
  refine w_aload_n rfl rfl rfl ?_
  refine w_gf (t := .ref (2)) (v := .ref (2)) rfl rfl rfl sp0 rfl rfl rfl ?_
  refine w_cv (q := am_m74) (as := []) (rest := [_]) (st' := [_, _]) rfl rfl rfl rfl rfl rfl sp2 rfl rfl rfl rfl (d_faultPlace (by omega)) rfl rfl ?_
  refine w_pf rfl rfl rfl sp0 rfl rfl rfl ?_
  refine w_iload_n rfl rfl rfl ?_
  refine w_if_ne (t := 61) (f := 59) rfl rfl rfl (fun c56 => absurd c56 (not_not_intro h)) (fun c56 => ?_)
  refine w_iconst (x := Int32.ofInt (-1)) rfl rfl (by decide) ?_
  exact w_iret rfl rfl rfl rfl rfl
theorem d_text {k : Nat} {I : hI} {J : hJ} {R : hR} {T O : Nat} (hT : T = 9 ∨ T = 36) (h0 : R 0 3 = T) (hO : O = 9 ∨ O = 36) (h2 : R 2 2 = O) {n z : Nat} (hn : n ≤ z) (hz : z ≤ 700) (h1 : I 0 1 = Int32.ofNat z) (th : thk I O) (h : ¬ (k_txt (am_u I 0 1 (Int32.ofNat 0)) O n).1 = 0) {m : Nat} (hm : m ≤ 8) (h5 : k_txF I O n (O + 5) 1 = Int32.ofNat m) (hk : 8 ≤ k) : ct k 109 [.ref 0, .int (Int32.ofNat n)] I J R (some (.int (k_txO I O n m O 0))) (k_txO I O n m) (am_u J 63 1 (k_txF I O n O 17).toInt64) (am_u (am_u (am_u R 3 1 1) 2 2 T) 0 3 O) := by
  obtain ⟨k, rfl⟩ : ∃ k', k = k' + 1 := ⟨k - 1, by omega⟩
  refine ct_of (q := am_m109) (o := 11) (rt := (some .int)) (co := am_c109) (L := [_, _, _]) rfl rfl rfl rfl rfl rfl ?_
  refine w_iload_n rfl rfl rfl ?_
  refine w_if_lt (t := 12) (f := 4) rfl rfl rfl (fun c1 => absurd c1 (fun c => absurd ((am_ltN (y := 0) (by omega) (by omega)).mp c) (Nat.not_lt_zero n))) (fun c1 => ?_)
  refine w_iload_n rfl rfl rfl ?_
  refine w_aload_n rfl rfl rfl ?_
  refine w_gf (t := .int 0) (v := .int _) rfl rfl rfl sp0 rfl (congrArg Value.int h1) rfl ?_
  refine w_ic_leN (t := 15) (f := 12) rfl rfl rfl (by omega) (by omega) (fun c9 => ?_) (fun c9 => absurd c9 (by omega))
  refine w_aload_n rfl rfl rfl ?_
  refine w_iconst (x := Int32.ofNat 0) rfl rfl (by decide) ?_
  refine w_pf rfl rfl rfl sp0 rfl rfl rfl ?_
  refine w_aload_n rfl rfl rfl ?_
  refine w_gf (t := .ref (2)) (v := .ref (2)) rfl rfl rfl sp0 rfl rfl rfl ?_
  refine w_aload_n rfl rfl rfl ?_
  refine w_gf (t := .ref (1)) (v := .ref (1)) rfl rfl rfl sp0 rfl rfl rfl ?_
  refine w_iload_n rfl rfl rfl ?_
  refine w_cv (q := am_m76) (as := [_, _]) (rest := []) (st' := [_]) rfl rfl rfl rfl rfl rfl sp2 rfl rfl rfl rfl (d_readAll hO h2 (by omega) (thk_u (by omega) th) (by omega)) rfl rfl ?_
  refine w_istore_n (L' := [_, _, _]) rfl rfl rfl ?_
  refine w_aload_n rfl rfl rfl ?_
  refine w_aload_n rfl rfl rfl ?_
  refine w_gf (t := .ref (2)) (v := .ref (2)) rfl rfl rfl sp0 rfl rfl rfl ?_
  refine w_cv (q := am_m73) (as := []) (rest := [_]) (st' := [_, _]) rfl rfl rfl rfl rfl rfl sp2 rfl rfl rfl rfl (d_faultKind (by omega)) rfl rfl ?_
  refine w_pf rfl rfl rfl sp0 rfl rfl rfl ?_
  refine w_aload_n rfl rfl rfl ?_
  refine w_aload_n rfl rfl rfl ?_
  refine w_gf (t := .ref (2)) (v := .ref (2)) rfl rfl rfl sp0 rfl rfl rfl ?_
  refine w_cv (q := am_m74) (as := []) (rest := [_]) (st' := [_, _]) rfl rfl rfl rfl rfl rfl sp2 rfl rfl rfl rfl (d_faultPlace (by omega)) rfl rfl ?_
  refine w_pf rfl rfl rfl sp0 rfl rfl rfl ?_
  refine w_iload_n rfl rfl rfl ?_
  refine w_if_ne (t := 61) (f := 59) rfl rfl rfl (fun c56 => ?_) (fun c56 => absurd c56 h)
  refine w_aload_n rfl rfl rfl ?_
  refine w_aload_n rfl rfl rfl ?_
  refine w_gf (t := .ref (2)) (v := .ref (2)) rfl rfl rfl sp0 rfl rfl rfl ?_
  refine w_aload_n rfl rfl rfl ?_
  refine w_gf (t := .retAddr 0) (v := .ref (T)) rfl rfl rfl sp0 rfl (congrArg Value.ref ((am_u_na (by decide)).trans h0)) rfl ?_
  refine w_cv (q := am_m75) (as := [_]) (rest := [_]) (st' := [_, _]) rfl rfl rfl rfl rfl rfl sp2 rfl rfl rfl rfl (d_exchange hO hT ((am_u_na (by decide)).trans h2) (by omega)) rfl rfl ?_
  refine w_pfR rfl rfl rfl sp0 rfl rfl rfl ?_
  refine w_aload_n rfl rfl rfl ?_
  refine w_cv (q := am_m110) (as := []) (rest := []) (st' := []) rfl rfl rfl rfl rfl rfl sp0 rfl rfl rfl rfl (d_startAnew hO am_u_at hm h5 (by omega)) rfl rfl ?_
  refine w_aload_n rfl rfl rfl ?_
  refine w_gf (t := .retAddr 0) (v := .ref (O)) rfl rfl rfl sp0 rfl (congrArg Value.ref am_u_at) rfl ?_
  refine w_gf (t := .int 0) (v := .int _) rfl rfl rfl (shT_0 hO) rfl (congrArg Value.int rfl) rfl ?_
  exact w_iret rfl rfl rfl rfl rfl
theorem d_text_no {k : Nat} {I : hI} {J : hJ} {R : hR} {x : Int32} (hx : ¬ (¬ x < 0 ∧ ¬ I 0 1 < x)) (hk : 1 ≤ k) : ct k 109 [.ref 0, .int x] I J R (some (.int (Int32.ofInt (-2)))) I J R := by
  obtain ⟨k, rfl⟩ : ∃ k', k = k' + 1 := ⟨k - 1, by omega⟩
  refine ct_of (q := am_m109) (o := 11) (rt := (some .int)) (co := am_c109) (L := [_, _, _]) rfl rfl rfl rfl rfl rfl ?_
  refine w_iload_n rfl rfl rfl ?_
  refine w_if_lt (t := 12) (f := 4) rfl rfl rfl (fun c1 => ?_) (fun c1 => ?_)
  · refine w_bipush (x := Int32.ofInt (-2)) rfl rfl (by decide) ?_
    exact w_iret rfl rfl rfl rfl rfl
  · refine w_iload_n rfl rfl rfl ?_
    refine w_aload_n rfl rfl rfl ?_
    refine w_gf (t := .int 0) (v := .int _) rfl rfl rfl sp0 rfl (congrArg Value.int rfl) rfl ?_
    refine w_ic_le (t := 15) (f := 12) rfl rfl rfl (fun c9 => ?_) (fun c9 => ?_)
    · exact (hx ⟨c1, c9⟩).elim
    · refine w_bipush (x := Int32.ofInt (-2)) rfl rfl (by decide) ?_
      exact w_iret rfl rfl rfl rfl rfl
def k_ER : Int64 := -9223372036854775808
theorem d_isMakerE {k : Nat} {I : hI} {J : hJ} {R : hR} {T : Nat} (hT : T = 9 ∨ T = 36) (h0 : R 0 3 = T) {x y : Int32} (e : I (T + 1) 1 = y) (hk : 1 ≤ k) : ct k 160 [.ref 0, .int x] I J R (some (.int (if ¬ x < 0 ∧ x < y then 1 else 0))) I J R := by
  subst e; exact d_isMaker hT h0 hk
theorem d_isRopeE {k : Nat} {I : hI} {J : hJ} {R : hR} {T : Nat} (hT : T = 9 ∨ T = 36) (h0 : R 0 3 = T) {x y : Int32} (e : I (T + 5) 1 = y) (hk : 1 ≤ k) : ct k 161 [.ref 0, .int x] I J R (some (.int (if ¬ x < 0 ∧ x < y then 1 else 0))) I J R := by
  subst e; exact d_isRope hT h0 hk
theorem d_isShipE {k : Nat} {I : hI} {J : hJ} {R : hR} {T : Nat} (hT : T = 9 ∨ T = 36) (h0 : R 0 3 = T) {x y : Int32} (e : I (T + 11) 1 = y) (hk : 1 ≤ k) : ct k 162 [.ref 0, .int x] I J R (some (.int (if ¬ x < 0 ∧ x < y then 1 else 0))) I J R := by
  subst e; exact d_isShip hT h0 hk
theorem d_law0 {k : Nat} {I : hI} {J : hJ} {R : hR} {T : Nat} (hT : T = 9 ∨ T = 36) (h0 : R 0 3 = T) {N : Nat → Nat} (t : ctk I T N) {r : Nat} (hr : r < N 1) (hk : 4 ≤ k) : ct k 116 [.ref 0, .int (Int32.ofNat 0), .int (Int32.ofNat r)] I J R (some (.long (k_tw (k_db I T (Int32.ofNat 1)) J T 63 r (N 4)).1)) ((k_db I T (Int32.ofNat 1))) ((k_tw (k_db I T (Int32.ofNat 1)) J T 63 r (N 4)).2) (am_u R 84 3 T) := by
  obtain ⟨k, rfl⟩ : ∃ k', k = k' + 1 := ⟨k - 1, by omega⟩
  obtain ⟨⟨l1, l2, l3⟩, ⟨e5, e11, e3⟩, rM, tH, sM, ⟨e18, l18⟩, ⟨e21, l21⟩, ⟨e24, l24⟩⟩ := id t
  have t1 : ctk (k_db I T (Int32.ofNat 1)) T N := ctk_F hT cF_db t
  obtain ⟨_, ⟨f5, f11, f3⟩, gM, gH, gS, ⟨f18, _⟩, ⟨f21, _⟩, ⟨f24, _⟩⟩ := id t1
  refine ct_of (q := am_m116) (o := 11) (rt := (some .long)) (co := am_c116) (L := [_, _, _]) rfl rfl rfl rfl rfl rfl ?_
  refine w_aload_n rfl rfl rfl ?_
  refine w_gf (t := .ref (84)) (v := .ref (84)) rfl rfl rfl sp0 rfl rfl rfl ?_
  refine w_aload_n rfl rfl rfl ?_
  refine w_gf (t := .retAddr 0) (v := .ref (T)) rfl rfl rfl sp0 rfl (congrArg Value.ref (by first | exact h0 | exact (am_u_na (by decide)).trans h0)) rfl ?_
  refine w_iconst (x := Int32.ofNat 1) rfl rfl (by decide) ?_
  refine w_cv (q := am_m13) (as := [_, _]) (rest := []) (st' := []) rfl rfl rfl rfl rfl rfl sp84 rfl rfl rfl rfl (d_dbegin hT (by omega)) rfl rfl ?_
  refine w_iload_n rfl rfl rfl ?_
  refine w_ts (lo := 0) (hi := 2) (d := 135) rfl rfl (by decide) (fun sw => ?_) (fun n h1 h2 sw => ?_)
  · exact absurd rfl (sw 0 (by decide) (by decide))
  · have h3 : n = 0 ∨ n = 1 ∨ n = 2 := by omega
    rcases h3 with rfl | rfl | rfl
    · refine ⟨40, rfl, ?_⟩
      refine w_aload_n rfl rfl rfl ?_
      refine w_iload_n rfl rfl rfl ?_
      refine w_cv (q := am_m161) (as := [_]) (rest := []) (st' := [_]) rfl rfl rfl rfl rfl rfl sp0 rfl rfl rfl rfl (d_isRopeE hT ((am_u_na (by decide)).trans h0) (cF_db _ _ (by omega) (by omega)) (by omega)) rfl rfl ?_
      refine w_if_eqB (t := 63) (f := 48) rfl rfl rfl (fun c45 => absurd c45 (k_isok hr (by omega) e5)) (fun c45 => ?_)
      refine w_aload_n rfl rfl rfl ?_
      refine w_gf (t := .ref (84)) (v := .ref (84)) rfl rfl rfl sp0 rfl rfl rfl ?_
      refine w_aload_n rfl rfl rfl ?_
      refine w_gf (t := .ref (63)) (v := .ref (63)) rfl rfl rfl sp0 rfl rfl rfl ?_
      refine w_iload_n rfl rfl rfl ?_
      refine w_cv (q := am_m25) (as := [_, _]) (rest := []) (st' := [_]) rfl rfl rfl rfl rfl rfl sp84 rfl rfl rfl rfl (d_twist hT am_u_at (Or.inl rfl) (by omega) (gM _ hr) l18 f18 (by omega)) rfl rfl ?_
      refine w_goto (pc' := 66) rfl rfl ?_
      exact w_lret rfl rfl rfl rfl rfl
    · refine ⟨67, rfl, ?_⟩
      exact absurd sw (by decide)
    · refine ⟨101, rfl, ?_⟩
      exact absurd sw (by decide)
theorem d_law1 {k : Nat} {I : hI} {J : hJ} {R : hR} {T : Nat} (hT : T = 9 ∨ T = 36) (h0 : R 0 3 = T) {N : Nat → Nat} (t : ctk I T N) {r : Nat} (hr : r < N 1) (hk : 4 ≤ k) : ct k 116 [.ref 0, .int (Int32.ofNat 1), .int (Int32.ofNat r)] I J R (some (.long (k_we (k_db I T (Int32.ofNat 1)) J T 63 r (N 5) ((k_db I T (Int32.ofNat 1)) 84 5)).1)) ((k_db I T (Int32.ofNat 1))) ((k_we (k_db I T (Int32.ofNat 1)) J T 63 r (N 5) ((k_db I T (Int32.ofNat 1)) 84 5)).2) (am_u R 84 3 T) := by
  obtain ⟨k, rfl⟩ : ∃ k', k = k' + 1 := ⟨k - 1, by omega⟩
  obtain ⟨⟨l1, l2, l3⟩, ⟨e5, e11, e3⟩, rM, tH, sM, ⟨e18, l18⟩, ⟨e21, l21⟩, ⟨e24, l24⟩⟩ := id t
  have t1 : ctk (k_db I T (Int32.ofNat 1)) T N := ctk_F hT cF_db t
  obtain ⟨_, ⟨f5, f11, f3⟩, gM, gH, gS, ⟨f18, _⟩, ⟨f21, _⟩, ⟨f24, _⟩⟩ := id t1
  refine ct_of (q := am_m116) (o := 11) (rt := (some .long)) (co := am_c116) (L := [_, _, _]) rfl rfl rfl rfl rfl rfl ?_
  refine w_aload_n rfl rfl rfl ?_
  refine w_gf (t := .ref (84)) (v := .ref (84)) rfl rfl rfl sp0 rfl rfl rfl ?_
  refine w_aload_n rfl rfl rfl ?_
  refine w_gf (t := .retAddr 0) (v := .ref (T)) rfl rfl rfl sp0 rfl (congrArg Value.ref (by first | exact h0 | exact (am_u_na (by decide)).trans h0)) rfl ?_
  refine w_iconst (x := Int32.ofNat 1) rfl rfl (by decide) ?_
  refine w_cv (q := am_m13) (as := [_, _]) (rest := []) (st' := []) rfl rfl rfl rfl rfl rfl sp84 rfl rfl rfl rfl (d_dbegin hT (by omega)) rfl rfl ?_
  refine w_iload_n rfl rfl rfl ?_
  refine w_ts (lo := 0) (hi := 2) (d := 135) rfl rfl (by decide) (fun sw => ?_) (fun n h1 h2 sw => ?_)
  · exact absurd rfl (sw 1 (by decide) (by decide))
  · have h3 : n = 0 ∨ n = 1 ∨ n = 2 := by omega
    rcases h3 with rfl | rfl | rfl
    · refine ⟨40, rfl, ?_⟩
      exact absurd sw (by decide)
    · refine ⟨67, rfl, ?_⟩
      refine w_aload_n rfl rfl rfl ?_
      refine w_iload_n rfl rfl rfl ?_
      refine w_cv (q := am_m161) (as := [_]) (rest := []) (st' := [_]) rfl rfl rfl rfl rfl rfl sp0 rfl rfl rfl rfl (d_isRopeE hT ((am_u_na (by decide)).trans h0) (cF_db _ _ (by omega) (by omega)) (by omega)) rfl rfl ?_
      refine w_if_eqB (t := 97) (f := 75) rfl rfl rfl (fun c72 => absurd c72 (k_isok hr (by omega) e5)) (fun c72 => ?_)
      refine w_aload_n rfl rfl rfl ?_
      refine w_gf (t := .ref (84)) (v := .ref (84)) rfl rfl rfl sp0 rfl rfl rfl ?_
      refine w_aload_n rfl rfl rfl ?_
      refine w_gf (t := .ref (63)) (v := .ref (63)) rfl rfl rfl sp0 rfl rfl rfl ?_
      refine w_iload_n rfl rfl rfl ?_
      refine w_aload_n rfl rfl rfl ?_
      refine w_gf (t := .ref (84)) (v := .ref (84)) rfl rfl rfl sp0 rfl rfl rfl ?_
      refine w_gf (t := .int 0) (v := .int _) rfl rfl rfl sp84 rfl (congrArg Value.int rfl) rfl ?_
      refine w_cv (q := am_m26) (as := [_, _, _]) (rest := []) (st' := [_]) rfl rfl rfl rfl rfl rfl sp84 rfl rfl rfl rfl (d_wear hT am_u_at (Or.inl rfl) (by omega) (gM _ hr) l21 f21 (by omega)) rfl rfl ?_
      refine w_goto (pc' := 100) rfl rfl ?_
      exact w_lret rfl rfl rfl rfl rfl
    · refine ⟨101, rfl, ?_⟩
      exact absurd sw (by decide)
theorem d_law2 {k : Nat} {I : hI} {J : hJ} {R : hR} {T : Nat} (hT : T = 9 ∨ T = 36) (h0 : R 0 3 = T) {N : Nat → Nat} (t : ctk I T N) {s : Nat} (hs : s < N 2) (hk : 4 ≤ k) : ct k 116 [.ref 0, .int (Int32.ofNat 2), .int (Int32.ofNat s)] I J R (some (.long (k_pu (k_db I T (Int32.ofNat 1)) J T 63 s (N 1) (N 6) ((k_db I T (Int32.ofNat 1)) 84 5)).1)) (k_puI (k_db I T (Int32.ofNat 1)) T 63 s (N 1)) ((k_pu (k_db I T (Int32.ofNat 1)) J T 63 s (N 1) (N 6) ((k_db I T (Int32.ofNat 1)) 84 5)).2) (am_u R 84 3 T) := by
  obtain ⟨k, rfl⟩ : ∃ k', k = k' + 1 := ⟨k - 1, by omega⟩
  obtain ⟨⟨l1, l2, l3⟩, ⟨e5, e11, e3⟩, rM, tH, sM, ⟨e18, l18⟩, ⟨e21, l21⟩, ⟨e24, l24⟩⟩ := id t
  have t1 : ctk (k_db I T (Int32.ofNat 1)) T N := ctk_F hT cF_db t
  obtain ⟨_, ⟨f5, f11, f3⟩, gM, gH, gS, ⟨f18, _⟩, ⟨f21, _⟩, ⟨f24, _⟩⟩ := id t1
  refine ct_of (q := am_m116) (o := 11) (rt := (some .long)) (co := am_c116) (L := [_, _, _]) rfl rfl rfl rfl rfl rfl ?_
  refine w_aload_n rfl rfl rfl ?_
  refine w_gf (t := .ref (84)) (v := .ref (84)) rfl rfl rfl sp0 rfl rfl rfl ?_
  refine w_aload_n rfl rfl rfl ?_
  refine w_gf (t := .retAddr 0) (v := .ref (T)) rfl rfl rfl sp0 rfl (congrArg Value.ref (by first | exact h0 | exact (am_u_na (by decide)).trans h0)) rfl ?_
  refine w_iconst (x := Int32.ofNat 1) rfl rfl (by decide) ?_
  refine w_cv (q := am_m13) (as := [_, _]) (rest := []) (st' := []) rfl rfl rfl rfl rfl rfl sp84 rfl rfl rfl rfl (d_dbegin hT (by omega)) rfl rfl ?_
  refine w_iload_n rfl rfl rfl ?_
  refine w_ts (lo := 0) (hi := 2) (d := 135) rfl rfl (by decide) (fun sw => ?_) (fun n h1 h2 sw => ?_)
  · exact absurd rfl (sw 2 (by decide) (by decide))
  · have h3 : n = 0 ∨ n = 1 ∨ n = 2 := by omega
    rcases h3 with rfl | rfl | rfl
    · refine ⟨40, rfl, ?_⟩
      exact absurd sw (by decide)
    · refine ⟨67, rfl, ?_⟩
      exact absurd sw (by decide)
    · refine ⟨101, rfl, ?_⟩
      refine w_aload_n rfl rfl rfl ?_
      refine w_iload_n rfl rfl rfl ?_
      refine w_cv (q := am_m162) (as := [_]) (rest := []) (st' := [_]) rfl rfl rfl rfl rfl rfl sp0 rfl rfl rfl rfl (d_isShipE hT ((am_u_na (by decide)).trans h0) (cF_db _ _ (by omega) (by omega)) (by omega)) rfl rfl ?_
      refine w_if_eqB (t := 131) (f := 109) rfl rfl rfl (fun c106 => absurd c106 (k_isok hs (by omega) e11)) (fun c106 => ?_)
      refine w_aload_n rfl rfl rfl ?_
      refine w_gf (t := .ref (84)) (v := .ref (84)) rfl rfl rfl sp0 rfl rfl rfl ?_
      refine w_aload_n rfl rfl rfl ?_
      refine w_gf (t := .ref (63)) (v := .ref (63)) rfl rfl rfl sp0 rfl rfl rfl ?_
      refine w_iload_n rfl rfl rfl ?_
      refine w_aload_n rfl rfl rfl ?_
      refine w_gf (t := .ref (84)) (v := .ref (84)) rfl rfl rfl sp0 rfl rfl rfl ?_
      refine w_gf (t := .int 0) (v := .int _) rfl rfl rfl sp84 rfl (congrArg Value.int rfl) rfl ?_
      refine w_cv (q := am_m28) (as := [_, _, _]) (rest := []) (st' := [_]) rfl rfl rfl rfl rfl rfl sp84 rfl rfl rfl rfl (d_pull hT am_u_at (Or.inl rfl) (by omega) l1 f5 gM gH l24 f24 (by omega)) rfl rfl ?_
      refine w_goto (pc' := 134) rfl rfl ?_
      exact w_lret rfl rfl rfl rfl rfl
theorem d_law_no {k : Nat} {I : hI} {J : hJ} {R : hR} {T : Nat} (hT : T = 9 ∨ T = 36) (h0 : R 0 3 = T) {w x : Int32} (hx : ¬ (((w = Int32.ofNat 0 ∨ w = Int32.ofNat 1) ∧ (¬ x < 0 ∧ x < I (T + 5) 1)) ∨ (w = Int32.ofNat 2 ∧ (¬ x < 0 ∧ x < I (T + 11) 1)))) (hk : 4 ≤ k) : ct k 116 [.ref 0, .int w, .int x] I J R (some (.long (-9223372036854775808))) ((k_db I T (Int32.ofNat 1))) J (am_u R 84 3 T) := by
  obtain ⟨k, rfl⟩ : ∃ k', k = k' + 1 := ⟨k - 1, by omega⟩
  refine ct_of (q := am_m116) (o := 11) (rt := (some .long)) (co := am_c116) (L := [_, _, _]) rfl rfl rfl rfl rfl rfl ?_
  refine w_aload_n rfl rfl rfl ?_
  refine w_gf (t := .ref (84)) (v := .ref (84)) rfl rfl rfl sp0 rfl rfl rfl ?_
  refine w_aload_n rfl rfl rfl ?_
  refine w_gf (t := .retAddr 0) (v := .ref (T)) rfl rfl rfl sp0 rfl (congrArg Value.ref (by first | exact h0 | exact (am_u_na (by decide)).trans h0)) rfl ?_
  refine w_iconst (x := Int32.ofNat 1) rfl rfl (by decide) ?_
  refine w_cv (q := am_m13) (as := [_, _]) (rest := []) (st' := []) rfl rfl rfl rfl rfl rfl sp84 rfl rfl rfl rfl (d_dbegin hT (by omega)) rfl rfl ?_
  refine w_iload_n rfl rfl rfl ?_
  refine w_ts (lo := 0) (hi := 2) (d := 135) rfl rfl (by decide) (fun sw => ?_) (fun n h1 h2 sw => ?_)
  · refine w_ldc2_w rfl rfl rfl ?_
    exact w_lret rfl rfl rfl rfl rfl
  · have h3 : n = 0 ∨ n = 1 ∨ n = 2 := by omega
    rcases h3 with rfl | rfl | rfl
    · refine ⟨40, rfl, ?_⟩
      refine w_aload_n rfl rfl rfl ?_
      refine w_iload_n rfl rfl rfl ?_
      refine w_cv (q := am_m161) (as := [_]) (rest := []) (st' := [_]) rfl rfl rfl rfl rfl rfl sp0 rfl rfl rfl rfl (d_isRopeE hT ((am_u_na (by decide)).trans h0) (cF_db _ _ (by omega) (by omega)) (by omega)) rfl rfl ?_
      refine w_if_eqB (t := 63) (f := 48) rfl rfl rfl (fun c45 => ?_) (fun c45 => ?_)
      · refine w_ldc2_w rfl rfl rfl ?_
        exact w_lret rfl rfl rfl rfl rfl
      · exact absurd (Or.inl ⟨Or.inl sw, c45⟩) hx
    · refine ⟨67, rfl, ?_⟩
      refine w_aload_n rfl rfl rfl ?_
      refine w_iload_n rfl rfl rfl ?_
      refine w_cv (q := am_m161) (as := [_]) (rest := []) (st' := [_]) rfl rfl rfl rfl rfl rfl sp0 rfl rfl rfl rfl (d_isRopeE hT ((am_u_na (by decide)).trans h0) (cF_db _ _ (by omega) (by omega)) (by omega)) rfl rfl ?_
      refine w_if_eqB (t := 97) (f := 75) rfl rfl rfl (fun c72 => ?_) (fun c72 => ?_)
      · refine w_ldc2_w rfl rfl rfl ?_
        exact w_lret rfl rfl rfl rfl rfl
      · exact absurd (Or.inl ⟨Or.inr sw, c72⟩) hx
    · refine ⟨101, rfl, ?_⟩
      refine w_aload_n rfl rfl rfl ?_
      refine w_iload_n rfl rfl rfl ?_
      refine w_cv (q := am_m162) (as := [_]) (rest := []) (st' := [_]) rfl rfl rfl rfl rfl rfl sp0 rfl rfl rfl rfl (d_isShipE hT ((am_u_na (by decide)).trans h0) (cF_db _ _ (by omega) (by omega)) (by omega)) rfl rfl ?_
      refine w_if_eqB (t := 131) (f := 109) rfl rfl rfl (fun c106 => ?_) (fun c106 => ?_)
      · refine w_ldc2_w rfl rfl rfl ?_
        exact w_lret rfl rfl rfl rfl rfl
      · exact absurd (Or.inr ⟨sw, c106⟩) hx
abbrev k_rgOK (I : hI) (r s : Nat) : Prop := (I 64 r = 0 ∨ I 64 r = Int32.ofNat 1) ∧ I 66 r = Int32.ofInt (-1) ∧ I 67 s = 0
def k_rig (I : hI) (u r s : Nat) : hI := am_u (k_nr I 63 u r) 66 r (Int32.ofNat s)
theorem d_rig {k : Nat} {I : hI} {J : hJ} {R : hR} {T : Nat} (hT : T = 9 ∨ T = 36) (h0 : R 0 3 = T) {N : Nat → Nat} (t : ctk I T N) {r : Nat} (hr : r < N 1) {s : Nat} (hs : s < N 2) {u : Nat} (hu : u ≤ 20) (h96 : I 96 0 = Int32.ofNat u) (hP : k_rgOK I r s) (hk : 3 ≤ k) : ct k 117 [.ref 0, .int (Int32.ofNat r), .int (Int32.ofNat s)] I J R (some (.int (k_bear (k_rig I u r s) 63 (Int32.ofNat s) 8))) (k_rig I u r s) J R := by
  obtain ⟨k, rfl⟩ : ∃ k', k = k' + 1 := ⟨k - 1, by omega⟩
  obtain ⟨⟨l1, l2, l3⟩, ⟨e5, e11, e3⟩, rM, tH, sM, ⟨e18, l18⟩, ⟨e21, l21⟩, ⟨e24, l24⟩⟩ := id t
  refine ct_of (q := am_m117) (o := 11) (rt := (some .int)) (co := am_c117) (L := [_, _, _, _]) rfl rfl rfl rfl rfl rfl ?_
  refine w_aload_n rfl rfl rfl ?_
  refine w_iload_n rfl rfl rfl ?_
  refine w_cv (q := am_m161) (as := [_]) (rest := []) (st' := [_]) rfl rfl rfl rfl rfl rfl sp0 rfl rfl rfl rfl (d_isRope hT h0 (by omega)) rfl rfl ?_
  refine w_if_eqB (t := 16) (f := 8) rfl rfl rfl (fun c5 => absurd c5 (k_isok hr (by omega) e5)) (fun c5 => ?_)
  refine w_aload_n rfl rfl rfl ?_
  refine w_iload_n rfl rfl rfl ?_
  refine w_cv (q := am_m162) (as := [_]) (rest := []) (st' := [_]) rfl rfl rfl rfl rfl rfl sp0 rfl rfl rfl rfl (d_isShip hT h0 (by omega)) rfl rfl ?_
  refine w_if_neB (t := 18) (f := 16) rfl rfl rfl (fun c13 => ?_) (fun c13 => absurd c13 (k_isok hs (by omega) e11))
  refine w_aload_n rfl rfl rfl ?_
  refine w_gf (t := .ref (63)) (v := .ref (63)) rfl rfl rfl sp0 rfl rfl rfl ?_
  refine w_gf (t := .ref (64)) (v := .ref (64)) rfl rfl rfl sp63 rfl rfl rfl ?_
  refine w_iload_n rfl rfl rfl ?_
  refine w_iaload rfl rfl sp64 rfl ⟨by omega, by omega⟩ rfl ?_
  refine w_if_eq (t := 43) (f := 30) rfl rfl rfl (fun c27 => ?_) (fun c27 => ?_)
  · refine w_iconst (x := Int32.ofNat 1) rfl rfl (by decide) ?_
    refine w_goto (pc' := 48) rfl rfl ?_
    refine w_istore_n (L' := [_, _, _, _]) rfl rfl rfl ?_
    refine w_iload_n rfl rfl rfl ?_
    refine w_if_eq (t := 78) (f := 53) rfl rfl rfl (fun c50 => absurd c50 (by decide)) (fun c50 => ?_)
    clear c50
    refine w_aload_n rfl rfl rfl ?_
    refine w_gf (t := .ref (63)) (v := .ref (63)) rfl rfl rfl sp0 rfl rfl rfl ?_
    refine w_gf (t := .ref (66)) (v := .ref (66)) rfl rfl rfl sp63 rfl rfl rfl ?_
    refine w_iload_n rfl rfl rfl ?_
    refine w_iaload rfl rfl sp66 rfl ⟨by omega, by omega⟩ rfl ?_
    refine w_iconst (x := Int32.ofInt (-1)) rfl rfl (by decide) ?_
    refine w_ic_ne (t := 78) (f := 66) rfl rfl rfl (fun c63 => absurd c63 (not_not_intro hP.2.1)) (fun c63 => ?_)
    refine w_aload_n rfl rfl rfl ?_
    refine w_gf (t := .ref (63)) (v := .ref (63)) rfl rfl rfl sp0 rfl rfl rfl ?_
    refine w_gf (t := .ref (67)) (v := .ref (67)) rfl rfl rfl sp63 rfl rfl rfl ?_
    refine w_iload_n rfl rfl rfl ?_
    refine w_iaload rfl rfl sp67 rfl ⟨by omega, by omega⟩ rfl ?_
    refine w_if_eq (t := 81) (f := 78) rfl rfl rfl (fun c75 => ?_) (fun c75 => absurd c75 (not_not_intro hP.2.2))
    refine w_aload_n rfl rfl rfl ?_
    refine w_gf (t := .ref (96)) (v := .ref (96)) rfl rfl rfl sp0 rfl rfl rfl ?_
    refine w_aload_n rfl rfl rfl ?_
    refine w_gf (t := .ref (63)) (v := .ref (63)) rfl rfl rfl sp0 rfl rfl rfl ?_
    refine w_iload_n rfl rfl rfl ?_
    refine w_cv (q := am_m8) (as := [_, _]) (rest := []) (st' := []) rfl rfl rfl rfl rfl rfl sp96 rfl rfl rfl rfl (d_noteRope (Or.inl rfl) (by omega) hu h96 (by omega)) rfl rfl ?_
    refine w_aload_n rfl rfl rfl ?_
    refine w_gf (t := .ref (63)) (v := .ref (63)) rfl rfl rfl sp0 rfl rfl rfl ?_
    refine w_gf (t := .ref (66)) (v := .ref (66)) rfl rfl rfl sp63 rfl rfl rfl ?_
    refine w_iload_n rfl rfl rfl ?_
    refine w_iload_n rfl rfl rfl ?_
    refine w_iastore rfl rfl sp66 rfl ⟨by omega, by omega⟩ ?_
    refine w_aload_n rfl rfl rfl ?_
    refine w_gf (t := .ref (63)) (v := .ref (63)) rfl rfl rfl sp0 rfl rfl rfl ?_
    refine w_iload_n rfl rfl rfl ?_
    refine w_cv (q := am_m66) (as := [_]) (rest := []) (st' := [_]) rfl rfl rfl rfl rfl rfl sp63 rfl rfl rfl rfl (d_bear (Or.inl rfl) (by omega)) rfl rfl ?_
    exact w_iret rfl rfl rfl rfl rfl
  · refine w_aload_n rfl rfl rfl ?_
    refine w_gf (t := .ref (63)) (v := .ref (63)) rfl rfl rfl sp0 rfl rfl rfl ?_
    refine w_gf (t := .ref (64)) (v := .ref (64)) rfl rfl rfl sp63 rfl rfl rfl ?_
    refine w_iload_n rfl rfl rfl ?_
    refine w_iaload rfl rfl sp64 rfl ⟨by omega, by omega⟩ rfl ?_
    refine w_iconst (x := Int32.ofNat 1) rfl rfl (by decide) ?_
    refine w_ic_ne (t := 47) (f := 43) rfl rfl rfl (fun c40 => absurd c40 (not_not_intro (hP.1.resolve_left c27))) (fun c40 => ?_)
    refine w_iconst (x := Int32.ofNat 1) rfl rfl (by decide) ?_
    refine w_goto (pc' := 48) rfl rfl ?_
    refine w_istore_n (L' := [_, _, _, _]) rfl rfl rfl ?_
    refine w_iload_n rfl rfl rfl ?_
    refine w_if_eq (t := 78) (f := 53) rfl rfl rfl (fun c50 => absurd c50 (by decide)) (fun c50 => ?_)
    clear c50
    refine w_aload_n rfl rfl rfl ?_
    refine w_gf (t := .ref (63)) (v := .ref (63)) rfl rfl rfl sp0 rfl rfl rfl ?_
    refine w_gf (t := .ref (66)) (v := .ref (66)) rfl rfl rfl sp63 rfl rfl rfl ?_
    refine w_iload_n rfl rfl rfl ?_
    refine w_iaload rfl rfl sp66 rfl ⟨by omega, by omega⟩ rfl ?_
    refine w_iconst (x := Int32.ofInt (-1)) rfl rfl (by decide) ?_
    refine w_ic_ne (t := 78) (f := 66) rfl rfl rfl (fun c63 => absurd c63 (not_not_intro hP.2.1)) (fun c63 => ?_)
    refine w_aload_n rfl rfl rfl ?_
    refine w_gf (t := .ref (63)) (v := .ref (63)) rfl rfl rfl sp0 rfl rfl rfl ?_
    refine w_gf (t := .ref (67)) (v := .ref (67)) rfl rfl rfl sp63 rfl rfl rfl ?_
    refine w_iload_n rfl rfl rfl ?_
    refine w_iaload rfl rfl sp67 rfl ⟨by omega, by omega⟩ rfl ?_
    refine w_if_eq (t := 81) (f := 78) rfl rfl rfl (fun c75 => ?_) (fun c75 => absurd c75 (not_not_intro hP.2.2))
    refine w_aload_n rfl rfl rfl ?_
    refine w_gf (t := .ref (96)) (v := .ref (96)) rfl rfl rfl sp0 rfl rfl rfl ?_
    refine w_aload_n rfl rfl rfl ?_
    refine w_gf (t := .ref (63)) (v := .ref (63)) rfl rfl rfl sp0 rfl rfl rfl ?_
    refine w_iload_n rfl rfl rfl ?_
    refine w_cv (q := am_m8) (as := [_, _]) (rest := []) (st' := []) rfl rfl rfl rfl rfl rfl sp96 rfl rfl rfl rfl (d_noteRope (Or.inl rfl) (by omega) hu h96 (by omega)) rfl rfl ?_
    refine w_aload_n rfl rfl rfl ?_
    refine w_gf (t := .ref (63)) (v := .ref (63)) rfl rfl rfl sp0 rfl rfl rfl ?_
    refine w_gf (t := .ref (66)) (v := .ref (66)) rfl rfl rfl sp63 rfl rfl rfl ?_
    refine w_iload_n rfl rfl rfl ?_
    refine w_iload_n rfl rfl rfl ?_
    refine w_iastore rfl rfl sp66 rfl ⟨by omega, by omega⟩ ?_
    refine w_aload_n rfl rfl rfl ?_
    refine w_gf (t := .ref (63)) (v := .ref (63)) rfl rfl rfl sp0 rfl rfl rfl ?_
    refine w_iload_n rfl rfl rfl ?_
    refine w_cv (q := am_m66) (as := [_]) (rest := []) (st' := [_]) rfl rfl rfl rfl rfl rfl sp63 rfl rfl rfl rfl (d_bear (Or.inl rfl) (by omega)) rfl rfl ?_
    exact w_iret rfl rfl rfl rfl rfl
theorem d_rig_can {k : Nat} {I : hI} {J : hJ} {R : hR} {T : Nat} (hT : T = 9 ∨ T = 36) (h0 : R 0 3 = T) {N : Nat → Nat} (t : ctk I T N) {r : Nat} (hr : r < N 1) {s : Nat} (hs : s < N 2) (hP : ¬ k_rgOK I r s) (hk : 3 ≤ k) : ct k 117 [.ref 0, .int (Int32.ofNat r), .int (Int32.ofNat s)] I J R (some (.int (Int32.ofInt (-2)))) I J R := by
  obtain ⟨k, rfl⟩ : ∃ k', k = k' + 1 := ⟨k - 1, by omega⟩
  obtain ⟨⟨l1, l2, l3⟩, ⟨e5, e11, e3⟩, rM, tH, sM, ⟨e18, l18⟩, ⟨e21, l21⟩, ⟨e24, l24⟩⟩ := id t
  refine ct_of (q := am_m117) (o := 11) (rt := (some .int)) (co := am_c117) (L := [_, _, _, _]) rfl rfl rfl rfl rfl rfl ?_
  refine w_aload_n rfl rfl rfl ?_
  refine w_iload_n rfl rfl rfl ?_
  refine w_cv (q := am_m161) (as := [_]) (rest := []) (st' := [_]) rfl rfl rfl rfl rfl rfl sp0 rfl rfl rfl rfl (d_isRope hT h0 (by omega)) rfl rfl ?_
  refine w_if_eqB (t := 16) (f := 8) rfl rfl rfl (fun c5 => absurd c5 (k_isok hr (by omega) e5)) (fun c5 => ?_)
  refine w_aload_n rfl rfl rfl ?_
  refine w_iload_n rfl rfl rfl ?_
  refine w_cv (q := am_m162) (as := [_]) (rest := []) (st' := [_]) rfl rfl rfl rfl rfl rfl sp0 rfl rfl rfl rfl (d_isShip hT h0 (by omega)) rfl rfl ?_
  refine w_if_neB (t := 18) (f := 16) rfl rfl rfl (fun c13 => ?_) (fun c13 => absurd c13 (k_isok hs (by omega) e11))
  refine w_aload_n rfl rfl rfl ?_
  refine w_gf (t := .ref (63)) (v := .ref (63)) rfl rfl rfl sp0 rfl rfl rfl ?_
  refine w_gf (t := .ref (64)) (v := .ref (64)) rfl rfl rfl sp63 rfl rfl rfl ?_
  refine w_iload_n rfl rfl rfl ?_
  refine w_iaload rfl rfl sp64 rfl ⟨by omega, by omega⟩ rfl ?_
  refine w_if_eq (t := 43) (f := 30) rfl rfl rfl (fun c27 => ?_) (fun c27 => ?_)
  · refine w_iconst (x := Int32.ofNat 1) rfl rfl (by decide) ?_
    refine w_goto (pc' := 48) rfl rfl ?_
    refine w_istore_n (L' := [_, _, _, _]) rfl rfl rfl ?_
    refine w_iload_n rfl rfl rfl ?_
    refine w_if_eq (t := 78) (f := 53) rfl rfl rfl (fun c50 => absurd c50 (by decide)) (fun c50 => ?_)
    clear c50
    refine w_aload_n rfl rfl rfl ?_
    refine w_gf (t := .ref (63)) (v := .ref (63)) rfl rfl rfl sp0 rfl rfl rfl ?_
    refine w_gf (t := .ref (66)) (v := .ref (66)) rfl rfl rfl sp63 rfl rfl rfl ?_
    refine w_iload_n rfl rfl rfl ?_
    refine w_iaload rfl rfl sp66 rfl ⟨by omega, by omega⟩ rfl ?_
    refine w_iconst (x := Int32.ofInt (-1)) rfl rfl (by decide) ?_
    refine w_ic_ne (t := 78) (f := 66) rfl rfl rfl (fun c63 => ?_) (fun c63 => ?_)
    · refine w_bipush (x := Int32.ofInt (-2)) rfl rfl (by decide) ?_
      exact w_iret rfl rfl rfl rfl rfl
    · refine w_aload_n rfl rfl rfl ?_
      refine w_gf (t := .ref (63)) (v := .ref (63)) rfl rfl rfl sp0 rfl rfl rfl ?_
      refine w_gf (t := .ref (67)) (v := .ref (67)) rfl rfl rfl sp63 rfl rfl rfl ?_
      refine w_iload_n rfl rfl rfl ?_
      refine w_iaload rfl rfl sp67 rfl ⟨by omega, by omega⟩ rfl ?_
      refine w_if_eq (t := 81) (f := 78) rfl rfl rfl (fun c75 => ?_) (fun c75 => ?_)
      · exact absurd ⟨by first | exact Or.inl c27 | exact Or.inr c40, c63, c75⟩ hP
      · refine w_bipush (x := Int32.ofInt (-2)) rfl rfl (by decide) ?_
        exact w_iret rfl rfl rfl rfl rfl
  · refine w_aload_n rfl rfl rfl ?_
    refine w_gf (t := .ref (63)) (v := .ref (63)) rfl rfl rfl sp0 rfl rfl rfl ?_
    refine w_gf (t := .ref (64)) (v := .ref (64)) rfl rfl rfl sp63 rfl rfl rfl ?_
    refine w_iload_n rfl rfl rfl ?_
    refine w_iaload rfl rfl sp64 rfl ⟨by omega, by omega⟩ rfl ?_
    refine w_iconst (x := Int32.ofNat 1) rfl rfl (by decide) ?_
    refine w_ic_ne (t := 47) (f := 43) rfl rfl rfl (fun c40 => ?_) (fun c40 => ?_)
    · refine w_iconst (x := Int32.ofNat 0) rfl rfl (by decide) ?_
      refine w_istore_n (L' := [_, _, _, _]) rfl rfl rfl ?_
      refine w_iload_n rfl rfl rfl ?_
      refine w_if_eq (t := 78) (f := 53) rfl rfl rfl (fun c50 => ?_) (fun c50 => absurd c50 (by decide))
      clear c50
      refine w_bipush (x := Int32.ofInt (-2)) rfl rfl (by decide) ?_
      exact w_iret rfl rfl rfl rfl rfl
    · refine w_iconst (x := Int32.ofNat 1) rfl rfl (by decide) ?_
      refine w_goto (pc' := 48) rfl rfl ?_
      refine w_istore_n (L' := [_, _, _, _]) rfl rfl rfl ?_
      refine w_iload_n rfl rfl rfl ?_
      refine w_if_eq (t := 78) (f := 53) rfl rfl rfl (fun c50 => absurd c50 (by decide)) (fun c50 => ?_)
      clear c50
      refine w_aload_n rfl rfl rfl ?_
      refine w_gf (t := .ref (63)) (v := .ref (63)) rfl rfl rfl sp0 rfl rfl rfl ?_
      refine w_gf (t := .ref (66)) (v := .ref (66)) rfl rfl rfl sp63 rfl rfl rfl ?_
      refine w_iload_n rfl rfl rfl ?_
      refine w_iaload rfl rfl sp66 rfl ⟨by omega, by omega⟩ rfl ?_
      refine w_iconst (x := Int32.ofInt (-1)) rfl rfl (by decide) ?_
      refine w_ic_ne (t := 78) (f := 66) rfl rfl rfl (fun c63 => ?_) (fun c63 => ?_)
      · refine w_bipush (x := Int32.ofInt (-2)) rfl rfl (by decide) ?_
        exact w_iret rfl rfl rfl rfl rfl
      · refine w_aload_n rfl rfl rfl ?_
        refine w_gf (t := .ref (63)) (v := .ref (63)) rfl rfl rfl sp0 rfl rfl rfl ?_
        refine w_gf (t := .ref (67)) (v := .ref (67)) rfl rfl rfl sp63 rfl rfl rfl ?_
        refine w_iload_n rfl rfl rfl ?_
        refine w_iaload rfl rfl sp67 rfl ⟨by omega, by omega⟩ rfl ?_
        refine w_if_eq (t := 81) (f := 78) rfl rfl rfl (fun c75 => ?_) (fun c75 => ?_)
        · exact absurd ⟨by first | exact Or.inl c27 | exact Or.inr c40, c63, c75⟩ hP
        · refine w_bipush (x := Int32.ofInt (-2)) rfl rfl (by decide) ?_
          exact w_iret rfl rfl rfl rfl rfl
theorem d_rig_no {k : Nat} {I : hI} {J : hJ} {R : hR} {T : Nat} (hT : T = 9 ∨ T = 36) (h0 : R 0 3 = T) {x y : Int32} (hx : ¬ ((¬ x < 0 ∧ x < I (T + 5) 1) ∧ (¬ y < 0 ∧ y < I (T + 11) 1))) (hk : 3 ≤ k) : ct k 117 [.ref 0, .int x, .int y] I J R (some (.int (Int32.ofInt (-1)))) I J R := by
  obtain ⟨k, rfl⟩ : ∃ k', k = k' + 1 := ⟨k - 1, by omega⟩
  refine ct_of (q := am_m117) (o := 11) (rt := (some .int)) (co := am_c117) (L := [_, _, _, _]) rfl rfl rfl rfl rfl rfl ?_
  refine w_aload_n rfl rfl rfl ?_
  refine w_iload_n rfl rfl rfl ?_
  refine w_cv (q := am_m161) (as := [_]) (rest := []) (st' := [_]) rfl rfl rfl rfl rfl rfl sp0 rfl rfl rfl rfl (d_isRope hT h0 (by omega)) rfl rfl ?_
  refine w_if_eqB (t := 16) (f := 8) rfl rfl rfl (fun c5 => ?_) (fun c5 => ?_)
  · refine w_iconst (x := Int32.ofInt (-1)) rfl rfl (by decide) ?_
    exact w_iret rfl rfl rfl rfl rfl
  · refine w_aload_n rfl rfl rfl ?_
    refine w_iload_n rfl rfl rfl ?_
    refine w_cv (q := am_m162) (as := [_]) (rest := []) (st' := [_]) rfl rfl rfl rfl rfl rfl sp0 rfl rfl rfl rfl (d_isShip hT h0 (by omega)) rfl rfl ?_
    refine w_if_neB (t := 18) (f := 16) rfl rfl rfl (fun c13 => ?_) (fun c13 => ?_)
    · exact (hx ⟨c5, c13⟩).elim
    · refine w_iconst (x := Int32.ofInt (-1)) rfl rfl (by decide) ?_
      exact w_iret rfl rfl rfl rfl rfl
abbrev k_ah (I : hI) (r : Nat) : Prop := I 66 r = Int32.ofInt (-1) ∨ I 67 (nn (I 66 r)) = 0
def k_tko (I : hI) (u r : Nat) : hI := am_u (k_nr I 63 u r) 66 r (Int32.ofInt (-1))
theorem d_isAtHand {k : Nat} {I : hI} {J : hJ} {R : hR} {r : Nat} (hr : r < 8) (hw : ¬ I 66 r = Int32.ofInt (-1) → okn (I 66 r) 5) (hk : 1 ≤ k) : ct k 119 [.ref 0, .int (Int32.ofNat r)] I J R (some (.int (if k_ah I r then 1 else 0))) I J R := by
  obtain ⟨k, rfl⟩ : ∃ k', k = k' + 1 := ⟨k - 1, by omega⟩
  refine ct_of (q := am_m119) (o := 11) (rt := (some .boolean)) (co := am_c119) (L := [_, _, _]) rfl rfl rfl rfl rfl rfl ?_
  refine w_aload_n rfl rfl rfl ?_
  refine w_gf (t := .ref (63)) (v := .ref (63)) rfl rfl rfl sp0 rfl rfl rfl ?_
  refine w_gf (t := .ref (66)) (v := .ref (66)) rfl rfl rfl sp63 rfl rfl rfl ?_
  refine w_iload_n rfl rfl rfl ?_
  refine w_iaload rfl rfl sp66 rfl ⟨by omega, by omega⟩ rfl ?_
  refine w_istore_n (L' := [_, _, _]) rfl rfl rfl ?_
  refine w_iload_n rfl rfl rfl ?_
  refine w_iconst (x := Int32.ofInt (-1)) rfl rfl (by decide) ?_
  refine w_ic_eq (t := 27) (f := 15) rfl rfl rfl (fun c12 => ?_) (fun c12 => ?_)
  · refine w_iconst (x := Int32.ofNat 1) rfl rfl (by decide) ?_
    refine w_goto (pc' := 32) rfl rfl ?_
    exact w_bret rfl (by decide) (by simp only [k_ah, *, ite_true, ite_false, and_self, and_true, true_and, and_false, false_and, or_true, true_or, or_false, false_or, not_true, not_false_iff] <;> rfl) rfl rfl rfl
  · refine w_aload_n rfl rfl rfl ?_
    refine w_gf (t := .ref (63)) (v := .ref (63)) rfl rfl rfl sp0 rfl rfl rfl ?_
    refine w_gf (t := .ref (67)) (v := .ref (67)) rfl rfl rfl sp63 rfl rfl rfl ?_
    refine w_iload_n rfl rfl rfl ?_
    refine w_iaload rfl rfl sp67 (hw c12).1 ⟨(by have := (hw c12).2; omega), by omega⟩ rfl ?_
    refine w_if_ne (t := 31) (f := 27) rfl rfl rfl (fun c24 => ?_) (fun c24 => ?_)
    · refine w_iconst (x := Int32.ofNat 0) rfl rfl (by decide) ?_
      exact w_bret rfl (by decide) (by simp only [k_ah, *, ite_true, ite_false, and_self, and_true, true_and, and_false, false_and, or_true, true_or, or_false, false_or, not_true, not_false_iff] <;> rfl) rfl rfl rfl
    · refine w_iconst (x := Int32.ofNat 1) rfl rfl (by decide) ?_
      refine w_goto (pc' := 32) rfl rfl ?_
      exact w_bret rfl (by decide) (by simp only [k_ah, *, ite_true, ite_false, and_self, and_true, true_and, and_false, false_and, or_true, true_or, or_false, false_or, not_true, not_false_iff] <;> rfl) rfl rfl rfl
theorem d_takeOut {k : Nat} {I : hI} {J : hJ} {R : hR} {T : Nat} (hT : T = 9 ∨ T = 36) (h0 : R 0 3 = T) {N : Nat → Nat} (t : ctk I T N) {r : Nat} (hr : r < N 1) {u : Nat} (hu : u ≤ 20) (h96 : I 96 0 = Int32.ofNat u) (hw : ¬ I 66 r = Int32.ofInt (-1) → okn (I 66 r) 5) (hP : ¬ I 66 r = Int32.ofInt (-1) ∧ k_ah I r) (hk : 3 ≤ k) : ct k 118 [.ref 0, .int (Int32.ofNat r)] I J R (some (.int 1)) (k_tko I u r) J R := by
  obtain ⟨k, rfl⟩ : ∃ k', k = k' + 1 := ⟨k - 1, by omega⟩
  obtain ⟨⟨l1, l2, l3⟩, ⟨e5, e11, e3⟩, rM, tH, sM, ⟨e18, l18⟩, ⟨e21, l21⟩, ⟨e24, l24⟩⟩ := id t
  refine ct_of (q := am_m118) (o := 11) (rt := (some .boolean)) (co := am_c118) (L := [_, _]) rfl rfl rfl rfl rfl rfl ?_
  refine w_aload_n rfl rfl rfl ?_
  refine w_iload_n rfl rfl rfl ?_
  refine w_cv (q := am_m161) (as := [_]) (rest := []) (st' := [_]) rfl rfl rfl rfl rfl rfl sp0 rfl rfl rfl rfl (d_isRope hT h0 (by omega)) rfl rfl ?_
  refine w_if_eqB (t := 29) (f := 8) rfl rfl rfl (fun c5 => absurd c5 (k_isok hr (by omega) e5)) (fun c5 => ?_)
  refine w_aload_n rfl rfl rfl ?_
  refine w_gf (t := .ref (63)) (v := .ref (63)) rfl rfl rfl sp0 rfl rfl rfl ?_
  refine w_gf (t := .ref (66)) (v := .ref (66)) rfl rfl rfl sp63 rfl rfl rfl ?_
  refine w_iload_n rfl rfl rfl ?_
  refine w_iaload rfl rfl sp66 rfl ⟨by omega, by omega⟩ rfl ?_
  refine w_iconst (x := Int32.ofInt (-1)) rfl rfl (by decide) ?_
  refine w_ic_eq (t := 29) (f := 21) rfl rfl rfl (fun c18 => absurd c18 hP.1) (fun c18 => ?_)
  refine w_aload_n rfl rfl rfl ?_
  refine w_iload_n rfl rfl rfl ?_
  refine w_cv (q := am_m119) (as := [_]) (rest := []) (st' := [_]) rfl rfl rfl rfl rfl rfl sp0 rfl rfl rfl rfl (d_isAtHand (by omega) hw (by omega)) rfl rfl ?_
  refine w_if_neB (t := 31) (f := 29) rfl rfl rfl (fun c26 => ?_) (fun c26 => absurd c26 (not_not_intro hP.2))
  refine w_aload_n rfl rfl rfl ?_
  refine w_gf (t := .ref (96)) (v := .ref (96)) rfl rfl rfl sp0 rfl rfl rfl ?_
  refine w_aload_n rfl rfl rfl ?_
  refine w_gf (t := .ref (63)) (v := .ref (63)) rfl rfl rfl sp0 rfl rfl rfl ?_
  refine w_iload_n rfl rfl rfl ?_
  refine w_cv (q := am_m8) (as := [_, _]) (rest := []) (st' := []) rfl rfl rfl rfl rfl rfl sp96 rfl rfl rfl rfl (d_noteRope (Or.inl rfl) (by omega) hu h96 (by omega)) rfl rfl ?_
  refine w_aload_n rfl rfl rfl ?_
  refine w_gf (t := .ref (63)) (v := .ref (63)) rfl rfl rfl sp0 rfl rfl rfl ?_
  refine w_gf (t := .ref (66)) (v := .ref (66)) rfl rfl rfl sp63 rfl rfl rfl ?_
  refine w_iload_n rfl rfl rfl ?_
  refine w_iconst (x := Int32.ofInt (-1)) rfl rfl (by decide) ?_
  refine w_iastore rfl rfl sp66 rfl ⟨by omega, by omega⟩ ?_
  refine w_iconst (x := Int32.ofNat 1) rfl rfl (by decide) ?_
  exact w_bret rfl (by decide) rfl rfl rfl rfl
theorem d_takeOut_can {k : Nat} {I : hI} {J : hJ} {R : hR} {T : Nat} (hT : T = 9 ∨ T = 36) (h0 : R 0 3 = T) {N : Nat → Nat} (t : ctk I T N) {r : Nat} (hr : r < N 1) (hw : ¬ I 66 r = Int32.ofInt (-1) → okn (I 66 r) 5) (hP : ¬ (¬ I 66 r = Int32.ofInt (-1) ∧ k_ah I r)) (hk : 3 ≤ k) : ct k 118 [.ref 0, .int (Int32.ofNat r)] I J R (some (.int 0)) I J R := by
  obtain ⟨k, rfl⟩ : ∃ k', k = k' + 1 := ⟨k - 1, by omega⟩
  obtain ⟨⟨l1, l2, l3⟩, ⟨e5, e11, e3⟩, rM, tH, sM, ⟨e18, l18⟩, ⟨e21, l21⟩, ⟨e24, l24⟩⟩ := id t
  refine ct_of (q := am_m118) (o := 11) (rt := (some .boolean)) (co := am_c118) (L := [_, _]) rfl rfl rfl rfl rfl rfl ?_
  refine w_aload_n rfl rfl rfl ?_
  refine w_iload_n rfl rfl rfl ?_
  refine w_cv (q := am_m161) (as := [_]) (rest := []) (st' := [_]) rfl rfl rfl rfl rfl rfl sp0 rfl rfl rfl rfl (d_isRope hT h0 (by omega)) rfl rfl ?_
  refine w_if_eqB (t := 29) (f := 8) rfl rfl rfl (fun c5 => absurd c5 (k_isok hr (by omega) e5)) (fun c5 => ?_)
  refine w_aload_n rfl rfl rfl ?_
  refine w_gf (t := .ref (63)) (v := .ref (63)) rfl rfl rfl sp0 rfl rfl rfl ?_
  refine w_gf (t := .ref (66)) (v := .ref (66)) rfl rfl rfl sp63 rfl rfl rfl ?_
  refine w_iload_n rfl rfl rfl ?_
  refine w_iaload rfl rfl sp66 rfl ⟨by omega, by omega⟩ rfl ?_
  refine w_iconst (x := Int32.ofInt (-1)) rfl rfl (by decide) ?_
  refine w_ic_eq (t := 29) (f := 21) rfl rfl rfl (fun c18 => ?_) (fun c18 => ?_)
  · refine w_iconst (x := Int32.ofNat 0) rfl rfl (by decide) ?_
    exact w_bret rfl (by decide) rfl rfl rfl rfl
  · refine w_aload_n rfl rfl rfl ?_
    refine w_iload_n rfl rfl rfl ?_
    refine w_cv (q := am_m119) (as := [_]) (rest := []) (st' := [_]) rfl rfl rfl rfl rfl rfl sp0 rfl rfl rfl rfl (d_isAtHand (by omega) hw (by omega)) rfl rfl ?_
    refine w_if_neB (t := 31) (f := 29) rfl rfl rfl (fun c26 => ?_) (fun c26 => ?_)
    · exact absurd ⟨c18, c26⟩ hP
    · refine w_iconst (x := Int32.ofNat 0) rfl rfl (by decide) ?_
      exact w_bret rfl (by decide) rfl rfl rfl rfl
theorem d_takeOut_no {k : Nat} {I : hI} {J : hJ} {R : hR} {T : Nat} (hT : T = 9 ∨ T = 36) (h0 : R 0 3 = T) {x : Int32} (hx : ¬ (¬ x < 0 ∧ x < I (T + 5) 1)) (hk : 3 ≤ k) : ct k 118 [.ref 0, .int x] I J R (some (.int 0)) I J R := by
  obtain ⟨k, rfl⟩ : ∃ k', k = k' + 1 := ⟨k - 1, by omega⟩
  refine ct_of (q := am_m118) (o := 11) (rt := (some .boolean)) (co := am_c118) (L := [_, _]) rfl rfl rfl rfl rfl rfl ?_
  refine w_aload_n rfl rfl rfl ?_
  refine w_iload_n rfl rfl rfl ?_
  refine w_cv (q := am_m161) (as := [_]) (rest := []) (st' := [_]) rfl rfl rfl rfl rfl rfl sp0 rfl rfl rfl rfl (d_isRope hT h0 (by omega)) rfl rfl ?_
  refine w_if_eqB (t := 29) (f := 8) rfl rfl rfl (fun c5 => ?_) (fun c5 => absurd c5 hx)
  refine w_iconst (x := Int32.ofNat 0) rfl rfl (by decide) ?_
  exact w_bret rfl (by decide) rfl rfl rfl rfl
abbrev k_meOK (I : hI) (r : Nat) : Prop := (I 64 r = Int32.ofNat 1 ∨ I 64 r = Int32.ofNat 2) ∧ k_ah I r
def k_me0 (I : hI) (T u r : Nat) : hI := k_db (k_nr I 63 u r) T (Int32.ofNat 1)
def k_meI (I : hI) (J : hJ) (T u r n : Nat) : hI := k_mk (k_me0 I T u r) J T 63 r n
theorem d_mend {k : Nat} {I : hI} {J : hJ} {R : hR} {T : Nat} (hT : T = 9 ∨ T = 36) (h0 : R 0 3 = T) {N : Nat → Nat} (t : ctk I T N) {r : Nat} (hr : r < N 1) {u : Nat} (hu : u ≤ 20) (h96 : I 96 0 = Int32.ofNat u) (hw : ¬ I 66 r = Int32.ofInt (-1) → okn (I 66 r) 5) (hP : k_meOK I r) (hk : 5 ≤ k) : ct k 120 [.ref 0, .int (Int32.ofNat r)] I J R (some (.int (k_meI I J T u r (N 4) 65 r))) (k_meI I J T u r (N 4)) ((k_tw (k_me0 I T u r) J T 63 r (N 4)).2) (am_u R 84 3 T) := by
  obtain ⟨k, rfl⟩ : ∃ k', k = k' + 1 := ⟨k - 1, by omega⟩
  obtain ⟨⟨l1, l2, l3⟩, ⟨e5, e11, e3⟩, rM, tH, sM, ⟨e18, l18⟩, ⟨e21, l21⟩, ⟨e24, l24⟩⟩ := id t
  have t1 : ctk (k_me0 I T u r) T N := ctk_F hT (cF_tr cF_nr cF_db) t
  obtain ⟨_, ⟨f5, f11, f3⟩, gM, gH, gS, ⟨f18, _⟩, ⟨f21, _⟩, ⟨f24, _⟩⟩ := id t1
  refine ct_of (q := am_m120) (o := 11) (rt := (some .int)) (co := am_c120) (L := [_, _, _]) rfl rfl rfl rfl rfl rfl ?_
  refine w_aload_n rfl rfl rfl ?_
  refine w_iload_n rfl rfl rfl ?_
  refine w_cv (q := am_m161) (as := [_]) (rest := []) (st' := [_]) rfl rfl rfl rfl rfl rfl sp0 rfl rfl rfl rfl (d_isRope hT h0 (by omega)) rfl rfl ?_
  refine w_if_neB (t := 10) (f := 8) rfl rfl rfl (fun c5 => ?_) (fun c5 => absurd c5 (k_isok hr (by omega) e5))
  refine w_aload_n rfl rfl rfl ?_
  refine w_gf (t := .ref (63)) (v := .ref (63)) rfl rfl rfl sp0 rfl rfl rfl ?_
  refine w_gf (t := .ref (64)) (v := .ref (64)) rfl rfl rfl sp63 rfl rfl rfl ?_
  refine w_iload_n rfl rfl rfl ?_
  refine w_iaload rfl rfl sp64 rfl ⟨by omega, by omega⟩ rfl ?_
  refine w_iconst (x := Int32.ofNat 1) rfl rfl (by decide) ?_
  refine w_ic_eq (t := 36) (f := 23) rfl rfl rfl (fun c20 => ?_) (fun c20 => ?_)
  · refine w_iconst (x := Int32.ofNat 1) rfl rfl (by decide) ?_
    refine w_goto (pc' := 41) rfl rfl ?_
    refine w_istore_n (L' := [_, _, _]) rfl rfl rfl ?_
    refine w_iload_n rfl rfl rfl ?_
    refine w_if_eq (t := 54) (f := 46) rfl rfl rfl (fun c43 => absurd c43 (by decide)) (fun c43 => ?_)
    clear c43
    refine w_aload_n rfl rfl rfl ?_
    refine w_iload_n rfl rfl rfl ?_
    refine w_cv (q := am_m119) (as := [_]) (rest := []) (st' := [_]) rfl rfl rfl rfl rfl rfl sp0 rfl rfl rfl rfl (d_isAtHand (by omega) hw (by omega)) rfl rfl ?_
    refine w_if_neB (t := 57) (f := 54) rfl rfl rfl (fun c51 => ?_) (fun c51 => absurd c51 (not_not_intro hP.2))
    refine w_aload_n rfl rfl rfl ?_
    refine w_gf (t := .ref (96)) (v := .ref (96)) rfl rfl rfl sp0 rfl rfl rfl ?_
    refine w_aload_n rfl rfl rfl ?_
    refine w_gf (t := .ref (63)) (v := .ref (63)) rfl rfl rfl sp0 rfl rfl rfl ?_
    refine w_iload_n rfl rfl rfl ?_
    refine w_cv (q := am_m8) (as := [_, _]) (rest := []) (st' := []) rfl rfl rfl rfl rfl rfl sp96 rfl rfl rfl rfl (d_noteRope (Or.inl rfl) (by omega) hu h96 (by omega)) rfl rfl ?_
    refine w_aload_n rfl rfl rfl ?_
    refine w_gf (t := .ref (84)) (v := .ref (84)) rfl rfl rfl sp0 rfl rfl rfl ?_
    refine w_aload_n rfl rfl rfl ?_
    refine w_gf (t := .retAddr 0) (v := .ref (T)) rfl rfl rfl sp0 rfl (congrArg Value.ref (by first | exact h0 | exact (am_u_na (by decide)).trans h0)) rfl ?_
    refine w_iconst (x := Int32.ofNat 1) rfl rfl (by decide) ?_
    refine w_cv (q := am_m13) (as := [_, _]) (rest := []) (st' := []) rfl rfl rfl rfl rfl rfl sp84 rfl rfl rfl rfl (d_dbegin hT (by omega)) rfl rfl ?_
    refine w_aload_n rfl rfl rfl ?_
    refine w_gf (t := .ref (84)) (v := .ref (84)) rfl rfl rfl sp0 rfl rfl rfl ?_
    refine w_aload_n rfl rfl rfl ?_
    refine w_gf (t := .ref (63)) (v := .ref (63)) rfl rfl rfl sp0 rfl rfl rfl ?_
    refine w_iload_n rfl rfl rfl ?_
    refine w_cv (q := am_m19) (as := [_, _]) (rest := []) (st' := []) rfl rfl rfl rfl rfl rfl sp84 rfl rfl rfl rfl (d_make hT am_u_at (Or.inl rfl) (by omega) (gM _ hr) l18 f18 (by omega)) rfl rfl ?_
    refine w_aload_n rfl rfl rfl ?_
    refine w_gf (t := .ref (63)) (v := .ref (63)) rfl rfl rfl sp0 rfl rfl rfl ?_
    refine w_gf (t := .ref (65)) (v := .ref (65)) rfl rfl rfl sp63 rfl rfl rfl ?_
    refine w_iload_n rfl rfl rfl ?_
    refine w_iaload rfl rfl sp65 rfl ⟨by omega, by omega⟩ rfl ?_
    exact w_iret rfl rfl rfl rfl rfl
  · refine w_aload_n rfl rfl rfl ?_
    refine w_gf (t := .ref (63)) (v := .ref (63)) rfl rfl rfl sp0 rfl rfl rfl ?_
    refine w_gf (t := .ref (64)) (v := .ref (64)) rfl rfl rfl sp63 rfl rfl rfl ?_
    refine w_iload_n rfl rfl rfl ?_
    refine w_iaload rfl rfl sp64 rfl ⟨by omega, by omega⟩ rfl ?_
    refine w_iconst (x := Int32.ofNat 2) rfl rfl (by decide) ?_
    refine w_ic_ne (t := 40) (f := 36) rfl rfl rfl (fun c33 => absurd c33 (not_not_intro (hP.1.resolve_left c20))) (fun c33 => ?_)
    refine w_iconst (x := Int32.ofNat 1) rfl rfl (by decide) ?_
    refine w_goto (pc' := 41) rfl rfl ?_
    refine w_istore_n (L' := [_, _, _]) rfl rfl rfl ?_
    refine w_iload_n rfl rfl rfl ?_
    refine w_if_eq (t := 54) (f := 46) rfl rfl rfl (fun c43 => absurd c43 (by decide)) (fun c43 => ?_)
    clear c43
    refine w_aload_n rfl rfl rfl ?_
    refine w_iload_n rfl rfl rfl ?_
    refine w_cv (q := am_m119) (as := [_]) (rest := []) (st' := [_]) rfl rfl rfl rfl rfl rfl sp0 rfl rfl rfl rfl (d_isAtHand (by omega) hw (by omega)) rfl rfl ?_
    refine w_if_neB (t := 57) (f := 54) rfl rfl rfl (fun c51 => ?_) (fun c51 => absurd c51 (not_not_intro hP.2))
    refine w_aload_n rfl rfl rfl ?_
    refine w_gf (t := .ref (96)) (v := .ref (96)) rfl rfl rfl sp0 rfl rfl rfl ?_
    refine w_aload_n rfl rfl rfl ?_
    refine w_gf (t := .ref (63)) (v := .ref (63)) rfl rfl rfl sp0 rfl rfl rfl ?_
    refine w_iload_n rfl rfl rfl ?_
    refine w_cv (q := am_m8) (as := [_, _]) (rest := []) (st' := []) rfl rfl rfl rfl rfl rfl sp96 rfl rfl rfl rfl (d_noteRope (Or.inl rfl) (by omega) hu h96 (by omega)) rfl rfl ?_
    refine w_aload_n rfl rfl rfl ?_
    refine w_gf (t := .ref (84)) (v := .ref (84)) rfl rfl rfl sp0 rfl rfl rfl ?_
    refine w_aload_n rfl rfl rfl ?_
    refine w_gf (t := .retAddr 0) (v := .ref (T)) rfl rfl rfl sp0 rfl (congrArg Value.ref (by first | exact h0 | exact (am_u_na (by decide)).trans h0)) rfl ?_
    refine w_iconst (x := Int32.ofNat 1) rfl rfl (by decide) ?_
    refine w_cv (q := am_m13) (as := [_, _]) (rest := []) (st' := []) rfl rfl rfl rfl rfl rfl sp84 rfl rfl rfl rfl (d_dbegin hT (by omega)) rfl rfl ?_
    refine w_aload_n rfl rfl rfl ?_
    refine w_gf (t := .ref (84)) (v := .ref (84)) rfl rfl rfl sp0 rfl rfl rfl ?_
    refine w_aload_n rfl rfl rfl ?_
    refine w_gf (t := .ref (63)) (v := .ref (63)) rfl rfl rfl sp0 rfl rfl rfl ?_
    refine w_iload_n rfl rfl rfl ?_
    refine w_cv (q := am_m19) (as := [_, _]) (rest := []) (st' := []) rfl rfl rfl rfl rfl rfl sp84 rfl rfl rfl rfl (d_make hT am_u_at (Or.inl rfl) (by omega) (gM _ hr) l18 f18 (by omega)) rfl rfl ?_
    refine w_aload_n rfl rfl rfl ?_
    refine w_gf (t := .ref (63)) (v := .ref (63)) rfl rfl rfl sp0 rfl rfl rfl ?_
    refine w_gf (t := .ref (65)) (v := .ref (65)) rfl rfl rfl sp63 rfl rfl rfl ?_
    refine w_iload_n rfl rfl rfl ?_
    refine w_iaload rfl rfl sp65 rfl ⟨by omega, by omega⟩ rfl ?_
    exact w_iret rfl rfl rfl rfl rfl
theorem d_mend_can {k : Nat} {I : hI} {J : hJ} {R : hR} {T : Nat} (hT : T = 9 ∨ T = 36) (h0 : R 0 3 = T) {N : Nat → Nat} (t : ctk I T N) {r : Nat} (hr : r < N 1) (hw : ¬ I 66 r = Int32.ofInt (-1) → okn (I 66 r) 5) (hP : ¬ k_meOK I r) (hk : 5 ≤ k) : ct k 120 [.ref 0, .int (Int32.ofNat r)] I J R (some (.int (Int32.ofInt (-2)))) I J R := by
  obtain ⟨k, rfl⟩ : ∃ k', k = k' + 1 := ⟨k - 1, by omega⟩
  obtain ⟨⟨l1, l2, l3⟩, ⟨e5, e11, e3⟩, rM, tH, sM, ⟨e18, l18⟩, ⟨e21, l21⟩, ⟨e24, l24⟩⟩ := id t
  refine ct_of (q := am_m120) (o := 11) (rt := (some .int)) (co := am_c120) (L := [_, _, _]) rfl rfl rfl rfl rfl rfl ?_
  refine w_aload_n rfl rfl rfl ?_
  refine w_iload_n rfl rfl rfl ?_
  refine w_cv (q := am_m161) (as := [_]) (rest := []) (st' := [_]) rfl rfl rfl rfl rfl rfl sp0 rfl rfl rfl rfl (d_isRope hT h0 (by omega)) rfl rfl ?_
  refine w_if_neB (t := 10) (f := 8) rfl rfl rfl (fun c5 => ?_) (fun c5 => absurd c5 (k_isok hr (by omega) e5))
  refine w_aload_n rfl rfl rfl ?_
  refine w_gf (t := .ref (63)) (v := .ref (63)) rfl rfl rfl sp0 rfl rfl rfl ?_
  refine w_gf (t := .ref (64)) (v := .ref (64)) rfl rfl rfl sp63 rfl rfl rfl ?_
  refine w_iload_n rfl rfl rfl ?_
  refine w_iaload rfl rfl sp64 rfl ⟨by omega, by omega⟩ rfl ?_
  refine w_iconst (x := Int32.ofNat 1) rfl rfl (by decide) ?_
  refine w_ic_eq (t := 36) (f := 23) rfl rfl rfl (fun c20 => ?_) (fun c20 => ?_)
  · refine w_iconst (x := Int32.ofNat 1) rfl rfl (by decide) ?_
    refine w_goto (pc' := 41) rfl rfl ?_
    refine w_istore_n (L' := [_, _, _]) rfl rfl rfl ?_
    refine w_iload_n rfl rfl rfl ?_
    refine w_if_eq (t := 54) (f := 46) rfl rfl rfl (fun c43 => absurd c43 (by decide)) (fun c43 => ?_)
    clear c43
    refine w_aload_n rfl rfl rfl ?_
    refine w_iload_n rfl rfl rfl ?_
    refine w_cv (q := am_m119) (as := [_]) (rest := []) (st' := [_]) rfl rfl rfl rfl rfl rfl sp0 rfl rfl rfl rfl (d_isAtHand (by omega) hw (by omega)) rfl rfl ?_
    refine w_if_neB (t := 57) (f := 54) rfl rfl rfl (fun c51 => ?_) (fun c51 => ?_)
    · exact absurd ⟨by first | exact Or.inl c20 | exact Or.inr c33, c51⟩ hP
    · refine w_bipush (x := Int32.ofInt (-2)) rfl rfl (by decide) ?_
      exact w_iret rfl rfl rfl rfl rfl
  · refine w_aload_n rfl rfl rfl ?_
    refine w_gf (t := .ref (63)) (v := .ref (63)) rfl rfl rfl sp0 rfl rfl rfl ?_
    refine w_gf (t := .ref (64)) (v := .ref (64)) rfl rfl rfl sp63 rfl rfl rfl ?_
    refine w_iload_n rfl rfl rfl ?_
    refine w_iaload rfl rfl sp64 rfl ⟨by omega, by omega⟩ rfl ?_
    refine w_iconst (x := Int32.ofNat 2) rfl rfl (by decide) ?_
    refine w_ic_ne (t := 40) (f := 36) rfl rfl rfl (fun c33 => ?_) (fun c33 => ?_)
    · refine w_iconst (x := Int32.ofNat 0) rfl rfl (by decide) ?_
      refine w_istore_n (L' := [_, _, _]) rfl rfl rfl ?_
      refine w_iload_n rfl rfl rfl ?_
      refine w_if_eq (t := 54) (f := 46) rfl rfl rfl (fun c43 => ?_) (fun c43 => absurd c43 (by decide))
      clear c43
      refine w_bipush (x := Int32.ofInt (-2)) rfl rfl (by decide) ?_
      exact w_iret rfl rfl rfl rfl rfl
    · refine w_iconst (x := Int32.ofNat 1) rfl rfl (by decide) ?_
      refine w_goto (pc' := 41) rfl rfl ?_
      refine w_istore_n (L' := [_, _, _]) rfl rfl rfl ?_
      refine w_iload_n rfl rfl rfl ?_
      refine w_if_eq (t := 54) (f := 46) rfl rfl rfl (fun c43 => absurd c43 (by decide)) (fun c43 => ?_)
      clear c43
      refine w_aload_n rfl rfl rfl ?_
      refine w_iload_n rfl rfl rfl ?_
      refine w_cv (q := am_m119) (as := [_]) (rest := []) (st' := [_]) rfl rfl rfl rfl rfl rfl sp0 rfl rfl rfl rfl (d_isAtHand (by omega) hw (by omega)) rfl rfl ?_
      refine w_if_neB (t := 57) (f := 54) rfl rfl rfl (fun c51 => ?_) (fun c51 => ?_)
      · exact absurd ⟨by first | exact Or.inl c20 | exact Or.inr c33, c51⟩ hP
      · refine w_bipush (x := Int32.ofInt (-2)) rfl rfl (by decide) ?_
        exact w_iret rfl rfl rfl rfl rfl
theorem d_mend_no {k : Nat} {I : hI} {J : hJ} {R : hR} {T : Nat} (hT : T = 9 ∨ T = 36) (h0 : R 0 3 = T) {x : Int32} (hx : ¬ (¬ x < 0 ∧ x < I (T + 5) 1)) (hk : 5 ≤ k) : ct k 120 [.ref 0, .int x] I J R (some (.int (Int32.ofInt (-1)))) I J R := by
  obtain ⟨k, rfl⟩ : ∃ k', k = k' + 1 := ⟨k - 1, by omega⟩
  refine ct_of (q := am_m120) (o := 11) (rt := (some .int)) (co := am_c120) (L := [_, _, _]) rfl rfl rfl rfl rfl rfl ?_
  refine w_aload_n rfl rfl rfl ?_
  refine w_iload_n rfl rfl rfl ?_
  refine w_cv (q := am_m161) (as := [_]) (rest := []) (st' := [_]) rfl rfl rfl rfl rfl rfl sp0 rfl rfl rfl rfl (d_isRope hT h0 (by omega)) rfl rfl ?_
  refine w_if_neB (t := 10) (f := 8) rfl rfl rfl (fun c5 => absurd c5 hx) (fun c5 => ?_)
  refine w_iconst (x := Int32.ofInt (-1)) rfl rfl (by decide) ?_
  exact w_iret rfl rfl rfl rfl rfl
def k_sail (I : hI) (u s n : Nat) : hI := am_u (am_u (k_ns I u (Int32.ofNat s)) 67 s (Int32.ofNat 1)) 68 s (Int32.ofNat n)
theorem d_sail {k : Nat} {I : hI} {J : hJ} {R : hR} {T : Nat} (hT : T = 9 ∨ T = 36) (h0 : R 0 3 = T) {N : Nat → Nat} (t : ctk I T N) {s : Nat} (hs : s < N 2) {n : Nat} (n1 : 1 ≤ n) (n2 : n ≤ 30) {u : Nat} (hu : u ≤ 20) (h96 : I 96 0 = Int32.ofNat u) (hP : I 67 s = 0) (hk : 3 ≤ k) : ct k 121 [.ref 0, .int (Int32.ofNat s), .int (Int32.ofNat n)] I J R (some (.int (k_bear (k_sail I u s n) 63 (Int32.ofNat s) 8))) (k_sail I u s n) J R := by
  obtain ⟨k, rfl⟩ : ∃ k', k = k' + 1 := ⟨k - 1, by omega⟩
  obtain ⟨⟨l1, l2, l3⟩, ⟨e5, e11, e3⟩, rM, tH, sM, ⟨e18, l18⟩, ⟨e21, l21⟩, ⟨e24, l24⟩⟩ := id t
  refine ct_of (q := am_m121) (o := 11) (rt := (some .int)) (co := am_c121) (L := [_, _, _]) rfl rfl rfl rfl rfl rfl ?_
  refine w_aload_n rfl rfl rfl ?_
  refine w_iload_n rfl rfl rfl ?_
  refine w_cv (q := am_m162) (as := [_]) (rest := []) (st' := [_]) rfl rfl rfl rfl rfl rfl sp0 rfl rfl rfl rfl (d_isShip hT h0 (by omega)) rfl rfl ?_
  refine w_if_eqB (t := 19) (f := 8) rfl rfl rfl (fun c5 => absurd c5 (k_isok hs (by omega) e11)) (fun c5 => ?_)
  refine w_iload_n rfl rfl rfl ?_
  refine w_iconst (x := Int32.ofNat 1) rfl rfl (by decide) ?_
  refine w_ic_ltN (t := 19) (f := 13) rfl rfl rfl (by omega) (by omega) (fun c10 => absurd c10 (by omega)) (fun c10 => ?_)
  refine w_iload_n rfl rfl rfl ?_
  refine w_bipush (x := Int32.ofNat 30) rfl rfl (by decide) ?_
  refine w_ic_leN (t := 21) (f := 19) rfl rfl rfl (by omega) (by omega) (fun c16 => ?_) (fun c16 => absurd c16 (by omega))
  refine w_aload_n rfl rfl rfl ?_
  refine w_gf (t := .ref (63)) (v := .ref (63)) rfl rfl rfl sp0 rfl rfl rfl ?_
  refine w_gf (t := .ref (67)) (v := .ref (67)) rfl rfl rfl sp63 rfl rfl rfl ?_
  refine w_iload_n rfl rfl rfl ?_
  refine w_iaload rfl rfl sp67 rfl ⟨by omega, by omega⟩ rfl ?_
  refine w_if_eq (t := 36) (f := 33) rfl rfl rfl (fun c30 => ?_) (fun c30 => absurd c30 (not_not_intro hP))
  refine w_aload_n rfl rfl rfl ?_
  refine w_gf (t := .ref (96)) (v := .ref (96)) rfl rfl rfl sp0 rfl rfl rfl ?_
  refine w_iload_n rfl rfl rfl ?_
  refine w_cv (q := am_m9) (as := [_]) (rest := []) (st' := []) rfl rfl rfl rfl rfl rfl sp96 rfl rfl rfl rfl (d_noteShip hu h96 (by omega)) rfl rfl ?_
  refine w_aload_n rfl rfl rfl ?_
  refine w_gf (t := .ref (63)) (v := .ref (63)) rfl rfl rfl sp0 rfl rfl rfl ?_
  refine w_iload_n rfl rfl rfl ?_
  refine w_iload_n rfl rfl rfl ?_
  refine w_cv (q := am_m69) (as := [_, _]) (rest := []) (st' := []) rfl rfl rfl rfl rfl rfl sp63 rfl rfl rfl rfl (d_putToSea (Or.inl rfl) (by omega) (by omega)) rfl rfl ?_
  refine w_aload_n rfl rfl rfl ?_
  refine w_gf (t := .ref (63)) (v := .ref (63)) rfl rfl rfl sp0 rfl rfl rfl ?_
  refine w_iload_n rfl rfl rfl ?_
  refine w_cv (q := am_m66) (as := [_]) (rest := []) (st' := [_]) rfl rfl rfl rfl rfl rfl sp63 rfl rfl rfl rfl (d_bear (Or.inl rfl) (by omega)) rfl rfl ?_
  exact w_iret rfl rfl rfl rfl rfl
theorem d_sail_can {k : Nat} {I : hI} {J : hJ} {R : hR} {T : Nat} (hT : T = 9 ∨ T = 36) (h0 : R 0 3 = T) {N : Nat → Nat} (t : ctk I T N) {s : Nat} (hs : s < N 2) {n : Nat} (n1 : 1 ≤ n) (n2 : n ≤ 30) (hP : ¬ I 67 s = 0) (hk : 3 ≤ k) : ct k 121 [.ref 0, .int (Int32.ofNat s), .int (Int32.ofNat n)] I J R (some (.int (Int32.ofInt (-2)))) I J R := by
  obtain ⟨k, rfl⟩ : ∃ k', k = k' + 1 := ⟨k - 1, by omega⟩
  obtain ⟨⟨l1, l2, l3⟩, ⟨e5, e11, e3⟩, rM, tH, sM, ⟨e18, l18⟩, ⟨e21, l21⟩, ⟨e24, l24⟩⟩ := id t
  refine ct_of (q := am_m121) (o := 11) (rt := (some .int)) (co := am_c121) (L := [_, _, _]) rfl rfl rfl rfl rfl rfl ?_
  refine w_aload_n rfl rfl rfl ?_
  refine w_iload_n rfl rfl rfl ?_
  refine w_cv (q := am_m162) (as := [_]) (rest := []) (st' := [_]) rfl rfl rfl rfl rfl rfl sp0 rfl rfl rfl rfl (d_isShip hT h0 (by omega)) rfl rfl ?_
  refine w_if_eqB (t := 19) (f := 8) rfl rfl rfl (fun c5 => absurd c5 (k_isok hs (by omega) e11)) (fun c5 => ?_)
  refine w_iload_n rfl rfl rfl ?_
  refine w_iconst (x := Int32.ofNat 1) rfl rfl (by decide) ?_
  refine w_ic_ltN (t := 19) (f := 13) rfl rfl rfl (by omega) (by omega) (fun c10 => absurd c10 (by omega)) (fun c10 => ?_)
  refine w_iload_n rfl rfl rfl ?_
  refine w_bipush (x := Int32.ofNat 30) rfl rfl (by decide) ?_
  refine w_ic_leN (t := 21) (f := 19) rfl rfl rfl (by omega) (by omega) (fun c16 => ?_) (fun c16 => absurd c16 (by omega))
  refine w_aload_n rfl rfl rfl ?_
  refine w_gf (t := .ref (63)) (v := .ref (63)) rfl rfl rfl sp0 rfl rfl rfl ?_
  refine w_gf (t := .ref (67)) (v := .ref (67)) rfl rfl rfl sp63 rfl rfl rfl ?_
  refine w_iload_n rfl rfl rfl ?_
  refine w_iaload rfl rfl sp67 rfl ⟨by omega, by omega⟩ rfl ?_
  refine w_if_eq (t := 36) (f := 33) rfl rfl rfl (fun c30 => absurd c30 hP) (fun c30 => ?_)
  refine w_bipush (x := Int32.ofInt (-2)) rfl rfl (by decide) ?_
  exact w_iret rfl rfl rfl rfl rfl
theorem d_sail_no {k : Nat} {I : hI} {J : hJ} {R : hR} {T : Nat} (hT : T = 9 ∨ T = 36) (h0 : R 0 3 = T) {x y : Int32} (hx : ¬ ((¬ x < 0 ∧ x < I (T + 11) 1) ∧ ¬ y < Int32.ofNat 1 ∧ ¬ Int32.ofNat 30 < y)) (hk : 3 ≤ k) : ct k 121 [.ref 0, .int x, .int y] I J R (some (.int (Int32.ofInt (-1)))) I J R := by
  obtain ⟨k, rfl⟩ : ∃ k', k = k' + 1 := ⟨k - 1, by omega⟩
  refine ct_of (q := am_m121) (o := 11) (rt := (some .int)) (co := am_c121) (L := [_, _, _]) rfl rfl rfl rfl rfl rfl ?_
  refine w_aload_n rfl rfl rfl ?_
  refine w_iload_n rfl rfl rfl ?_
  refine w_cv (q := am_m162) (as := [_]) (rest := []) (st' := [_]) rfl rfl rfl rfl rfl rfl sp0 rfl rfl rfl rfl (d_isShip hT h0 (by omega)) rfl rfl ?_
  refine w_if_eqB (t := 19) (f := 8) rfl rfl rfl (fun c5 => ?_) (fun c5 => ?_)
  · refine w_iconst (x := Int32.ofInt (-1)) rfl rfl (by decide) ?_
    exact w_iret rfl rfl rfl rfl rfl
  · refine w_iload_n rfl rfl rfl ?_
    refine w_iconst (x := Int32.ofNat 1) rfl rfl (by decide) ?_
    refine w_ic_lt (t := 19) (f := 13) rfl rfl rfl (fun c10 => ?_) (fun c10 => ?_)
    · refine w_iconst (x := Int32.ofInt (-1)) rfl rfl (by decide) ?_
      exact w_iret rfl rfl rfl rfl rfl
    · refine w_iload_n rfl rfl rfl ?_
      refine w_bipush (x := Int32.ofNat 30) rfl rfl (by decide) ?_
      refine w_ic_le (t := 21) (f := 19) rfl rfl rfl (fun c16 => ?_) (fun c16 => ?_)
      · exact (hx ⟨c5, c10, c16⟩).elim
      · refine w_iconst (x := Int32.ofInt (-1)) rfl rfl (by decide) ?_
        exact w_iret rfl rfl rfl rfl rfl
def k_go0 (I : hI) (n : Nat) : hI := if n = 0 then I else am_u I 96 0 (Int32.ofNat 0)
def k_goP (I : hI) (J : hJ) (T : Nat) (N : Nat → Nat) (n : Nat) : hI × hJ := k_days T 63 N n (k_db (k_go0 I n) T (Int32.ofNat 0), J)
theorem l_go0 {k : Nat} {I : hI} {J : hJ} {R : hR} {T : Nat} (hT : T = 9 ∨ T = 36) (h0 : R 0 3 = T) {N : Nat → Nat} (t : ctk I T N) (hk : 7 ≤ k) : wz k 11 (some .int) am_c122 28 [.ref 0, .int (Int32.ofNat 0)] [] I J R (some (.int ((k_goP I J T N 0).1 63 0)), am_hp (k_goP I J T N 0).1 (k_goP I J T N 0).2 (am_u R 84 3 T)) := by
  refine w_iload_n rfl rfl rfl ?_
  refine w_if_le (t := 39) (f := 32) rfl rfl rfl (fun c29 => ?_) (fun c29 => absurd c29 (by decide))
  refine w_aload_n rfl rfl rfl ?_
  refine w_gf (t := .ref (84)) (v := .ref (84)) rfl rfl rfl sp0 rfl rfl rfl ?_
  refine w_aload_n rfl rfl rfl ?_
  refine w_gf (t := .retAddr 0) (v := .ref (T)) rfl rfl rfl sp0 rfl (congrArg Value.ref (by first | exact h0 | exact (am_u_na (by decide)).trans h0)) rfl ?_
  refine w_iconst (x := Int32.ofNat 0) rfl rfl (by decide) ?_
  refine w_cv (q := am_m13) (as := [_, _]) (rest := []) (st' := []) rfl rfl rfl rfl rfl rfl sp84 rfl rfl rfl rfl (d_dbegin hT (by omega)) rfl rfl ?_
  refine w_aload_n rfl rfl rfl ?_
  refine w_gf (t := .ref (84)) (v := .ref (84)) rfl rfl rfl sp0 rfl rfl rfl ?_
  refine w_aload_n rfl rfl rfl ?_
  refine w_gf (t := .ref (63)) (v := .ref (63)) rfl rfl rfl sp0 rfl rfl rfl ?_
  refine w_iload_n rfl rfl rfl ?_
  refine w_cv (q := am_m14) (as := [_, _]) (rest := []) (st' := []) rfl rfl rfl rfl rfl rfl sp84 rfl rfl rfl rfl (d_passMany hT am_u_at (Or.inl rfl) (ctk_F hT cF_db t) (by omega) (by omega)) rfl rfl ?_
  refine w_aload_n rfl rfl rfl ?_
  refine w_gf (t := .ref (63)) (v := .ref (63)) rfl rfl rfl sp0 rfl rfl rfl ?_
  refine w_gf (t := .int 0) (v := .int _) rfl rfl rfl sp63 rfl (congrArg Value.int rfl) rfl ?_
  exact w_iret rfl rfl rfl rfl rfl
theorem l_go1 {k : Nat} {I : hI} {J : hJ} {R : hR} {T : Nat} (hT : T = 9 ∨ T = 36) (h0 : R 0 3 = T) {N : Nat → Nat} {n : Nat} (t : ctk I T N) (hn : n ≤ 200) (hz : ¬ n = 0) (hk : 7 ≤ k) : wz k 11 (some .int) am_c122 28 [.ref 0, .int (Int32.ofNat n)] [] I J R (some (.int ((k_goP I J T N n).1 63 0)), am_hp (k_goP I J T N n).1 (k_goP I J T N n).2 (am_u R 84 3 T)) := by
  have ez : k_go0 I n = am_u I 96 0 (Int32.ofNat 0) := if_neg hz
  unfold k_goP
  rw [ez]
  refine w_iload_n rfl rfl rfl ?_
  refine w_if_le (t := 39) (f := 32) rfl rfl rfl (fun c29 => absurd c29 (not_not_intro ((am_ltN (x := 0) (by omega) (by omega)).mpr (by omega)))) (fun c29 => ?_)
  refine w_aload_n rfl rfl rfl ?_
  refine w_gf (t := .ref (96)) (v := .ref (96)) rfl rfl rfl sp0 rfl rfl rfl ?_
  refine w_cv (q := am_m7) (as := []) (rest := []) (st' := []) rfl rfl rfl rfl rfl rfl sp96 rfl rfl rfl rfl (d_cforget (by omega)) rfl rfl ?_
  refine w_aload_n rfl rfl rfl ?_
  refine w_gf (t := .ref (84)) (v := .ref (84)) rfl rfl rfl sp0 rfl rfl rfl ?_
  refine w_aload_n rfl rfl rfl ?_
  refine w_gf (t := .retAddr 0) (v := .ref (T)) rfl rfl rfl sp0 rfl (congrArg Value.ref (by first | exact h0 | exact (am_u_na (by decide)).trans h0)) rfl ?_
  refine w_iconst (x := Int32.ofNat 0) rfl rfl (by decide) ?_
  refine w_cv (q := am_m13) (as := [_, _]) (rest := []) (st' := []) rfl rfl rfl rfl rfl rfl sp84 rfl rfl rfl rfl (d_dbegin hT (by omega)) rfl rfl ?_
  refine w_aload_n rfl rfl rfl ?_
  refine w_gf (t := .ref (84)) (v := .ref (84)) rfl rfl rfl sp0 rfl rfl rfl ?_
  refine w_aload_n rfl rfl rfl ?_
  refine w_gf (t := .ref (63)) (v := .ref (63)) rfl rfl rfl sp0 rfl rfl rfl ?_
  refine w_iload_n rfl rfl rfl ?_
  refine w_cv (q := am_m14) (as := [_, _]) (rest := []) (st' := []) rfl rfl rfl rfl rfl rfl sp84 rfl rfl rfl rfl (d_passMany hT am_u_at (Or.inl rfl) (ctk_F hT (cF_tr (cF_u (by omega)) cF_db) t) (by omega) (by omega)) rfl rfl ?_
  refine w_aload_n rfl rfl rfl ?_
  refine w_gf (t := .ref (63)) (v := .ref (63)) rfl rfl rfl sp0 rfl rfl rfl ?_
  refine w_gf (t := .int 0) (v := .int _) rfl rfl rfl sp63 rfl (congrArg Value.int rfl) rfl ?_
  exact w_iret rfl rfl rfl rfl rfl
theorem d_go {k : Nat} {I : hI} {J : hJ} {R : hR} {T : Nat} (hT : T = 9 ∨ T = 36) (h0 : R 0 3 = T) {N : Nat → Nat} (t : ctk I T N) {n : Nat} (hn : n ≤ 200) (hd : ¬ Int32.ofNat 9000 < I 63 0 + Int32.ofNat n) (hk : 8 ≤ k) : ct k 122 [.ref 0, .int (Int32.ofNat n)] I J R (some (.int ((k_goP I J T N n).1 63 0))) ((k_goP I J T N n).1) ((k_goP I J T N n).2) (am_u R 84 3 T) := by
  obtain ⟨k, rfl⟩ : ∃ k', k = k' + 1 := ⟨k - 1, by omega⟩
  obtain ⟨⟨l1, l2, l3⟩, ⟨e5, e11, e3⟩, rM, tH, sM, ⟨e18, l18⟩, ⟨e21, l21⟩, ⟨e24, l24⟩⟩ := id t
  refine ct_of (q := am_m122) (o := 11) (rt := (some .int)) (co := am_c122) (L := [_, _]) rfl rfl rfl rfl rfl rfl ?_
  refine w_iload_n rfl rfl rfl ?_
  refine w_if_lt (t := 26) (f := 4) rfl rfl rfl (fun c1 => absurd c1 (fun c => absurd ((am_ltN (y := 0) (by omega) (by omega)).mp c) (Nat.not_lt_zero n))) (fun c1 => ?_)
  refine w_iload_n rfl rfl rfl ?_
  refine w_sipush (x := Int32.ofNat 200) rfl rfl (by decide) ?_
  refine w_ic_gtN (t := 26) (f := 11) rfl rfl rfl (by omega) (by omega) (fun c8 => absurd c8 (by omega)) (fun c8 => ?_)
  refine w_aload_n rfl rfl rfl ?_
  refine w_gf (t := .ref (63)) (v := .ref (63)) rfl rfl rfl sp0 rfl rfl rfl ?_
  refine w_gf (t := .int 0) (v := .int _) rfl rfl rfl sp63 rfl (congrArg Value.int rfl) rfl ?_
  refine w_iload_n rfl rfl rfl ?_
  refine w_iadd rfl rfl ?_
  refine w_sipush (x := Int32.ofNat 9000) rfl rfl (by decide) ?_
  refine w_ic_le (t := 28) (f := 26) rfl rfl rfl (fun c23 => ?_) (fun c23 => absurd c23 hd)
  by_cases hz : n = 0
  · subst hz
    exact l_go0 hT h0 t (by omega)
  · exact l_go1 hT h0 t hn hz (by omega)
theorem d_go_no {k : Nat} {I : hI} {J : hJ} {R : hR} {x : Int32} (hx : ¬ ((¬ x < Int32.ofNat 0 ∧ ¬ Int32.ofNat 200 < x) ∧ ¬ Int32.ofNat 9000 < I 63 0 + x)) (hk : 1 ≤ k) : ct k 122 [.ref 0, .int x] I J R (some (.int (Int32.ofInt (-1)))) I J R := by
  obtain ⟨k, rfl⟩ : ∃ k', k = k' + 1 := ⟨k - 1, by omega⟩
  refine ct_of (q := am_m122) (o := 11) (rt := (some .int)) (co := am_c122) (L := [_, _]) rfl rfl rfl rfl rfl rfl ?_
  refine w_iload_n rfl rfl rfl ?_
  refine w_if_lt (t := 26) (f := 4) rfl rfl rfl (fun c1 => ?_) (fun c1 => ?_)
  · refine w_iconst (x := Int32.ofInt (-1)) rfl rfl (by decide) ?_
    exact w_iret rfl rfl rfl rfl rfl
  · refine w_iload_n rfl rfl rfl ?_
    refine w_sipush (x := Int32.ofNat 200) rfl rfl (by decide) ?_
    refine w_ic_gt (t := 26) (f := 11) rfl rfl rfl (fun c8 => ?_) (fun c8 => ?_)
    · refine w_iconst (x := Int32.ofInt (-1)) rfl rfl (by decide) ?_
      exact w_iret rfl rfl rfl rfl rfl
    · refine w_aload_n rfl rfl rfl ?_
      refine w_gf (t := .ref (63)) (v := .ref (63)) rfl rfl rfl sp0 rfl rfl rfl ?_
      refine w_gf (t := .int 0) (v := .int _) rfl rfl rfl sp63 rfl (congrArg Value.int rfl) rfl ?_
      refine w_iload_n rfl rfl rfl ?_
      refine w_iadd rfl rfl ?_
      refine w_sipush (x := Int32.ofNat 9000) rfl rfl (by decide) ?_
      refine w_ic_le (t := 28) (f := 26) rfl rfl rfl (fun c23 => ?_) (fun c23 => ?_)
      · exact (hx ⟨⟨c1, c8⟩, c23⟩).elim
      · refine w_iconst (x := Int32.ofInt (-1)) rfl rfl (by decide) ?_
        exact w_iret rfl rfl rfl rfl rfl
theorem d_undo_no {k : Nat} {I : hI} {J : hJ} {R : hR} (h : I 96 0 = 0) (hk : 2 ≤ k) : ct k 155 [.ref 0] I J R (some (.int (Int32.ofInt (-1)))) I J R := by
  obtain ⟨k, rfl⟩ : ∃ k', k = k' + 1 := ⟨k - 1, by omega⟩
  refine ct_of (q := am_m155) (o := 11) (rt := (some .int)) (co := am_c155) (L := [_]) rfl rfl rfl rfl rfl rfl ?_
  refine w_aload_n rfl rfl rfl ?_
  refine w_gf (t := .ref (96)) (v := .ref (96)) rfl rfl rfl sp0 rfl rfl rfl ?_
  refine w_aload_n rfl rfl rfl ?_
  refine w_gf (t := .ref (63)) (v := .ref (63)) rfl rfl rfl sp0 rfl rfl rfl ?_
  refine w_cv (q := am_m11) (as := [_]) (rest := []) (st' := [_]) rfl rfl rfl rfl rfl rfl sp96 rfl rfl rfl rfl (d_undo0 (Or.inl rfl) h (by omega)) rfl rfl ?_
  exact w_iret rfl rfl rfl rfl rfl
theorem d_undo_S {k : Nat} {I : hI} {J : hJ} {R : hR} {u s : Nat} (hu : u < 20) (hs : s < 5) (h96 : I 96 0 = Int32.ofNat (u + 1)) (h1 : I 97 u = Int32.ofInt (-1)) (h2 : I 101 u = Int32.ofNat s) (hk : 2 ≤ k) : ct k 155 [.ref 0] I J R (some (.int (Int32.ofNat u))) (k_unS I 63 u s) J R := by
  obtain ⟨k, rfl⟩ : ∃ k', k = k' + 1 := ⟨k - 1, by omega⟩
  refine ct_of (q := am_m155) (o := 11) (rt := (some .int)) (co := am_c155) (L := [_]) rfl rfl rfl rfl rfl rfl ?_
  refine w_aload_n rfl rfl rfl ?_
  refine w_gf (t := .ref (96)) (v := .ref (96)) rfl rfl rfl sp0 rfl rfl rfl ?_
  refine w_aload_n rfl rfl rfl ?_
  refine w_gf (t := .ref (63)) (v := .ref (63)) rfl rfl rfl sp0 rfl rfl rfl ?_
  refine w_cv (q := am_m11) (as := [_]) (rest := []) (st' := [_]) rfl rfl rfl rfl rfl rfl sp96 rfl rfl rfl rfl (d_undoS (Or.inl rfl) hu hs h96 h1 h2 (by omega)) rfl rfl ?_
  exact w_iret rfl rfl rfl rfl rfl
theorem d_undo_R {k : Nat} {I : hI} {J : hJ} {R : hR} {u r : Nat} (hu : u < 20) (hr : r < 8) (h96 : I 96 0 = Int32.ofNat (u + 1)) (h1 : I 97 u = Int32.ofNat r) (hk : 2 ≤ k) : ct k 155 [.ref 0] I J R (some (.int (Int32.ofNat u))) (k_unR I 63 u r) J R := by
  obtain ⟨k, rfl⟩ : ∃ k', k = k' + 1 := ⟨k - 1, by omega⟩
  refine ct_of (q := am_m155) (o := 11) (rt := (some .int)) (co := am_c155) (L := [_]) rfl rfl rfl rfl rfl rfl ?_
  refine w_aload_n rfl rfl rfl ?_
  refine w_gf (t := .ref (96)) (v := .ref (96)) rfl rfl rfl sp0 rfl rfl rfl ?_
  refine w_aload_n rfl rfl rfl ?_
  refine w_gf (t := .ref (63)) (v := .ref (63)) rfl rfl rfl sp0 rfl rfl rfl ?_
  refine w_cv (q := am_m11) (as := [_]) (rest := []) (st' := [_]) rfl rfl rfl rfl rfl rfl sp96 rfl rfl rfl rfl (d_undoR (Or.inl rfl) hu hr h96 h1 (by omega)) rfl rfl ?_
  exact w_iret rfl rfl rfl rfl rfl
theorem d_keep {k : Nat} {I : hI} {J : hJ} {R : hR}  (hk : 2 ≤ k) : ct k 156 [.ref 0] I J R (some (.int (am_u (k_copy I 70 63) 0 9 (Int32.ofNat 1) 63 0))) (am_u (k_copy I 70 63) 0 9 (Int32.ofNat 1)) (am_u J 70 1 (J 63 1)) R := by
  obtain ⟨k, rfl⟩ : ∃ k', k = k' + 1 := ⟨k - 1, by omega⟩
  refine ct_of (q := am_m156) (o := 11) (rt := (some .int)) (co := am_c156) (L := [_]) rfl rfl rfl rfl rfl rfl ?_
  refine w_aload_n rfl rfl rfl ?_
  refine w_gf (t := .ref (70)) (v := .ref (70)) rfl rfl rfl sp0 rfl rfl rfl ?_
  refine w_aload_n rfl rfl rfl ?_
  refine w_gf (t := .ref (63)) (v := .ref (63)) rfl rfl rfl sp0 rfl rfl rfl ?_
  refine w_cv (q := am_m65) (as := [_]) (rest := []) (st' := []) rfl rfl rfl rfl rfl rfl sp70 rfl rfl rfl rfl (d_copy (Or.inr (Or.inl rfl)) (Or.inl rfl) (by decide) (by omega)) rfl rfl ?_
  refine w_aload_n rfl rfl rfl ?_
  refine w_iconst (x := Int32.ofNat 1) rfl rfl (by decide) ?_
  refine w_pf rfl rfl rfl sp0 rfl rfl rfl ?_
  refine w_aload_n rfl rfl rfl ?_
  refine w_gf (t := .ref (63)) (v := .ref (63)) rfl rfl rfl sp0 rfl rfl rfl ?_
  refine w_gf (t := .int 0) (v := .int _) rfl rfl rfl sp63 rfl (congrArg Value.int (congrFun (am_u_ne (by decide)) _)) rfl ?_
  exact w_iret rfl (am_u_na (by decide)).symm rfl rfl rfl
theorem d_back {k : Nat} {I : hI} {J : hJ} {R : hR} (h : ¬ I 0 9 = 0) (hk : 2 ≤ k) : ct k 157 [.ref 0] I J R (some (.int (am_u (k_copy I 63 70) 96 0 (Int32.ofNat 0) 63 0))) (am_u (k_copy I 63 70) 96 0 (Int32.ofNat 0)) (am_u J 63 1 (J 70 1)) R := by
  obtain ⟨k, rfl⟩ : ∃ k', k = k' + 1 := ⟨k - 1, by omega⟩
  refine ct_of (q := am_m157) (o := 11) (rt := (some .int)) (co := am_c157) (L := [_]) rfl rfl rfl rfl rfl rfl ?_
  refine w_aload_n rfl rfl rfl ?_
  refine w_gf (t := .int 0) (v := .int _) rfl rfl rfl sp0 rfl (congrArg Value.int rfl) rfl ?_
  refine w_if_ne (t := 9) (f := 7) rfl rfl rfl (fun c4 => ?_) (fun c4 => absurd c4 h)
  refine w_aload_n rfl rfl rfl ?_
  refine w_gf (t := .ref (63)) (v := .ref (63)) rfl rfl rfl sp0 rfl rfl rfl ?_
  refine w_aload_n rfl rfl rfl ?_
  refine w_gf (t := .ref (70)) (v := .ref (70)) rfl rfl rfl sp0 rfl rfl rfl ?_
  refine w_cv (q := am_m65) (as := [_]) (rest := []) (st' := []) rfl rfl rfl rfl rfl rfl sp63 rfl rfl rfl rfl (d_copy (Or.inl rfl) (Or.inr (Or.inl rfl)) (by decide) (by omega)) rfl rfl ?_
  refine w_aload_n rfl rfl rfl ?_
  refine w_gf (t := .ref (96)) (v := .ref (96)) rfl rfl rfl sp0 rfl rfl rfl ?_
  refine w_cv (q := am_m7) (as := []) (rest := []) (st' := []) rfl rfl rfl rfl rfl rfl sp96 rfl rfl rfl rfl (d_cforget (by omega)) rfl rfl ?_
  refine w_aload_n rfl rfl rfl ?_
  refine w_gf (t := .ref (63)) (v := .ref (63)) rfl rfl rfl sp0 rfl rfl rfl ?_
  refine w_gf (t := .int 0) (v := .int _) rfl rfl rfl sp63 rfl (congrArg Value.int rfl) rfl ?_
  exact w_iret rfl rfl rfl rfl rfl
theorem d_back_no {k : Nat} {I : hI} {J : hJ} {R : hR} (h : I 0 9 = 0) (hk : 2 ≤ k) : ct k 157 [.ref 0] I J R (some (.int (Int32.ofInt (-1)))) I J R := by
  obtain ⟨k, rfl⟩ : ∃ k', k = k' + 1 := ⟨k - 1, by omega⟩
  refine ct_of (q := am_m157) (o := 11) (rt := (some .int)) (co := am_c157) (L := [_]) rfl rfl rfl rfl rfl rfl ?_
  refine w_aload_n rfl rfl rfl ?_
  refine w_gf (t := .int 0) (v := .int _) rfl rfl rfl sp0 rfl (congrArg Value.int rfl) rfl ?_
  refine w_if_ne (t := 9) (f := 7) rfl rfl rfl (fun c4 => absurd c4 (not_not_intro h)) (fun c4 => ?_)
  refine w_iconst (x := Int32.ofInt (-1)) rfl rfl (by decide) ?_
  exact w_iret rfl rfl rfl rfl rfl
theorem d_known {k : Nat} {I : hI} {J : hJ} {R : hR} {x : Int32} (hx : ¬ x < Int32.ofInt (-1) ∧ ¬ I 88 0 < x) (hk : 1 ≤ k) : ct k 149 [.ref 0, .int x] I J R (some (.int 1)) (am_u I 88 1 x) J R := by
  obtain ⟨k, rfl⟩ : ∃ k', k = k' + 1 := ⟨k - 1, by omega⟩
  refine ct_of (q := am_m149) (o := 11) (rt := (some .boolean)) (co := am_c149) (L := [_, _]) rfl rfl rfl rfl rfl rfl ?_
  refine w_iload_n rfl rfl rfl ?_
  refine w_iconst (x := Int32.ofInt (-1)) rfl rfl (by decide) ?_
  refine w_ic_lt (t := 16) (f := 5) rfl rfl rfl (fun c2 => absurd c2 hx.1) (fun c2 => ?_)
  refine w_iload_n rfl rfl rfl ?_
  refine w_aload_n rfl rfl rfl ?_
  refine w_gf (t := .ref (88)) (v := .ref (88)) rfl rfl rfl sp0 rfl rfl rfl ?_
  refine w_gf (t := .int 0) (v := .int _) rfl rfl rfl sp88 rfl (congrArg Value.int rfl) rfl ?_
  refine w_ic_le (t := 18) (f := 16) rfl rfl rfl (fun c13 => ?_) (fun c13 => absurd c13 hx.2)
  refine w_aload_n rfl rfl rfl ?_
  refine w_gf (t := .ref (88)) (v := .ref (88)) rfl rfl rfl sp0 rfl rfl rfl ?_
  refine w_iload_n rfl rfl rfl ?_
  refine w_pf rfl rfl rfl sp88 rfl rfl rfl ?_
  refine w_iconst (x := Int32.ofNat 1) rfl rfl (by decide) ?_
  exact w_bret rfl (by decide) rfl rfl rfl rfl
theorem d_known_no {k : Nat} {I : hI} {J : hJ} {R : hR} {x : Int32} (hx : ¬ (¬ x < Int32.ofInt (-1) ∧ ¬ I 88 0 < x)) (hk : 1 ≤ k) : ct k 149 [.ref 0, .int x] I J R (some (.int 0)) I J R := by
  obtain ⟨k, rfl⟩ : ∃ k', k = k' + 1 := ⟨k - 1, by omega⟩
  refine ct_of (q := am_m149) (o := 11) (rt := (some .boolean)) (co := am_c149) (L := [_, _]) rfl rfl rfl rfl rfl rfl ?_
  refine w_iload_n rfl rfl rfl ?_
  refine w_iconst (x := Int32.ofInt (-1)) rfl rfl (by decide) ?_
  refine w_ic_lt (t := 16) (f := 5) rfl rfl rfl (fun c2 => ?_) (fun c2 => ?_)
  · refine w_iconst (x := Int32.ofNat 0) rfl rfl (by decide) ?_
    exact w_bret rfl (by decide) rfl rfl rfl rfl
  · refine w_iload_n rfl rfl rfl ?_
    refine w_aload_n rfl rfl rfl ?_
    refine w_gf (t := .ref (88)) (v := .ref (88)) rfl rfl rfl sp0 rfl rfl rfl ?_
    refine w_gf (t := .int 0) (v := .int _) rfl rfl rfl sp88 rfl (congrArg Value.int rfl) rfl ?_
    refine w_ic_le (t := 18) (f := 16) rfl rfl rfl (fun c13 => ?_) (fun c13 => ?_)
    · exact (hx ⟨c2, c13⟩).elim
    · refine w_iconst (x := Int32.ofNat 0) rfl rfl (by decide) ?_
      exact w_bret rfl (by decide) rfl rfl rfl rfl
theorem d_see {k : Nat} {I : hI} {J : hJ} {R : hR} {T : Nat} (hT : T = 9 ∨ T = 36) (h0 : R 0 3 = T) {N : Nat → Nat} (t : ctk I T N) {s : Nat} (hs : s < N 2) {n : Nat} (n1 : 1 ≤ n) (n2 : n ≤ 60) {w : Int32} (hw : w = 0 ∨ w = 1) {q : Nat} (hq : q < 24) (h88 : I 88 0 = Int32.ofNat q) (hk : 2 ≤ k) : ct k 147 [.ref 0, .int (Int32.ofNat n), .int (Int32.ofNat s), .int w] I J R (some (.int (Int32.ofNat q))) (k_as I q (Int32.ofNat n) (Int32.ofNat s) w) J R := by
  obtain ⟨k, rfl⟩ : ∃ k', k = k' + 1 := ⟨k - 1, by omega⟩
  obtain ⟨⟨l1, l2, l3⟩, ⟨e5, e11, e3⟩, rM, tH, sM, ⟨e18, l18⟩, ⟨e21, l21⟩, ⟨e24, l24⟩⟩ := id t
  refine ct_of (q := am_m147) (o := 11) (rt := (some .int)) (co := am_c147) (L := [_, _, _, _]) rfl rfl rfl rfl rfl rfl ?_
  refine w_iload_n rfl rfl rfl ?_
  refine w_iconst (x := Int32.ofNat 1) rfl rfl (by decide) ?_
  refine w_ic_ltN (t := 19) (f := 5) rfl rfl rfl (by omega) (by omega) (fun c2 => absurd c2 (by omega)) (fun c2 => ?_)
  refine w_iload_n rfl rfl rfl ?_
  refine w_bipush (x := Int32.ofNat 60) rfl rfl (by decide) ?_
  refine w_ic_gtN (t := 19) (f := 11) rfl rfl rfl (by omega) (by omega) (fun c8 => absurd c8 (by omega)) (fun c8 => ?_)
  refine w_aload_n rfl rfl rfl ?_
  refine w_iload_n rfl rfl rfl ?_
  refine w_cv (q := am_m162) (as := [_]) (rest := []) (st' := [_]) rfl rfl rfl rfl rfl rfl sp0 rfl rfl rfl rfl (d_isShip hT h0 (by omega)) rfl rfl ?_
  refine w_if_neB (t := 21) (f := 19) rfl rfl rfl (fun c16 => ?_) (fun c16 => absurd c16 (k_isok hs (by omega) e11))
  refine w_aload_n rfl rfl rfl ?_
  refine w_gf (t := .ref (88)) (v := .ref (88)) rfl rfl rfl sp0 rfl rfl rfl ?_
  refine w_iload_n rfl rfl rfl ?_
  refine w_iload_n rfl rfl rfl ?_
  refine w_iload_n rfl rfl rfl ?_
  refine w_cv (q := am_m54) (as := [_, _, _]) (rest := []) (st' := [_]) rfl rfl rfl rfl rfl rfl sp88 rfl rfl rfl rfl (d_addSight hq h88 hw (by omega)) rfl rfl ?_
  exact w_iret rfl rfl rfl rfl rfl
theorem d_see_full {k : Nat} {I : hI} {J : hJ} {R : hR} {T : Nat} (hT : T = 9 ∨ T = 36) (h0 : R 0 3 = T) {N : Nat → Nat} (t : ctk I T N) {s : Nat} (hs : s < N 2) {n : Nat} (n1 : 1 ≤ n) (n2 : n ≤ 60) {w : Int32} (h88 : I 88 0 = Int32.ofNat 24) (hk : 2 ≤ k) : ct k 147 [.ref 0, .int (Int32.ofNat n), .int (Int32.ofNat s), .int w] I J R (some (.int (Int32.ofInt (-1)))) I J R := by
  obtain ⟨k, rfl⟩ : ∃ k', k = k' + 1 := ⟨k - 1, by omega⟩
  obtain ⟨⟨l1, l2, l3⟩, ⟨e5, e11, e3⟩, rM, tH, sM, ⟨e18, l18⟩, ⟨e21, l21⟩, ⟨e24, l24⟩⟩ := id t
  refine ct_of (q := am_m147) (o := 11) (rt := (some .int)) (co := am_c147) (L := [_, _, _, _]) rfl rfl rfl rfl rfl rfl ?_
  refine w_iload_n rfl rfl rfl ?_
  refine w_iconst (x := Int32.ofNat 1) rfl rfl (by decide) ?_
  refine w_ic_ltN (t := 19) (f := 5) rfl rfl rfl (by omega) (by omega) (fun c2 => absurd c2 (by omega)) (fun c2 => ?_)
  refine w_iload_n rfl rfl rfl ?_
  refine w_bipush (x := Int32.ofNat 60) rfl rfl (by decide) ?_
  refine w_ic_gtN (t := 19) (f := 11) rfl rfl rfl (by omega) (by omega) (fun c8 => absurd c8 (by omega)) (fun c8 => ?_)
  refine w_aload_n rfl rfl rfl ?_
  refine w_iload_n rfl rfl rfl ?_
  refine w_cv (q := am_m162) (as := [_]) (rest := []) (st' := [_]) rfl rfl rfl rfl rfl rfl sp0 rfl rfl rfl rfl (d_isShip hT h0 (by omega)) rfl rfl ?_
  refine w_if_neB (t := 21) (f := 19) rfl rfl rfl (fun c16 => ?_) (fun c16 => absurd c16 (k_isok hs (by omega) e11))
  refine w_aload_n rfl rfl rfl ?_
  refine w_gf (t := .ref (88)) (v := .ref (88)) rfl rfl rfl sp0 rfl rfl rfl ?_
  refine w_iload_n rfl rfl rfl ?_
  refine w_iload_n rfl rfl rfl ?_
  refine w_iload_n rfl rfl rfl ?_
  refine w_cv (q := am_m54) (as := [_, _, _]) (rest := []) (st' := [_]) rfl rfl rfl rfl rfl rfl sp88 rfl rfl rfl rfl (d_addSight_no h88 (by omega)) rfl rfl ?_
  exact w_iret rfl rfl rfl rfl rfl
theorem d_see_no {k : Nat} {I : hI} {J : hJ} {R : hR} {T : Nat} (hT : T = 9 ∨ T = 36) (h0 : R 0 3 = T) {x y w : Int32} (hx : ¬ ((¬ x < Int32.ofNat 1 ∧ ¬ Int32.ofNat 60 < x) ∧ (¬ y < 0 ∧ y < I (T + 11) 1))) (hk : 2 ≤ k) : ct k 147 [.ref 0, .int x, .int y, .int w] I J R (some (.int (Int32.ofInt (-1)))) I J R := by
  obtain ⟨k, rfl⟩ : ∃ k', k = k' + 1 := ⟨k - 1, by omega⟩
  refine ct_of (q := am_m147) (o := 11) (rt := (some .int)) (co := am_c147) (L := [_, _, _, _]) rfl rfl rfl rfl rfl rfl ?_
  refine w_iload_n rfl rfl rfl ?_
  refine w_iconst (x := Int32.ofNat 1) rfl rfl (by decide) ?_
  refine w_ic_lt (t := 19) (f := 5) rfl rfl rfl (fun c2 => ?_) (fun c2 => ?_)
  · refine w_iconst (x := Int32.ofInt (-1)) rfl rfl (by decide) ?_
    exact w_iret rfl rfl rfl rfl rfl
  · refine w_iload_n rfl rfl rfl ?_
    refine w_bipush (x := Int32.ofNat 60) rfl rfl (by decide) ?_
    refine w_ic_gt (t := 19) (f := 11) rfl rfl rfl (fun c8 => ?_) (fun c8 => ?_)
    · refine w_iconst (x := Int32.ofInt (-1)) rfl rfl (by decide) ?_
      exact w_iret rfl rfl rfl rfl rfl
    · refine w_aload_n rfl rfl rfl ?_
      refine w_iload_n rfl rfl rfl ?_
      refine w_cv (q := am_m162) (as := [_]) (rest := []) (st' := [_]) rfl rfl rfl rfl rfl rfl sp0 rfl rfl rfl rfl (d_isShip hT h0 (by omega)) rfl rfl ?_
      refine w_if_neB (t := 21) (f := 19) rfl rfl rfl (fun c16 => ?_) (fun c16 => ?_)
      · exact (hx ⟨⟨c2, c8⟩, c16⟩).elim
      · refine w_iconst (x := Int32.ofInt (-1)) rfl rfl (by decide) ?_
        exact w_iret rfl rfl rfl rfl rfl
theorem d_strike {k : Nat} {I : hI} {J : hJ} {R : hR} {q i : Nat} (hq : q < 24) (hi : i < q) (h88 : I 88 0 = Int32.ofNat q) (hk : 2 ≤ k) : ct k 148 [.ref 0, .int (Int32.ofNat i)] I J R (some (.int (Int32.ofNat q))) (k_sk I q (Int32.ofNat i)) J R := by
  obtain ⟨k, rfl⟩ : ∃ k', k = k' + 1 := ⟨k - 1, by omega⟩
  refine ct_of (q := am_m148) (o := 11) (rt := (some .int)) (co := am_c148) (L := [_, _]) rfl rfl rfl rfl rfl rfl ?_
  refine w_aload_n rfl rfl rfl ?_
  refine w_gf (t := .ref (88)) (v := .ref (88)) rfl rfl rfl sp0 rfl rfl rfl ?_
  refine w_iload_n rfl rfl rfl ?_
  refine w_cv (q := am_m55) (as := [_]) (rest := []) (st' := [_]) rfl rfl rfl rfl rfl rfl sp88 rfl rfl rfl rfl (d_addStrike hq hi h88 (by omega)) rfl rfl ?_
  exact w_iret rfl rfl rfl rfl rfl
theorem d_strike_no {k : Nat} {I : hI} {J : hJ} {R : hR} {x : Int32} (h : ¬ (¬ x < 0 ∧ x < I 88 0 ∧ I 88 0 < Int32.ofNat 24)) (hk : 2 ≤ k) : ct k 148 [.ref 0, .int x] I J R (some (.int (Int32.ofInt (-1)))) I J R := by
  obtain ⟨k, rfl⟩ : ∃ k', k = k' + 1 := ⟨k - 1, by omega⟩
  refine ct_of (q := am_m148) (o := 11) (rt := (some .int)) (co := am_c148) (L := [_, _]) rfl rfl rfl rfl rfl rfl ?_
  refine w_aload_n rfl rfl rfl ?_
  refine w_gf (t := .ref (88)) (v := .ref (88)) rfl rfl rfl sp0 rfl rfl rfl ?_
  refine w_iload_n rfl rfl rfl ?_
  refine w_cv (q := am_m55) (as := [_]) (rest := []) (st' := [_]) rfl rfl rfl rfl rfl rfl sp88 rfl rfl rfl rfl (d_addStrike_no h (by omega)) rfl rfl ?_
  exact w_iret rfl rfl rfl rfl rfl
