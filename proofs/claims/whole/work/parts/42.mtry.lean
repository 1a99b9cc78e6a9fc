/-! The reference: days that go, trials, searches. -/
def m_go0 (I : hI) : hI := am_u (m_pt (m_z I)) 110 64 (Int32.ofNat 1)
def m_go1 (N : Nat → Nat) (I : hI) (J : hJ) (n : Nat) : hI × hJ := m_days N 0 n (m_go0 I, J)
def m_goI (N : Nat → Nat) (I : hI) (J : hJ) (n : Nat) : hI := am_u (am_u (m_go1 N I J n).1 110 64 (Int32.ofNat 0)) 110 84 (if n = 0 then (m_go1 N I J n).1 110 84 else Int32.ofNat 0)
theorem tok_go0 {I : hI} {N : Nat → Nat} (t : tok I N) : tok (m_go0 I) N := tok_u (by omega) (by omega) (tok_pt (tok_z t))
theorem sb_go0 (I : hI) : sb (m_go0 I) := sb_u (by omega) (sb_pt _)
theorem l_go {k : Nat} {R : hR} {q : Option Value × am_H} {n : Nat} {N : Nat → Nat} {I0 : hI} {J0 : hJ} (hn : n < 1000) (t : tok I0 N) (hs : sb I0) (hk : 7 ≤ k) (Z : wz k 12 (some .int) am_c245 59 [.ref 110, .int (Int32.ofNat n), .int (Int32.ofNat n)] [] ((m_days N 0 n (I0, J0)).1) ((m_days N 0 n (I0, J0)).2) R q) : ∀ (j r : Nat) , r + j = n → wz k 12 (some .int) am_c245 43 [.ref 110, .int (Int32.ofNat n), .int (Int32.ofNat r)] [] ((m_days N 0 r (I0, J0)).1) ((m_days N 0 r (I0, J0)).2) R q := by
  intro j
  induction j with
  | zero =>
    intro r e
    obtain rfl : n = r := by omega
    have t1 := tok_F (simF_days N 0 n (I0, J0)) t
    have s1 := sb_days N 0 n (I0, J0) hs
    refine w_iload_n rfl rfl rfl ?_
    refine w_iload_n rfl rfl rfl ?_
    refine w_ic_geN (t := 59) (f := 48) rfl rfl rfl (by omega) (by omega) (fun c45 => ?_) (fun c45 => absurd c45 (by omega))
    exact Z
  | succ j ih =>
    intro r e
    have t1 := tok_F (simF_days N 0 r (I0, J0)) t
    have s1 := sb_days N 0 r (I0, J0) hs
    refine w_iload_n rfl rfl rfl ?_
    refine w_iload_n rfl rfl rfl ?_
    refine w_ic_geN (t := 59) (f := 48) rfl rfl rfl (by omega) (by omega) (fun c45 => absurd c45 (by omega)) (fun c45 => ?_)
    refine w_aload_n rfl rfl rfl ?_
    refine w_iconst (x := Int32.ofNat 0) rfl rfl (by decide) ?_
    refine w_cv (q := am_m231) (as := [_]) (rest := []) (st' := []) rfl rfl rfl rfl rfl rfl sp110 rfl rfl rfl rfl (c_dayGoes (b := 0) (by decide) t1 s1 (by omega)) rfl rfl ?_
    refine w_iinc (L' := [_, _, _]) rfl rfl rfl (am_incN 1) rfl ?_
    refine w_goto (pc' := 43) rfl rfl ?_
    exact ih (r + 1) (by omega)
theorem am_gt0 {n : Nat} (hn : n < 1000) (h : ¬ 0 < Int32.ofNat n) : n = 0 := by
  rcases Nat.eq_zero_or_pos n with e | e
  · exact e
  · exact absurd ((am_ltN (x := 0) (by omega) (by omega)).mpr e) h
theorem am_gt1 {n : Nat} (hn : n < 1000) (h : 0 < Int32.ofNat n) : ¬ n = 0 := fun e => by subst e; exact absurd h (by decide)
theorem c_go {k : Nat} {I : hI} {J : hJ} {R : hR} {N : Nat → Nat} (t : tok I N) {n : Nat} (hn : n ≤ 200) (hd : ¬ Int32.ofNat 9000 < I 145 0 + Int32.ofNat n) (hk : 8 ≤ k) : ct k 245 [.ref 110, .int (Int32.ofNat n)] I J R (some (.int (m_goI N I J n 145 0))) (m_goI N I J n) ((m_go1 N I J n).2) R := by
  obtain ⟨k, rfl⟩ : ∃ k', k = k' + 1 := ⟨k - 1, by omega⟩
  refine ct_of (q := am_m245) (L := [_, _, _]) rfl rfl rfl rfl rfl rfl ?_
  refine w_aload_n rfl rfl rfl ?_
  refine w_iconst (x := Int32.ofNat 0) rfl rfl (by decide) ?_
  refine w_pf rfl rfl rfl sp110 rfl rfl rfl ?_
  refine w_iload_n rfl rfl rfl ?_
  refine w_iconst (x := Int32.ofNat 0) rfl rfl (by decide) ?_
  refine w_sipush (x := Int32.ofNat 200) rfl rfl (by decide) ?_
  refine w_cs (q := am_m168) (na := 3) (as := [_, _, _]) (st' := [_]) rfl rfl rfl rfl (by decide) rfl rfl (Nat.le_of_ble_eq_true rfl) rfl rfl rfl (c_isIn (by omega)) rfl rfl ?_
  refine w_if_eqB (t := 30) (f := 16) rfl rfl rfl (fun c13 => absurd c13 (inok (Nat.zero_le _) hn (by decide))) (fun c13 => ?_)
  refine w_aload_n rfl rfl rfl ?_
  refine w_gf (t := .ref (145)) (v := .ref (145)) rfl rfl rfl sp110 rfl rfl rfl ?_
  refine w_iconst (x := Int32.ofNat 0) rfl rfl (by decide) ?_
  refine w_iaload rfl rfl sp145 rfl ⟨by omega, by omega⟩ (congrFun (am_u_ne (by decide)) _) ?_
  refine w_iload_n rfl rfl rfl ?_
  refine w_iadd rfl rfl ?_
  refine w_sipush (x := Int32.ofNat 9000) rfl rfl (by decide) ?_
  refine w_ic_le (t := 32) (f := 30) rfl rfl rfl (fun c27 => ?_) (fun c27 => absurd c27 hd)
  refine w_aload_n rfl rfl rfl ?_
  refine w_cv (q := am_m212) (as := []) (rest := []) (st' := []) rfl rfl rfl rfl rfl rfl sp110 rfl rfl rfl rfl (c_plainTried (by omega)) rfl rfl ?_
  refine w_aload_n rfl rfl rfl ?_
  refine w_iconst (x := Int32.ofNat 1) rfl rfl (by decide) ?_
  refine w_pf rfl rfl rfl sp110 rfl rfl rfl ?_
  refine w_iconst (x := Int32.ofNat 0) rfl rfl (by decide) ?_
  refine w_istore_n (L' := [_, _, _]) rfl rfl rfl ?_
  refine l_go (I0 := m_go0 I) (by omega) (tok_go0 t) (sb_go0 I) (by omega) ?_ n 0 (by omega)
  refine w_aload_n rfl rfl rfl ?_
  refine w_iconst (x := Int32.ofNat 0) rfl rfl (by decide) ?_
  refine w_pf rfl rfl rfl sp110 rfl rfl rfl ?_
  refine w_aload_n rfl rfl rfl ?_
  refine w_iload_n rfl rfl rfl ?_
  refine w_if_le (t := 73) (f := 69) rfl rfl rfl (fun c66 => ?_) (fun c66 => ?_)
  · refine w_aload_n rfl rfl rfl ?_
    refine w_gf (t := .int 0) (v := .int _) rfl rfl rfl sp110 rfl (congrArg Value.int (am_u_nk (by decide))) rfl ?_
    refine w_pf rfl rfl rfl sp110 rfl rfl rfl ?_
    refine w_aload_n rfl rfl rfl ?_
    refine w_gf (t := .ref (145)) (v := .ref (145)) rfl rfl rfl sp110 rfl rfl rfl ?_
    refine w_iconst (x := Int32.ofNat 0) rfl rfl (by decide) ?_
    refine w_iaload rfl rfl sp145 rfl ⟨by omega, by omega⟩ rfl ?_
    exact w_iret rfl (by unfold m_goI m_go1; first | rw [if_pos (am_gt0 (by omega) c66)] | rw [if_neg (am_gt1 (by omega) c66)]) (by unfold m_goI m_go1; first | rw [if_pos (am_gt0 (by omega) c66)] | rw [if_neg (am_gt1 (by omega) c66)]) rfl rfl
  · refine w_iconst (x := Int32.ofNat 0) rfl rfl (by decide) ?_
    refine w_goto (pc' := 77) rfl rfl ?_
    refine w_pf rfl rfl rfl sp110 rfl rfl rfl ?_
    refine w_aload_n rfl rfl rfl ?_
    refine w_gf (t := .ref (145)) (v := .ref (145)) rfl rfl rfl sp110 rfl rfl rfl ?_
    refine w_iconst (x := Int32.ofNat 0) rfl rfl (by decide) ?_
    refine w_iaload rfl rfl sp145 rfl ⟨by omega, by omega⟩ rfl ?_
    exact w_iret rfl (by unfold m_goI m_go1; first | rw [if_pos (am_gt0 (by omega) c66)] | rw [if_neg (am_gt1 (by omega) c66)]) (by unfold m_goI m_go1; first | rw [if_pos (am_gt0 (by omega) c66)] | rw [if_neg (am_gt1 (by omega) c66)]) rfl rfl
theorem c_go_no {k : Nat} {I : hI} {J : hJ} {R : hR} {x : Int32} (hx : ¬ ((¬ x < Int32.ofNat 0 ∧ ¬ Int32.ofNat 200 < x) ∧ ¬ Int32.ofNat 9000 < I 145 0 + x)) (hk : 2 ≤ k) : ct k 245 [.ref 110, .int x] I J R (some (.int (Int32.ofInt (-1)))) (m_z I) J R := by
  obtain ⟨k, rfl⟩ : ∃ k', k = k' + 1 := ⟨k - 1, by omega⟩
  refine ct_of (q := am_m245) (L := [_, _, _]) rfl rfl rfl rfl rfl rfl ?_
  refine w_aload_n rfl rfl rfl ?_
  refine w_iconst (x := Int32.ofNat 0) rfl rfl (by decide) ?_
  refine w_pf rfl rfl rfl sp110 rfl rfl rfl ?_
  refine w_iload_n rfl rfl rfl ?_
  refine w_iconst (x := Int32.ofNat 0) rfl rfl (by decide) ?_
  refine w_sipush (x := Int32.ofNat 200) rfl rfl (by decide) ?_
  refine w_cs (q := am_m168) (na := 3) (as := [_, _, _]) (st' := [_]) rfl rfl rfl rfl (by decide) rfl rfl (Nat.le_of_ble_eq_true rfl) rfl rfl rfl (c_isIn (by omega)) rfl rfl ?_
  refine w_if_eqB (t := 30) (f := 16) rfl rfl rfl (fun c13 => ?_) (fun c13 => ?_)
  · refine w_iconst (x := Int32.ofInt (-1)) rfl rfl (by decide) ?_
    exact w_iret rfl rfl rfl rfl rfl
  · refine w_aload_n rfl rfl rfl ?_
    refine w_gf (t := .ref (145)) (v := .ref (145)) rfl rfl rfl sp110 rfl rfl rfl ?_
    refine w_iconst (x := Int32.ofNat 0) rfl rfl (by decide) ?_
    refine w_iaload rfl rfl sp145 rfl ⟨by omega, by omega⟩ (congrFun (am_u_ne (by decide)) _) ?_
    refine w_iload_n rfl rfl rfl ?_
    refine w_iadd rfl rfl ?_
    refine w_sipush (x := Int32.ofNat 9000) rfl rfl (by decide) ?_
    refine w_ic_le (t := 32) (f := 30) rfl rfl rfl (fun c27 => ?_) (fun c27 => ?_)
    · exact (hx ⟨c13, c27⟩).elim
    · refine w_iconst (x := Int32.ofInt (-1)) rfl rfl (by decide) ?_
      exact w_iret rfl rfl rfl rfl rfl
def m_tr (N : Nat → Nat) (I : hI) (J : hJ) (n : Nat) : hI × hJ := m_days N 1 n (m_lt (m_z I), J)
def m_ah (N : Nat → Nat) (I : hI) (w : Nat) (s : Int32) : Int32 := if w = 0 then m_cS I 1 (N 2) (Int32.ofNat 2) else if w = 1 then m_hA I 1 (N 2) - m_hA I 0 (N 2) else if w = 2 then m_cR I 1 (N 1) (Int32.ofNat 2) else if w = 3 then I 144 1 - I 144 0 else m_bear I 1 (N 1) s
theorem tok_tr {I : hI} {N : Nat → Nat} {J : hJ} {n : Nat} (t : tok I N) : tok (m_tr N I J n).1 N := tok_F (simF_days N 1 n (m_lt (m_z I), J)) (tok_lt (tok_z t))
theorem sb_lt (I : hI) : sb (m_lt I) := sb_pt _
theorem am_swN {n w c : Nat} (h : Int32.ofNat w = Int32.ofNat c) (hw : w < 1000) (hc : c < 1000) : w = c := (am_eqN (by omega) (by omega)).mp h
theorem c_ahead {k : Nat} {I : hI} {J : hJ} {R : hR} {N : Nat → Nat} (t : tok I N) {n w : Nat} {s : Int32} (hn : n ≤ 200) (hw : w ≤ 4) (hs : w = 4 → ¬ s < 0 ∧ s < I 110 14) (hk : 9 ≤ k) : ct k 246 [.ref 110, .int (Int32.ofNat n), .int (Int32.ofNat w), .int s] I J R (some (.int (m_ah N (m_tr N I J n).1 w s))) ((m_tr N I J n).1) ((m_tr N I J n).2) R := by
  obtain ⟨k, rfl⟩ : ∃ k', k = k' + 1 := ⟨k - 1, by omega⟩
  have t1 := tok_tr (J := J) (n := n) t
  have h13 := t1.2.1.2.1
  have h14 := t1.2.1.2.2.1
  have hn1 := t.1.2.1
  have hn2 := t.1.2.2.1
  refine ct_of (q := am_m246) (L := [_, _, _, _]) rfl rfl rfl rfl rfl rfl ?_
  refine w_aload_n rfl rfl rfl ?_
  refine w_iconst (x := Int32.ofNat 0) rfl rfl (by decide) ?_
  refine w_pf rfl rfl rfl sp110 rfl rfl rfl ?_
  refine w_iload_n rfl rfl rfl ?_
  refine w_iconst (x := Int32.ofNat 0) rfl rfl (by decide) ?_
  refine w_sipush (x := Int32.ofNat 200) rfl rfl (by decide) ?_
  refine w_cs (q := am_m168) (na := 3) (as := [_, _, _]) (st' := [_]) rfl rfl rfl rfl (by decide) rfl rfl (Nat.le_of_ble_eq_true rfl) rfl rfl rfl (c_isIn (by omega)) rfl rfl ?_
  refine w_if_eqB (t := 38) (f := 16) rfl rfl rfl (fun c13 => absurd c13 (inok (Nat.zero_le _) hn (by decide))) (fun c13 => ?_)
  refine w_iload_n rfl rfl rfl ?_
  refine w_iconst (x := Int32.ofNat 0) rfl rfl (by decide) ?_
  refine w_iconst (x := Int32.ofNat 4) rfl rfl (by decide) ?_
  refine w_cs (q := am_m168) (na := 3) (as := [_, _, _]) (st' := [_]) rfl rfl rfl rfl (by decide) rfl rfl (Nat.le_of_ble_eq_true rfl) rfl rfl rfl (c_isIn (by omega)) rfl rfl ?_
  refine w_if_eqB (t := 38) (f := 25) rfl rfl rfl (fun c22 => absurd c22 (inok (Nat.zero_le _) hw (by decide))) (fun c22 => ?_)
  refine w_iload_n rfl rfl rfl ?_
  refine w_iconst (x := Int32.ofNat 4) rfl rfl (by decide) ?_
  refine w_ic_neN (t := 40) (f := 30) rfl rfl rfl (by omega) (by omega) (fun c27 => ?_) (fun c27 => ?_)
  · refine w_aload_n rfl rfl rfl ?_
    refine w_cv (q := am_m213) (as := []) (rest := []) (st' := []) rfl rfl rfl rfl rfl rfl sp110 rfl rfl rfl rfl (c_layTried (by omega)) rfl rfl ?_
    refine w_aload_n rfl rfl rfl ?_
    refine w_iload_n rfl rfl rfl ?_
    refine w_cv (q := am_m232) (as := [_]) (rest := []) (st' := []) rfl rfl rfl rfl rfl rfl sp110 rfl rfl rfl rfl (c_goMany (by omega) (tok_lt (tok_z t)) (sb_lt _) (by omega)) rfl rfl ?_
    refine w_iload_n rfl rfl rfl ?_
    refine w_ts (lo := 0) (hi := 3) (d := 120) rfl rfl (by decide) (fun sw => ?_) (fun n h1 h2 sw => ?_)
    · refine w_aload_n rfl rfl rfl ?_
      refine w_iconst (x := Int32.ofNat 1) rfl rfl (by decide) ?_
      refine w_iload_n rfl rfl rfl ?_
      refine w_cv (q := am_m219) (as := [_, _]) (rest := []) (st' := [_]) rfl rfl rfl rfl rfl rfl sp110 rfl rfl rfl rfl (c_bearOf (b := 1) (by decide) hn1 h13 (by omega)) rfl rfl ?_
      exact w_iret rfl (by first | (have e5 := am_swN (n := 0) sw (by omega) (by decide); subst e5; rfl) | (have e5 : w = 4 := (by have h0 := sw 0 (by decide) (by decide); have h1 := sw 1 (by decide) (by decide); have h2 := sw 2 (by decide) (by decide); have h3 := sw 3 (by decide) (by decide); have : ¬ w = 0 := (fun z => h0 (by rw [z])); have : ¬ w = 1 := (fun z => h1 (by rw [z])); have : ¬ w = 2 := (fun z => h2 (by rw [z])); have : ¬ w = 3 := (fun z => h3 (by rw [z])); omega); subst e5; rfl)) rfl rfl rfl
    · have h3 : n = 0 ∨ n = 1 ∨ n = 2 ∨ n = 3 := by omega
      rcases h3 with rfl | rfl | rfl | rfl
      · refine ⟨80, rfl, ?_⟩
        refine w_aload_n rfl rfl rfl ?_
        refine w_iconst (x := Int32.ofNat 1) rfl rfl (by decide) ?_
        refine w_iconst (x := Int32.ofNat 2) rfl rfl (by decide) ?_
        refine w_cv (q := am_m234) (as := [_, _]) (rest := []) (st' := [_]) rfl rfl rfl rfl rfl rfl sp110 rfl rfl rfl rfl (c_areShips (b := 1) (by decide) hn2 h14 (by omega)) rfl rfl ?_
        exact w_iret rfl (by first | (have e5 := am_swN (n := 0) sw (by omega) (by decide); subst e5; rfl) | (have e5 : w = 4 := (by have h0 := sw 0 (by decide) (by decide); have h1 := sw 1 (by decide) (by decide); have h2 := sw 2 (by decide) (by decide); have h3 := sw 3 (by decide) (by decide); have : ¬ w = 0 := (fun z => h0 (by rw [z])); have : ¬ w = 1 := (fun z => h1 (by rw [z])); have : ¬ w = 2 := (fun z => h2 (by rw [z])); have : ¬ w = 3 := (fun z => h3 (by rw [z])); omega); subst e5; rfl)) rfl rfl rfl
      · refine ⟨87, rfl, ?_⟩
        refine w_aload_n rfl rfl rfl ?_
        refine w_iconst (x := Int32.ofNat 1) rfl rfl (by decide) ?_
        refine w_cv (q := am_m235) (as := [_]) (rest := []) (st' := [_]) rfl rfl rfl rfl rfl rfl sp110 rfl rfl rfl rfl (c_homeAll (by decide) hn2 h14 (by omega)) rfl rfl ?_
        refine w_aload_n rfl rfl rfl ?_
        refine w_iconst (x := Int32.ofNat 0) rfl rfl (by decide) ?_
        refine w_cv (q := am_m235) (as := [_]) (rest := [_]) (st' := [_, _]) rfl rfl rfl rfl rfl rfl sp110 rfl rfl rfl rfl (c_homeAll (by decide) hn2 h14 (by omega)) rfl rfl ?_
        refine w_isub rfl rfl ?_
        exact w_iret rfl (by first | (have e5 := am_swN (n := 0) sw (by omega) (by decide); subst e5; rfl) | (have e5 : w = 4 := (by have h0 := sw 0 (by decide) (by decide); have h1 := sw 1 (by decide) (by decide); have h2 := sw 2 (by decide) (by decide); have h3 := sw 3 (by decide) (by decide); have : ¬ w = 0 := (fun z => h0 (by rw [z])); have : ¬ w = 1 := (fun z => h1 (by rw [z])); have : ¬ w = 2 := (fun z => h2 (by rw [z])); have : ¬ w = 3 := (fun z => h3 (by rw [z])); omega); subst e5; rfl)) rfl rfl rfl
      · refine ⟨99, rfl, ?_⟩
        refine w_aload_n rfl rfl rfl ?_
        refine w_iconst (x := Int32.ofNat 1) rfl rfl (by decide) ?_
        refine w_iconst (x := Int32.ofNat 2) rfl rfl (by decide) ?_
        refine w_cv (q := am_m233) (as := [_, _]) (rest := []) (st' := [_]) rfl rfl rfl rfl rfl rfl sp110 rfl rfl rfl rfl (c_areRopes (b := 1) (by decide) hn1 h13 (by omega)) rfl rfl ?_
        exact w_iret rfl (by first | (have e5 := am_swN (n := 0) sw (by omega) (by decide); subst e5; rfl) | (have e5 : w = 4 := (by have h0 := sw 0 (by decide) (by decide); have h1 := sw 1 (by decide) (by decide); have h2 := sw 2 (by decide) (by decide); have h3 := sw 3 (by decide) (by decide); have : ¬ w = 0 := (fun z => h0 (by rw [z])); have : ¬ w = 1 := (fun z => h1 (by rw [z])); have : ¬ w = 2 := (fun z => h2 (by rw [z])); have : ¬ w = 3 := (fun z => h3 (by rw [z])); omega); subst e5; rfl)) rfl rfl rfl
      · refine ⟨106, rfl, ?_⟩
        refine w_aload_n rfl rfl rfl ?_
        refine w_gf (t := .ref (144)) (v := .ref (144)) rfl rfl rfl sp110 rfl rfl rfl ?_
        refine w_iconst (x := Int32.ofNat 1) rfl rfl (by decide) ?_
        refine w_iaload rfl rfl sp144 rfl ⟨by omega, by omega⟩ rfl ?_
        refine w_aload_n rfl rfl rfl ?_
        refine w_gf (t := .ref (144)) (v := .ref (144)) rfl rfl rfl sp110 rfl rfl rfl ?_
        refine w_iconst (x := Int32.ofNat 0) rfl rfl (by decide) ?_
        refine w_iaload rfl rfl sp144 rfl ⟨by omega, by omega⟩ rfl ?_
        refine w_isub rfl rfl ?_
        exact w_iret rfl (by first | (have e5 := am_swN (n := 0) sw (by omega) (by decide); subst e5; rfl) | (have e5 : w = 4 := (by have h0 := sw 0 (by decide) (by decide); have h1 := sw 1 (by decide) (by decide); have h2 := sw 2 (by decide) (by decide); have h3 := sw 3 (by decide) (by decide); have : ¬ w = 0 := (fun z => h0 (by rw [z])); have : ¬ w = 1 := (fun z => h1 (by rw [z])); have : ¬ w = 2 := (fun z => h2 (by rw [z])); have : ¬ w = 3 := (fun z => h3 (by rw [z])); omega); subst e5; rfl)) rfl rfl rfl
  · refine w_aload_n rfl rfl rfl ?_
    refine w_iload_n rfl rfl rfl ?_
    refine w_cv (q := am_m216) (as := [_]) (rest := []) (st' := [_]) rfl rfl rfl rfl rfl rfl sp110 rfl rfl rfl rfl (c_isShip (by omega)) rfl rfl ?_
    refine w_if_neB (t := 40) (f := 38) rfl rfl rfl (fun c35 => ?_) (fun c35 => absurd c35 (not_not_intro (hs c27)))
    refine w_aload_n rfl rfl rfl ?_
    refine w_cv (q := am_m213) (as := []) (rest := []) (st' := []) rfl rfl rfl rfl rfl rfl sp110 rfl rfl rfl rfl (c_layTried (by omega)) rfl rfl ?_
    refine w_aload_n rfl rfl rfl ?_
    refine w_iload_n rfl rfl rfl ?_
    refine w_cv (q := am_m232) (as := [_]) (rest := []) (st' := []) rfl rfl rfl rfl rfl rfl sp110 rfl rfl rfl rfl (c_goMany (by omega) (tok_lt (tok_z t)) (sb_lt _) (by omega)) rfl rfl ?_
    refine w_iload_n rfl rfl rfl ?_
    refine w_ts (lo := 0) (hi := 3) (d := 120) rfl rfl (by decide) (fun sw => ?_) (fun n h1 h2 sw => ?_)
    · refine w_aload_n rfl rfl rfl ?_
      refine w_iconst (x := Int32.ofNat 1) rfl rfl (by decide) ?_
      refine w_iload_n rfl rfl rfl ?_
      refine w_cv (q := am_m219) (as := [_, _]) (rest := []) (st' := [_]) rfl rfl rfl rfl rfl rfl sp110 rfl rfl rfl rfl (c_bearOf (b := 1) (by decide) hn1 h13 (by omega)) rfl rfl ?_
      exact w_iret rfl (by first | (have e5 := am_swN (n := 0) sw (by omega) (by decide); subst e5; rfl) | (have e5 : w = 4 := (by have h0 := sw 0 (by decide) (by decide); have h1 := sw 1 (by decide) (by decide); have h2 := sw 2 (by decide) (by decide); have h3 := sw 3 (by decide) (by decide); have : ¬ w = 0 := (fun z => h0 (by rw [z])); have : ¬ w = 1 := (fun z => h1 (by rw [z])); have : ¬ w = 2 := (fun z => h2 (by rw [z])); have : ¬ w = 3 := (fun z => h3 (by rw [z])); omega); subst e5; rfl)) rfl rfl rfl
    · have h3 : n = 0 ∨ n = 1 ∨ n = 2 ∨ n = 3 := by omega
      rcases h3 with rfl | rfl | rfl | rfl
      · refine ⟨80, rfl, ?_⟩
        refine w_aload_n rfl rfl rfl ?_
        refine w_iconst (x := Int32.ofNat 1) rfl rfl (by decide) ?_
        refine w_iconst (x := Int32.ofNat 2) rfl rfl (by decide) ?_
        refine w_cv (q := am_m234) (as := [_, _]) (rest := []) (st' := [_]) rfl rfl rfl rfl rfl rfl sp110 rfl rfl rfl rfl (c_areShips (b := 1) (by decide) hn2 h14 (by omega)) rfl rfl ?_
        exact w_iret rfl (by first | (have e5 := am_swN (n := 0) sw (by omega) (by decide); subst e5; rfl) | (have e5 : w = 4 := (by have h0 := sw 0 (by decide) (by decide); have h1 := sw 1 (by decide) (by decide); have h2 := sw 2 (by decide) (by decide); have h3 := sw 3 (by decide) (by decide); have : ¬ w = 0 := (fun z => h0 (by rw [z])); have : ¬ w = 1 := (fun z => h1 (by rw [z])); have : ¬ w = 2 := (fun z => h2 (by rw [z])); have : ¬ w = 3 := (fun z => h3 (by rw [z])); omega); subst e5; rfl)) rfl rfl rfl
      · refine ⟨87, rfl, ?_⟩
        refine w_aload_n rfl rfl rfl ?_
        refine w_iconst (x := Int32.ofNat 1) rfl rfl (by decide) ?_
        refine w_cv (q := am_m235) (as := [_]) (rest := []) (st' := [_]) rfl rfl rfl rfl rfl rfl sp110 rfl rfl rfl rfl (c_homeAll (by decide) hn2 h14 (by omega)) rfl rfl ?_
        refine w_aload_n rfl rfl rfl ?_
        refine w_iconst (x := Int32.ofNat 0) rfl rfl (by decide) ?_
        refine w_cv (q := am_m235) (as := [_]) (rest := [_]) (st' := [_, _]) rfl rfl rfl rfl rfl rfl sp110 rfl rfl rfl rfl (c_homeAll (by decide) hn2 h14 (by omega)) rfl rfl ?_
        refine w_isub rfl rfl ?_
        exact w_iret rfl (by first | (have e5 := am_swN (n := 0) sw (by omega) (by decide); subst e5; rfl) | (have e5 : w = 4 := (by have h0 := sw 0 (by decide) (by decide); have h1 := sw 1 (by decide) (by decide); have h2 := sw 2 (by decide) (by decide); have h3 := sw 3 (by decide) (by decide); have : ¬ w = 0 := (fun z => h0 (by rw [z])); have : ¬ w = 1 := (fun z => h1 (by rw [z])); have : ¬ w = 2 := (fun z => h2 (by rw [z])); have : ¬ w = 3 := (fun z => h3 (by rw [z])); omega); subst e5; rfl)) rfl rfl rfl
      · refine ⟨99, rfl, ?_⟩
        refine w_aload_n rfl rfl rfl ?_
        refine w_iconst (x := Int32.ofNat 1) rfl rfl (by decide) ?_
        refine w_iconst (x := Int32.ofNat 2) rfl rfl (by decide) ?_
        refine w_cv (q := am_m233) (as := [_, _]) (rest := []) (st' := [_]) rfl rfl rfl rfl rfl rfl sp110 rfl rfl rfl rfl (c_areRopes (b := 1) (by decide) hn1 h13 (by omega)) rfl rfl ?_
        exact w_iret rfl (by first | (have e5 := am_swN (n := 0) sw (by omega) (by decide); subst e5; rfl) | (have e5 : w = 4 := (by have h0 := sw 0 (by decide) (by decide); have h1 := sw 1 (by decide) (by decide); have h2 := sw 2 (by decide) (by decide); have h3 := sw 3 (by decide) (by decide); have : ¬ w = 0 := (fun z => h0 (by rw [z])); have : ¬ w = 1 := (fun z => h1 (by rw [z])); have : ¬ w = 2 := (fun z => h2 (by rw [z])); have : ¬ w = 3 := (fun z => h3 (by rw [z])); omega); subst e5; rfl)) rfl rfl rfl
      · refine ⟨106, rfl, ?_⟩
        refine w_aload_n rfl rfl rfl ?_
        refine w_gf (t := .ref (144)) (v := .ref (144)) rfl rfl rfl sp110 rfl rfl rfl ?_
        refine w_iconst (x := Int32.ofNat 1) rfl rfl (by decide) ?_
        refine w_iaload rfl rfl sp144 rfl ⟨by omega, by omega⟩ rfl ?_
        refine w_aload_n rfl rfl rfl ?_
        refine w_gf (t := .ref (144)) (v := .ref (144)) rfl rfl rfl sp110 rfl rfl rfl ?_
        refine w_iconst (x := Int32.ofNat 0) rfl rfl (by decide) ?_
        refine w_iaload rfl rfl sp144 rfl ⟨by omega, by omega⟩ rfl ?_
        refine w_isub rfl rfl ?_
        exact w_iret rfl (by first | (have e5 := am_swN (n := 0) sw (by omega) (by decide); subst e5; rfl) | (have e5 : w = 4 := (by have h0 := sw 0 (by decide) (by decide); have h1 := sw 1 (by decide) (by decide); have h2 := sw 2 (by decide) (by decide); have h3 := sw 3 (by decide) (by decide); have : ¬ w = 0 := (fun z => h0 (by rw [z])); have : ¬ w = 1 := (fun z => h1 (by rw [z])); have : ¬ w = 2 := (fun z => h2 (by rw [z])); have : ¬ w = 3 := (fun z => h3 (by rw [z])); omega); subst e5; rfl)) rfl rfl rfl
theorem c_ahead_no {k : Nat} {I : hI} {J : hJ} {R : hR} {x y z : Int32} (hx : ¬ ((¬ x < Int32.ofNat 0 ∧ ¬ Int32.ofNat 200 < x) ∧ (¬ y < Int32.ofNat 0 ∧ ¬ Int32.ofNat 4 < y) ∧ (y = Int32.ofNat 4 → ¬ z < 0 ∧ z < I 110 14))) (hk : 2 ≤ k) : ct k 246 [.ref 110, .int x, .int y, .int z] I J R (some (.int (Int32.ofInt (-1)))) (m_z I) J R := by
  obtain ⟨k, rfl⟩ : ∃ k', k = k' + 1 := ⟨k - 1, by omega⟩
  refine ct_of (q := am_m246) (L := [_, _, _, _]) rfl rfl rfl rfl rfl rfl ?_
  refine w_aload_n rfl rfl rfl ?_
  refine w_iconst (x := Int32.ofNat 0) rfl rfl (by decide) ?_
  refine w_pf rfl rfl rfl sp110 rfl rfl rfl ?_
  refine w_iload_n rfl rfl rfl ?_
  refine w_iconst (x := Int32.ofNat 0) rfl rfl (by decide) ?_
  refine w_sipush (x := Int32.ofNat 200) rfl rfl (by decide) ?_
  refine w_cs (q := am_m168) (na := 3) (as := [_, _, _]) (st' := [_]) rfl rfl rfl rfl (by decide) rfl rfl (Nat.le_of_ble_eq_true rfl) rfl rfl rfl (c_isIn (by omega)) rfl rfl ?_
  refine w_if_eqB (t := 38) (f := 16) rfl rfl rfl (fun c13 => ?_) (fun c13 => ?_)
  · refine w_iconst (x := Int32.ofInt (-1)) rfl rfl (by decide) ?_
    exact w_iret rfl rfl rfl rfl rfl
  · refine w_iload_n rfl rfl rfl ?_
    refine w_iconst (x := Int32.ofNat 0) rfl rfl (by decide) ?_
    refine w_iconst (x := Int32.ofNat 4) rfl rfl (by decide) ?_
    refine w_cs (q := am_m168) (na := 3) (as := [_, _, _]) (st' := [_]) rfl rfl rfl rfl (by decide) rfl rfl (Nat.le_of_ble_eq_true rfl) rfl rfl rfl (c_isIn (by omega)) rfl rfl ?_
    refine w_if_eqB (t := 38) (f := 25) rfl rfl rfl (fun c22 => ?_) (fun c22 => ?_)
    · refine w_iconst (x := Int32.ofInt (-1)) rfl rfl (by decide) ?_
      exact w_iret rfl rfl rfl rfl rfl
    · refine w_iload_n rfl rfl rfl ?_
      refine w_iconst (x := Int32.ofNat 4) rfl rfl (by decide) ?_
      refine w_ic_ne (t := 40) (f := 30) rfl rfl rfl (fun c27 => ?_) (fun c27 => ?_)
      · exact (hx ⟨c13, c22, fun h => by first | exact absurd h c27 | exact c35⟩).elim
      · refine w_aload_n rfl rfl rfl ?_
        refine w_iload_n rfl rfl rfl ?_
        refine w_cv (q := am_m216) (as := [_]) (rest := []) (st' := [_]) rfl rfl rfl rfl rfl rfl sp110 rfl rfl rfl rfl (c_isShip (by omega)) rfl rfl ?_
        refine w_if_neB (t := 40) (f := 38) rfl rfl rfl (fun c35 => ?_) (fun c35 => ?_)
        · exact (hx ⟨c13, c22, fun h => by first | exact absurd h c27 | exact c35⟩).elim
        · refine w_iconst (x := Int32.ofInt (-1)) rfl rfl (by decide) ?_
          exact w_iret rfl rfl rfl rfl rfl
/-- the day on which a ship is lost -/
def m_los (N : Nat → Nat) (s : Nat) : Nat → Nat → hI × hJ → Int32 × hI × hJ
  | 0, _, p => (Int32.ofInt (-2), p)
  | j + 1, i, p => if p.1 141 (5 + s) = Int32.ofNat 2 then (Int32.ofNat i, p) else m_los N s j (i + 1) (m_day N 1 p)
theorem m_los_s (N : Nat → Nat) (s j i : Nat) (p : hI × hJ) : m_los N s (j + 1) i p = if p.1 141 (5 + s) = Int32.ofNat 2 then (Int32.ofNat i, p) else m_los N s j (i + 1) (m_day N 1 p) := rfl
/-- the day on which a ship is home -/
def m_hom (N : Nat → Nat) (s : Nat) : Nat → Nat → hI × hJ → Int32 × hI × hJ
  | 0, _, p => (Int32.ofInt (-2), p)
  | j + 1, i, p => if p.1 143 s < p.1 143 (5 + s) then (Int32.ofNat i, p) else m_hom N s j (i + 1) (m_day N 1 p)
theorem m_hom_s (N : Nat → Nat) (s j i : Nat) (p : hI × hJ) : m_hom N s (j + 1) i p = if p.1 143 s < p.1 143 (5 + s) then (Int32.ofNat i, p) else m_hom N s j (i + 1) (m_day N 1 p) := rfl
theorem l_loses {k : Nat} {R : hR} {N : Nat → Nat} {s : Nat} (hs : s < 5) (hk : 7 ≤ k) : ∀ (j r : Nat) (p : hI × hJ), r + j = 200 → tok p.1 N → sb p.1 → wz k 12 (some .int) am_c247 21 [.ref 110, .int (Int32.ofNat s), .int (Int32.ofNat r)] [] p.1 p.2 R (some (.int (m_los N s j r p).1), am_hp (m_los N s j r p).2.1 (m_los N s j r p).2.2 R) := by
  intro j
  induction j with
  | zero =>
    intro r p e t h
    obtain rfl : 200 = r := by omega
    refine w_iload_n rfl rfl rfl ?_
    refine w_sipush (x := Int32.ofNat 200) rfl rfl (by decide) ?_
    refine w_ic_geN (t := 53) (f := 28) rfl rfl rfl (by omega) (by omega) (fun c25 => ?_) (fun c25 => absurd c25 (by omega))
    refine w_bipush (x := Int32.ofInt (-2)) rfl rfl (by decide) ?_
    exact w_iret rfl rfl rfl rfl rfl
  | succ j ih =>
    intro r p e t h
    rw [m_los_s]
    refine w_iload_n rfl rfl rfl ?_
    refine w_sipush (x := Int32.ofNat 200) rfl rfl (by decide) ?_
    refine w_ic_geN (t := 53) (f := 28) rfl rfl rfl (by omega) (by omega) (fun c25 => absurd c25 (by omega)) (fun c25 => ?_)
    refine w_aload_n rfl rfl rfl ?_
    refine w_gf (t := .ref (141)) (v := .ref (141)) rfl rfl rfl sp110 rfl rfl rfl ?_
    refine w_iconst (x := Int32.ofNat 5) rfl rfl (by decide) ?_
    refine w_iload_n rfl rfl rfl ?_
    refine w_iaddN rfl rfl ?_
    refine w_iaload rfl rfl sp141 rfl ⟨by omega, by omega⟩ rfl ?_
    refine w_iconst (x := Int32.ofNat 2) rfl rfl (by decide) ?_
    refine w_ic_ne (t := 42) (f := 40) rfl rfl rfl (fun c37 => ?_) (fun c37 => ?_)
    · refine w_aload_n rfl rfl rfl ?_
      refine w_iconst (x := Int32.ofNat 1) rfl rfl (by decide) ?_
      refine w_cv (q := am_m231) (as := [_]) (rest := []) (st' := []) rfl rfl rfl rfl rfl rfl sp110 rfl rfl rfl rfl (c_dayGoes (b := 1) (by decide) t h hk) rfl rfl ?_
      refine w_iinc (L' := [_, _, _]) rfl rfl rfl (am_incN 1) rfl ?_
      refine w_goto (pc' := 21) rfl rfl ?_
      rw [if_neg c37]
      exact ih (r + 1) _ (by omega) (tok_F (simF_day N 1 p) t) (sb_day N 1 p)
    · refine w_iload_n rfl rfl rfl ?_
      exact w_iret rfl (by rw [if_pos c37]) (by rw [if_pos c37]) (by rw [if_pos c37]) rfl
theorem c_loses {k : Nat} {I : hI} {J : hJ} {R : hR} {N : Nat → Nat} (t : tok I N) {s : Nat} (hs : s < N 2) (hk : 8 ≤ k) : ct k 247 [.ref 110, .int (Int32.ofNat s)] I J R (some (.int (m_los N s 200 0 (m_lt (m_z I), J)).1)) ((m_los N s 200 0 (m_lt (m_z I), J)).2.1) ((m_los N s 200 0 (m_lt (m_z I), J)).2.2) R := by
  obtain ⟨k, rfl⟩ : ∃ k', k = k' + 1 := ⟨k - 1, by omega⟩
  have hn := t.1.2.1
  have h13 := t.2.1.2.1
  have hn2 := t.1.2.2.1
  have h14 := t.2.1.2.2.1
  refine ct_of (q := am_m247) (L := [_, _, _]) rfl rfl rfl rfl rfl rfl ?_
  refine w_aload_n rfl rfl rfl ?_
  refine w_iconst (x := Int32.ofNat 0) rfl rfl (by decide) ?_
  refine w_pf rfl rfl rfl sp110 rfl rfl rfl ?_
  refine w_aload_n rfl rfl rfl ?_
  refine w_iload_n rfl rfl rfl ?_
  refine w_cv (q := am_m216) (as := [_]) (rest := []) (st' := [_]) rfl rfl rfl rfl rfl rfl sp110 rfl rfl rfl rfl (c_isShip (by omega)) rfl rfl ?_
  refine w_if_neB (t := 15) (f := 13) rfl rfl rfl (fun c10 => ?_) (fun c10 => absurd c10 (isok hs (by omega) ((am_u_nk (by decide)).trans h14)))
  refine w_aload_n rfl rfl rfl ?_
  refine w_cv (q := am_m213) (as := []) (rest := []) (st' := []) rfl rfl rfl rfl rfl rfl sp110 rfl rfl rfl rfl (c_layTried (by omega)) rfl rfl ?_
  refine w_iconst (x := Int32.ofNat 0) rfl rfl (by decide) ?_
  refine w_istore_n (L' := [_, _, _]) rfl rfl rfl ?_
  exact l_loses (by omega) (by omega) 200 0 (m_lt (m_z I), J) (by omega) (tok_lt (tok_z t)) (sb_lt _)
theorem c_loses_no {k : Nat} {I : hI} {J : hJ} {R : hR} {x : Int32} (hx : ¬ (¬ x < 0 ∧ x < I 110 14)) (hk : 2 ≤ k) : ct k 247 [.ref 110, .int x] I J R (some (.int (Int32.ofInt (-1)))) (m_z I) J R := by
  obtain ⟨k, rfl⟩ : ∃ k', k = k' + 1 := ⟨k - 1, by omega⟩
  refine ct_of (q := am_m247) (L := [_, _, _]) rfl rfl rfl rfl rfl rfl ?_
  refine w_aload_n rfl rfl rfl ?_
  refine w_iconst (x := Int32.ofNat 0) rfl rfl (by decide) ?_
  refine w_pf rfl rfl rfl sp110 rfl rfl rfl ?_
  refine w_aload_n rfl rfl rfl ?_
  refine w_iload_n rfl rfl rfl ?_
  refine w_cv (q := am_m216) (as := [_]) (rest := []) (st' := [_]) rfl rfl rfl rfl rfl rfl sp110 rfl rfl rfl rfl (c_isShip (by omega)) rfl rfl ?_
  refine w_if_neB (t := 15) (f := 13) rfl rfl rfl (fun c10 => absurd c10 hx) (fun c10 => ?_)
  refine w_iconst (x := Int32.ofInt (-1)) rfl rfl (by decide) ?_
  exact w_iret rfl rfl rfl rfl rfl
theorem l_homes {k : Nat} {R : hR} {N : Nat → Nat} {s : Nat} (hs : s < 5) (hk : 7 ≤ k) : ∀ (j r : Nat) (p : hI × hJ), r + j = 200 → tok p.1 N → sb p.1 → wz k 12 (some .int) am_c248 21 [.ref 110, .int (Int32.ofNat s), .int (Int32.ofNat r)] [] p.1 p.2 R (some (.int (m_hom N s j r p).1), am_hp (m_hom N s j r p).2.1 (m_hom N s j r p).2.2 R) := by
  intro j
  induction j with
  | zero =>
    intro r p e t h
    obtain rfl : 200 = r := by omega
    refine w_iload_n rfl rfl rfl ?_
    refine w_sipush (x := Int32.ofNat 200) rfl rfl (by decide) ?_
    refine w_ic_geN (t := 58) (f := 28) rfl rfl rfl (by omega) (by omega) (fun c25 => ?_) (fun c25 => absurd c25 (by omega))
    refine w_bipush (x := Int32.ofInt (-2)) rfl rfl (by decide) ?_
    exact w_iret rfl rfl rfl rfl rfl
  | succ j ih =>
    intro r p e t h
    rw [m_hom_s]
    refine w_iload_n rfl rfl rfl ?_
    refine w_sipush (x := Int32.ofNat 200) rfl rfl (by decide) ?_
    refine w_ic_geN (t := 58) (f := 28) rfl rfl rfl (by omega) (by omega) (fun c25 => absurd c25 (by omega)) (fun c25 => ?_)
    refine w_aload_n rfl rfl rfl ?_
    refine w_gf (t := .ref (143)) (v := .ref (143)) rfl rfl rfl sp110 rfl rfl rfl ?_
    refine w_iconst (x := Int32.ofNat 5) rfl rfl (by decide) ?_
    refine w_iload_n rfl rfl rfl ?_
    refine w_iaddN rfl rfl ?_
    refine w_iaload rfl rfl sp143 rfl ⟨by omega, by omega⟩ rfl ?_
    refine w_aload_n rfl rfl rfl ?_
    refine w_gf (t := .ref (143)) (v := .ref (143)) rfl rfl rfl sp110 rfl rfl rfl ?_
    refine w_iload_n rfl rfl rfl ?_
    refine w_iaload rfl rfl sp143 rfl ⟨by omega, by omega⟩ rfl ?_
    refine w_ic_le (t := 47) (f := 45) rfl rfl rfl (fun c42 => ?_) (fun c42 => ?_)
    · refine w_aload_n rfl rfl rfl ?_
      refine w_iconst (x := Int32.ofNat 1) rfl rfl (by decide) ?_
      refine w_cv (q := am_m231) (as := [_]) (rest := []) (st' := []) rfl rfl rfl rfl rfl rfl sp110 rfl rfl rfl rfl (c_dayGoes (b := 1) (by decide) t h hk) rfl rfl ?_
      refine w_iinc (L' := [_, _, _]) rfl rfl rfl (am_incN 1) rfl ?_
      refine w_goto (pc' := 21) rfl rfl ?_
      rw [if_neg c42]
      exact ih (r + 1) _ (by omega) (tok_F (simF_day N 1 p) t) (sb_day N 1 p)
    · refine w_iload_n rfl rfl rfl ?_
      exact w_iret rfl (by rw [if_pos c42]) (by rw [if_pos c42]) (by rw [if_pos c42]) rfl
theorem c_homes {k : Nat} {I : hI} {J : hJ} {R : hR} {N : Nat → Nat} (t : tok I N) {s : Nat} (hs : s < N 2) (hk : 8 ≤ k) : ct k 248 [.ref 110, .int (Int32.ofNat s)] I J R (some (.int (m_hom N s 200 0 (m_lt (m_z I), J)).1)) ((m_hom N s 200 0 (m_lt (m_z I), J)).2.1) ((m_hom N s 200 0 (m_lt (m_z I), J)).2.2) R := by
  obtain ⟨k, rfl⟩ : ∃ k', k = k' + 1 := ⟨k - 1, by omega⟩
  have hn := t.1.2.1
  have h13 := t.2.1.2.1
  have hn2 := t.1.2.2.1
  have h14 := t.2.1.2.2.1
  refine ct_of (q := am_m248) (L := [_, _, _]) rfl rfl rfl rfl rfl rfl ?_
  refine w_aload_n rfl rfl rfl ?_
  refine w_iconst (x := Int32.ofNat 0) rfl rfl (by decide) ?_
  refine w_pf rfl rfl rfl sp110 rfl rfl rfl ?_
  refine w_aload_n rfl rfl rfl ?_
  refine w_iload_n rfl rfl rfl ?_
  refine w_cv (q := am_m216) (as := [_]) (rest := []) (st' := [_]) rfl rfl rfl rfl rfl rfl sp110 rfl rfl rfl rfl (c_isShip (by omega)) rfl rfl ?_
  refine w_if_neB (t := 15) (f := 13) rfl rfl rfl (fun c10 => ?_) (fun c10 => absurd c10 (isok hs (by omega) ((am_u_nk (by decide)).trans h14)))
  refine w_aload_n rfl rfl rfl ?_
  refine w_cv (q := am_m213) (as := []) (rest := []) (st' := []) rfl rfl rfl rfl rfl rfl sp110 rfl rfl rfl rfl (c_layTried (by omega)) rfl rfl ?_
  refine w_iconst (x := Int32.ofNat 0) rfl rfl (by decide) ?_
  refine w_istore_n (L' := [_, _, _]) rfl rfl rfl ?_
  exact l_homes (by omega) (by omega) 200 0 (m_lt (m_z I), J) (by omega) (tok_lt (tok_z t)) (sb_lt _)
theorem c_homes_no {k : Nat} {I : hI} {J : hJ} {R : hR} {x : Int32} (hx : ¬ (¬ x < 0 ∧ x < I 110 14)) (hk : 2 ≤ k) : ct k 248 [.ref 110, .int x] I J R (some (.int (Int32.ofInt (-1)))) (m_z I) J R := by
  obtain ⟨k, rfl⟩ : ∃ k', k = k' + 1 := ⟨k - 1, by omega⟩
  refine ct_of (q := am_m248) (L := [_, _, _]) rfl rfl rfl rfl rfl rfl ?_
  refine w_aload_n rfl rfl rfl ?_
  refine w_iconst (x := Int32.ofNat 0) rfl rfl (by decide) ?_
  refine w_pf rfl rfl rfl sp110 rfl rfl rfl ?_
  refine w_aload_n rfl rfl rfl ?_
  refine w_iload_n rfl rfl rfl ?_
  refine w_cv (q := am_m216) (as := [_]) (rest := []) (st' := [_]) rfl rfl rfl rfl rfl rfl sp110 rfl rfl rfl rfl (c_isShip (by omega)) rfl rfl ?_
  refine w_if_neB (t := 15) (f := 13) rfl rfl rfl (fun c10 => absurd c10 hx) (fun c10 => ?_)
  refine w_iconst (x := Int32.ofInt (-1)) rfl rfl (by decide) ?_
  exact w_iret rfl rfl rfl rfl rfl
def m_laI (I : hI) : hI := m_pt (m_z I)
def m_laJ (I : hI) (J : hJ) (n w i : Nat) : hJ := if w = 2 then m_layS (m_laI I) J 0 n i else m_layR (m_laI I) J 0 n i (if w = 0 then Int32.ofNat 0 else m_laI I 139 i)
def m_la (I : hI) (J : hJ) (n w i : Nat) : Int64 := if (m_ls (m_laI I) (m_laJ I J n w i) w).1 = 0 then m_law (m_laI I) (m_laJ I J n w i) w else -9223372036854775808
theorem am_w0 {w : Nat} (hw : w < 1000) : Int32.ofNat w = 0 ↔ w = 0 := am_eqN (y := 0) (by omega) (by omega)
theorem c_law {k : Nat} {I : hI} {J : hJ} {R : hR} {N : Nat → Nat} (t : tok I N) {w i : Nat} (hw : w < 3) (hL : ¬ I 128 w = 0) (h2 : w = 2 → i < N 2) (h0 : ¬ w = 2 → i < N 1) (hk : 4 ≤ k) : ct k 240 [.ref 110, .int (Int32.ofNat w), .int (Int32.ofNat i)] I J R (some (.long (m_la I J (N 1) w i))) (am_u (m_laI I) 110 53 (m_ls (m_laI I) (m_laJ I J (N 1) w i) w).1) ((m_ls (m_laI I) (m_laJ I J (N 1) w i) w).2) R := by
  obtain ⟨k, rfl⟩ : ∃ k', k = k' + 1 := ⟨k - 1, by omega⟩
  have hn := t.1.2.1
  have h13 := t.2.1.2.1
  have hn2 := t.1.2.2.1
  have h14 := t.2.1.2.2.1
  have t1 : tok (m_laI I) N := tok_pt (tok_z t)
  have g13 := t1.2.1.2.1
  refine ct_of (q := am_m240) (L := [_, _, _, _, _]) rfl rfl rfl rfl rfl rfl ?_
  refine w_aload_n rfl rfl rfl ?_
  refine w_iconst (x := Int32.ofNat 0) rfl rfl (by decide) ?_
  refine w_pf rfl rfl rfl sp110 rfl rfl rfl ?_
  refine w_iload_n rfl rfl rfl ?_
  refine w_iconst (x := Int32.ofNat 0) rfl rfl (by decide) ?_
  refine w_iconst (x := Int32.ofNat 2) rfl rfl (by decide) ?_
  refine w_cs (q := am_m168) (na := 3) (as := [_, _, _]) (st' := [_]) rfl rfl rfl rfl (by decide) rfl rfl (Nat.le_of_ble_eq_true rfl) rfl rfl rfl (c_isIn (by omega)) rfl rfl ?_
  refine w_if_eqB (t := 47) (f := 14) rfl rfl rfl (fun c11 => absurd c11 (inok (Nat.zero_le _) (show w ≤ 2 by omega) (by decide))) (fun c11 => ?_)
  refine w_aload_n rfl rfl rfl ?_
  refine w_gf (t := .ref (128)) (v := .ref (128)) rfl rfl rfl sp110 rfl rfl rfl ?_
  refine w_iload_n rfl rfl rfl ?_
  refine w_baload rfl rfl sp128 rfl ⟨(by first | omega | (have := hi8 c57; omega)), by omega⟩ (congrFun (am_u_ne (by decide)) _) ?_
  refine w_if_eq (t := 47) (f := 23) rfl rfl rfl (fun c20 => absurd c20 hL) (fun c20 => ?_)
  refine w_iload_n rfl rfl rfl ?_
  refine w_iconst (x := Int32.ofNat 2) rfl rfl (by decide) ?_
  refine w_ic_neN (t := 39) (f := 28) rfl rfl rfl (by omega) (by omega) (fun c25 => ?_) (fun c25 => ?_)
  · refine w_aload_n rfl rfl rfl ?_
    refine w_iload_n rfl rfl rfl ?_
    refine w_cv (q := am_m215) (as := [_]) (rest := []) (st' := [_]) rfl rfl rfl rfl rfl rfl sp110 rfl rfl rfl rfl (c_isRope (by omega)) rfl rfl ?_
    refine w_if_neB (t := 51) (f := 47) rfl rfl rfl (fun c44 => ?_) (fun c44 => absurd c44 (isok (h0 c25) (by omega) ((am_u_nk (by decide)).trans h13)))
    refine w_aload_n rfl rfl rfl ?_
    have hi5 : w = 2 → i < 5 := fun z => by have := h2 z; omega
    have hi8 : ¬ w = 2 → i < 8 := fun z => by have := h0 z; omega
    refine w_cv (q := am_m212) (as := []) (rest := []) (st' := []) rfl rfl rfl rfl rfl rfl sp110 rfl rfl rfl rfl (c_plainTried (by omega)) rfl rfl ?_
    refine w_iload_n rfl rfl rfl ?_
    refine w_iconst (x := Int32.ofNat 2) rfl rfl (by decide) ?_
    refine w_ic_neN (t := 69) (f := 60) rfl rfl rfl (by omega) (by omega) (fun c57 => ?_) (fun c57 => ?_)
    · refine w_aload_n rfl rfl rfl ?_
      refine w_iconst (x := Int32.ofNat 0) rfl rfl (by decide) ?_
      refine w_iload_n rfl rfl rfl ?_
      refine w_iload_n rfl rfl rfl ?_
      refine w_if_ne (t := 80) (f := 76) rfl rfl rfl (fun c73 => ?_) (fun c73 => ?_)
      · refine w_aload_n rfl rfl rfl ?_
        refine w_gf (t := .ref (139)) (v := .ref (139)) rfl rfl rfl sp110 rfl rfl rfl ?_
        refine w_iload_n rfl rfl rfl ?_
        refine w_iaload rfl rfl sp139 rfl ⟨(by first | omega | (have := hi8 c57; omega)), by omega⟩ rfl ?_
        refine w_cv (q := am_m221) (as := [_, _, _]) (rest := []) (st' := []) rfl rfl rfl rfl rfl rfl sp110 rfl rfl rfl rfl (c_layRope (b := 0) (by decide) (hi8 c57) hn g13 (t1.2.2.1 _ (h0 c57)) (by omega)) rfl rfl ?_
        refine w_aload_n rfl rfl rfl ?_
        refine w_iload_n rfl rfl rfl ?_
        refine w_cv (q := am_m223) (as := [_]) (rest := []) (st' := [_]) rfl rfl rfl rfl rfl rfl sp110 rfl rfl rfl rfl (c_lawOf hw (t1.2.2.2.2 w hw hL) (by omega)) rfl rfl ?_
        refine w_lstore_n (L' := [_, _, _, _, _]) rfl rfl rfl ?_
        refine w_aload_n rfl rfl rfl ?_
        refine w_gf (t := .int 0) (v := .int _) rfl rfl rfl sp110 rfl (congrArg Value.int am_u_at) rfl ?_
        refine w_if_eq (t := 108) (f := 102) rfl rfl rfl (fun c99 => ?_) (fun c99 => ?_)
        · refine w_lload_n rfl rfl rfl ?_
          exact w_lret rfl (by first | contradiction | (unfold m_la m_laJ; first | (rw [if_pos c57]; first | exact (if_pos c99).symm | exact (if_neg c99).symm) | (rw [if_neg c57]; first | (rw [if_pos ((am_w0 (by omega)).mp c73)]; first | exact (if_pos c99).symm | exact (if_neg c99).symm) | (rw [if_neg (fun z => c73 ((am_w0 (by omega)).mpr z))]; first | exact (if_pos c99).symm | exact (if_neg c99).symm)))) (by first | contradiction | (unfold m_laJ; first | rw [if_pos c57]; rfl | (rw [if_neg c57]; first | (rw [if_pos ((am_w0 (by omega)).mp c73)]; rfl) | (rw [if_neg (fun z => c73 ((am_w0 (by omega)).mpr z))]; rfl)))) (by first | contradiction | (unfold m_laJ; first | rw [if_pos c57]; rfl | (rw [if_neg c57]; first | (rw [if_pos ((am_w0 (by omega)).mp c73)]; rfl) | (rw [if_neg (fun z => c73 ((am_w0 (by omega)).mpr z))]; rfl)))) rfl
        · refine w_ldc2_w rfl rfl rfl ?_
          refine w_goto (pc' := 109) rfl rfl ?_
          exact w_lret rfl (by first | contradiction | (unfold m_la m_laJ; first | (rw [if_pos c57]; first | exact (if_pos c99).symm | exact (if_neg c99).symm) | (rw [if_neg c57]; first | (rw [if_pos ((am_w0 (by omega)).mp c73)]; first | exact (if_pos c99).symm | exact (if_neg c99).symm) | (rw [if_neg (fun z => c73 ((am_w0 (by omega)).mpr z))]; first | exact (if_pos c99).symm | exact (if_neg c99).symm)))) (by first | contradiction | (unfold m_laJ; first | rw [if_pos c57]; rfl | (rw [if_neg c57]; first | (rw [if_pos ((am_w0 (by omega)).mp c73)]; rfl) | (rw [if_neg (fun z => c73 ((am_w0 (by omega)).mpr z))]; rfl)))) (by first | contradiction | (unfold m_laJ; first | rw [if_pos c57]; rfl | (rw [if_neg c57]; first | (rw [if_pos ((am_w0 (by omega)).mp c73)]; rfl) | (rw [if_neg (fun z => c73 ((am_w0 (by omega)).mpr z))]; rfl)))) rfl
      · refine w_iconst (x := Int32.ofNat 0) rfl rfl (by decide) ?_
        refine w_goto (pc' := 86) rfl rfl ?_
        refine w_cv (q := am_m221) (as := [_, _, _]) (rest := []) (st' := []) rfl rfl rfl rfl rfl rfl sp110 rfl rfl rfl rfl (c_layRope (b := 0) (by decide) (hi8 c57) hn g13 (t1.2.2.1 _ (h0 c57)) (by omega)) rfl rfl ?_
        refine w_aload_n rfl rfl rfl ?_
        refine w_iload_n rfl rfl rfl ?_
        refine w_cv (q := am_m223) (as := [_]) (rest := []) (st' := [_]) rfl rfl rfl rfl rfl rfl sp110 rfl rfl rfl rfl (c_lawOf hw (t1.2.2.2.2 w hw hL) (by omega)) rfl rfl ?_
        refine w_lstore_n (L' := [_, _, _, _, _]) rfl rfl rfl ?_
        refine w_aload_n rfl rfl rfl ?_
        refine w_gf (t := .int 0) (v := .int _) rfl rfl rfl sp110 rfl (congrArg Value.int am_u_at) rfl ?_
        refine w_if_eq (t := 108) (f := 102) rfl rfl rfl (fun c99 => ?_) (fun c99 => ?_)
        · refine w_lload_n rfl rfl rfl ?_
          exact w_lret rfl (by first | contradiction | (unfold m_la m_laJ; first | (rw [if_pos c57]; first | exact (if_pos c99).symm | exact (if_neg c99).symm) | (rw [if_neg c57]; first | (rw [if_pos ((am_w0 (by omega)).mp c73)]; first | exact (if_pos c99).symm | exact (if_neg c99).symm) | (rw [if_neg (fun z => c73 ((am_w0 (by omega)).mpr z))]; first | exact (if_pos c99).symm | exact (if_neg c99).symm)))) (by first | contradiction | (unfold m_laJ; first | rw [if_pos c57]; rfl | (rw [if_neg c57]; first | (rw [if_pos ((am_w0 (by omega)).mp c73)]; rfl) | (rw [if_neg (fun z => c73 ((am_w0 (by omega)).mpr z))]; rfl)))) (by first | contradiction | (unfold m_laJ; first | rw [if_pos c57]; rfl | (rw [if_neg c57]; first | (rw [if_pos ((am_w0 (by omega)).mp c73)]; rfl) | (rw [if_neg (fun z => c73 ((am_w0 (by omega)).mpr z))]; rfl)))) rfl
        · refine w_ldc2_w rfl rfl rfl ?_
          refine w_goto (pc' := 109) rfl rfl ?_
          exact w_lret rfl (by first | contradiction | (unfold m_la m_laJ; first | (rw [if_pos c57]; first | exact (if_pos c99).symm | exact (if_neg c99).symm) | (rw [if_neg c57]; first | (rw [if_pos ((am_w0 (by omega)).mp c73)]; first | exact (if_pos c99).symm | exact (if_neg c99).symm) | (rw [if_neg (fun z => c73 ((am_w0 (by omega)).mpr z))]; first | exact (if_pos c99).symm | exact (if_neg c99).symm)))) (by first | contradiction | (unfold m_laJ; first | rw [if_pos c57]; rfl | (rw [if_neg c57]; first | (rw [if_pos ((am_w0 (by omega)).mp c73)]; rfl) | (rw [if_neg (fun z => c73 ((am_w0 (by omega)).mpr z))]; rfl)))) (by first | contradiction | (unfold m_laJ; first | rw [if_pos c57]; rfl | (rw [if_neg c57]; first | (rw [if_pos ((am_w0 (by omega)).mp c73)]; rfl) | (rw [if_neg (fun z => c73 ((am_w0 (by omega)).mpr z))]; rfl)))) rfl
    · refine w_aload_n rfl rfl rfl ?_
      refine w_iconst (x := Int32.ofNat 0) rfl rfl (by decide) ?_
      refine w_iload_n rfl rfl rfl ?_
      refine w_cv (q := am_m222) (as := [_, _]) (rest := []) (st' := []) rfl rfl rfl rfl rfl rfl sp110 rfl rfl rfl rfl (c_layShip (b := 0) (by decide) (hi5 c57) hn g13 t1.2.2.1 (by omega)) rfl rfl ?_
      refine w_goto (pc' := 89) rfl rfl ?_
      refine w_aload_n rfl rfl rfl ?_
      refine w_iload_n rfl rfl rfl ?_
      refine w_cv (q := am_m223) (as := [_]) (rest := []) (st' := [_]) rfl rfl rfl rfl rfl rfl sp110 rfl rfl rfl rfl (c_lawOf hw (t1.2.2.2.2 w hw hL) (by omega)) rfl rfl ?_
      refine w_lstore_n (L' := [_, _, _, _, _]) rfl rfl rfl ?_
      refine w_aload_n rfl rfl rfl ?_
      refine w_gf (t := .int 0) (v := .int _) rfl rfl rfl sp110 rfl (congrArg Value.int am_u_at) rfl ?_
      refine w_if_eq (t := 108) (f := 102) rfl rfl rfl (fun c99 => ?_) (fun c99 => ?_)
      · refine w_lload_n rfl rfl rfl ?_
        exact w_lret rfl (by first | contradiction | (unfold m_la m_laJ; first | (rw [if_pos c57]; first | exact (if_pos c99).symm | exact (if_neg c99).symm) | (rw [if_neg c57]; first | (rw [if_pos ((am_w0 (by omega)).mp c73)]; first | exact (if_pos c99).symm | exact (if_neg c99).symm) | (rw [if_neg (fun z => c73 ((am_w0 (by omega)).mpr z))]; first | exact (if_pos c99).symm | exact (if_neg c99).symm)))) (by first | contradiction | (unfold m_laJ; first | rw [if_pos c57]; rfl | (rw [if_neg c57]; first | (rw [if_pos ((am_w0 (by omega)).mp c73)]; rfl) | (rw [if_neg (fun z => c73 ((am_w0 (by omega)).mpr z))]; rfl)))) (by first | contradiction | (unfold m_laJ; first | rw [if_pos c57]; rfl | (rw [if_neg c57]; first | (rw [if_pos ((am_w0 (by omega)).mp c73)]; rfl) | (rw [if_neg (fun z => c73 ((am_w0 (by omega)).mpr z))]; rfl)))) rfl
      · refine w_ldc2_w rfl rfl rfl ?_
        refine w_goto (pc' := 109) rfl rfl ?_
        exact w_lret rfl (by first | contradiction | (unfold m_la m_laJ; first | (rw [if_pos c57]; first | exact (if_pos c99).symm | exact (if_neg c99).symm) | (rw [if_neg c57]; first | (rw [if_pos ((am_w0 (by omega)).mp c73)]; first | exact (if_pos c99).symm | exact (if_neg c99).symm) | (rw [if_neg (fun z => c73 ((am_w0 (by omega)).mpr z))]; first | exact (if_pos c99).symm | exact (if_neg c99).symm)))) (by first | contradiction | (unfold m_laJ; first | rw [if_pos c57]; rfl | (rw [if_neg c57]; first | (rw [if_pos ((am_w0 (by omega)).mp c73)]; rfl) | (rw [if_neg (fun z => c73 ((am_w0 (by omega)).mpr z))]; rfl)))) (by first | contradiction | (unfold m_laJ; first | rw [if_pos c57]; rfl | (rw [if_neg c57]; first | (rw [if_pos ((am_w0 (by omega)).mp c73)]; rfl) | (rw [if_neg (fun z => c73 ((am_w0 (by omega)).mpr z))]; rfl)))) rfl
  · refine w_aload_n rfl rfl rfl ?_
    refine w_iload_n rfl rfl rfl ?_
    refine w_cv (q := am_m216) (as := [_]) (rest := []) (st' := [_]) rfl rfl rfl rfl rfl rfl sp110 rfl rfl rfl rfl (c_isShip (by omega)) rfl rfl ?_
    refine w_if_neB (t := 51) (f := 36) rfl rfl rfl (fun c33 => ?_) (fun c33 => absurd c33 (isok (h2 c25) (by omega) ((am_u_nk (by decide)).trans h14)))
    refine w_aload_n rfl rfl rfl ?_
    have hi5 : w = 2 → i < 5 := fun z => by have := h2 z; omega
    have hi8 : ¬ w = 2 → i < 8 := fun z => by have := h0 z; omega
    refine w_cv (q := am_m212) (as := []) (rest := []) (st' := []) rfl rfl rfl rfl rfl rfl sp110 rfl rfl rfl rfl (c_plainTried (by omega)) rfl rfl ?_
    refine w_iload_n rfl rfl rfl ?_
    refine w_iconst (x := Int32.ofNat 2) rfl rfl (by decide) ?_
    refine w_ic_neN (t := 69) (f := 60) rfl rfl rfl (by omega) (by omega) (fun c57 => ?_) (fun c57 => ?_)
    · refine w_aload_n rfl rfl rfl ?_
      refine w_iconst (x := Int32.ofNat 0) rfl rfl (by decide) ?_
      refine w_iload_n rfl rfl rfl ?_
      refine w_iload_n rfl rfl rfl ?_
      refine w_if_ne (t := 80) (f := 76) rfl rfl rfl (fun c73 => ?_) (fun c73 => ?_)
      · refine w_aload_n rfl rfl rfl ?_
        refine w_gf (t := .ref (139)) (v := .ref (139)) rfl rfl rfl sp110 rfl rfl rfl ?_
        refine w_iload_n rfl rfl rfl ?_
        refine w_iaload rfl rfl sp139 rfl ⟨(by first | omega | (have := hi8 c57; omega)), by omega⟩ rfl ?_
        refine w_cv (q := am_m221) (as := [_, _, _]) (rest := []) (st' := []) rfl rfl rfl rfl rfl rfl sp110 rfl rfl rfl rfl (c_layRope (b := 0) (by decide) (hi8 c57) hn g13 (t1.2.2.1 _ (h0 c57)) (by omega)) rfl rfl ?_
        refine w_aload_n rfl rfl rfl ?_
        refine w_iload_n rfl rfl rfl ?_
        refine w_cv (q := am_m223) (as := [_]) (rest := []) (st' := [_]) rfl rfl rfl rfl rfl rfl sp110 rfl rfl rfl rfl (c_lawOf hw (t1.2.2.2.2 w hw hL) (by omega)) rfl rfl ?_
        refine w_lstore_n (L' := [_, _, _, _, _]) rfl rfl rfl ?_
        refine w_aload_n rfl rfl rfl ?_
        refine w_gf (t := .int 0) (v := .int _) rfl rfl rfl sp110 rfl (congrArg Value.int am_u_at) rfl ?_
        refine w_if_eq (t := 108) (f := 102) rfl rfl rfl (fun c99 => ?_) (fun c99 => ?_)
        · refine w_lload_n rfl rfl rfl ?_
          exact w_lret rfl (by first | contradiction | (unfold m_la m_laJ; first | (rw [if_pos c57]; first | exact (if_pos c99).symm | exact (if_neg c99).symm) | (rw [if_neg c57]; first | (rw [if_pos ((am_w0 (by omega)).mp c73)]; first | exact (if_pos c99).symm | exact (if_neg c99).symm) | (rw [if_neg (fun z => c73 ((am_w0 (by omega)).mpr z))]; first | exact (if_pos c99).symm | exact (if_neg c99).symm)))) (by first | contradiction | (unfold m_laJ; first | rw [if_pos c57]; rfl | (rw [if_neg c57]; first | (rw [if_pos ((am_w0 (by omega)).mp c73)]; rfl) | (rw [if_neg (fun z => c73 ((am_w0 (by omega)).mpr z))]; rfl)))) (by first | contradiction | (unfold m_laJ; first | rw [if_pos c57]; rfl | (rw [if_neg c57]; first | (rw [if_pos ((am_w0 (by omega)).mp c73)]; rfl) | (rw [if_neg (fun z => c73 ((am_w0 (by omega)).mpr z))]; rfl)))) rfl
        · refine w_ldc2_w rfl rfl rfl ?_
          refine w_goto (pc' := 109) rfl rfl ?_
          exact w_lret rfl (by first | contradiction | (unfold m_la m_laJ; first | (rw [if_pos c57]; first | exact (if_pos c99).symm | exact (if_neg c99).symm) | (rw [if_neg c57]; first | (rw [if_pos ((am_w0 (by omega)).mp c73)]; first | exact (if_pos c99).symm | exact (if_neg c99).symm) | (rw [if_neg (fun z => c73 ((am_w0 (by omega)).mpr z))]; first | exact (if_pos c99).symm | exact (if_neg c99).symm)))) (by first | contradiction | (unfold m_laJ; first | rw [if_pos c57]; rfl | (rw [if_neg c57]; first | (rw [if_pos ((am_w0 (by omega)).mp c73)]; rfl) | (rw [if_neg (fun z => c73 ((am_w0 (by omega)).mpr z))]; rfl)))) (by first | contradiction | (unfold m_laJ; first | rw [if_pos c57]; rfl | (rw [if_neg c57]; first | (rw [if_pos ((am_w0 (by omega)).mp c73)]; rfl) | (rw [if_neg (fun z => c73 ((am_w0 (by omega)).mpr z))]; rfl)))) rfl
      · refine w_iconst (x := Int32.ofNat 0) rfl rfl (by decide) ?_
        refine w_goto (pc' := 86) rfl rfl ?_
        refine w_cv (q := am_m221) (as := [_, _, _]) (rest := []) (st' := []) rfl rfl rfl rfl rfl rfl sp110 rfl rfl rfl rfl (c_layRope (b := 0) (by decide) (hi8 c57) hn g13 (t1.2.2.1 _ (h0 c57)) (by omega)) rfl rfl ?_
        refine w_aload_n rfl rfl rfl ?_
        refine w_iload_n rfl rfl rfl ?_
        refine w_cv (q := am_m223) (as := [_]) (rest := []) (st' := [_]) rfl rfl rfl rfl rfl rfl sp110 rfl rfl rfl rfl (c_lawOf hw (t1.2.2.2.2 w hw hL) (by omega)) rfl rfl ?_
        refine w_lstore_n (L' := [_, _, _, _, _]) rfl rfl rfl ?_
        refine w_aload_n rfl rfl rfl ?_
        refine w_gf (t := .int 0) (v := .int _) rfl rfl rfl sp110 rfl (congrArg Value.int am_u_at) rfl ?_
        refine w_if_eq (t := 108) (f := 102) rfl rfl rfl (fun c99 => ?_) (fun c99 => ?_)
        · refine w_lload_n rfl rfl rfl ?_
          exact w_lret rfl (by first | contradiction | (unfold m_la m_laJ; first | (rw [if_pos c57]; first | exact (if_pos c99).symm | exact (if_neg c99).symm) | (rw [if_neg c57]; first | (rw [if_pos ((am_w0 (by omega)).mp c73)]; first | exact (if_pos c99).symm | exact (if_neg c99).symm) | (rw [if_neg (fun z => c73 ((am_w0 (by omega)).mpr z))]; first | exact (if_pos c99).symm | exact (if_neg c99).symm)))) (by first | contradiction | (unfold m_laJ; first | rw [if_pos c57]; rfl | (rw [if_neg c57]; first | (rw [if_pos ((am_w0 (by omega)).mp c73)]; rfl) | (rw [if_neg (fun z => c73 ((am_w0 (by omega)).mpr z))]; rfl)))) (by first | contradiction | (unfold m_laJ; first | rw [if_pos c57]; rfl | (rw [if_neg c57]; first | (rw [if_pos ((am_w0 (by omega)).mp c73)]; rfl) | (rw [if_neg (fun z => c73 ((am_w0 (by omega)).mpr z))]; rfl)))) rfl
        · refine w_ldc2_w rfl rfl rfl ?_
          refine w_goto (pc' := 109) rfl rfl ?_
          exact w_lret rfl (by first | contradiction | (unfold m_la m_laJ; first | (rw [if_pos c57]; first | exact (if_pos c99).symm | exact (if_neg c99).symm) | (rw [if_neg c57]; first | (rw [if_pos ((am_w0 (by omega)).mp c73)]; first | exact (if_pos c99).symm | exact (if_neg c99).symm) | (rw [if_neg (fun z => c73 ((am_w0 (by omega)).mpr z))]; first | exact (if_pos c99).symm | exact (if_neg c99).symm)))) (by first | contradiction | (unfold m_laJ; first | rw [if_pos c57]; rfl | (rw [if_neg c57]; first | (rw [if_pos ((am_w0 (by omega)).mp c73)]; rfl) | (rw [if_neg (fun z => c73 ((am_w0 (by omega)).mpr z))]; rfl)))) (by first | contradiction | (unfold m_laJ; first | rw [if_pos c57]; rfl | (rw [if_neg c57]; first | (rw [if_pos ((am_w0 (by omega)).mp c73)]; rfl) | (rw [if_neg (fun z => c73 ((am_w0 (by omega)).mpr z))]; rfl)))) rfl
    · refine w_aload_n rfl rfl rfl ?_
      refine w_iconst (x := Int32.ofNat 0) rfl rfl (by decide) ?_
      refine w_iload_n rfl rfl rfl ?_
      refine w_cv (q := am_m222) (as := [_, _]) (rest := []) (st' := []) rfl rfl rfl rfl rfl rfl sp110 rfl rfl rfl rfl (c_layShip (b := 0) (by decide) (hi5 c57) hn g13 t1.2.2.1 (by omega)) rfl rfl ?_
      refine w_goto (pc' := 89) rfl rfl ?_
      refine w_aload_n rfl rfl rfl ?_
      refine w_iload_n rfl rfl rfl ?_
      refine w_cv (q := am_m223) (as := [_]) (rest := []) (st' := [_]) rfl rfl rfl rfl rfl rfl sp110 rfl rfl rfl rfl (c_lawOf hw (t1.2.2.2.2 w hw hL) (by omega)) rfl rfl ?_
      refine w_lstore_n (L' := [_, _, _, _, _]) rfl rfl rfl ?_
      refine w_aload_n rfl rfl rfl ?_
      refine w_gf (t := .int 0) (v := .int _) rfl rfl rfl sp110 rfl (congrArg Value.int am_u_at) rfl ?_
      refine w_if_eq (t := 108) (f := 102) rfl rfl rfl (fun c99 => ?_) (fun c99 => ?_)
      · refine w_lload_n rfl rfl rfl ?_
        exact w_lret rfl (by first | contradiction | (unfold m_la m_laJ; first | (rw [if_pos c57]; first | exact (if_pos c99).symm | exact (if_neg c99).symm) | (rw [if_neg c57]; first | (rw [if_pos ((am_w0 (by omega)).mp c73)]; first | exact (if_pos c99).symm | exact (if_neg c99).symm) | (rw [if_neg (fun z => c73 ((am_w0 (by omega)).mpr z))]; first | exact (if_pos c99).symm | exact (if_neg c99).symm)))) (by first | contradiction | (unfold m_laJ; first | rw [if_pos c57]; rfl | (rw [if_neg c57]; first | (rw [if_pos ((am_w0 (by omega)).mp c73)]; rfl) | (rw [if_neg (fun z => c73 ((am_w0 (by omega)).mpr z))]; rfl)))) (by first | contradiction | (unfold m_laJ; first | rw [if_pos c57]; rfl | (rw [if_neg c57]; first | (rw [if_pos ((am_w0 (by omega)).mp c73)]; rfl) | (rw [if_neg (fun z => c73 ((am_w0 (by omega)).mpr z))]; rfl)))) rfl
      · refine w_ldc2_w rfl rfl rfl ?_
        refine w_goto (pc' := 109) rfl rfl ?_
        exact w_lret rfl (by first | contradiction | (unfold m_la m_laJ; first | (rw [if_pos c57]; first | exact (if_pos c99).symm | exact (if_neg c99).symm) | (rw [if_neg c57]; first | (rw [if_pos ((am_w0 (by omega)).mp c73)]; first | exact (if_pos c99).symm | exact (if_neg c99).symm) | (rw [if_neg (fun z => c73 ((am_w0 (by omega)).mpr z))]; first | exact (if_pos c99).symm | exact (if_neg c99).symm)))) (by first | contradiction | (unfold m_laJ; first | rw [if_pos c57]; rfl | (rw [if_neg c57]; first | (rw [if_pos ((am_w0 (by omega)).mp c73)]; rfl) | (rw [if_neg (fun z => c73 ((am_w0 (by omega)).mpr z))]; rfl)))) (by first | contradiction | (unfold m_laJ; first | rw [if_pos c57]; rfl | (rw [if_neg c57]; first | (rw [if_pos ((am_w0 (by omega)).mp c73)]; rfl) | (rw [if_neg (fun z => c73 ((am_w0 (by omega)).mpr z))]; rfl)))) rfl
