/-! The reference: ropes allotted. -/
def fok (I : hI) : Prop := okn (I 110 74) 6 ∧ ∀ k, k < nn (I 110 74) → okn (I 146 k) 8
theorem fok_c {I I' : hI} (h : ∀ a i, a = 146 ∨ (a = 110 ∧ i = 74) → I' a i = I a i) (g : fok I) : fok I' := by
  unfold fok at g ⊢
  rw [h 110 74 (by omega)]
  refine ⟨g.1, fun k hk => ?_⟩
  rw [h 146 k (by omega)]
  exact g.2 k hk
theorem fok_u {I : hI} {a k : Nat} {x : Int32} (h1 : a ≠ 146) (h2 : a = 110 → k ≠ 74) (g : fok I) : fok (am_u I a k x) := fok_c (fun b i z => by unfold am_u; rw [if_neg (by omega)]) g
theorem okn_of {r m : Nat} (h : r < m) (hm : m ≤ 1024) : okn (Int32.ofNat r) m := by
  unfold okn
  rw [nn_ofNat (by omega)]
  exact ⟨rfl, h⟩
def m_l5S (r : Nat) (I : hI) : hI := if I 138 r = Int32.ofNat 1 ∧ I 140 r < 0 then (if nn (I 110 74) = 5 then I else am_u (am_u I 146 (nn (I 110 74)) (Int32.ofNat r)) 110 74 (Int32.ofNat (nn (I 110 74) + 1))) else I
def m_l5 (n : Nat) (I : hI) : hI := s_for m_l5S n (am_u I 110 74 (Int32.ofNat 0))
theorem fok_l5 (I : hI) : ∀ n, n ≤ 8 → fok (m_l5 n I) := by
  intro n
  induction n with
  | zero =>
    intro _
    show fok (am_u I 110 74 (Int32.ofNat 0))
    unfold fok
    rw [am_u_at]
    exact ⟨okn_of (by decide) (by decide), fun k hk => absurd hk (by rw [nn_ofNat (by decide)]; omega)⟩
  | succ n ih =>
    intro h
    have ih := ih (by omega)
    show fok (m_l5S n (m_l5 n I))
    unfold m_l5S
    split
    · split
      · exact ih
      · rename_i h5
        have h6 := ih.1.2
        unfold fok
        rw [am_u_at, nn_ofNat (by omega)]
        refine ⟨okn_of (by omega) (by decide), fun k hk => ?_⟩
        rw [am_u_na (by decide)]
        by_cases e : k = nn (m_l5 n I 110 74)
        · rw [e, am_u_at]; exact okn_of (by omega) (by decide)
        · rw [am_u_nk e]; exact ih.2 k (by omega)
    · exact ih
theorem tok_l5 {I : hI} {N : Nat → Nat} {n : Nat} (t : tok I N) : tok (m_l5 n I) N := by
  induction n with
  | zero => exact tok_u (by omega) (by omega) t
  | succ n ih =>
    show tok (m_l5S n (m_l5 n I)) N
    unfold m_l5S
    repeat' split
    · exact ih
    · exact tok_u (by omega) (by omega) (tok_u (by omega) (by omega) ih)
    · exact ih
theorem l_layFive {k : Nat} {R : hR} {q : Option Value × am_H} {N : Nat → Nat} {n : Nat} {I0 : hI} {J0 : hJ} (hN : N 1 = n) (hn : n ≤ 8) (t : tok I0 N) (hk : 1 ≤ k) (Z : wz k 12 none am_c255 60 [.ref 110, .int (Int32.ofNat n)] [] (m_l5 n I0) J0 R q) : ∀ (j r : Nat) , r + j = n → wz k 12 none am_c255 7 [.ref 110, .int (Int32.ofNat r)] [] (m_l5 r I0) J0 R q := by
  intro j
  induction j with
  | zero =>
    intro r e
    obtain rfl : n = r := by omega
    have f1 := fok_l5 I0 n (by omega)
    have h6 := f1.1.2
    have h74 := f1.1.1
    have t1 := tok_l5 (n := n) t
    have h13 := t1.2.1.2.1
    rw [hN] at h13
    refine w_iload_n rfl rfl rfl ?_
    refine w_aload_n rfl rfl rfl ?_
    refine w_gf (t := .int 0) (v := .int _) rfl rfl rfl sp110 rfl (congrArg Value.int h13) rfl ?_
    refine w_ic_geN (t := 60) (f := 15) rfl rfl rfl (by omega) (by omega) (fun c12 => ?_) (fun c12 => absurd c12 (by omega))
    exact Z
  | succ j ih =>
    intro r e
    have f1 := fok_l5 I0 r (by omega)
    have h6 := f1.1.2
    have h74 := f1.1.1
    have t1 := tok_l5 (n := r) t
    have h13 := t1.2.1.2.1
    rw [hN] at h13
    refine w_iload_n rfl rfl rfl ?_
    refine w_aload_n rfl rfl rfl ?_
    refine w_gf (t := .int 0) (v := .int _) rfl rfl rfl sp110 rfl (congrArg Value.int h13) rfl ?_
    refine w_ic_geN (t := 60) (f := 15) rfl rfl rfl (by omega) (by omega) (fun c12 => absurd c12 (by omega)) (fun c12 => ?_)
    refine w_aload_n rfl rfl rfl ?_
    refine w_iload_n rfl rfl rfl ?_
    refine w_cv (q := am_m250) (as := [_]) (rest := []) (st' := [_]) rfl rfl rfl rfl rfl rfl sp110 rfl rfl rfl rfl (c_isFree (by omega) hk) rfl rfl ?_
    refine w_if_eqB (t := 54) (f := 23) rfl rfl rfl (fun c20 => ?_) (fun c20 => ?_)
    · refine w_iinc (L' := [_, _]) rfl rfl rfl (am_incN 1) rfl ?_
      refine w_goto (pc' := 7) rfl rfl ?_
      exact wz_M (ih (r + 1) (by omega)) rfl (by show m_l5S r (m_l5 r I0) = _; unfold m_l5S; first | rw [if_neg c20] | (rw [if_pos c20]; first | rw [if_pos c28] | rw [if_neg c28]))
    · refine w_aload_n rfl rfl rfl ?_
      refine w_gf (t := .int 0) (v := .int _) rfl rfl rfl sp110 rfl (congrArg Value.int h74) rfl ?_
      refine w_iconst (x := Int32.ofNat 5) rfl rfl (by decide) ?_
      refine w_ic_neN (t := 34) (f := 31) rfl rfl rfl (by omega) (by omega) (fun c28 => ?_) (fun c28 => ?_)
      · refine w_aload_n rfl rfl rfl ?_
        refine w_gf (t := .ref (146)) (v := .ref (146)) rfl rfl rfl sp110 rfl rfl rfl ?_
        refine w_aload_n rfl rfl rfl ?_
        refine w_gf (t := .int 0) (v := .int _) rfl rfl rfl sp110 rfl (congrArg Value.int h74) rfl ?_
        refine w_iload_n rfl rfl rfl ?_
        refine w_iastore rfl rfl sp146 rfl ⟨by omega, by omega⟩ ?_
        refine w_aload_n rfl rfl rfl ?_
        refine w_dup rfl rfl rfl ?_
        refine w_gf (t := .int 0) (v := .int _) rfl rfl rfl sp110 rfl (congrArg Value.int ((congrFun (am_u_ne (by decide)) _).trans h74)) rfl ?_
        refine w_iconst (x := Int32.ofNat 1) rfl rfl (by decide) ?_
        refine w_iaddN rfl rfl ?_
        refine w_pf rfl rfl rfl sp110 rfl rfl rfl ?_
        refine w_iinc (L' := [_, _]) rfl rfl rfl (am_incN 1) rfl ?_
        refine w_goto (pc' := 7) rfl rfl ?_
        exact wz_M (ih (r + 1) (by omega)) rfl (by show m_l5S r (m_l5 r I0) = _; unfold m_l5S; first | rw [if_neg c20] | (rw [if_pos c20]; first | rw [if_pos c28] | rw [if_neg c28]))
      · refine w_goto (pc' := 54) rfl rfl ?_
        refine w_iinc (L' := [_, _]) rfl rfl rfl (am_incN 1) rfl ?_
        refine w_goto (pc' := 7) rfl rfl ?_
        exact wz_M (ih (r + 1) (by omega)) rfl (by show m_l5S r (m_l5 r I0) = _; unfold m_l5S; first | rw [if_neg c20] | (rw [if_pos c20]; first | rw [if_pos c28] | rw [if_neg c28]))
theorem c_layFive {k : Nat} {I : hI} {J : hJ} {R : hR} {N : Nat → Nat} (t : tok I N) (hk : 2 ≤ k) : ct k 255 [.ref 110] I J R none (m_l5 (N 1) I) J R := by
  obtain ⟨k, rfl⟩ : ∃ k', k = k' + 1 := ⟨k - 1, by omega⟩
  refine ct_of (q := am_m255) (L := [_, _]) rfl rfl rfl rfl rfl rfl ?_
  refine w_aload_n rfl rfl rfl ?_
  refine w_iconst (x := Int32.ofNat 0) rfl rfl (by decide) ?_
  refine w_pf rfl rfl rfl sp110 rfl rfl rfl ?_
  refine w_iconst (x := Int32.ofNat 0) rfl rfl (by decide) ?_
  refine w_istore_n (L' := [_, _]) rfl rfl rfl ?_
  refine l_layFive rfl t.1.2.1 t (by omega) ?_ (N 1) 0 (by omega)
  exact w_ret rfl rfl rfl rfl
def m_mz (n : Nat) (I : hI) : hI := s_for (fun r I => am_u I 148 r (Int32.ofNat 0)) n I
/-- a row by its code, from its last place on; 0: a ship isn't in harbour -/
def m_lr (ns : Nat) : Nat → Nat → hI → Int32 × hI
  | 0, _, I => (1, I)
  | j + 1, c, I => if c % (ns + 1) = ns then m_lr ns j (c / (ns + 1)) (am_u I 147 j (Int32.ofNat (c % (ns + 1)))) else if I 141 (c % (ns + 1)) = 0 then m_lr ns j (c / (ns + 1)) (am_u (am_u (am_u I 147 j (Int32.ofNat (c % (ns + 1)))) 148 (c % (ns + 1)) (I 148 (c % (ns + 1)) + I 139 (nn (I 146 j)))) 110 78 (I 110 78 + I 139 (nn (I 146 j)))) else (0, am_u I 147 j (Int32.ofNat (c % (ns + 1))))
theorem m_lr_s (ns j c : Nat) (I : hI) : m_lr ns (j + 1) c I = if c % (ns + 1) = ns then m_lr ns j (c / (ns + 1)) (am_u I 147 j (Int32.ofNat (c % (ns + 1)))) else if I 141 (c % (ns + 1)) = 0 then m_lr ns j (c / (ns + 1)) (am_u (am_u (am_u I 147 j (Int32.ofNat (c % (ns + 1)))) 148 (c % (ns + 1)) (I 148 (c % (ns + 1)) + I 139 (nn (I 146 j)))) 110 78 (I 110 78 + I 139 (nn (I 146 j)))) else (0, am_u I 147 j (Int32.ofNat (c % (ns + 1)))) := rfl
/-- what laying a row leaves as it is -/
def rwF (I I' : hI) : Prop := ∀ a i, ¬ (a = 147 ∨ a = 148) → ¬ (a = 110 ∧ (i = 77 ∨ i = 78)) → I' a i = I a i
theorem rwF_rf (I : hI) : rwF I I := fun _ _ _ _ => rfl
theorem rwF_tr {I I1 I2 : hI} (h : rwF I I1) (g : rwF I1 I2) : rwF I I2 := fun a i x y => (g a i x y).trans (h a i x y)
theorem rwF_u {I : hI} {a k : Nat} {x : Int32} (h : (a = 147 ∨ a = 148) ∨ (a = 110 ∧ (k = 77 ∨ k = 78))) : rwF I (am_u I a k x) := by
  intro b i h1 h2
  unfold am_u
  rw [if_neg (by omega)]
theorem rwF_lr (ns : Nat) : ∀ j c I, rwF I (m_lr ns j c I).2 := by
  intro j
  induction j with
  | zero => intro c I; exact rwF_rf I
  | succ j ih =>
    intro c I
    rw [m_lr_s]
    repeat' split
    · exact rwF_tr (rwF_u (by omega)) (ih _ _)
    · exact rwF_tr (rwF_tr (rwF_tr (rwF_u (by omega)) (rwF_u (by omega))) (rwF_u (by omega))) (ih _ _)
    · exact rwF_u (by omega)
theorem m_lr01 (ns : Nat) : ∀ j c I, (m_lr ns j c I).1 = 0 ∨ (m_lr ns j c I).1 = 1 := by
  intro j
  induction j with
  | zero => intro c I; exact Or.inr rfl
  | succ j ih =>
    intro c I
    rw [m_lr_s]
    repeat' split
    · exact ih _ _
    · exact ih _ _
    · exact Or.inl rfl
theorem tok_rw {I I' : hI} {N : Nat → Nat} (h : rwF I I') (t : tok I N) : tok I' N := tok_c (fun a i z => h a i (by omega) (by omega)) t
theorem fok_rw {I I' : hI} (h : rwF I I') (t : fok I) : fok I' := fok_c (fun a i z => h a i (by omega) (by omega)) t
def m_lb (nr n : Nat) (I : hI) : hI := s_for (fun s I => am_u I 110 77 (I 110 77 + (if I 141 s = 0 ∧ ¬ m_bear I 0 nr (Int32.ofNat s) + I 148 s < I 124 s then Int32.ofNat 1 else Int32.ofNat 0))) n I
theorem m_lb_s (nr n : Nat) (I : hI) : m_lb nr (n + 1) I = am_u (m_lb nr n I) 110 77 (m_lb nr n I 110 77 + (if m_lb nr n I 141 n = 0 ∧ ¬ m_bear (m_lb nr n I) 0 nr (Int32.ofNat n) + m_lb nr n I 148 n < m_lb nr n I 124 n then Int32.ofNat 1 else Int32.ofNat 0)) := rfl
theorem rwF_lb (nr n : Nat) (I : hI) : rwF I (m_lb nr n I) := by
  induction n with
  | zero => exact rwF_rf I
  | succ n ih => exact rwF_tr ih (rwF_u (by omega))
theorem rwF_mz (n : Nat) (I : hI) : rwF I (m_mz n I) := by
  induction n with
  | zero => exact rwF_rf I
  | succ n ih => exact rwF_tr ih (rwF_u (by omega))
def m_ly0 (I : hI) : hI := m_mz 5 (am_u (am_u I 110 78 (Int32.ofNat 0)) 110 77 (Int32.ofNat 0))
def m_lyL (N : Nat → Nat) (c : Nat) (I : hI) : Int32 × hI := m_lr (N 2) (nn (I 110 74)) c (m_ly0 I)
def m_ly (N : Nat → Nat) (c : Nat) (I : hI) : Int32 × hI := if (m_lyL N c I).1 = 0 then (0, (m_lyL N c I).2) else (1, m_lb (N 1) (N 2) (m_lyL N c I).2)
theorem rwF_ly0 (I : hI) : rwF I (m_ly0 I) := rwF_tr (rwF_tr (rwF_u (by omega)) (rwF_u (by omega))) (rwF_mz 5 _)
theorem rwF_ly (N : Nat → Nat) (c : Nat) (I : hI) : rwF I (m_ly N c I).2 := by
  unfold m_ly
  split
  · exact rwF_tr (rwF_ly0 I) (rwF_lr _ _ _ _)
  · exact rwF_tr (rwF_tr (rwF_ly0 I) (rwF_lr _ _ _ _)) (rwF_lb _ _ _)
theorem l_lays1 {k : Nat} {R : hR} {q : Option Value × am_H} {c : Nat} {I0 : hI} {J0 : hJ} (Z : wz k 12 (some .boolean) am_c256 32 [.ref 110, .int (Int32.ofNat c), .int (Int32.ofNat c), .int (Int32.ofNat 5)] [] (m_mz 5 I0) J0 R q) : ∀ (j r : Nat) , r + j = 5 → wz k 12 (some .boolean) am_c256 14 [.ref 110, .int (Int32.ofNat c), .int (Int32.ofNat c), .int (Int32.ofNat r)] [] (m_mz r I0) J0 R q := by
  intro j
  induction j with
  | zero =>
    intro r e
    obtain rfl : 5 = r := by omega
    refine w_iload_n rfl rfl rfl ?_
    refine w_iconst (x := Int32.ofNat 5) rfl rfl (by decide) ?_
    refine w_ic_geN (t := 32) (f := 19) rfl rfl rfl (by omega) (by omega) (fun c16 => ?_) (fun c16 => absurd c16 (by omega))
    exact Z
  | succ j ih =>
    intro r e
    refine w_iload_n rfl rfl rfl ?_
    refine w_iconst (x := Int32.ofNat 5) rfl rfl (by decide) ?_
    refine w_ic_geN (t := 32) (f := 19) rfl rfl rfl (by omega) (by omega) (fun c16 => absurd c16 (by omega)) (fun c16 => ?_)
    refine w_aload_n rfl rfl rfl ?_
    refine w_gf (t := .ref (148)) (v := .ref (148)) rfl rfl rfl sp110 rfl rfl rfl ?_
    refine w_iload_n rfl rfl rfl ?_
    refine w_iconst (x := Int32.ofNat 0) rfl rfl (by decide) ?_
    refine w_iastore rfl rfl sp148 rfl ⟨by omega, by omega⟩ ?_
    refine w_iinc (L' := [_, _, _, _]) rfl rfl rfl (am_incN 1) rfl ?_
    refine w_goto (pc' := 14) rfl rfl ?_
    exact ih (r + 1) (by omega)
theorem l_lays2 {k : Nat} {R : hR} {J : hJ} {N : Nat → Nat} {c0 : Nat} {q : Option Value × am_H} : ∀ (j c : Nat) (I : hI), c ≤ 10000 → tok I N → fok I → j ≤ nn (I 110 74) → ((m_lr (N 2) j c I).1 = 1 → ∀ c9, wz k 12 (some .boolean) am_c256 149 [.ref 110, .int (Int32.ofNat c0), .int (Int32.ofNat c9), .int (Int32.ofNat 0 - Int32.ofNat 1)] [] (m_lr (N 2) j c I).2 J R q) → ((m_lr (N 2) j c I).1 = 0 → q = (some (.int 0), am_hp (m_lr (N 2) j c I).2 J R)) → wz k 12 (some .boolean) am_c256 39 [.ref 110, .int (Int32.ofNat c0), .int (Int32.ofNat c), .int (Int32.ofNat j - Int32.ofNat 1)] [] I J R q := by
  intro j
  induction j with
  | zero =>
    intro c I hc t f hj Z Z0
    refine w_iload_n rfl rfl rfl ?_
    refine w_if_lt (t := 149) (f := 43) rfl rfl rfl (fun c40 => ?_) (fun c40 => absurd c40 (by decide))
    exact Z rfl c
  | succ j ih =>
    intro c I hc t f hj Z Z0
    have h14 := t.2.1.2.2.1
    have hn2 := t.1.2.2.1
    have h6 := f.1.2
    have hm : c % (N 2 + 1) < N 2 + 1 := Nat.mod_lt _ (by omega)
    have hd : c / (N 2 + 1) ≤ 10000 := Nat.le_trans (Nat.div_le_self _ _) hc
    rw [dn_s]
    rw [m_lr_s] at Z Z0
    refine w_iload_n rfl rfl rfl ?_
    refine w_if_lt (t := 149) (f := 43) rfl rfl rfl (fun c40 => absurd c40 (am_oN0 (by omega))) (fun c40 => ?_)
    refine w_aload_n rfl rfl rfl ?_
    refine w_gf (t := .ref (147)) (v := .ref (147)) rfl rfl rfl sp110 rfl rfl rfl ?_
    refine w_iload_n rfl rfl rfl ?_
    refine w_iload_n rfl rfl rfl ?_
    refine w_aload_n rfl rfl rfl ?_
    refine w_gf (t := .int 0) (v := .int _) rfl rfl rfl sp110 rfl (congrArg Value.int h14) rfl ?_
    refine w_iconst (x := Int32.ofNat 1) rfl rfl (by decide) ?_
    refine w_iaddN rfl rfl ?_
    refine w_iremN rfl rfl ⟨by omega, by omega, by omega⟩ ?_
    refine w_iastore rfl rfl sp147 rfl ⟨by omega, by omega⟩ ?_
    refine w_iload_n rfl rfl rfl ?_
    refine w_aload_n rfl rfl rfl ?_
    refine w_gf (t := .int 0) (v := .int _) rfl rfl rfl sp110 rfl (congrArg Value.int ((congrFun (am_u_ne (by decide)) _).trans h14)) rfl ?_
    refine w_iconst (x := Int32.ofNat 1) rfl rfl (by decide) ?_
    refine w_iaddN rfl rfl ?_
    refine w_idivN rfl rfl ⟨by omega, by omega, by omega⟩ ?_
    refine w_istore_n (L' := [_, _, _, _]) rfl rfl rfl ?_
    refine w_aload_n rfl rfl rfl ?_
    refine w_gf (t := .ref (147)) (v := .ref (147)) rfl rfl rfl sp110 rfl rfl rfl ?_
    refine w_iload_n rfl rfl rfl ?_
    refine w_iaload rfl rfl sp147 rfl ⟨by omega, by omega⟩ am_u_at ?_
    refine w_aload_n rfl rfl rfl ?_
    refine w_gf (t := .int 0) (v := .int _) rfl rfl rfl sp110 rfl (congrArg Value.int ((congrFun (am_u_ne (by decide)) _).trans h14)) rfl ?_
    refine w_ic_neN (t := 82) (f := 79) rfl rfl rfl (by omega) (by omega) (fun c76 => ?_) (fun c76 => ?_)
    · refine w_aload_n rfl rfl rfl ?_
      refine w_gf (t := .ref (141)) (v := .ref (141)) rfl rfl rfl sp110 rfl rfl rfl ?_
      refine w_aload_n rfl rfl rfl ?_
      refine w_gf (t := .ref (147)) (v := .ref (147)) rfl rfl rfl sp110 rfl rfl rfl ?_
      refine w_iload_n rfl rfl rfl ?_
      refine w_iaload rfl rfl sp147 rfl ⟨by omega, by omega⟩ am_u_at ?_
      refine w_iaload rfl rfl sp141 rfl ⟨by omega, by omega⟩ (congrFun (am_u_ne (by decide)) _) ?_
      refine w_if_eq (t := 98) (f := 96) rfl rfl rfl (fun c93 => ?_) (fun c93 => ?_)
      · refine w_aload_n rfl rfl rfl ?_
        refine w_gf (t := .ref (148)) (v := .ref (148)) rfl rfl rfl sp110 rfl rfl rfl ?_
        refine w_aload_n rfl rfl rfl ?_
        refine w_gf (t := .ref (147)) (v := .ref (147)) rfl rfl rfl sp110 rfl rfl rfl ?_
        refine w_iload_n rfl rfl rfl ?_
        refine w_iaload rfl rfl sp147 rfl ⟨by omega, by omega⟩ am_u_at ?_
        refine w_dup2 rfl rfl rfl rfl ?_
        refine w_iaload rfl rfl sp148 rfl ⟨by omega, by omega⟩ (congrFun (am_u_ne (by decide)) _) ?_
        refine w_aload_n rfl rfl rfl ?_
        refine w_gf (t := .ref (139)) (v := .ref (139)) rfl rfl rfl sp110 rfl rfl rfl ?_
        refine w_aload_n rfl rfl rfl ?_
        refine w_gf (t := .ref (146)) (v := .ref (146)) rfl rfl rfl sp110 rfl rfl rfl ?_
        refine w_iload_n rfl rfl rfl ?_
        refine w_iaload rfl rfl sp146 rfl ⟨by omega, by omega⟩ ((congrFun (am_u_ne (by decide)) _).trans (f.2 j (by omega)).1) ?_
        refine w_iaload rfl rfl sp139 rfl ⟨(by have := (f.2 j (by omega)).2; omega), by omega⟩ (congrFun (am_u_ne (by decide)) _) ?_
        refine w_iadd rfl rfl ?_
        refine w_iastore rfl rfl sp148 rfl ⟨by omega, by omega⟩ ?_
        refine w_aload_n rfl rfl rfl ?_
        refine w_dup rfl rfl rfl ?_
        refine w_gf (t := .int 0) (v := .int _) rfl rfl rfl sp110 rfl (congrArg Value.int ((congrFun (am_u_ne (by decide)) _).trans (congrFun (am_u_ne (by decide)) _))) rfl ?_
        refine w_aload_n rfl rfl rfl ?_
        refine w_gf (t := .ref (139)) (v := .ref (139)) rfl rfl rfl sp110 rfl rfl rfl ?_
        refine w_aload_n rfl rfl rfl ?_
        refine w_gf (t := .ref (146)) (v := .ref (146)) rfl rfl rfl sp110 rfl rfl rfl ?_
        refine w_iload_n rfl rfl rfl ?_
        refine w_iaload rfl rfl sp146 rfl ⟨by omega, by omega⟩ (((congrFun (am_u_ne (by decide)) _).trans (congrFun (am_u_ne (by decide)) _)).trans (f.2 j (by omega)).1) ?_
        refine w_iaload rfl rfl sp139 rfl ⟨(by have := (f.2 j (by omega)).2; omega), by omega⟩ ((congrFun (am_u_ne (by decide)) _).trans (congrFun (am_u_ne (by decide)) _)) ?_
        refine w_iadd rfl rfl ?_
        refine w_pf rfl rfl rfl sp110 rfl rfl rfl ?_
        first | rw [if_pos c76] at Z Z0 | (rw [if_neg c76] at Z Z0; rw [if_pos c93] at Z Z0)
        refine w_iinc (L' := [_, _, _, _]) rfl rfl rfl (am_dec _) rfl ?_
        refine w_goto (pc' := 39) rfl rfl ?_
        exact ih _ _ hd (by first | exact tok_u (by omega) (by omega) t | exact tok_u (by omega) (by omega) (tok_u (by omega) (by omega) (tok_u (by omega) (by omega) t))) (by first | exact fok_u (by omega) (by omega) f | exact fok_u (by omega) (by omega) (fok_u (by omega) (by omega) (fok_u (by omega) (by omega) f))) (by first | exact Nat.le_of_succ_le hj) Z Z0
      · rw [if_neg c76, if_neg c93] at Z0
        rw [Z0 rfl]
        refine w_iconst (x := Int32.ofNat 0) rfl rfl (by decide) ?_
        exact w_bret rfl (by decide) rfl rfl rfl rfl
    · refine w_goto (pc' := 143) rfl rfl ?_
      first | rw [if_pos c76] at Z Z0 | (rw [if_neg c76] at Z Z0; rw [if_pos c93] at Z Z0)
      refine w_iinc (L' := [_, _, _, _]) rfl rfl rfl (am_dec _) rfl ?_
      refine w_goto (pc' := 39) rfl rfl ?_
      exact ih _ _ hd (by first | exact tok_u (by omega) (by omega) t | exact tok_u (by omega) (by omega) (tok_u (by omega) (by omega) (tok_u (by omega) (by omega) t))) (by first | exact fok_u (by omega) (by omega) f | exact fok_u (by omega) (by omega) (fok_u (by omega) (by omega) (fok_u (by omega) (by omega) f))) (by first | exact Nat.le_of_succ_le hj) Z Z0
theorem am_na0 {P Q : Prop} (p : ¬ P) : ¬ (P ∧ Q) := fun z => p z.1
theorem l_lays3 {k : Nat} {R : hR} {q : Option Value × am_H} {N : Nat → Nat} {n c0 c9 : Nat} {I0 : hI} {J0 : hJ} (hN : N 2 = n) (hn2 : n ≤ 5) (t : tok I0 N) (hk : 2 ≤ k) (Z : wz k 12 (some .boolean) am_c256 210 [.ref 110, .int (Int32.ofNat c0), .int (Int32.ofNat c9), .int (Int32.ofNat n)] [] (m_lb (N 1) n I0) J0 R q) : ∀ (j r : Nat) , r + j = n → wz k 12 (some .boolean) am_c256 151 [.ref 110, .int (Int32.ofNat c0), .int (Int32.ofNat c9), .int (Int32.ofNat r)] [] (m_lb (N 1) r I0) J0 R q := by
  intro j
  induction j with
  | zero =>
    intro r e
    obtain rfl : n = r := by omega
    have t1 := tok_rw (rwF_lb (N 1) n I0) t
    have h13 := t1.2.1.2.1
    have h14 := t1.2.1.2.2.1
    have hn := t1.1.2.1
    rw [hN] at h14
    refine w_iload_n rfl rfl rfl ?_
    refine w_aload_n rfl rfl rfl ?_
    refine w_gf (t := .int 0) (v := .int _) rfl rfl rfl sp110 rfl (congrArg Value.int h14) rfl ?_
    refine w_ic_geN (t := 210) (f := 159) rfl rfl rfl (by omega) (by omega) (fun c156 => ?_) (fun c156 => absurd c156 (by omega))
    exact Z
  | succ j ih =>
    intro r e
    have t1 := tok_rw (rwF_lb (N 1) r I0) t
    have h13 := t1.2.1.2.1
    have h14 := t1.2.1.2.2.1
    have hn := t1.1.2.1
    rw [hN] at h14
    refine w_iload_n rfl rfl rfl ?_
    refine w_aload_n rfl rfl rfl ?_
    refine w_gf (t := .int 0) (v := .int _) rfl rfl rfl sp110 rfl (congrArg Value.int h14) rfl ?_
    refine w_ic_geN (t := 210) (f := 159) rfl rfl rfl (by omega) (by omega) (fun c156 => absurd c156 (by omega)) (fun c156 => ?_)
    refine w_aload_n rfl rfl rfl ?_
    refine w_dup rfl rfl rfl ?_
    refine w_gf (t := .int 0) (v := .int _) rfl rfl rfl sp110 rfl (congrArg Value.int rfl) rfl ?_
    refine w_aload_n rfl rfl rfl ?_
    refine w_gf (t := .ref (141)) (v := .ref (141)) rfl rfl rfl sp110 rfl rfl rfl ?_
    refine w_iload_n rfl rfl rfl ?_
    refine w_iaload rfl rfl sp141 rfl ⟨by omega, by omega⟩ rfl ?_
    refine w_if_ne (t := 199) (f := 173) rfl rfl rfl (fun c170 => ?_) (fun c170 => ?_)
    · refine w_iconst (x := Int32.ofNat 0) rfl rfl (by decide) ?_
      refine w_iadd rfl rfl ?_
      refine w_pf rfl rfl rfl sp110 rfl rfl rfl ?_
      refine w_iinc (L' := [_, _, _, _]) rfl rfl rfl (am_incN 1) rfl ?_
      refine w_goto (pc' := 151) rfl rfl ?_
      exact wz_M (ih (r + 1) (by omega)) rfl (by rw [m_lb_s]; first | rw [if_neg (am_na0 c170)] | (first | rw [if_pos (And.intro c170 c192)] | rw [if_neg (am_na2 c192)]))
    · refine w_aload_n rfl rfl rfl ?_
      refine w_iconst (x := Int32.ofNat 0) rfl rfl (by decide) ?_
      refine w_iload_n rfl rfl rfl ?_
      refine w_cv (q := am_m219) (as := [_, _]) (rest := [_, _]) (st' := [_, _, _]) rfl rfl rfl rfl rfl rfl sp110 rfl rfl rfl rfl (c_bearOf (b := 0) (by decide) hn h13 (by omega)) rfl rfl ?_
      refine w_aload_n rfl rfl rfl ?_
      refine w_gf (t := .ref (148)) (v := .ref (148)) rfl rfl rfl sp110 rfl rfl rfl ?_
      refine w_iload_n rfl rfl rfl ?_
      refine w_iaload rfl rfl sp148 rfl ⟨by omega, by omega⟩ rfl ?_
      refine w_iadd rfl rfl ?_
      refine w_aload_n rfl rfl rfl ?_
      refine w_gf (t := .ref (124)) (v := .ref (124)) rfl rfl rfl sp110 rfl rfl rfl ?_
      refine w_iload_n rfl rfl rfl ?_
      refine w_iaload rfl rfl sp124 rfl ⟨by omega, by omega⟩ rfl ?_
      refine w_ic_lt (t := 199) (f := 195) rfl rfl rfl (fun c192 => ?_) (fun c192 => ?_)
      · refine w_iconst (x := Int32.ofNat 0) rfl rfl (by decide) ?_
        refine w_iadd rfl rfl ?_
        refine w_pf rfl rfl rfl sp110 rfl rfl rfl ?_
        refine w_iinc (L' := [_, _, _, _]) rfl rfl rfl (am_incN 1) rfl ?_
        refine w_goto (pc' := 151) rfl rfl ?_
        exact wz_M (ih (r + 1) (by omega)) rfl (by rw [m_lb_s]; first | rw [if_neg (am_na0 c170)] | (first | rw [if_pos (And.intro c170 c192)] | rw [if_neg (am_na2 c192)]))
      · refine w_iconst (x := Int32.ofNat 1) rfl rfl (by decide) ?_
        refine w_goto (pc' := 200) rfl rfl ?_
        refine w_iadd rfl rfl ?_
        refine w_pf rfl rfl rfl sp110 rfl rfl rfl ?_
        refine w_iinc (L' := [_, _, _, _]) rfl rfl rfl (am_incN 1) rfl ?_
        refine w_goto (pc' := 151) rfl rfl ?_
        exact wz_M (ih (r + 1) (by omega)) rfl (by rw [m_lb_s]; first | rw [if_neg (am_na0 c170)] | (first | rw [if_pos (And.intro c170 c192)] | rw [if_neg (am_na2 c192)]))
theorem c_laysRow {k : Nat} {I : hI} {J : hJ} {R : hR} {N : Nat → Nat} {c : Nat} (hc : c ≤ 10000) (t : tok I N) (f : fok I) (hk : 3 ≤ k) : ct k 256 [.ref 110, .int (Int32.ofNat c)] I J R (some (.int (m_ly N c I).1)) ((m_ly N c I).2) J R := by
  obtain ⟨k, rfl⟩ : ∃ k', k = k' + 1 := ⟨k - 1, by omega⟩
  have t0 := tok_rw (rwF_ly0 I) t
  have f0 := fok_rw (rwF_ly0 I) f
  have e0 : m_ly0 I 110 74 = I 110 74 := rwF_ly0 I 110 74 (by omega) (by omega)
  have hn2 := t.1.2.2.1
  refine ct_of (q := am_m256) (L := [_, _, _, _]) rfl rfl rfl rfl rfl rfl ?_
  refine w_iload_n rfl rfl rfl ?_
  refine w_istore_n (L' := [_, _, _, _]) rfl rfl rfl ?_
  refine w_aload_n rfl rfl rfl ?_
  refine w_iconst (x := Int32.ofNat 0) rfl rfl (by decide) ?_
  refine w_pf rfl rfl rfl sp110 rfl rfl rfl ?_
  refine w_aload_n rfl rfl rfl ?_
  refine w_iconst (x := Int32.ofNat 0) rfl rfl (by decide) ?_
  refine w_pf rfl rfl rfl sp110 rfl rfl rfl ?_
  refine w_iconst (x := Int32.ofNat 0) rfl rfl (by decide) ?_
  refine w_istore_n (L' := [_, _, _, _]) rfl rfl rfl ?_
  refine l_lays1 ?_ 5 0 (by omega)
  refine w_aload_n rfl rfl rfl ?_
  refine w_gf (t := .int 0) (v := .int _) rfl rfl rfl sp110 rfl (congrArg Value.int (e0.trans f.1.1)) rfl ?_
  refine w_iconst (x := Int32.ofNat 1) rfl rfl (by decide) ?_
  refine w_isub rfl rfl ?_
  refine w_istore_n (L' := [_, _, _, _]) rfl rfl rfl ?_
  refine l_lays2 (nn (I 110 74)) c (m_ly0 I) hc t0 f0 (by rw [e0]; exact Nat.le_refl _) (fun h1 c9 => ?_) (fun h0 => (by unfold m_ly m_lyL; rw [if_pos h0]))
  refine w_iconst (x := Int32.ofNat 0) rfl rfl (by decide) ?_
  refine w_istore_n (L' := [_, _, _, _]) rfl rfl rfl ?_
  refine l_lays3 rfl hn2 (tok_rw (rwF_lr _ _ _ _) t0) (by omega) ?_ (N 2) 0 (by omega)
  refine w_iconst (x := Int32.ofNat 1) rfl rfl (by decide) ?_
  exact w_bret rfl (by decide) (by unfold m_ly m_lyL; rw [if_neg (by rw [h1]; decide)]; rfl) (by unfold m_ly m_lyL; rw [if_neg (by rw [h1]; decide)]) rfl rfl
theorem l_al1 {k : Nat} {I : hI} {J : hJ} {R : hR} {q : Option Value × am_H} {ns f w : Nat} (hs : ns ≤ 5) (h14 : I 110 14 = Int32.ofNat ns) (hf : f ≤ 5) (h74 : I 110 74 = Int32.ofNat f) (Z : wz k 12 (some .int) am_c257 48 [.ref 110, .int (Int32.ofNat w), .int (Int32.ofNat ((ns + 1) ^ f)), .int (Int32.ofNat f), am_un, am_un, am_un] [] I J R q) : ∀ (j r : Nat) , r + j = f → wz k 12 (some .int) am_c257 25 [.ref 110, .int (Int32.ofNat w), .int (Int32.ofNat ((ns + 1) ^ r)), .int (Int32.ofNat r), am_un, am_un, am_un] [] I J R q := by
  intro j
  induction j with
  | zero =>
    intro r e
    obtain rfl : f = r := by omega
    refine w_iload_n rfl rfl rfl ?_
    refine w_aload_n rfl rfl rfl ?_
    refine w_gf (t := .int 0) (v := .int _) rfl rfl rfl sp110 rfl (congrArg Value.int h74) rfl ?_
    refine w_ic_geN (t := 48) (f := 33) rfl rfl rfl (by omega) (by omega) (fun c30 => ?_) (fun c30 => absurd c30 (by omega))
    exact Z
  | succ j ih =>
    intro r e
    refine w_iload_n rfl rfl rfl ?_
    refine w_aload_n rfl rfl rfl ?_
    refine w_gf (t := .int 0) (v := .int _) rfl rfl rfl sp110 rfl (congrArg Value.int h74) rfl ?_
    refine w_ic_geN (t := 48) (f := 33) rfl rfl rfl (by omega) (by omega) (fun c30 => absurd c30 (by omega)) (fun c30 => ?_)
    refine w_iload_n rfl rfl rfl ?_
    refine w_aload_n rfl rfl rfl ?_
    refine w_gf (t := .int 0) (v := .int _) rfl rfl rfl sp110 rfl (congrArg Value.int h14) rfl ?_
    refine w_iconst (x := Int32.ofNat 1) rfl rfl (by decide) ?_
    refine w_iaddN rfl rfl ?_
    refine w_imulN rfl rfl ?_
    refine w_istore_n (L' := [_, _, _, _, _, _, _]) rfl rfl rfl ?_
    refine w_iinc (L' := [_, _, _, _, _, _, _]) rfl rfl rfl (am_incN 1) rfl ?_
    refine w_goto (pc' := 25) rfl rfl ?_
    exact ih (r + 1) (by omega)
def m_alS (N : Nat → Nat) (r : Nat) (q : (Int32 × Int32 × Int32) × hI) : (Int32 × Int32 × Int32) × hI := if (m_ly N r q.2).1 = 0 ∨ (m_ly N r q.2).2 110 77 < q.1.2.1 ∨ ((m_ly N r q.2).2 110 77 = q.1.2.1 ∧ ¬ (m_ly N r q.2).2 110 78 < q.1.2.2) then (q.1, (m_ly N r q.2).2) else ((Int32.ofNat r, (m_ly N r q.2).2 110 77, (m_ly N r q.2).2 110 78), (m_ly N r q.2).2)
def m_al (N : Nat → Nat) (r : Nat) (I : hI) : (Int32 × Int32 × Int32) × hI := s_for (m_alS N) r ((Int32.ofInt (-1), Int32.ofInt (-1), Int32.ofNat 0), I)
theorem m_al_s (N : Nat → Nat) (r : Nat) (I : hI) : m_al N (r + 1) I = m_alS N r (m_al N r I) := rfl
theorem rwF_al (N : Nat → Nat) (r : Nat) (I : hI) : rwF I (m_al N r I).2 := by
  induction r with
  | zero => exact rwF_rf I
  | succ r ih =>
    rw [m_al_s]
    unfold m_alS
    split
    · exact rwF_tr ih (rwF_ly N r _)
    · exact rwF_tr ih (rwF_ly N r _)
theorem am_n3a {A B C D : Prop} (a : ¬ A) (b : ¬ B) (c : ¬ C) : ¬ (A ∨ B ∨ (C ∧ D)) := fun z => z.elim a (fun z => z.elim b (fun z => c z.1))
theorem am_n3b {A B C D : Prop} (a : ¬ A) (b : ¬ B) (d : D) : ¬ (A ∨ B ∨ (C ∧ ¬ D)) := fun z => z.elim a (fun z => z.elim b (fun z => z.2 d))
theorem l_al2 {k : Nat} {R : hR} {q : Option Value × am_H} {N : Nat → Nat} {n w : Nat} {I0 : hI} {J0 : hJ} (hn : n ≤ 10000) (t : tok I0 N) (f : fok I0) (hk : 3 ≤ k) (Z : wz k 12 (some .int) am_c257 125 [.ref 110, .int (Int32.ofNat w), .int (Int32.ofNat n), .int ((m_al N n I0).1.1), .int ((m_al N n I0).1.2.1), .int ((m_al N n I0).1.2.2), .int (Int32.ofNat n)] [] ((m_al N n I0).2) J0 R q) : ∀ (j r : Nat) , r + j = n → wz k 12 (some .int) am_c257 59 [.ref 110, .int (Int32.ofNat w), .int (Int32.ofNat n), .int ((m_al N r I0).1.1), .int ((m_al N r I0).1.2.1), .int ((m_al N r I0).1.2.2), .int (Int32.ofNat r)] [] ((m_al N r I0).2) J0 R q := by
  intro j
  induction j with
  | zero =>
    intro r e
    obtain rfl : n = r := by omega
    have t1 := tok_rw (rwF_al N n I0) t
    have f1 := fok_rw (rwF_al N n I0) f
    refine w_iload rfl rfl rfl ?_
    refine w_iload_n rfl rfl rfl ?_
    refine w_ic_geN (t := 125) (f := 65) rfl rfl rfl (by omega) (by omega) (fun c62 => ?_) (fun c62 => absurd c62 (by omega))
    exact Z
  | succ j ih =>
    intro r e
    have t1 := tok_rw (rwF_al N r I0) t
    have f1 := fok_rw (rwF_al N r I0) f
    refine w_iload rfl rfl rfl ?_
    refine w_iload_n rfl rfl rfl ?_
    refine w_ic_geN (t := 125) (f := 65) rfl rfl rfl (by omega) (by omega) (fun c62 => absurd c62 (by omega)) (fun c62 => ?_)
    refine w_aload_n rfl rfl rfl ?_
    refine w_iload rfl rfl rfl ?_
    refine w_cv (q := am_m256) (as := [_]) (rest := []) (st' := [_]) rfl rfl rfl rfl rfl rfl sp110 rfl rfl rfl rfl (c_laysRow (by omega) t1 f1 (by omega)) rfl rfl ?_
    refine w_if_eq (t := 119) (f := 74) rfl rfl rfl (fun c71 => ?_) (fun c71 => ?_)
    · refine w_iinc (L' := [_, _, _, _, _, _, _]) rfl rfl rfl (am_incN 1) rfl ?_
      refine w_goto (pc' := 59) rfl rfl ?_
      have hs := m_al_s N r I0
      unfold m_alS at hs
      first
        | rw [if_pos (Or.inl c71)] at hs
        | rw [if_pos (Or.inr (Or.inl c80))] at hs
        | rw [if_pos (Or.inr (Or.inr (And.intro c89 c98)))] at hs
        | rw [if_neg (am_n3a c71 c80 c89)] at hs
        | rw [if_neg (am_n3b c71 c80 c98)] at hs
      exact wz_M (ih (r + 1) (by omega)) (by rw [hs]) (by rw [hs])
    · refine w_aload_n rfl rfl rfl ?_
      refine w_gf (t := .int 0) (v := .int _) rfl rfl rfl sp110 rfl (congrArg Value.int rfl) rfl ?_
      refine w_iload rfl rfl rfl ?_
      refine w_ic_lt (t := 119) (f := 83) rfl rfl rfl (fun c80 => ?_) (fun c80 => ?_)
      · refine w_iinc (L' := [_, _, _, _, _, _, _]) rfl rfl rfl (am_incN 1) rfl ?_
        refine w_goto (pc' := 59) rfl rfl ?_
        have hs := m_al_s N r I0
        unfold m_alS at hs
        first
          | rw [if_pos (Or.inl c71)] at hs
          | rw [if_pos (Or.inr (Or.inl c80))] at hs
          | rw [if_pos (Or.inr (Or.inr (And.intro c89 c98)))] at hs
          | rw [if_neg (am_n3a c71 c80 c89)] at hs
          | rw [if_neg (am_n3b c71 c80 c98)] at hs
        exact wz_M (ih (r + 1) (by omega)) (by rw [hs]) (by rw [hs])
      · refine w_aload_n rfl rfl rfl ?_
        refine w_gf (t := .int 0) (v := .int _) rfl rfl rfl sp110 rfl (congrArg Value.int rfl) rfl ?_
        refine w_iload rfl rfl rfl ?_
        refine w_ic_ne (t := 104) (f := 92) rfl rfl rfl (fun c89 => ?_) (fun c89 => ?_)
        · refine w_iload rfl rfl rfl ?_
          refine w_istore_n (L' := [_, _, _, _, _, _, _]) rfl rfl rfl ?_
          refine w_aload_n rfl rfl rfl ?_
          refine w_gf (t := .int 0) (v := .int _) rfl rfl rfl sp110 rfl (congrArg Value.int rfl) rfl ?_
          refine w_istore (L' := [_, _, _, _, _, _, _]) rfl rfl rfl ?_
          refine w_aload_n rfl rfl rfl ?_
          refine w_gf (t := .int 0) (v := .int _) rfl rfl rfl sp110 rfl (congrArg Value.int rfl) rfl ?_
          refine w_istore (L' := [_, _, _, _, _, _, _]) rfl rfl rfl ?_
          refine w_iinc (L' := [_, _, _, _, _, _, _]) rfl rfl rfl (am_incN 1) rfl ?_
          refine w_goto (pc' := 59) rfl rfl ?_
          have hs := m_al_s N r I0
          unfold m_alS at hs
          first
            | rw [if_pos (Or.inl c71)] at hs
            | rw [if_pos (Or.inr (Or.inl c80))] at hs
            | rw [if_pos (Or.inr (Or.inr (And.intro c89 c98)))] at hs
            | rw [if_neg (am_n3a c71 c80 c89)] at hs
            | rw [if_neg (am_n3b c71 c80 c98)] at hs
          exact wz_M (ih (r + 1) (by omega)) (by rw [hs]) (by rw [hs])
        · refine w_aload_n rfl rfl rfl ?_
          refine w_gf (t := .int 0) (v := .int _) rfl rfl rfl sp110 rfl (congrArg Value.int rfl) rfl ?_
          refine w_iload rfl rfl rfl ?_
          refine w_ic_lt (t := 104) (f := 101) rfl rfl rfl (fun c98 => ?_) (fun c98 => ?_)
          · refine w_iload rfl rfl rfl ?_
            refine w_istore_n (L' := [_, _, _, _, _, _, _]) rfl rfl rfl ?_
            refine w_aload_n rfl rfl rfl ?_
            refine w_gf (t := .int 0) (v := .int _) rfl rfl rfl sp110 rfl (congrArg Value.int rfl) rfl ?_
            refine w_istore (L' := [_, _, _, _, _, _, _]) rfl rfl rfl ?_
            refine w_aload_n rfl rfl rfl ?_
            refine w_gf (t := .int 0) (v := .int _) rfl rfl rfl sp110 rfl (congrArg Value.int rfl) rfl ?_
            refine w_istore (L' := [_, _, _, _, _, _, _]) rfl rfl rfl ?_
            refine w_iinc (L' := [_, _, _, _, _, _, _]) rfl rfl rfl (am_incN 1) rfl ?_
            refine w_goto (pc' := 59) rfl rfl ?_
            have hs := m_al_s N r I0
            unfold m_alS at hs
            first
              | rw [if_pos (Or.inl c71)] at hs
              | rw [if_pos (Or.inr (Or.inl c80))] at hs
              | rw [if_pos (Or.inr (Or.inr (And.intro c89 c98)))] at hs
              | rw [if_neg (am_n3a c71 c80 c89)] at hs
              | rw [if_neg (am_n3b c71 c80 c98)] at hs
            exact wz_M (ih (r + 1) (by omega)) (by rw [hs]) (by rw [hs])
          · refine w_goto (pc' := 119) rfl rfl ?_
            refine w_iinc (L' := [_, _, _, _, _, _, _]) rfl rfl rfl (am_incN 1) rfl ?_
            refine w_goto (pc' := 59) rfl rfl ?_
            have hs := m_al_s N r I0
            unfold m_alS at hs
            first
              | rw [if_pos (Or.inl c71)] at hs
              | rw [if_pos (Or.inr (Or.inl c80))] at hs
              | rw [if_pos (Or.inr (Or.inr (And.intro c89 c98)))] at hs
              | rw [if_neg (am_n3a c71 c80 c89)] at hs
              | rw [if_neg (am_n3b c71 c80 c98)] at hs
            exact wz_M (ih (r + 1) (by omega)) (by rw [hs]) (by rw [hs])
theorem m_lr77 (ns : Nat) : ∀ j c I, (m_lr ns j c I).2 110 77 = I 110 77 := by
  intro j
  induction j with
  | zero => intro c I; rfl
  | succ j ih =>
    intro c I
    rw [m_lr_s]
    repeat' split
    · rw [ih, am_u_na (by decide)]
    · rw [ih, am_u_nk (by decide), am_u_na (by decide), am_u_na (by decide)]
    · rfl
theorem m_lb77 (nr : Nat) (I : hI) (h : I 110 77 = Int32.ofNat 0) : ∀ n, ∃ c, c ≤ n ∧ m_lb nr n I 110 77 = Int32.ofNat c := by
  intro n
  induction n with
  | zero => exact ⟨0, Nat.le_refl _, h⟩
  | succ n ih =>
    obtain ⟨c, hc, e⟩ := ih
    rw [m_lb_s, am_u_at, e]
    split
    · exact ⟨c + 1, by omega, by rw [Int32.ofNat_add]⟩
    · exact ⟨c, by omega, Int32.add_zero _⟩
theorem am_lastD {b j : Nat} (hb : 0 < b) : (b ^ (j + 1) - 1) % b = b - 1 ∧ (b ^ (j + 1) - 1) / b = b ^ j - 1 := by
  have h1 : 0 < b ^ j := Nat.pow_pos hb
  have e : b ^ (j + 1) - 1 = (b - 1) + b * (b ^ j - 1) := by
    rw [Nat.pow_succ, Nat.mul_comm (b ^ j) b, Nat.mul_sub_one]
    have : b ≤ b * b ^ j := Nat.le_mul_of_pos_right b h1
    omega
  rw [e]
  refine ⟨?_, ?_⟩
  · rw [Nat.add_mul_mod_self_left]; exact Nat.mod_eq_of_lt (by omega)
  · rw [Nat.add_mul_div_left _ _ hb, Nat.div_eq_of_lt (by omega)]; omega
theorem m_lr_last (ns : Nat) : ∀ j I, (m_lr ns j ((ns + 1) ^ j - 1) I).1 = 1 := by
  intro j
  induction j with
  | zero => intro I; rfl
  | succ j ih =>
    intro I
    obtain ⟨h1, h2⟩ := am_lastD (b := ns + 1) (j := j) (by omega)
    rw [m_lr_s, h1, h2, if_pos (by omega)]
    exact ih _
theorem m_al_inv (N : Nat → Nat) (I : hI) : ∀ r, r ≤ 10000 → ((m_al N r I).1.1 = Int32.ofInt (-1) ∧ (m_al N r I).1.2.1 = Int32.ofInt (-1)) ∨ okn (m_al N r I).1.1 10000 := by
  intro r
  induction r with
  | zero => intro _; exact Or.inl ⟨rfl, rfl⟩
  | succ r ih =>
    intro h
    have ih := ih (by omega)
    rw [m_al_s]
    unfold m_alS
    split
    · exact ih
    · refine Or.inr ⟨?_, ?_⟩
      · show Int32.ofNat r = Int32.ofNat (nn (Int32.ofNat r))
        rw [nn_ofNat (by omega)]
      · show nn (Int32.ofNat r) < 10000
        rw [nn_ofNat (by omega)]; omega
theorem m_al_best (N : Nat → Nat) (I : hI) (hN : N 2 ≤ 5) (f : fok I) : okn (m_al N ((N 2 + 1) ^ nn (I 110 74)) I).1.1 10000 := by
  have hf := f.1.2
  have h1 : 0 < (N 2 + 1) ^ nn (I 110 74) := Nat.pow_pos (by omega)
  have h2 : (N 2 + 1) ^ nn (I 110 74) ≤ 7776 := Nat.le_trans (Nat.pow_le_pow_left (show N 2 + 1 ≤ 6 by omega) _) (Nat.le_trans (Nat.pow_le_pow_right (by decide) (show nn (I 110 74) ≤ 5 by omega)) (by decide))
  obtain ⟨n, hn⟩ : ∃ n, (N 2 + 1) ^ nn (I 110 74) = n + 1 := ⟨_, (Nat.succ_pred_eq_of_pos h1).symm⟩
  rw [hn]
  rcases m_al_inv N I (n + 1) (by omega) with h | h
  · exfalso
    have g := m_al_inv N I n (by omega)
    have fr := rwF_al N n I
    have e74 : (m_al N n I).2 110 74 = I 110 74 := fr 110 74 (by omega) (by omega)
    have hl : (m_lyL N n (m_al N n I).2).1 = 1 := by
      unfold m_lyL
      rw [e74, show n = (N 2 + 1) ^ nn (I 110 74) - 1 by omega]
      exact m_lr_last _ _ _
    have hly : m_ly N n (m_al N n I).2 = (1, m_lb (N 1) (N 2) (m_lyL N n (m_al N n I).2).2) := by
      unfold m_ly
      rw [if_neg (by rw [hl]; decide)]
    obtain ⟨c, hc, e77⟩ := m_lb77 (N 1) (m_lyL N n (m_al N n I).2).2 (by unfold m_lyL; rw [m_lr77]; rfl) (N 2)
    rw [m_al_s] at h
    unfold m_alS at h
    rw [hly] at h
    dsimp only at h
    split at h
    · rename_i hz
      rcases g with g | g
      · rw [g.2, e77] at hz
        rcases hz with hz | hz | hz
        · exact absurd hz (by decide)
        · exact absurd hz (by rw [Int32.lt_iff_toInt_lt, Int32.toInt_ofNat_of_lt (by omega)]; show ¬ (c : Int) < -1; omega)
        · have := Int32.toInt_inj.mpr hz.1
          rw [Int32.toInt_ofNat_of_lt (by omega)] at this
          have h9 : (Int32.ofInt (-1)).toInt = -1 := rfl
          omega
      · have := Int32.toInt_inj.mpr (g.1.symm.trans h.1)
        rw [Int32.toInt_ofNat_of_lt (by have := g.2; omega)] at this
        have h9 : (Int32.ofInt (-1)).toInt = -1 := rfl
        omega
    · have := Int32.toInt_inj.mpr h.1
      rw [Int32.toInt_ofNat_of_lt (by omega)] at this
      have h9 : (Int32.ofInt (-1)).toInt = -1 := rfl
      omega
  · exact h
/-- which ship a rope is allotted to -/
def m_afd (I : hI) (ns w : Nat) : Nat → Nat → Int32
  | 0, _ => Int32.ofInt (-2)
  | j + 1, r => if I 146 r = Int32.ofNat w then (if I 147 r = Int32.ofNat ns then Int32.ofInt (-2) else I 147 r) else m_afd I ns w j (r + 1)
theorem m_afd_s (I : hI) (ns w j r : Nat) : m_afd I ns w (j + 1) r = if I 146 r = Int32.ofNat w then (if I 147 r = Int32.ofNat ns then Int32.ofInt (-2) else I 147 r) else m_afd I ns w j (r + 1) := rfl
theorem l_al3 {k : Nat} {I : hI} {J : hJ} {R : hR} {ns f w c : Nat} {a b d : Int32} (hs : ns ≤ 5) (h14 : I 110 14 = Int32.ofNat ns) (hf : f ≤ 5) (h74 : I 110 74 = Int32.ofNat f) : ∀ (j r : Nat), r + j = f → wz k 12 (some .int) am_c257 159 [.ref 110, .int (Int32.ofNat w), .int (Int32.ofNat c), .int a, .int b, .int d, .int (Int32.ofNat r)] [] I J R (some (.int (m_afd I ns w j r)), am_hp I J R) := by
  intro j
  induction j with
  | zero =>
    intro r e
    obtain rfl : f = r := by omega
    refine w_iload rfl rfl rfl ?_
    refine w_aload_n rfl rfl rfl ?_
    refine w_gf (t := .int 0) (v := .int _) rfl rfl rfl sp110 rfl (congrArg Value.int h74) rfl ?_
    refine w_ic_geN (t := 212) (f := 168) rfl rfl rfl (by omega) (by omega) (fun c165 => ?_) (fun c165 => absurd c165 (by omega))
    refine w_bipush (x := Int32.ofInt (-2)) rfl rfl (by decide) ?_
    exact w_iret rfl rfl rfl rfl rfl
  | succ j ih =>
    intro r e
    rw [m_afd_s]
    refine w_iload rfl rfl rfl ?_
    refine w_aload_n rfl rfl rfl ?_
    refine w_gf (t := .int 0) (v := .int _) rfl rfl rfl sp110 rfl (congrArg Value.int h74) rfl ?_
    refine w_ic_geN (t := 212) (f := 168) rfl rfl rfl (by omega) (by omega) (fun c165 => absurd c165 (by omega)) (fun c165 => ?_)
    refine w_aload_n rfl rfl rfl ?_
    refine w_gf (t := .ref (146)) (v := .ref (146)) rfl rfl rfl sp110 rfl rfl rfl ?_
    refine w_iload rfl rfl rfl ?_
    refine w_iaload rfl rfl sp146 rfl ⟨by omega, by omega⟩ rfl ?_
    refine w_iload_n rfl rfl rfl ?_
    refine w_ic_ne (t := 206) (f := 179) rfl rfl rfl (fun c176 => ?_) (fun c176 => ?_)
    · refine w_iinc (L' := [_, _, _, _, _, _, _]) rfl rfl rfl (am_incN 1) rfl ?_
      refine w_goto (pc' := 159) rfl rfl ?_
      rw [if_neg c176]
      exact ih (r + 1) (by omega)
    · refine w_aload_n rfl rfl rfl ?_
      refine w_gf (t := .ref (147)) (v := .ref (147)) rfl rfl rfl sp110 rfl rfl rfl ?_
      refine w_iload rfl rfl rfl ?_
      refine w_iaload rfl rfl sp147 rfl ⟨by omega, by omega⟩ rfl ?_
      refine w_aload_n rfl rfl rfl ?_
      refine w_gf (t := .int 0) (v := .int _) rfl rfl rfl sp110 rfl (congrArg Value.int h14) rfl ?_
      refine w_ic_ne (t := 198) (f := 193) rfl rfl rfl (fun c190 => ?_) (fun c190 => ?_)
      · refine w_aload_n rfl rfl rfl ?_
        refine w_gf (t := .ref (147)) (v := .ref (147)) rfl rfl rfl sp110 rfl rfl rfl ?_
        refine w_iload rfl rfl rfl ?_
        refine w_iaload rfl rfl sp147 rfl ⟨by omega, by omega⟩ rfl ?_
        exact w_iret rfl (by rw [if_pos c176]; first | rw [if_pos c190] | rw [if_neg c190]) rfl rfl rfl
      · refine w_bipush (x := Int32.ofInt (-2)) rfl rfl (by decide) ?_
        refine w_goto (pc' := 205) rfl rfl ?_
        exact w_iret rfl (by rw [if_pos c176]; first | rw [if_pos c190] | rw [if_neg c190]) rfl rfl rfl
def m_a0 (N : Nat → Nat) (I : hI) : hI := m_l5 (N 1) (m_z I)
def m_a1 (N : Nat → Nat) (I : hI) : (Int32 × Int32 × Int32) × hI := m_al N ((N 2 + 1) ^ nn (m_a0 N I 110 74)) (m_a0 N I)
def m_a2 (N : Nat → Nat) (I : hI) : Int32 × hI := m_ly N (nn (m_a1 N I).1.1) (m_a1 N I).2
def m_allot (N : Nat → Nat) (I : hI) (w : Nat) : Int32 := if w = 8 then (m_a1 N I).1.2.1 else if w = 9 then (m_a1 N I).1.2.2 else if (m_a2 N I).1 = 0 then Int32.ofInt (-2) else m_afd (m_a2 N I).2 (N 2) w (nn (m_a0 N I 110 74)) 0
def m_allotI (N : Nat → Nat) (I : hI) (w : Nat) : hI := if w = 8 ∨ w = 9 then (m_a1 N I).2 else (m_a2 N I).2
theorem c_allot {k : Nat} {I : hI} {J : hJ} {R : hR} {N : Nat → Nat} (t : tok I N) {w : Nat} (hw : w ≤ 9) (hk : 4 ≤ k) : ct k 257 [.ref 110, .int (Int32.ofNat w)] I J R (some (.int (m_allot N I w))) (m_allotI N I w) J R := by
  obtain ⟨k, rfl⟩ : ∃ k', k = k' + 1 := ⟨k - 1, by omega⟩
  have t0 : tok (m_a0 N I) N := tok_l5 (tok_z t)
  have f0 : fok (m_a0 N I) := fok_l5 _ _ t.1.2.1
  have hN2 := t.1.2.2.1
  have hf := f0.1.2
  have hB : okn (m_a1 N I).1.1 10000 := m_al_best N _ hN2 f0
  have hB1 : (m_al N ((N 2 + 1) ^ nn (m_a0 N I 110 74)) (m_a0 N I)).1.1 = Int32.ofNat (nn (m_a1 N I).1.1) := hB.1
  have fr := rwF_al N ((N 2 + 1) ^ nn (m_a0 N I 110 74)) (m_a0 N I)
  have t1 : tok (m_a1 N I).2 N := tok_rw fr t0
  have f1 : fok (m_a1 N I).2 := fok_rw fr f0
  have fr2 : rwF (m_a1 N I).2 (m_a2 N I).2 := rwF_ly N _ _
  have e74 : (m_a2 N I).2 110 74 = m_a0 N I 110 74 := (fr2 110 74 (by omega) (by omega)).trans (fr 110 74 (by omega) (by omega))
  have h2 : (N 2 + 1) ^ nn (m_a0 N I 110 74) ≤ 7776 := Nat.le_trans (Nat.pow_le_pow_left (show N 2 + 1 ≤ 6 by omega) _) (Nat.le_trans (Nat.pow_le_pow_right (by decide) (show nn (m_a0 N I 110 74) ≤ 5 by omega)) (by decide))
  refine ct_of (q := am_m257) (L := [_, _, _, _, _, _, _]) rfl rfl rfl rfl rfl rfl ?_
  refine w_aload_n rfl rfl rfl ?_
  refine w_iconst (x := Int32.ofNat 0) rfl rfl (by decide) ?_
  refine w_pf rfl rfl rfl sp110 rfl rfl rfl ?_
  refine w_iload_n rfl rfl rfl ?_
  refine w_iconst (x := Int32.ofNat 0) rfl rfl (by decide) ?_
  refine w_bipush (x := Int32.ofNat 9) rfl rfl (by decide) ?_
  refine w_cs (q := am_m168) (na := 3) (as := [_, _, _]) (st' := [_]) rfl rfl rfl rfl (by decide) rfl rfl (Nat.le_of_ble_eq_true rfl) rfl rfl rfl (c_isIn (by omega)) rfl rfl ?_
  refine w_if_neB (t := 17) (f := 15) rfl rfl rfl (fun c12 => ?_) (fun c12 => absurd c12 (inok (Nat.zero_le _) hw (by decide)))
  refine w_aload_n rfl rfl rfl ?_
  refine w_cv (q := am_m255) (as := []) (rest := []) (st' := []) rfl rfl rfl rfl rfl rfl sp110 rfl rfl rfl rfl (c_layFive (tok_z t) (by omega)) rfl rfl ?_
  refine w_iconst (x := Int32.ofNat 1) rfl rfl (by decide) ?_
  refine w_istore_n (L' := [_, _, _, _, _, _, _]) rfl rfl rfl ?_
  refine w_iconst (x := Int32.ofNat 0) rfl rfl (by decide) ?_
  refine w_istore_n (L' := [_, _, _, _, _, _, _]) rfl rfl rfl ?_
  refine l_al1 hN2 t0.2.1.2.2.1 (by omega) f0.1.1 ?_ (nn (m_a0 N I 110 74)) 0 (by omega)
  refine w_iconst (x := Int32.ofInt (-1)) rfl rfl (by decide) ?_
  refine w_istore_n (L' := [_, _, _, _, _, _, _]) rfl rfl rfl ?_
  refine w_iconst (x := Int32.ofInt (-1)) rfl rfl (by decide) ?_
  refine w_istore (L' := [_, _, _, _, _, _, _]) rfl rfl rfl ?_
  refine w_iconst (x := Int32.ofNat 0) rfl rfl (by decide) ?_
  refine w_istore (L' := [_, _, _, _, _, _, _]) rfl rfl rfl ?_
  refine w_iconst (x := Int32.ofNat 0) rfl rfl (by decide) ?_
  refine w_istore (L' := [_, _, _, _, _, _, _]) rfl rfl rfl ?_
  refine l_al2 (by omega) t0 f0 (by omega) ?_ ((N 2 + 1) ^ nn (m_a0 N I 110 74)) 0 (by omega)
  refine w_iload_n rfl rfl rfl ?_
  refine w_bipush (x := Int32.ofNat 7) rfl rfl (by decide) ?_
  refine w_ic_leN (t := 145) (f := 131) rfl rfl rfl (by omega) (by omega) (fun c128 => ?_) (fun c128 => ?_)
  · rw [hB1]
    refine w_aload_n rfl rfl rfl ?_
    refine w_iload_n rfl rfl rfl ?_
    refine w_cv (q := am_m256) (as := [_]) (rest := []) (st' := [_]) rfl rfl rfl rfl rfl rfl sp110 rfl rfl rfl rfl (c_laysRow (N := N) (by have := hB.2; omega) t1 f1 (by omega)) rfl rfl ?_
    refine w_if_ne (t := 156) (f := 153) rfl rfl rfl (fun c150 => ?_) (fun c150 => ?_)
    · refine w_iconst (x := Int32.ofNat 0) rfl rfl (by decide) ?_
      refine w_istore (L' := [_, _, _, _, _, _, _]) rfl rfl rfl ?_
      exact wz_r (l_al3 hN2 (tok_rw fr2 t1).2.1.2.2.1 (by omega) (e74.trans f0.1.1) (nn (m_a0 N I 110 74)) 0 (by omega)) (by unfold m_allot m_allotI; rw [if_neg (show ¬ w = 8 by omega), if_neg (show ¬ w = 9 by omega), if_neg (show ¬ (m_a2 N I).1 = 0 from c150), if_neg (show ¬ (w = 8 ∨ w = 9) by omega)])
    · refine w_bipush (x := Int32.ofInt (-2)) rfl rfl (by decide) ?_
      exact w_iret rfl (by unfold m_allot; first | exact (if_pos c134).symm | exact ((if_neg c134).trans (if_pos (show w = 9 by omega))).symm | (rw [if_neg (show ¬ w = 8 by omega), if_neg (show ¬ w = 9 by omega)]; exact (if_pos c150).symm)) (by unfold m_allotI; first | exact (if_pos (show w = 8 ∨ w = 9 by omega)).symm | exact (if_neg (show ¬ (w = 8 ∨ w = 9) by omega)).symm) rfl rfl
  · refine w_iload_n rfl rfl rfl ?_
    refine w_bipush (x := Int32.ofNat 8) rfl rfl (by decide) ?_
    refine w_ic_neN (t := 142) (f := 137) rfl rfl rfl (by omega) (by omega) (fun c134 => ?_) (fun c134 => ?_)
    · refine w_iload rfl rfl rfl ?_
      exact w_iret rfl (by unfold m_allot; first | exact (if_pos c134).symm | exact ((if_neg c134).trans (if_pos (show w = 9 by omega))).symm | (rw [if_neg (show ¬ w = 8 by omega), if_neg (show ¬ w = 9 by omega)]; exact (if_pos c150).symm)) (by unfold m_allotI; first | exact (if_pos (show w = 8 ∨ w = 9 by omega)).symm | exact (if_neg (show ¬ (w = 8 ∨ w = 9) by omega)).symm) rfl rfl
    · refine w_iload rfl rfl rfl ?_
      refine w_goto (pc' := 144) rfl rfl ?_
      exact w_iret rfl (by unfold m_allot; first | exact (if_pos c134).symm | exact ((if_neg c134).trans (if_pos (show w = 9 by omega))).symm | (rw [if_neg (show ¬ w = 8 by omega), if_neg (show ¬ w = 9 by omega)]; exact (if_pos c150).symm)) (by unfold m_allotI; first | exact (if_pos (show w = 8 ∨ w = 9 by omega)).symm | exact (if_neg (show ¬ (w = 8 ∨ w = 9) by omega)).symm) rfl rfl
theorem c_allot_no {k : Nat} {I : hI} {J : hJ} {R : hR} {x : Int32} (hx : ¬ (¬ x < Int32.ofNat 0 ∧ ¬ Int32.ofNat 9 < x)) (hk : 2 ≤ k) : ct k 257 [.ref 110, .int x] I J R (some (.int (Int32.ofInt (-1)))) (m_z I) J R := by
  obtain ⟨k, rfl⟩ : ∃ k', k = k' + 1 := ⟨k - 1, by omega⟩
  refine ct_of (q := am_m257) (L := [_, _, _, _, _, _, _]) rfl rfl rfl rfl rfl rfl ?_
  refine w_aload_n rfl rfl rfl ?_
  refine w_iconst (x := Int32.ofNat 0) rfl rfl (by decide) ?_
  refine w_pf rfl rfl rfl sp110 rfl rfl rfl ?_
  refine w_iload_n rfl rfl rfl ?_
  refine w_iconst (x := Int32.ofNat 0) rfl rfl (by decide) ?_
  refine w_bipush (x := Int32.ofNat 9) rfl rfl (by decide) ?_
  refine w_cs (q := am_m168) (na := 3) (as := [_, _, _]) (st' := [_]) rfl rfl rfl rfl (by decide) rfl rfl (Nat.le_of_ble_eq_true rfl) rfl rfl rfl (c_isIn (by omega)) rfl rfl ?_
  refine w_if_neB (t := 17) (f := 15) rfl rfl rfl (fun c12 => absurd c12 hx) (fun c12 => ?_)
  refine w_iconst (x := Int32.ofInt (-1)) rfl rfl (by decide) ?_
  exact w_iret rfl rfl rfl rfl rfl
