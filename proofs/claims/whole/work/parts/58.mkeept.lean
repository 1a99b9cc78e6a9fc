/-! The reference: a text laid plain, kept. -/
def m_pl1 (n : Nat) (I : hI) : hI := s_for (fun r I => am_u (am_u I 113 r (Int32.ofNat 0)) 114 (2 + r) (Int32.ofNat 0)) n I
def m_pl2 (n : Nat) (I : hI) : hI := s_for (fun r I => am_u I 122 (8 + r) (Int32.ofInt (-1))) n I
def m_pl3 (n : Nat) (I : hI) : hI := s_for (fun r I => am_u I 128 (3 + r) (Int32.ofNat 0)) n I
def m_pl0 (I : hI) : hI := am_u (am_u (am_u (am_u (am_u (am_u I 110 17 (Int32.ofNat 0)) 110 18 (Int32.ofNat 0)) 110 19 (Int32.ofNat 0)) 110 20 (Int32.ofNat 0)) 110 21 (Int32.ofNat 0)) 110 48 (Int32.ofNat 0)
def m_pl (I : hI) : hI := m_pl3 3 (m_pl2 8 (m_pl1 2 (m_pl0 I)))
theorem l_plain1 {k : Nat} {R : hR} {q : Option Value × am_H} {I0 : hI} {J0 : hJ} (Z : wz k 12 none am_c180 59 [.ref 110, .int (Int32.ofNat 2)] [] (m_pl1 2 I0) J0 R q) : ∀ (j r : Nat) , r + j = 2 → wz k 12 none am_c180 32 [.ref 110, .int (Int32.ofNat r)] [] (m_pl1 r I0) J0 R q := by
  intro j
  induction j with
  | zero =>
    intro r e
    obtain rfl : 2 = r := by omega
    refine w_iload_n rfl rfl rfl ?_
    refine w_iconst (x := Int32.ofNat 2) rfl rfl (by decide) ?_
    refine w_ic_geN (t := 59) (f := 37) rfl rfl rfl (by omega) (by omega) (fun c34 => ?_) (fun c34 => absurd c34 (by omega))
    exact Z
  | succ j ih =>
    intro r e
    refine w_iload_n rfl rfl rfl ?_
    refine w_iconst (x := Int32.ofNat 2) rfl rfl (by decide) ?_
    refine w_ic_geN (t := 59) (f := 37) rfl rfl rfl (by omega) (by omega) (fun c34 => absurd c34 (by omega)) (fun c34 => ?_)
    refine w_aload_n rfl rfl rfl ?_
    refine w_gf (t := .ref (113)) (v := .ref (113)) rfl rfl rfl sp110 rfl rfl rfl ?_
    refine w_iload_n rfl rfl rfl ?_
    refine w_iconst (x := Int32.ofNat 0) rfl rfl (by decide) ?_
    refine w_bastore rfl rfl sp113 rfl ⟨by omega, by omega⟩ (by decide) ?_
    refine w_aload_n rfl rfl rfl ?_
    refine w_gf (t := .ref (114)) (v := .ref (114)) rfl rfl rfl sp110 rfl rfl rfl ?_
    refine w_iconst (x := Int32.ofNat 2) rfl rfl (by decide) ?_
    refine w_iload_n rfl rfl rfl ?_
    refine w_iaddN rfl rfl ?_
    refine w_iconst (x := Int32.ofNat 0) rfl rfl (by decide) ?_
    refine w_iastore rfl rfl sp114 rfl ⟨by omega, by omega⟩ ?_
    refine w_iinc (L' := [_, _]) rfl rfl rfl (am_incN 1) rfl ?_
    refine w_goto (pc' := 32) rfl rfl ?_
    exact ih (r + 1) (by omega)
theorem l_plain2 {k : Nat} {R : hR} {q : Option Value × am_H} {I0 : hI} {J0 : hJ} (Z : wz k 12 none am_c180 81 [.ref 110, .int (Int32.ofNat (8 + 8))] [] (m_pl2 8 I0) J0 R q) : ∀ (j r : Nat) , r + j = 8 → wz k 12 none am_c180 62 [.ref 110, .int (Int32.ofNat (8 + r))] [] (m_pl2 r I0) J0 R q := by
  intro j
  induction j with
  | zero =>
    intro r e
    obtain rfl : 8 = r := by omega
    refine w_iload_n rfl rfl rfl ?_
    refine w_bipush (x := Int32.ofNat 16) rfl rfl (by decide) ?_
    refine w_ic_geN (t := 81) (f := 68) rfl rfl rfl (by omega) (by omega) (fun c65 => ?_) (fun c65 => absurd c65 (by omega))
    exact Z
  | succ j ih =>
    intro r e
    refine w_iload_n rfl rfl rfl ?_
    refine w_bipush (x := Int32.ofNat 16) rfl rfl (by decide) ?_
    refine w_ic_geN (t := 81) (f := 68) rfl rfl rfl (by omega) (by omega) (fun c65 => absurd c65 (by omega)) (fun c65 => ?_)
    refine w_aload_n rfl rfl rfl ?_
    refine w_gf (t := .ref (122)) (v := .ref (122)) rfl rfl rfl sp110 rfl rfl rfl ?_
    refine w_iload_n rfl rfl rfl ?_
    refine w_iconst (x := Int32.ofInt (-1)) rfl rfl (by decide) ?_
    refine w_iastore rfl rfl sp122 rfl ⟨by omega, by omega⟩ ?_
    refine w_iinc (L' := [_, _]) rfl rfl rfl (am_incN 1) rfl ?_
    refine w_goto (pc' := 62) rfl rfl ?_
    exact ih (r + 1) (by omega)
theorem l_plain3 {k : Nat} {R : hR} {q : Option Value × am_H} {I0 : hI} {J0 : hJ} (Z : wz k 12 none am_c180 102 [.ref 110, .int (Int32.ofNat (3 + 3))] [] (m_pl3 3 I0) J0 R q) : ∀ (j r : Nat) , r + j = 3 → wz k 12 none am_c180 83 [.ref 110, .int (Int32.ofNat (3 + r))] [] (m_pl3 r I0) J0 R q := by
  intro j
  induction j with
  | zero =>
    intro r e
    obtain rfl : 3 = r := by omega
    refine w_iload_n rfl rfl rfl ?_
    refine w_bipush (x := Int32.ofNat 6) rfl rfl (by decide) ?_
    refine w_ic_geN (t := 102) (f := 89) rfl rfl rfl (by omega) (by omega) (fun c86 => ?_) (fun c86 => absurd c86 (by omega))
    exact Z
  | succ j ih =>
    intro r e
    refine w_iload_n rfl rfl rfl ?_
    refine w_bipush (x := Int32.ofNat 6) rfl rfl (by decide) ?_
    refine w_ic_geN (t := 102) (f := 89) rfl rfl rfl (by omega) (by omega) (fun c86 => absurd c86 (by omega)) (fun c86 => ?_)
    refine w_aload_n rfl rfl rfl ?_
    refine w_gf (t := .ref (128)) (v := .ref (128)) rfl rfl rfl sp110 rfl rfl rfl ?_
    refine w_iload_n rfl rfl rfl ?_
    refine w_iconst (x := Int32.ofNat 0) rfl rfl (by decide) ?_
    refine w_bastore rfl rfl sp128 rfl ⟨by omega, by omega⟩ (by decide) ?_
    refine w_iinc (L' := [_, _]) rfl rfl rfl (am_incN 1) rfl ?_
    refine w_goto (pc' := 83) rfl rfl ?_
    exact ih (r + 1) (by omega)
theorem c_plain {k : Nat} {I : hI} {J : hJ} {R : hR}  (hk : 1 ≤ k) : ct k 180 [.ref 110] I J R none (m_pl I) J R := by
  obtain ⟨k, rfl⟩ : ∃ k', k = k' + 1 := ⟨k - 1, by omega⟩
  refine ct_of (q := am_m180) (o := 12) (rt := none) (co := am_c180) (L := [_, _]) rfl rfl rfl rfl rfl rfl ?_
  refine w_aload_n rfl rfl rfl ?_
  refine w_iconst (x := Int32.ofNat 0) rfl rfl (by decide) ?_
  refine w_pf rfl rfl rfl sp110 rfl rfl rfl ?_
  refine w_aload_n rfl rfl rfl ?_
  refine w_iconst (x := Int32.ofNat 0) rfl rfl (by decide) ?_
  refine w_pf rfl rfl rfl sp110 rfl rfl rfl ?_
  refine w_aload_n rfl rfl rfl ?_
  refine w_iconst (x := Int32.ofNat 0) rfl rfl (by decide) ?_
  refine w_pf rfl rfl rfl sp110 rfl rfl rfl ?_
  refine w_aload_n rfl rfl rfl ?_
  refine w_iconst (x := Int32.ofNat 0) rfl rfl (by decide) ?_
  refine w_pf rfl rfl rfl sp110 rfl rfl rfl ?_
  refine w_aload_n rfl rfl rfl ?_
  refine w_iconst (x := Int32.ofNat 0) rfl rfl (by decide) ?_
  refine w_pf rfl rfl rfl sp110 rfl rfl rfl ?_
  refine w_aload_n rfl rfl rfl ?_
  refine w_iconst (x := Int32.ofNat 0) rfl rfl (by decide) ?_
  refine w_pf rfl rfl rfl sp110 rfl rfl rfl ?_
  refine w_iconst (x := Int32.ofNat 0) rfl rfl (by decide) ?_
  refine w_istore_n (L' := [_, _]) rfl rfl rfl ?_
  refine l_plain1 ?_ 2 0 (by omega)
  refine w_bipush (x := Int32.ofNat 8) rfl rfl (by decide) ?_
  refine w_istore_n (L' := [_, _]) rfl rfl rfl ?_
  refine l_plain2 ?_ 8 0 (by omega)
  refine w_iconst (x := Int32.ofNat 3) rfl rfl (by decide) ?_
  refine w_istore_n (L' := [_, _]) rfl rfl rfl ?_
  refine l_plain3 ?_ 3 0 (by omega)
  exact w_ret rfl rfl rfl rfl
def m_cp (A n r : Nat) (I : hI) : hI := s_for (fun r I => am_u I A r (I A (n + r))) r I
theorem m_cp_ne {A n r a : Nat} {I : hI} (h : a ≠ A) : m_cp A n r I a = I a := by
  induction r with
  | zero => rfl
  | succ r ih => exact (am_u_ne h).trans ih
theorem l_copies {k : Nat} {R : hR} {q : Option Value × am_H} {A n m : Nat} {I0 : hI} {J0 : hJ} (hA : am_shL[A]? = some (.inl (.int, false, m))) (hm : m ≤ 1024) (hn : n + n ≤ m) (Z : wz k 12 none am_c181 21 [.ref A, .int (Int32.ofNat n), .int (Int32.ofNat n)] [] (m_cp A n n I0) J0 R q) : ∀ (j r : Nat) , r + j = n → wz k 12 none am_c181 2 [.ref A, .int (Int32.ofNat n), .int (Int32.ofNat r)] [] (m_cp A n r I0) J0 R q := by
  intro j
  induction j with
  | zero =>
    intro r e
    obtain rfl : n = r := by omega
    refine w_iload_n rfl rfl rfl ?_
    refine w_iload_n rfl rfl rfl ?_
    refine w_ic_geN (t := 21) (f := 7) rfl rfl rfl (by omega) (by omega) (fun c4 => ?_) (fun c4 => absurd c4 (by omega))
    exact Z
  | succ j ih =>
    intro r e
    refine w_iload_n rfl rfl rfl ?_
    refine w_iload_n rfl rfl rfl ?_
    refine w_ic_geN (t := 21) (f := 7) rfl rfl rfl (by omega) (by omega) (fun c4 => absurd c4 (by omega)) (fun c4 => ?_)
    refine w_aload_n rfl rfl rfl ?_
    refine w_iload_n rfl rfl rfl ?_
    refine w_aload_n rfl rfl rfl ?_
    refine w_iload_n rfl rfl rfl ?_
    refine w_iload_n rfl rfl rfl ?_
    refine w_iaddN rfl rfl ?_
    refine w_iaload rfl rfl hA rfl ⟨by omega, by omega⟩ rfl ?_
    refine w_iastore rfl rfl hA rfl ⟨by omega, by omega⟩ ?_
    refine w_iinc (L' := [_, _, _]) rfl rfl rfl (am_incN 1) rfl ?_
    refine w_goto (pc' := 2) rfl rfl ?_
    exact ih (r + 1) (by omega)
theorem c_copies {k : Nat} {I : hI} {J : hJ} {R : hR} {A n m : Nat} (hA : am_shL[A]? = some (.inl (.int, false, m))) (hm : m ≤ 1024) (hn : n + n ≤ m) (hk : 1 ≤ k) : ct k 181 [.ref A, .int (Int32.ofNat n)] I J R none (m_cp A n n I) J R := by
  obtain ⟨k, rfl⟩ : ∃ k', k = k' + 1 := ⟨k - 1, by omega⟩
  refine ct_of (q := am_m181) (o := 12) (rt := none) (co := am_c181) (L := [_, _, _]) rfl rfl rfl rfl rfl rfl ?_
  refine w_iconst (x := Int32.ofNat 0) rfl rfl (by decide) ?_
  refine w_istore_n (L' := [_, _, _]) rfl rfl rfl ?_
  refine l_copies hA hm hn ?_ n 0 (by omega)
  exact w_ret rfl rfl rfl rfl
def m_k1 (I : hI) : hI := am_u (am_u (am_u (am_u (am_u I 110 12 (I 110 17)) 110 13 (I 110 18)) 110 14 (I 110 19)) 110 15 (I 110 20)) 110 16 (I 110 21)
def m_k2 (I : hI) : hI := m_cp 123 5 5 (m_cp 122 8 8 (m_cp 121 8 8 (m_cp 120 8 8 (m_cp 119 8 8 (m_cp 118 8 8 (m_cp 117 6 6 (m_cp 116 6 6 (m_cp 115 6 6 (m_cp 114 2 2 I)))))))))
def m_k3 (I : hI) : hI := m_cp 127 10 10 (m_cp 126 10 10 (m_cp 125 10 10 (m_cp 124 5 5 I)))
def m_k4 (n : Nat) (I : hI) : hI := s_for (fun r I => am_u I 128 r (I 128 (3 + r))) n I
def m_k5 (I : hI) : hI := m_cp 133 64 64 (m_cp 132 64 64 (m_cp 131 64 64 (m_cp 130 3 3 (m_cp 129 3 3 I))))
def m_ktI (I : hI) : hI := m_k5 (m_k4 3 (m_k3 (m_k2 (m_k1 I))))
def bI01 (I : hI) : Prop := ∀ i, 3 ≤ i → i < 6 → I 128 i = 0 ∨ I 128 i = 1
theorem m_k4_hi {n i : Nat} {I : hI} (h : n ≤ i) : m_k4 n I 128 i = I 128 i := by
  induction n with
  | zero => rfl
  | succ n ih => exact (am_u_nk (by omega)).trans (ih (by omega))
theorem l_keepT {k : Nat} {R : hR} {q : Option Value × am_H} {I0 : hI} {J0 : hJ} (hb : bI01 I0) (Z : wz k 12 none am_c182 190 [.ref 110, .int (Int32.ofNat 3)] [] (m_k4 3 I0) J0 R q) : ∀ (j r : Nat) , r + j = 3 → wz k 12 none am_c182 165 [.ref 110, .int (Int32.ofNat r)] [] (m_k4 r I0) J0 R q := by
  intro j
  induction j with
  | zero =>
    intro r e
    obtain rfl : 3 = r := by omega
    have hB : 3 < 3 → m_k4 3 I0 128 (3 + 3) = 0 ∨ m_k4 3 I0 128 (3 + 3) = 1 := fun h => by rw [m_k4_hi (by omega)]; exact hb _ (by omega) (by omega)
    refine w_iload_n rfl rfl rfl ?_
    refine w_iconst (x := Int32.ofNat 3) rfl rfl (by decide) ?_
    refine w_ic_geN (t := 190) (f := 170) rfl rfl rfl (by omega) (by omega) (fun c167 => ?_) (fun c167 => absurd c167 (by omega))
    exact Z
  | succ j ih =>
    intro r e
    have hB : r < 3 → m_k4 r I0 128 (3 + r) = 0 ∨ m_k4 r I0 128 (3 + r) = 1 := fun h => by rw [m_k4_hi (by omega)]; exact hb _ (by omega) (by omega)
    refine w_iload_n rfl rfl rfl ?_
    refine w_iconst (x := Int32.ofNat 3) rfl rfl (by decide) ?_
    refine w_ic_geN (t := 190) (f := 170) rfl rfl rfl (by omega) (by omega) (fun c167 => absurd c167 (by omega)) (fun c167 => ?_)
    refine w_aload_n rfl rfl rfl ?_
    refine w_gf (t := .ref (128)) (v := .ref (128)) rfl rfl rfl sp110 rfl rfl rfl ?_
    refine w_iload_n rfl rfl rfl ?_
    refine w_aload_n rfl rfl rfl ?_
    refine w_gf (t := .ref (128)) (v := .ref (128)) rfl rfl rfl sp110 rfl rfl rfl ?_
    refine w_iconst (x := Int32.ofNat 3) rfl rfl (by decide) ?_
    refine w_iload_n rfl rfl rfl ?_
    refine w_iaddN rfl rfl ?_
    refine w_baload rfl rfl sp128 rfl ⟨by omega, by omega⟩ rfl ?_
    refine w_bastore rfl rfl sp128 rfl ⟨by omega, by omega⟩ (hB (by omega)) ?_
    refine w_iinc (L' := [_, _]) rfl rfl rfl (am_incN 1) rfl ?_
    refine w_goto (pc' := 165) rfl rfl ?_
    exact ih (r + 1) (by omega)
theorem c_keepText {k : Nat} {I : hI} {J : hJ} {R : hR} (hb : bI01 I) (hk : 3 ≤ k) : ct k 182 [.ref 110] I J R none (m_beI (m_ktI I)) (am_u J 110 62 (m_af 0 (m_ktI I) 114 1).toInt64) R := by
  obtain ⟨k, rfl⟩ : ∃ k', k = k' + 1 := ⟨k - 1, by omega⟩
  have hb2 : bI01 (m_k3 (m_k2 (m_k1 I))) := by
    intro i h1 h2
    have e : m_k3 (m_k2 (m_k1 I)) 128 i = I 128 i := by
      unfold m_k3 m_k2
      rw [m_cp_ne (by decide), m_cp_ne (by decide), m_cp_ne (by decide), m_cp_ne (by decide), m_cp_ne (by decide), m_cp_ne (by decide), m_cp_ne (by decide), m_cp_ne (by decide), m_cp_ne (by decide), m_cp_ne (by decide), m_cp_ne (by decide), m_cp_ne (by decide), m_cp_ne (by decide), m_cp_ne (by decide)]
      rfl
    rw [e]; exact hb i h1 h2
  refine ct_of (q := am_m182) (o := 12) (rt := none) (co := am_c182) (L := [_, _]) rfl rfl rfl rfl rfl rfl ?_
  refine w_aload_n rfl rfl rfl ?_
  refine w_aload_n rfl rfl rfl ?_
  refine w_gf (t := .int 0) (v := .int _) rfl rfl rfl sp110 rfl (congrArg Value.int rfl) rfl ?_
  refine w_pf rfl rfl rfl sp110 rfl rfl rfl ?_
  refine w_aload_n rfl rfl rfl ?_
  refine w_aload_n rfl rfl rfl ?_
  refine w_gf (t := .int 0) (v := .int _) rfl rfl rfl sp110 rfl (congrArg Value.int (am_u_nk (by decide))) rfl ?_
  refine w_pf rfl rfl rfl sp110 rfl rfl rfl ?_
  refine w_aload_n rfl rfl rfl ?_
  refine w_aload_n rfl rfl rfl ?_
  refine w_gf (t := .int 0) (v := .int _) rfl rfl rfl sp110 rfl (congrArg Value.int ((am_u_nk (by decide)).trans (am_u_nk (by decide)))) rfl ?_
  refine w_pf rfl rfl rfl sp110 rfl rfl rfl ?_
  refine w_aload_n rfl rfl rfl ?_
  refine w_aload_n rfl rfl rfl ?_
  refine w_gf (t := .int 0) (v := .int _) rfl rfl rfl sp110 rfl (congrArg Value.int ((am_u_nk (by decide)).trans ((am_u_nk (by decide)).trans (am_u_nk (by decide))))) rfl ?_
  refine w_pf rfl rfl rfl sp110 rfl rfl rfl ?_
  refine w_aload_n rfl rfl rfl ?_
  refine w_aload_n rfl rfl rfl ?_
  refine w_gf (t := .int 0) (v := .int _) rfl rfl rfl sp110 rfl (congrArg Value.int ((am_u_nk (by decide)).trans ((am_u_nk (by decide)).trans ((am_u_nk (by decide)).trans (am_u_nk (by decide)))))) rfl ?_
  refine w_pf rfl rfl rfl sp110 rfl rfl rfl ?_
  refine w_aload_n rfl rfl rfl ?_
  refine w_gf (t := .ref (114)) (v := .ref (114)) rfl rfl rfl sp110 rfl rfl rfl ?_
  refine w_iconst (x := Int32.ofNat 2) rfl rfl (by decide) ?_
  refine w_cs (q := am_m181) (na := 2) (as := [_, _]) (st' := []) rfl rfl rfl rfl (by decide) rfl rfl (Nat.le_of_ble_eq_true rfl) rfl rfl rfl (c_copies sp114 (by decide) (by decide) (by omega)) rfl rfl ?_
  refine w_aload_n rfl rfl rfl ?_
  refine w_gf (t := .ref (115)) (v := .ref (115)) rfl rfl rfl sp110 rfl rfl rfl ?_
  refine w_bipush (x := Int32.ofNat 6) rfl rfl (by decide) ?_
  refine w_cs (q := am_m181) (na := 2) (as := [_, _]) (st' := []) rfl rfl rfl rfl (by decide) rfl rfl (Nat.le_of_ble_eq_true rfl) rfl rfl rfl (c_copies sp115 (by decide) (by decide) (by omega)) rfl rfl ?_
  refine w_aload_n rfl rfl rfl ?_
  refine w_gf (t := .ref (116)) (v := .ref (116)) rfl rfl rfl sp110 rfl rfl rfl ?_
  refine w_bipush (x := Int32.ofNat 6) rfl rfl (by decide) ?_
  refine w_cs (q := am_m181) (na := 2) (as := [_, _]) (st' := []) rfl rfl rfl rfl (by decide) rfl rfl (Nat.le_of_ble_eq_true rfl) rfl rfl rfl (c_copies sp116 (by decide) (by decide) (by omega)) rfl rfl ?_
  refine w_aload_n rfl rfl rfl ?_
  refine w_gf (t := .ref (117)) (v := .ref (117)) rfl rfl rfl sp110 rfl rfl rfl ?_
  refine w_bipush (x := Int32.ofNat 6) rfl rfl (by decide) ?_
  refine w_cs (q := am_m181) (na := 2) (as := [_, _]) (st' := []) rfl rfl rfl rfl (by decide) rfl rfl (Nat.le_of_ble_eq_true rfl) rfl rfl rfl (c_copies sp117 (by decide) (by decide) (by omega)) rfl rfl ?_
  refine w_aload_n rfl rfl rfl ?_
  refine w_gf (t := .ref (118)) (v := .ref (118)) rfl rfl rfl sp110 rfl rfl rfl ?_
  refine w_bipush (x := Int32.ofNat 8) rfl rfl (by decide) ?_
  refine w_cs (q := am_m181) (na := 2) (as := [_, _]) (st' := []) rfl rfl rfl rfl (by decide) rfl rfl (Nat.le_of_ble_eq_true rfl) rfl rfl rfl (c_copies sp118 (by decide) (by decide) (by omega)) rfl rfl ?_
  refine w_aload_n rfl rfl rfl ?_
  refine w_gf (t := .ref (119)) (v := .ref (119)) rfl rfl rfl sp110 rfl rfl rfl ?_
  refine w_bipush (x := Int32.ofNat 8) rfl rfl (by decide) ?_
  refine w_cs (q := am_m181) (na := 2) (as := [_, _]) (st' := []) rfl rfl rfl rfl (by decide) rfl rfl (Nat.le_of_ble_eq_true rfl) rfl rfl rfl (c_copies sp119 (by decide) (by decide) (by omega)) rfl rfl ?_
  refine w_aload_n rfl rfl rfl ?_
  refine w_gf (t := .ref (120)) (v := .ref (120)) rfl rfl rfl sp110 rfl rfl rfl ?_
  refine w_bipush (x := Int32.ofNat 8) rfl rfl (by decide) ?_
  refine w_cs (q := am_m181) (na := 2) (as := [_, _]) (st' := []) rfl rfl rfl rfl (by decide) rfl rfl (Nat.le_of_ble_eq_true rfl) rfl rfl rfl (c_copies sp120 (by decide) (by decide) (by omega)) rfl rfl ?_
  refine w_aload_n rfl rfl rfl ?_
  refine w_gf (t := .ref (121)) (v := .ref (121)) rfl rfl rfl sp110 rfl rfl rfl ?_
  refine w_bipush (x := Int32.ofNat 8) rfl rfl (by decide) ?_
  refine w_cs (q := am_m181) (na := 2) (as := [_, _]) (st' := []) rfl rfl rfl rfl (by decide) rfl rfl (Nat.le_of_ble_eq_true rfl) rfl rfl rfl (c_copies sp121 (by decide) (by decide) (by omega)) rfl rfl ?_
  refine w_aload_n rfl rfl rfl ?_
  refine w_gf (t := .ref (122)) (v := .ref (122)) rfl rfl rfl sp110 rfl rfl rfl ?_
  refine w_bipush (x := Int32.ofNat 8) rfl rfl (by decide) ?_
  refine w_cs (q := am_m181) (na := 2) (as := [_, _]) (st' := []) rfl rfl rfl rfl (by decide) rfl rfl (Nat.le_of_ble_eq_true rfl) rfl rfl rfl (c_copies sp122 (by decide) (by decide) (by omega)) rfl rfl ?_
  refine w_aload_n rfl rfl rfl ?_
  refine w_gf (t := .ref (123)) (v := .ref (123)) rfl rfl rfl sp110 rfl rfl rfl ?_
  refine w_iconst (x := Int32.ofNat 5) rfl rfl (by decide) ?_
  refine w_cs (q := am_m181) (na := 2) (as := [_, _]) (st' := []) rfl rfl rfl rfl (by decide) rfl rfl (Nat.le_of_ble_eq_true rfl) rfl rfl rfl (c_copies sp123 (by decide) (by decide) (by omega)) rfl rfl ?_
  refine w_aload_n rfl rfl rfl ?_
  refine w_gf (t := .ref (124)) (v := .ref (124)) rfl rfl rfl sp110 rfl rfl rfl ?_
  refine w_iconst (x := Int32.ofNat 5) rfl rfl (by decide) ?_
  refine w_cs (q := am_m181) (na := 2) (as := [_, _]) (st' := []) rfl rfl rfl rfl (by decide) rfl rfl (Nat.le_of_ble_eq_true rfl) rfl rfl rfl (c_copies sp124 (by decide) (by decide) (by omega)) rfl rfl ?_
  refine w_aload_n rfl rfl rfl ?_
  refine w_gf (t := .ref (125)) (v := .ref (125)) rfl rfl rfl sp110 rfl rfl rfl ?_
  refine w_bipush (x := Int32.ofNat 10) rfl rfl (by decide) ?_
  refine w_cs (q := am_m181) (na := 2) (as := [_, _]) (st' := []) rfl rfl rfl rfl (by decide) rfl rfl (Nat.le_of_ble_eq_true rfl) rfl rfl rfl (c_copies sp125 (by decide) (by decide) (by omega)) rfl rfl ?_
  refine w_aload_n rfl rfl rfl ?_
  refine w_gf (t := .ref (126)) (v := .ref (126)) rfl rfl rfl sp110 rfl rfl rfl ?_
  refine w_bipush (x := Int32.ofNat 10) rfl rfl (by decide) ?_
  refine w_cs (q := am_m181) (na := 2) (as := [_, _]) (st' := []) rfl rfl rfl rfl (by decide) rfl rfl (Nat.le_of_ble_eq_true rfl) rfl rfl rfl (c_copies sp126 (by decide) (by decide) (by omega)) rfl rfl ?_
  refine w_aload_n rfl rfl rfl ?_
  refine w_gf (t := .ref (127)) (v := .ref (127)) rfl rfl rfl sp110 rfl rfl rfl ?_
  refine w_bipush (x := Int32.ofNat 10) rfl rfl (by decide) ?_
  refine w_cs (q := am_m181) (na := 2) (as := [_, _]) (st' := []) rfl rfl rfl rfl (by decide) rfl rfl (Nat.le_of_ble_eq_true rfl) rfl rfl rfl (c_copies sp127 (by decide) (by decide) (by omega)) rfl rfl ?_
  refine w_iconst (x := Int32.ofNat 0) rfl rfl (by decide) ?_
  refine w_istore_n (L' := [_, _]) rfl rfl rfl ?_
  refine l_keepT hb2 ?_ 3 0 (by omega)
  refine w_aload_n rfl rfl rfl ?_
  refine w_gf (t := .ref (129)) (v := .ref (129)) rfl rfl rfl sp110 rfl rfl rfl ?_
  refine w_iconst (x := Int32.ofNat 3) rfl rfl (by decide) ?_
  refine w_cs (q := am_m181) (na := 2) (as := [_, _]) (st' := []) rfl rfl rfl rfl (by decide) rfl rfl (Nat.le_of_ble_eq_true rfl) rfl rfl rfl (c_copies sp129 (by decide) (by decide) (by omega)) rfl rfl ?_
  refine w_aload_n rfl rfl rfl ?_
  refine w_gf (t := .ref (130)) (v := .ref (130)) rfl rfl rfl sp110 rfl rfl rfl ?_
  refine w_iconst (x := Int32.ofNat 3) rfl rfl (by decide) ?_
  refine w_cs (q := am_m181) (na := 2) (as := [_, _]) (st' := []) rfl rfl rfl rfl (by decide) rfl rfl (Nat.le_of_ble_eq_true rfl) rfl rfl rfl (c_copies sp130 (by decide) (by decide) (by omega)) rfl rfl ?_
  refine w_aload_n rfl rfl rfl ?_
  refine w_gf (t := .ref (131)) (v := .ref (131)) rfl rfl rfl sp110 rfl rfl rfl ?_
  refine w_bipush (x := Int32.ofNat 64) rfl rfl (by decide) ?_
  refine w_cs (q := am_m181) (na := 2) (as := [_, _]) (st' := []) rfl rfl rfl rfl (by decide) rfl rfl (Nat.le_of_ble_eq_true rfl) rfl rfl rfl (c_copies sp131 (by decide) (by decide) (by omega)) rfl rfl ?_
  refine w_aload_n rfl rfl rfl ?_
  refine w_gf (t := .ref (132)) (v := .ref (132)) rfl rfl rfl sp110 rfl rfl rfl ?_
  refine w_bipush (x := Int32.ofNat 64) rfl rfl (by decide) ?_
  refine w_cs (q := am_m181) (na := 2) (as := [_, _]) (st' := []) rfl rfl rfl rfl (by decide) rfl rfl (Nat.le_of_ble_eq_true rfl) rfl rfl rfl (c_copies sp132 (by decide) (by decide) (by omega)) rfl rfl ?_
  refine w_aload_n rfl rfl rfl ?_
  refine w_gf (t := .ref (133)) (v := .ref (133)) rfl rfl rfl sp110 rfl rfl rfl ?_
  refine w_bipush (x := Int32.ofNat 64) rfl rfl (by decide) ?_
  refine w_cs (q := am_m181) (na := 2) (as := [_, _]) (st' := []) rfl rfl rfl rfl (by decide) rfl rfl (Nat.le_of_ble_eq_true rfl) rfl rfl rfl (c_copies sp133 (by decide) (by decide) (by omega)) rfl rfl ?_
  refine w_aload_n rfl rfl rfl ?_
  refine w_cv (q := am_m210) (as := []) (rest := []) (st' := []) rfl rfl rfl rfl rfl rfl sp110 rfl rfl rfl rfl (c_begin (by omega)) rfl rfl ?_
  exact w_ret rfl rfl rfl rfl
