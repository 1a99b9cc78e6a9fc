/-! The reference: the pieces of a law's sum. -/
def m_rk (x : Int32) : Int32 := if x < Int32.ofNat 13 then (if x < Int32.ofNat 11 then (if x < Int32.ofNat 5 then (if x = Int32.ofNat 2 then Int32.ofNat 3 else if x = Int32.ofNat 3 then Int32.ofNat 2 else if x = Int32.ofNat 4 then Int32.ofNat 1 else Int32.ofNat 0) else Int32.ofNat 4) else Int32.ofNat 5) else Int32.ofNat 6
theorem c_rank {k : Nat} {I : hI} {J : hJ} {R : hR} {x : Int32} (hk : 1 ≤ k) : ct k 196 [.int x] I J R (some (.int (m_rk x))) I J R := by
  obtain ⟨k, rfl⟩ : ∃ k', k = k' + 1 := ⟨k - 1, by omega⟩
  refine ct_of (q := am_m196) (L := [_]) rfl rfl rfl rfl rfl rfl ?_
  refine w_iload_n rfl rfl rfl ?_
  refine w_bipush (x := Int32.ofNat 13) rfl rfl (by decide) ?_
  refine w_ic_lt (t := 11) (f := 6) rfl rfl rfl (fun c3 => ?_) (fun c3 => ?_)
  · refine w_iload_n rfl rfl rfl ?_
    refine w_bipush (x := Int32.ofNat 11) rfl rfl (by decide) ?_
    refine w_ic_lt (t := 21) (f := 17) rfl rfl rfl (fun c14 => ?_) (fun c14 => ?_)
    · refine w_iload_n rfl rfl rfl ?_
      refine w_iconst (x := Int32.ofNat 5) rfl rfl (by decide) ?_
      refine w_ic_lt (t := 30) (f := 26) rfl rfl rfl (fun c23 => ?_) (fun c23 => ?_)
      · refine w_iload_n rfl rfl rfl ?_
        refine w_iconst (x := Int32.ofNat 2) rfl rfl (by decide) ?_
        refine w_ic_ne (t := 39) (f := 35) rfl rfl rfl (fun c32 => ?_) (fun c32 => ?_)
        · refine w_iload_n rfl rfl rfl ?_
          refine w_iconst (x := Int32.ofNat 3) rfl rfl (by decide) ?_
          refine w_ic_ne (t := 48) (f := 44) rfl rfl rfl (fun c41 => ?_) (fun c41 => ?_)
          · refine w_iload_n rfl rfl rfl ?_
            refine w_iconst (x := Int32.ofNat 4) rfl rfl (by decide) ?_
            refine w_ic_ne (t := 57) (f := 53) rfl rfl rfl (fun c50 => ?_) (fun c50 => ?_)
            · refine w_iconst (x := Int32.ofNat 0) rfl rfl (by decide) ?_
              exact w_iret rfl (by simp only [m_rk, *, ite_true, ite_false, and_self, and_true, true_and, and_false, false_and, or_true, true_or, or_false, false_or, not_true, not_false_iff] <;> rfl) rfl rfl rfl
            · refine w_iconst (x := Int32.ofNat 1) rfl rfl (by decide) ?_
              refine w_goto (pc' := 58) rfl rfl ?_
              exact w_iret rfl (by simp only [m_rk, *, ite_true, ite_false, and_self, and_true, true_and, and_false, false_and, or_true, true_or, or_false, false_or, not_true, not_false_iff] <;> rfl) rfl rfl rfl
          · refine w_iconst (x := Int32.ofNat 2) rfl rfl (by decide) ?_
            refine w_goto (pc' := 58) rfl rfl ?_
            exact w_iret rfl (by simp only [m_rk, *, ite_true, ite_false, and_self, and_true, true_and, and_false, false_and, or_true, true_or, or_false, false_or, not_true, not_false_iff] <;> rfl) rfl rfl rfl
        · refine w_iconst (x := Int32.ofNat 3) rfl rfl (by decide) ?_
          refine w_goto (pc' := 58) rfl rfl ?_
          exact w_iret rfl (by simp only [m_rk, *, ite_true, ite_false, and_self, and_true, true_and, and_false, false_and, or_true, true_or, or_false, false_or, not_true, not_false_iff] <;> rfl) rfl rfl rfl
      · refine w_iconst (x := Int32.ofNat 4) rfl rfl (by decide) ?_
        refine w_goto (pc' := 58) rfl rfl ?_
        exact w_iret rfl (by simp only [m_rk, *, ite_true, ite_false, and_self, and_true, true_and, and_false, false_and, or_true, true_or, or_false, false_or, not_true, not_false_iff] <;> rfl) rfl rfl rfl
    · refine w_iconst (x := Int32.ofNat 5) rfl rfl (by decide) ?_
      refine w_goto (pc' := 58) rfl rfl ?_
      exact w_iret rfl (by simp only [m_rk, *, ite_true, ite_false, and_self, and_true, true_and, and_false, false_and, or_true, true_or, or_false, false_or, not_true, not_false_iff] <;> rfl) rfl rfl rfl
  · refine w_bipush (x := Int32.ofNat 6) rfl rfl (by decide) ?_
    refine w_goto (pc' := 58) rfl rfl ?_
    exact w_iret rfl (by simp only [m_rk, *, ite_true, ite_false, and_self, and_true, true_and, and_false, false_and, or_true, true_or, or_false, false_or, not_true, not_false_iff] <;> rfl) rfl rfl rfl
def m_gr (I : hI) (K H : Nat) (x a b : Int32) : hI := am_u (am_u (am_u (am_u (am_u (am_u I 131 (64 + K) x) 132 (64 + K) a) 133 (64 + K) b) 135 H (Int32.ofNat K)) 110 46 (Int32.ofNat (H + 1))) 110 21 (Int32.ofNat (K + 1))
theorem c_grown {k : Nat} {I : hI} {J : hJ} {R : hR} {K H : Nat} (hK : K < 64) (h21 : I 110 21 = Int32.ofNat K) (hH : H < 96) (h46 : I 110 46 = Int32.ofNat H) {x a b : Int32} (hk : 1 ≤ k) : ct k 197 [.ref 110, .int x, .int a, .int b] I J R none (m_gr I K H x a b) J R := by
  obtain ⟨k, rfl⟩ : ∃ k', k = k' + 1 := ⟨k - 1, by omega⟩
  refine ct_of (q := am_m197) (L := [_, _, _, _]) rfl rfl rfl rfl rfl rfl ?_
  refine w_aload_n rfl rfl rfl ?_
  refine w_gf (t := .ref (131)) (v := .ref (131)) rfl rfl rfl sp110 rfl rfl rfl ?_
  refine w_bipush (x := Int32.ofNat 64) rfl rfl (by decide) ?_
  refine w_aload_n rfl rfl rfl ?_
  refine w_gf (t := .int 0) (v := .int _) rfl rfl rfl sp110 rfl (congrArg Value.int h21) rfl ?_
  refine w_iaddN rfl rfl ?_
  refine w_iload_n rfl rfl rfl ?_
  refine w_iastore rfl rfl sp131 rfl ⟨by omega, by omega⟩ ?_
  refine w_aload_n rfl rfl rfl ?_
  refine w_gf (t := .ref (132)) (v := .ref (132)) rfl rfl rfl sp110 rfl rfl rfl ?_
  refine w_bipush (x := Int32.ofNat 64) rfl rfl (by decide) ?_
  refine w_aload_n rfl rfl rfl ?_
  refine w_gf (t := .int 0) (v := .int _) rfl rfl rfl sp110 rfl (congrArg Value.int ((congrFun (am_u_ne (by decide)) _).trans h21)) rfl ?_
  refine w_iaddN rfl rfl ?_
  refine w_iload_n rfl rfl rfl ?_
  refine w_iastore rfl rfl sp132 rfl ⟨by omega, by omega⟩ ?_
  refine w_aload_n rfl rfl rfl ?_
  refine w_gf (t := .ref (133)) (v := .ref (133)) rfl rfl rfl sp110 rfl rfl rfl ?_
  refine w_bipush (x := Int32.ofNat 64) rfl rfl (by decide) ?_
  refine w_aload_n rfl rfl rfl ?_
  refine w_gf (t := .int 0) (v := .int _) rfl rfl rfl sp110 rfl (congrArg Value.int (((congrFun (am_u_ne (by decide)) _).trans (congrFun (am_u_ne (by decide)) _)).trans h21)) rfl ?_
  refine w_iaddN rfl rfl ?_
  refine w_iload_n rfl rfl rfl ?_
  refine w_iastore rfl rfl sp133 rfl ⟨by omega, by omega⟩ ?_
  refine w_aload_n rfl rfl rfl ?_
  refine w_gf (t := .ref (135)) (v := .ref (135)) rfl rfl rfl sp110 rfl rfl rfl ?_
  refine w_aload_n rfl rfl rfl ?_
  refine w_gf (t := .int 0) (v := .int _) rfl rfl rfl sp110 rfl (congrArg Value.int (((congrFun (am_u_ne (by decide)) _).trans ((congrFun (am_u_ne (by decide)) _).trans (congrFun (am_u_ne (by decide)) _))).trans h46)) rfl ?_
  refine w_aload_n rfl rfl rfl ?_
  refine w_gf (t := .int 0) (v := .int _) rfl rfl rfl sp110 rfl (congrArg Value.int (((congrFun (am_u_ne (by decide)) _).trans ((congrFun (am_u_ne (by decide)) _).trans (congrFun (am_u_ne (by decide)) _))).trans h21)) rfl ?_
  refine w_iastore rfl rfl sp135 rfl ⟨by omega, by omega⟩ ?_
  refine w_aload_n rfl rfl rfl ?_
  refine w_dup rfl rfl rfl ?_
  refine w_gf (t := .int 0) (v := .int _) rfl rfl rfl sp110 rfl (congrArg Value.int (((congrFun (am_u_ne (by decide)) _).trans ((congrFun (am_u_ne (by decide)) _).trans ((congrFun (am_u_ne (by decide)) _).trans (congrFun (am_u_ne (by decide)) _)))).trans h46)) rfl ?_
  refine w_iconst (x := Int32.ofNat 1) rfl rfl (by decide) ?_
  refine w_iaddN rfl rfl ?_
  refine w_pf rfl rfl rfl sp110 rfl rfl rfl ?_
  refine w_aload_n rfl rfl rfl ?_
  refine w_dup rfl rfl rfl ?_
  refine w_gf (t := .int 0) (v := .int _) rfl rfl rfl sp110 rfl (congrArg Value.int (((am_u_nk (by decide)).trans ((congrFun (am_u_ne (by decide)) _).trans ((congrFun (am_u_ne (by decide)) _).trans ((congrFun (am_u_ne (by decide)) _).trans (congrFun (am_u_ne (by decide)) _))))).trans h21)) rfl ?_
  refine w_iconst (x := Int32.ofNat 1) rfl rfl (by decide) ?_
  refine w_iaddN rfl rfl ?_
  refine w_pf rfl rfl rfl sp110 rfl rfl rfl ?_
  exact w_ret rfl rfl rfl rfl
theorem c_dropHeld {k : Nat} {I : hI} {J : hJ} {R : hR} {H : Nat} (h1 : 1 ≤ H) (hH : H ≤ 96) (h46 : I 110 46 = Int32.ofNat H) (hk : 1 ≤ k) : ct k 198 [.ref 110] I J R (some (.int (I 135 (H - 1)))) (am_u I 110 46 (Int32.ofNat (H - 1))) J R := by
  obtain ⟨k, rfl⟩ : ∃ k', k = k' + 1 := ⟨k - 1, by omega⟩
  refine ct_of (q := am_m198) (L := [_]) rfl rfl rfl rfl rfl rfl ?_
  refine w_aload_n rfl rfl rfl ?_
  refine w_dup rfl rfl rfl ?_
  refine w_gf (t := .int 0) (v := .int _) rfl rfl rfl sp110 rfl (congrArg Value.int h46) rfl ?_
  refine w_iconst (x := Int32.ofNat 1) rfl rfl (by decide) ?_
  refine w_isubN rfl rfl h1 ?_
  refine w_pf rfl rfl rfl sp110 rfl rfl rfl ?_
  refine w_aload_n rfl rfl rfl ?_
  refine w_gf (t := .ref (135)) (v := .ref (135)) rfl rfl rfl sp110 rfl rfl rfl ?_
  refine w_aload_n rfl rfl rfl ?_
  refine w_gf (t := .int 0) (v := .int _) rfl rfl rfl sp110 rfl (congrArg Value.int am_u_at) rfl ?_
  refine w_iaload rfl rfl sp135 rfl ⟨by omega, by omega⟩ (congrFun (am_u_ne (by decide)) _) ?_
  exact w_iret rfl rfl rfl rfl rfl
theorem c_isCounted {k : Nat} {I : hI} {J : hJ} {R : hR} {C : Nat} (hC : C < 64) (h48 : I 110 48 = Int32.ofNat C) (hk : 2 ≤ k) : ct k 200 [.ref 110] I J R (some (.int 1)) (am_u I 110 48 (Int32.ofNat (C + 1))) J R := by
  obtain ⟨k, rfl⟩ : ∃ k', k = k' + 1 := ⟨k - 1, by omega⟩
  refine ct_of (q := am_m200) (L := [_]) rfl rfl rfl rfl rfl rfl ?_
  refine w_aload_n rfl rfl rfl ?_
  refine w_gf (t := .int 0) (v := .int _) rfl rfl rfl sp110 rfl (congrArg Value.int h48) rfl ?_
  refine w_bipush (x := Int32.ofNat 64) rfl rfl (by decide) ?_
  refine w_ic_neN (t := 15) (f := 9) rfl rfl rfl (by omega) (by omega) (fun c6 => ?_) (fun c6 => absurd c6 (by omega))
  refine w_aload_n rfl rfl rfl ?_
  refine w_dup rfl rfl rfl ?_
  refine w_gf (t := .int 0) (v := .int _) rfl rfl rfl sp110 rfl (congrArg Value.int h48) rfl ?_
  refine w_iconst (x := Int32.ofNat 1) rfl rfl (by decide) ?_
  refine w_iaddN rfl rfl ?_
  refine w_pf rfl rfl rfl sp110 rfl rfl rfl ?_
  refine w_iconst (x := Int32.ofNat 1) rfl rfl (by decide) ?_
  exact w_bret rfl (by decide) rfl rfl rfl rfl
theorem c_isCounted_no {k : Nat} {I : hI} {J : hJ} {R : hR} (h48 : I 110 48 = Int32.ofNat 64) (hk : 2 ≤ k) : ct k 200 [.ref 110] I J R (some (.int 0)) (m_wr I (Int32.ofNat 2)) J R := by
  obtain ⟨k, rfl⟩ : ∃ k', k = k' + 1 := ⟨k - 1, by omega⟩
  refine ct_of (q := am_m200) (L := [_]) rfl rfl rfl rfl rfl rfl ?_
  refine w_aload_n rfl rfl rfl ?_
  refine w_gf (t := .int 0) (v := .int _) rfl rfl rfl sp110 rfl (congrArg Value.int h48) rfl ?_
  refine w_bipush (x := Int32.ofNat 64) rfl rfl (by decide) ?_
  refine w_ic_neN (t := 15) (f := 9) rfl rfl rfl (by omega) (by omega) (fun c6 => absurd c6 (by omega)) (fun c6 => ?_)
  refine w_aload_n rfl rfl rfl ?_
  refine w_iconst (x := Int32.ofNat 2) rfl rfl (by decide) ?_
  refine w_cv (q := am_m170) (as := [_]) (rest := []) (st' := [_]) rfl rfl rfl rfl rfl rfl sp110 rfl rfl rfl rfl (c_wrong (by omega)) rfl rfl ?_
  exact w_bret rfl (by decide) rfl rfl rfl rfl
theorem c_waitsFor {k : Nat} {I : hI} {J : hJ} {R : hR} {W : Nat} {x : Int32} (hW : W < 96) (h45 : I 110 45 = Int32.ofNat W) (hk : 1 ≤ k) : ct k 201 [.ref 110, .int x] I J R none (am_u (am_u I 134 W x) 110 45 (Int32.ofNat (W + 1))) J R := by
  obtain ⟨k, rfl⟩ : ∃ k', k = k' + 1 := ⟨k - 1, by omega⟩
  refine ct_of (q := am_m201) (L := [_, _]) rfl rfl rfl rfl rfl rfl ?_
  refine w_aload_n rfl rfl rfl ?_
  refine w_gf (t := .ref (134)) (v := .ref (134)) rfl rfl rfl sp110 rfl rfl rfl ?_
  refine w_aload_n rfl rfl rfl ?_
  refine w_gf (t := .int 0) (v := .int _) rfl rfl rfl sp110 rfl (congrArg Value.int h45) rfl ?_
  refine w_iload_n rfl rfl rfl ?_
  refine w_iastore rfl rfl sp134 rfl ⟨by omega, by omega⟩ ?_
  refine w_aload_n rfl rfl rfl ?_
  refine w_dup rfl rfl rfl ?_
  refine w_gf (t := .int 0) (v := .int _) rfl rfl rfl sp110 rfl (congrArg Value.int ((congrFun (am_u_ne (by decide)) _).trans h45)) rfl ?_
  refine w_iconst (x := Int32.ofNat 1) rfl rfl (by decide) ?_
  refine w_iaddN rfl rfl ?_
  refine w_pf rfl rfl rfl sp110 rfl rfl rfl ?_
  exact w_ret rfl rfl rfl rfl
def m_nmt (I : hI) : Int32 := if I 110 8 = Int32.ofNat 1 ∧ ¬ I 110 9 < Int32.ofNat 14 then I 110 9 - Int32.ofNat 14 else Int32.ofInt (-1)
theorem c_nameMet {k : Nat} {I : hI} {J : hJ} {R : hR}  (hk : 1 ≤ k) : ct k 202 [.ref 110] I J R (some (.int (m_nmt I))) I J R := by
  obtain ⟨k, rfl⟩ : ∃ k', k = k' + 1 := ⟨k - 1, by omega⟩
  refine ct_of (q := am_m202) (L := [_]) rfl rfl rfl rfl rfl rfl ?_
  refine w_aload_n rfl rfl rfl ?_
  refine w_gf (t := .int 0) (v := .int _) rfl rfl rfl sp110 rfl (congrArg Value.int rfl) rfl ?_
  refine w_iconst (x := Int32.ofNat 1) rfl rfl (by decide) ?_
  refine w_ic_ne (t := 27) (f := 8) rfl rfl rfl (fun c5 => ?_) (fun c5 => ?_)
  · refine w_iconst (x := Int32.ofInt (-1)) rfl rfl (by decide) ?_
    exact w_iret rfl (by simp only [m_nmt, *, ite_true, ite_false, and_self, and_true, true_and, and_false, false_and, or_true, true_or, or_false, false_or, not_true, not_false_iff] <;> rfl) rfl rfl rfl
  · refine w_aload_n rfl rfl rfl ?_
    refine w_gf (t := .int 0) (v := .int _) rfl rfl rfl sp110 rfl (congrArg Value.int rfl) rfl ?_
    refine w_bipush (x := Int32.ofNat 14) rfl rfl (by decide) ?_
    refine w_ic_lt (t := 27) (f := 17) rfl rfl rfl (fun c14 => ?_) (fun c14 => ?_)
    · refine w_iconst (x := Int32.ofInt (-1)) rfl rfl (by decide) ?_
      exact w_iret rfl (by simp only [m_nmt, *, ite_true, ite_false, and_self, and_true, true_and, and_false, false_and, or_true, true_or, or_false, false_or, not_true, not_false_iff] <;> rfl) rfl rfl rfl
    · refine w_aload_n rfl rfl rfl ?_
      refine w_gf (t := .int 0) (v := .int _) rfl rfl rfl sp110 rfl (congrArg Value.int rfl) rfl ?_
      refine w_bipush (x := Int32.ofNat 14) rfl rfl (by decide) ?_
      refine w_isub rfl rfl ?_
      refine w_goto (pc' := 28) rfl rfl ?_
      exact w_iret rfl (by simp only [m_nmt, *, ite_true, ite_false, and_self, and_true, true_and, and_false, false_and, or_true, true_or, or_false, false_or, not_true, not_false_iff] <;> rfl) rfl rfl rfl
/-- a sign taken from those that wait -/
def m_pop (I : hI) (w H K : Nat) : hI := if I 134 w = Int32.ofNat 2 then m_gr (am_u (am_u I 110 45 (Int32.ofNat w)) 110 46 (Int32.ofNat (H - 1))) K (H - 1) (I 134 w) (I 135 (H - 1)) (Int32.ofInt (-1)) else m_gr (am_u (am_u (am_u I 110 45 (Int32.ofNat w)) 110 46 (Int32.ofNat (H - 1))) 110 46 (Int32.ofNat (H - 1 - 1))) K (H - 1 - 1) (I 134 w) (I 135 (H - 1 - 1)) (I 135 (H - 1))
def m_popH (I : hI) (w H : Nat) : Nat := if I 134 w = Int32.ofNat 2 then H else H - 1
/-- all that bind at least so are taken -/
def m_bi (least : Int32) : Nat → Nat → Nat → hI → hI
  | 0, _, _, I => I
  | w + 1, H, K, I => if m_rk (I 134 w) < least then I else m_bi least w (m_popH I w H) (K + 1) (m_pop I w H K)
theorem m_bi_s (least : Int32) (w H K : Nat) (I : hI) : m_bi least (w + 1) H K I = if m_rk (I 134 w) < least then I else m_bi least w (m_popH I w H) (K + 1) (m_pop I w H K) := rfl
/-- how many that join two wait among the first n; how many brackets -/
def cb (g : Nat → Int32) : Nat → Nat
  | 0 => 0
  | n + 1 => cb g n + (if 3 ≤ nn (g n) then 1 else 0)
def cz (g : Nat → Int32) : Nat → Nat
  | 0 => 0
  | n + 1 => cz g n + (if nn (g n) = 0 then 1 else 0)
theorem cz_le (g : Nat → Int32) (n : Nat) : cz g n ≤ n := by
  induction n with
  | zero => exact Nat.le_refl _
  | succ n ih => show cz g n + _ ≤ _; split <;> omega
theorem cb_le (g : Nat → Int32) (n : Nat) : cb g n + cz g n ≤ n := by
  induction n with
  | zero => exact Nat.le_refl _
  | succ n ih => show (cb g n + (if 3 ≤ nn (g n) then 1 else 0)) + (cz g n + (if nn (g n) = 0 then 1 else 0)) ≤ _; split <;> split <;> omega
theorem cb_c {g g' : Nat → Int32} {n : Nat} (h : ∀ i, i < n → g' i = g i) : cb g' n = cb g n := by
  induction n with
  | zero => rfl
  | succ n ih => show cb g' n + _ = cb g n + _; rw [ih (fun i hi => h i (by omega)), h n (by omega)]
theorem cz_c {g g' : Nat → Int32} {n : Nat} (h : ∀ i, i < n → g' i = g i) : cz g' n = cz g n := by
  induction n with
  | zero => rfl
  | succ n ih => show cz g' n + _ = cz g n + _; rw [ih (fun i hi => h i (by omega)), h n (by omega)]
/-- what waits and what is held while no value is wanted -/
def sw0 (I : hI) (W H K C : Nat) : Prop := I 110 45 = Int32.ofNat W ∧ I 110 46 = Int32.ofNat H ∧ I 110 21 = Int32.ofNat K ∧ H = cb (I 134) W + 1 ∧ K + W = C + cz (I 134) W ∧ C ≤ 64 ∧ cz (I 134) W ≤ 8 ∧ (∀ i, i < W → okn (I 134 i) 15 ∧ nn (I 134 i) ≠ 1)
theorem m_gr_f {I : hI} {K H a i : Nat} {x y z : Int32} (h : ¬ (131 ≤ a ∧ a ≤ 133)) (h2 : a ≠ 135) (h3 : ¬ (a = 110 ∧ (i = 46 ∨ i = 21))) : m_gr I K H x y z a i = I a i := by
  unfold m_gr am_u
  rw [if_neg (by omega), if_neg (by omega), if_neg (by omega), if_neg (by omega), if_neg (by omega), if_neg (by omega)]
theorem m_pop_f {I : hI} {w H K a i : Nat} (h : ¬ (131 ≤ a ∧ a ≤ 133)) (h2 : a ≠ 135) (h3 : ¬ (a = 110 ∧ (i = 46 ∨ i = 21 ∨ i = 45))) : m_pop I w H K a i = I a i := by
  unfold m_pop
  split
  · rw [m_gr_f h h2 (by omega)]
    unfold am_u
    rw [if_neg (by omega), if_neg (by omega)]
  · rw [m_gr_f h h2 (by omega)]
    unfold am_u
    rw [if_neg (by omega), if_neg (by omega), if_neg (by omega)]
theorem m_gr46 {I : hI} {K H : Nat} {x y z : Int32} : m_gr I K H x y z 110 46 = Int32.ofNat (H + 1) := by
  unfold m_gr
  rw [am_u_nk (by decide), am_u_at]
theorem m_gr21 {I : hI} {K H : Nat} {x y z : Int32} : m_gr I K H x y z 110 21 = Int32.ofNat (K + 1) := by
  unfold m_gr
  rw [am_u_at]
theorem sw0_pop {I : hI} {w H K C : Nat} (s : sw0 I (w + 1) H K C) (h0 : nn (I 134 w) ≠ 0) : sw0 (m_pop I w H K) w (m_popH I w H) (K + 1) C ∧ K < 64 ∧ 1 ≤ H ∧ H ≤ 70 ∧ w < 96 ∧ (¬ I 134 w = Int32.ofNat 2 → 2 ≤ H) := by
  obtain ⟨s1, s2, s3, s4, s5, s6, s7, s8⟩ := s
  have hb : cb (I 134) (w + 1) = cb (I 134) w + (if 3 ≤ nn (I 134 w) then 1 else 0) := rfl
  have hz : cz (I 134) (w + 1) = cz (I 134) w + (if nn (I 134 w) = 0 then 1 else 0) := rfl
  rw [if_neg h0] at hz
  have l1 := cb_le (I 134) w
  have l2 := cz_le (I 134) w
  have e8 := s8 w (by omega)
  have hc : ∀ i, m_pop I w H K 134 i = I 134 i := fun i => m_pop_f (by omega) (by omega) (by omega)
  have h3 : I 134 w = Int32.ofNat 2 ↔ nn (I 134 w) = 2 := by
    constructor
    · intro e; rw [e, nn_ofNat (by decide)]
    · intro e; rw [e8.1.1, e]
  have hK : K < 64 := by omega
  by_cases h2 : I 134 w = Int32.ofNat 2
  · have n2 := h3.mp h2
    rw [if_neg (by omega)] at hb
    refine ⟨⟨?_, ?_, ?_, ?_, ?_, s6, ?_, ?_⟩, hK, by omega, by omega, by omega, fun z => absurd h2 z⟩
    · unfold m_pop; rw [if_pos h2, m_gr_f (by omega) (by omega) (by omega), am_u_nk (by decide), am_u_at]
    · unfold m_pop m_popH; rw [if_pos h2, if_pos h2, m_gr46]; congr 1; omega
    · unfold m_pop; rw [if_pos h2, m_gr21]
    · unfold m_popH; rw [if_pos h2, cb_c (fun i _ => hc i)]; omega
    · rw [cz_c (fun i _ => hc i)]; omega
    · rw [cz_c (fun i _ => hc i)]; omega
    · intro i hi; rw [hc i]; exact s8 i (by omega)
  · have n2 : nn (I 134 w) ≠ 2 := fun e => h2 (h3.mpr e)
    rw [if_pos (by omega)] at hb
    refine ⟨⟨?_, ?_, ?_, ?_, ?_, s6, ?_, ?_⟩, hK, by omega, by omega, by omega, fun _ => by omega⟩
    · unfold m_pop; rw [if_neg h2, m_gr_f (by omega) (by omega) (by omega), am_u_nk (by decide), am_u_nk (by decide), am_u_at]
    · unfold m_pop m_popH; rw [if_neg h2, if_neg h2, m_gr46]; congr 1; omega
    · unfold m_pop; rw [if_neg h2, m_gr21]
    · unfold m_popH; rw [if_neg h2, cb_c (fun i _ => hc i)]; omega
    · rw [cz_c (fun i _ => hc i)]; omega
    · rw [cz_c (fun i _ => hc i)]; omega
    · intro i hi; rw [hc i]; exact s8 i (by omega)
theorem rk_0 {x : Int32} {l : Nat} (h1 : 1 ≤ l) (hl : l ≤ 6) (hx : x = Int32.ofNat (nn x)) (h : ¬ m_rk x < Int32.ofNat l) : nn x ≠ 0 := by
  intro e
  rw [e] at hx
  apply h
  rw [hx]
  exact (am_ltN (x := 0) (by omega) (by omega)).mpr (by omega)
/-- the number of those left waiting -/
def m_biW (least : Int32) : Nat → hI → Nat
  | 0, _ => 0
  | w + 1, I => if m_rk (I 134 w) < least then w + 1 else m_biW least w I
theorem l_bind {k : Nat} {J : hJ} {R : hR} {q : Option Value × am_H} {l C : Nat} (h1 : 1 ≤ l) (hl : l ≤ 6) (hk : 1 ≤ k) : ∀ (W H K : Nat) (I : hI) (u v x : Value), sw0 I W H K C → (∀ u v x, wz k 12 none am_c199 76 [.ref 110, .int (Int32.ofNat l), u, v, x] [] (m_bi (Int32.ofNat l) W H K I) J R q) → wz k 12 none am_c199 0 [.ref 110, .int (Int32.ofNat l), u, v, x] [] I J R q := by
  intro W
  induction W with
  | zero =>
    intro H K I u v x s Z
    refine w_aload_n rfl rfl rfl ?_
    refine w_gf (t := .int 0) (v := .int _) rfl rfl rfl sp110 rfl (congrArg Value.int s.1) rfl ?_
    refine w_if_le (t := 76) (f := 7) rfl rfl rfl (fun c4 => ?_) (fun c4 => absurd c4 (by decide))
    exact Z _ _ _
  | succ w ih =>
    intro H K I u v x s Z
    have lz := cz_le (I 134) w
    have hW : w < 96 := by
      have s5 := s.2.2.2.2.1; have s6 := s.2.2.2.2.2.1; have s7 := s.2.2.2.2.2.2.1
      omega
    have hw : w < 96 := hW
    rw [m_bi_s] at Z
    by_cases hr : m_rk (I 134 w) < Int32.ofNat l
    · rw [if_pos hr] at Z
      refine w_aload_n rfl rfl rfl ?_
      refine w_gf (t := .int 0) (v := .int _) rfl rfl rfl sp110 rfl (congrArg Value.int s.1) rfl ?_
      refine w_if_le (t := 76) (f := 7) rfl rfl rfl (fun c4 => absurd c4 (not_not_intro ((am_ltN (x := 0) (by omega) (by omega)).mpr (by omega)))) (fun c4 => ?_)
      refine w_aload_n rfl rfl rfl ?_
      refine w_gf (t := .ref (134)) (v := .ref (134)) rfl rfl rfl sp110 rfl rfl rfl ?_
      refine w_aload_n rfl rfl rfl ?_
      refine w_gf (t := .int 0) (v := .int _) rfl rfl rfl sp110 rfl (congrArg Value.int s.1) rfl ?_
      refine w_iconst (x := Int32.ofNat 1) rfl rfl (by decide) ?_
      refine w_isub rfl rfl ?_
      refine w_iaload rfl rfl sp134 (dn_s w) ⟨hw, by omega⟩ rfl ?_
      refine w_cs (q := am_m196) (na := 1) (as := [_]) (st' := [_]) rfl rfl rfl rfl (by decide) rfl rfl (Nat.le_of_ble_eq_true rfl) rfl rfl rfl (c_rank hk) rfl rfl ?_
      refine w_iload_n rfl rfl rfl ?_
      refine w_ic_lt (t := 76) (f := 25) rfl rfl rfl (fun c22 => ?_) (fun c22 => absurd c22 (not_not_intro hr))
      exact Z _ _ _
    · rw [if_neg hr] at Z
      obtain ⟨s', hK, hH1, hH2, _, hH3⟩ := sw0_pop s (rk_0 h1 hl (s.2.2.2.2.2.2.2 w (by omega)).1.1 hr)
      by_cases h2 : I 134 w = Int32.ofNat 2
      · have ep : m_pop I w H K = _ := if_pos h2
        refine w_aload_n rfl rfl rfl ?_
        refine w_gf (t := .int 0) (v := .int _) rfl rfl rfl sp110 rfl (congrArg Value.int s.1) rfl ?_
        refine w_if_le (t := 76) (f := 7) rfl rfl rfl (fun c4 => absurd c4 (not_not_intro ((am_ltN (x := 0) (by omega) (by omega)).mpr (by omega)))) (fun c4 => ?_)
        refine w_aload_n rfl rfl rfl ?_
        refine w_gf (t := .ref (134)) (v := .ref (134)) rfl rfl rfl sp110 rfl rfl rfl ?_
        refine w_aload_n rfl rfl rfl ?_
        refine w_gf (t := .int 0) (v := .int _) rfl rfl rfl sp110 rfl (congrArg Value.int s.1) rfl ?_
        refine w_iconst (x := Int32.ofNat 1) rfl rfl (by decide) ?_
        refine w_isub rfl rfl ?_
        refine w_iaload rfl rfl sp134 (dn_s w) ⟨hw, by omega⟩ rfl ?_
        refine w_cs (q := am_m196) (na := 1) (as := [_]) (st' := [_]) rfl rfl rfl rfl (by decide) rfl rfl (Nat.le_of_ble_eq_true rfl) rfl rfl rfl (c_rank hk) rfl rfl ?_
        refine w_iload_n rfl rfl rfl ?_
        refine w_ic_lt (t := 76) (f := 25) rfl rfl rfl (fun c22 => absurd c22 hr) (fun c22 => ?_)
        refine w_aload_n rfl rfl rfl ?_
        refine w_dup rfl rfl rfl ?_
        refine w_gf (t := .int 0) (v := .int _) rfl rfl rfl sp110 rfl (congrArg Value.int s.1) rfl ?_
        refine w_iconst (x := Int32.ofNat 1) rfl rfl (by decide) ?_
        refine w_isub rfl rfl ?_
        rw [dn_s]
        refine w_pf rfl rfl rfl sp110 rfl rfl rfl ?_
        refine w_aload_n rfl rfl rfl ?_
        refine w_gf (t := .ref (134)) (v := .ref (134)) rfl rfl rfl sp110 rfl rfl rfl ?_
        refine w_aload_n rfl rfl rfl ?_
        refine w_gf (t := .int 0) (v := .int _) rfl rfl rfl sp110 rfl (congrArg Value.int am_u_at) rfl ?_
        refine w_iaload rfl rfl sp134 rfl ⟨hw, by omega⟩ (congrFun (am_u_ne (by decide)) _) ?_
        refine w_istore_n (L' := [_, _, _, _, _]) rfl rfl rfl ?_
        refine w_iload_n rfl rfl rfl ?_
        refine w_iconst (x := Int32.ofNat 2) rfl rfl (by decide) ?_
        refine w_ic_ne (t := 54) (f := 50) rfl rfl rfl (fun c47 => absurd c47 (not_not_intro h2)) (fun c47 => ?_)
        refine w_iconst (x := Int32.ofInt (-1)) rfl rfl (by decide) ?_
        refine w_goto (pc' := 58) rfl rfl ?_
        refine w_istore_n (L' := [_, _, _, _, _]) rfl rfl rfl ?_
        refine w_aload_n rfl rfl rfl ?_
        refine w_cv (q := am_m198) (as := []) (rest := []) (st' := [_]) rfl rfl rfl rfl rfl rfl sp110 rfl rfl rfl rfl (c_dropHeld hH1 (by omega) ((am_u_nk (by decide)).trans s.2.1) hk) rfl rfl ?_
        refine w_istore (L' := [_, _, _, _, _]) rfl rfl rfl ?_
        refine w_aload_n rfl rfl rfl ?_
        refine w_iload_n rfl rfl rfl ?_
        refine w_iload rfl rfl rfl ?_
        refine w_iload_n rfl rfl rfl ?_
        refine w_cv (q := am_m197) (as := [_, _, _]) (rest := []) (st' := []) rfl rfl rfl rfl rfl rfl sp110 rfl rfl rfl rfl (c_grown hK ((am_u_nk (by decide)).trans ((am_u_nk (by decide)).trans s.2.2.1)) (H := H - 1) (by omega) am_u_at hk) rfl rfl ?_
        refine w_goto (pc' := 0) rfl rfl ?_
        rw [ep] at Z s'
        exact ih _ _ _ _ _ _ s' Z
      · have ep : m_pop I w H K = _ := if_neg h2
        have hH4 := hH3 h2
        refine w_aload_n rfl rfl rfl ?_
        refine w_gf (t := .int 0) (v := .int _) rfl rfl rfl sp110 rfl (congrArg Value.int s.1) rfl ?_
        refine w_if_le (t := 76) (f := 7) rfl rfl rfl (fun c4 => absurd c4 (not_not_intro ((am_ltN (x := 0) (by omega) (by omega)).mpr (by omega)))) (fun c4 => ?_)
        refine w_aload_n rfl rfl rfl ?_
        refine w_gf (t := .ref (134)) (v := .ref (134)) rfl rfl rfl sp110 rfl rfl rfl ?_
        refine w_aload_n rfl rfl rfl ?_
        refine w_gf (t := .int 0) (v := .int _) rfl rfl rfl sp110 rfl (congrArg Value.int s.1) rfl ?_
        refine w_iconst (x := Int32.ofNat 1) rfl rfl (by decide) ?_
        refine w_isub rfl rfl ?_
        refine w_iaload rfl rfl sp134 (dn_s w) ⟨hw, by omega⟩ rfl ?_
        refine w_cs (q := am_m196) (na := 1) (as := [_]) (st' := [_]) rfl rfl rfl rfl (by decide) rfl rfl (Nat.le_of_ble_eq_true rfl) rfl rfl rfl (c_rank hk) rfl rfl ?_
        refine w_iload_n rfl rfl rfl ?_
        refine w_ic_lt (t := 76) (f := 25) rfl rfl rfl (fun c22 => absurd c22 hr) (fun c22 => ?_)
        refine w_aload_n rfl rfl rfl ?_
        refine w_dup rfl rfl rfl ?_
        refine w_gf (t := .int 0) (v := .int _) rfl rfl rfl sp110 rfl (congrArg Value.int s.1) rfl ?_
        refine w_iconst (x := Int32.ofNat 1) rfl rfl (by decide) ?_
        refine w_isub rfl rfl ?_
        rw [dn_s]
        refine w_pf rfl rfl rfl sp110 rfl rfl rfl ?_
        refine w_aload_n rfl rfl rfl ?_
        refine w_gf (t := .ref (134)) (v := .ref (134)) rfl rfl rfl sp110 rfl rfl rfl ?_
        refine w_aload_n rfl rfl rfl ?_
        refine w_gf (t := .int 0) (v := .int _) rfl rfl rfl sp110 rfl (congrArg Value.int am_u_at) rfl ?_
        refine w_iaload rfl rfl sp134 rfl ⟨hw, by omega⟩ (congrFun (am_u_ne (by decide)) _) ?_
        refine w_istore_n (L' := [_, _, _, _, _]) rfl rfl rfl ?_
        refine w_iload_n rfl rfl rfl ?_
        refine w_iconst (x := Int32.ofNat 2) rfl rfl (by decide) ?_
        refine w_ic_ne (t := 54) (f := 50) rfl rfl rfl (fun c47 => ?_) (fun c47 => absurd c47 h2)
        refine w_aload_n rfl rfl rfl ?_
        refine w_cv (q := am_m198) (as := []) (rest := []) (st' := [_]) rfl rfl rfl rfl rfl rfl sp110 rfl rfl rfl rfl (c_dropHeld hH1 (by omega) ((am_u_nk (by decide)).trans s.2.1) hk) rfl rfl ?_
        refine w_istore_n (L' := [_, _, _, _, _]) rfl rfl rfl ?_
        refine w_aload_n rfl rfl rfl ?_
        refine w_cv (q := am_m198) (as := []) (rest := []) (st' := [_]) rfl rfl rfl rfl rfl rfl sp110 rfl rfl rfl rfl (c_dropHeld (H := H - 1) (by omega) (by omega) am_u_at hk) rfl rfl ?_
        refine w_istore (L' := [_, _, _, _, _]) rfl rfl rfl ?_
        refine w_aload_n rfl rfl rfl ?_
        refine w_iload_n rfl rfl rfl ?_
        refine w_iload rfl rfl rfl ?_
        refine w_iload_n rfl rfl rfl ?_
        refine w_cv (q := am_m197) (as := [_, _, _]) (rest := []) (st' := []) rfl rfl rfl rfl rfl rfl sp110 rfl rfl rfl rfl (c_grown hK ((am_u_nk (by decide)).trans ((am_u_nk (by decide)).trans ((am_u_nk (by decide)).trans s.2.2.1))) (H := H - 1 - 1) (by omega) am_u_at hk) rfl rfl ?_
        refine w_goto (pc' := 0) rfl rfl ?_
        rw [ep] at Z s'
        exact ih _ _ _ _ _ _ s' Z
theorem c_bind {k : Nat} {I : hI} {J : hJ} {R : hR} {l W H K C : Nat} (h1 : 1 ≤ l) (hl : l ≤ 6) (s : sw0 I W H K C) (hk : 2 ≤ k) : ct k 199 [.ref 110, .int (Int32.ofNat l)] I J R none (m_bi (Int32.ofNat l) W H K I) J R := by
  obtain ⟨k, rfl⟩ : ∃ k', k = k' + 1 := ⟨k - 1, by omega⟩
  refine ct_of (q := am_m199) (L := [_, _, _, _, _]) rfl rfl rfl rfl rfl rfl ?_
  refine l_bind h1 hl (by omega) W H K I _ _ _ s (fun u v x => ?_)
  exact w_ret rfl rfl rfl rfl
theorem m_biW_c {l : Int32} {I I' : hI} : ∀ W, (∀ i, I' 134 i = I 134 i) → m_biW l W I' = m_biW l W I := by
  intro W
  induction W with
  | zero => intro _; rfl
  | succ w ih =>
    intro h
    show (if m_rk (I' 134 w) < l then w + 1 else m_biW l w I') = (if m_rk (I 134 w) < l then w + 1 else m_biW l w I)
    rw [h w, ih h]
theorem m_biW_le (l : Int32) (I : hI) : ∀ W, m_biW l W I ≤ W := by
  intro W
  induction W with
  | zero => exact Nat.le_refl _
  | succ w ih =>
    show (if m_rk (I 134 w) < l then w + 1 else m_biW l w I) ≤ w + 1
    split <;> omega
theorem m_biW_top (l : Int32) (I : hI) : ∀ W, m_biW l W I = 0 ∨ (0 < m_biW l W I ∧ m_rk (I 134 (m_biW l W I - 1)) < l) := by
  intro W
  induction W with
  | zero => exact Or.inl rfl
  | succ w ih =>
    show (if m_rk (I 134 w) < l then w + 1 else m_biW l w I) = 0 ∨ (0 < (if m_rk (I 134 w) < l then w + 1 else m_biW l w I) ∧ m_rk (I 134 ((if m_rk (I 134 w) < l then w + 1 else m_biW l w I) - 1)) < l)
    by_cases h : m_rk (I 134 w) < l
    · rw [if_pos h]; exact Or.inr ⟨by omega, h⟩
    · rw [if_neg h]; exact ih
theorem bi_ok {l C : Nat} (h1 : 1 ≤ l) (hl : l ≤ 6) : ∀ (W H K : Nat) (I : hI), sw0 I W H K C → sw0 (m_bi (Int32.ofNat l) W H K I) (m_biW (Int32.ofNat l) W I) (cb (I 134) (m_biW (Int32.ofNat l) W I) + 1) (K + W - m_biW (Int32.ofNat l) W I) C ∧ (∀ i, m_bi (Int32.ofNat l) W H K I 134 i = I 134 i) := by
  intro W
  induction W with
  | zero =>
    intro H K I s
    refine ⟨?_, fun i => rfl⟩
    show sw0 I 0 (cb (I 134) 0 + 1) (K + 0 - 0) C
    rw [← s.2.2.2.1]
    exact s
  | succ w ih =>
    intro H K I s
    rw [m_bi_s]
    show sw0 _ (if m_rk (I 134 w) < Int32.ofNat l then w + 1 else m_biW (Int32.ofNat l) w I) (cb (I 134) (if m_rk (I 134 w) < Int32.ofNat l then w + 1 else m_biW (Int32.ofNat l) w I) + 1) (K + (w + 1) - (if m_rk (I 134 w) < Int32.ofNat l then w + 1 else m_biW (Int32.ofNat l) w I)) C ∧ _
    by_cases hr : m_rk (I 134 w) < Int32.ofNat l
    · rw [if_pos hr, if_pos hr]
      refine ⟨?_, fun i => rfl⟩
      rw [← s.2.2.2.1, Nat.add_sub_cancel]
      exact s
    · rw [if_neg hr, if_neg hr]
      obtain ⟨s', _⟩ := sw0_pop s (rk_0 h1 hl (s.2.2.2.2.2.2.2 w (by omega)).1.1 hr)
      have hc : ∀ i, m_pop I w H K 134 i = I 134 i := fun i => m_pop_f (by omega) (by omega) (by omega)
      have h := ih _ _ _ s'
      rw [m_biW_c w hc, show m_pop I w H K 134 = I 134 from funext hc] at h
      refine ⟨?_, fun i => ?_⟩
      · have e : K + (w + 1) - m_biW (Int32.ofNat l) w I = K + 1 + w - m_biW (Int32.ofNat l) w I := by omega
        rw [e]; exact h.1
      · exact h.2 i
theorem m_bi_f {l : Int32} {a i : Nat} (h : ¬ (131 ≤ a ∧ a ≤ 133)) (h2 : a ≠ 135) (h3 : ¬ (a = 110 ∧ (i = 46 ∨ i = 21 ∨ i = 45))) : ∀ (W H K : Nat) (I : hI), m_bi l W H K I a i = I a i := by
  intro W
  induction W with
  | zero => intro H K I; rfl
  | succ w ih =>
    intro H K I
    rw [m_bi_s]
    split
    · rfl
    · rw [ih, m_pop_f h h2 h3]
