/-! The reference: a text read to its end. -/
def m_lnX (I : hI) : Int32 × hI := m_ln I (nn (I 110 17)) (nn (I 110 18)) (nn (I 110 19)) (nn (I 110 20))
def m_txR : Nat → Nat → hI → Option Nat × hI
  | 0, l, I => (some l, I)
  | n + 1, l, I => if I 110 8 = 0 then (some l, I) else if (m_lnX I).1 = 0 then (none, (m_lnX I).2) else m_txR n (l + 1) (m_lnX I).2
theorem m_txR_s (n l : Nat) (I : hI) : m_txR (n + 1) l I = if I 110 8 = 0 then (some l, I) else if (m_lnX I).1 = 0 then (none, (m_lnX I).2) else m_txR n (l + 1) (m_lnX I).2 := rfl
theorem l_text {k : Nat} {J : hJ} {R : hR} {x : Nat} {f : Nat → Int32} {st : Nat} {r : Option Value × am_H} (hk : 7 ≤ k) : ∀ (n l : Nat) (I : hI), pv I f st → tv I → bI01 I → (∃ a b c d K, rc I a b c d K) → mu I st < n → (∀ l', (m_txR n l I).1 = some l' → bI01 (m_txR n l I).2 → wz k 12 (some .int) am_c193 77 [.ref 110, .int (Int32.ofNat x), .int (Int32.ofNat l')] [] (m_txR n l I).2 J R r) → ((m_txR n l I).1 = none → r = (some (.int (Int32.ofInt (-1))), am_hp (m_txR n l I).2 J R)) → wz k 12 (some .int) am_c193 55 [.ref 110, .int (Int32.ofNat x), .int (Int32.ofNat l)] [] I J R r := by
  intro n
  induction n with
  | zero => intro l I _ _ _ _ h; omega
  | succ n ih =>
    intro l I g v h01 q hm Z Z0
    obtain ⟨a, b, c, d, K, q⟩ := q
    have e17 : nn (I 110 17) = a := by rw [q.1.1, nn_ofNat (by have := q.1.2; omega)]
    have e18 : nn (I 110 18) = b := by rw [q.2.1.1, nn_ofNat (by have := q.2.1.2; omega)]
    have e19 : nn (I 110 19) = c := by rw [q.2.2.1.1, nn_ofNat (by have := q.2.2.1.2; omega)]
    have e20 : nn (I 110 20) = d := by rw [q.2.2.2.1.1, nn_ofNat (by have := q.2.2.2.1.2; omega)]
    have hX : m_lnX I = m_ln I a b c d := by unfold m_lnX; rw [e17, e18, e19, e20]
    rw [m_txR_s, hX] at Z Z0
    refine w_aload_n rfl rfl rfl ?_
    refine w_gf (t := .int 0) (v := .int _) rfl rfl rfl sp110 rfl (congrArg Value.int rfl) rfl ?_
    refine w_if_eq (t := 77) (f := 62) rfl rfl rfl (fun c59 => ?_) (fun c59 => ?_)
    · rw [if_pos c59] at Z
      exact Z l rfl h01
    · refine w_aload_n rfl rfl rfl ?_
      refine w_cv (q := am_m192) (as := []) (rest := []) (st' := [_]) rfl rfl rfl rfl rfl rfl sp110 rfl rfl rfl rfl (c_lineRead g v q hk) rfl rfl ?_
      refine w_if_ne (t := 71) (f := 69) rfl rfl rfl (fun c66 => ?_) (fun c66 => ?_)
      · refine w_iinc (L' := [_, _, _]) rfl rfl rfl (am_incN 1) rfl ?_
        refine w_goto (pc' := 55) rfl rfl ?_
        rw [if_neg c59, if_neg c66] at Z Z0
        obtain ⟨X, e1, e2, e3, e4⟩ := ln_ok q g h01 c66
        rw [e1] at Z Z0 ⊢
        obtain ⟨a1, b1, c1, d1, K1, q1⟩ := e2.2.2
        have gx := e2.1
        have mx : mu (m_tok X) st < mu X st := mu_tok gx rfl e4
        have ml := e2.2.1
        exact ih (l + 1) (m_tok X) (pv_tok gx) (tv_tok X) (b01_c (p8_tok p8_rf) e3) ⟨a1, b1, c1, d1, K1, by unfold rc at q1 ⊢; rw [m_tok_f (by omega), m_tok_f (by omega), m_tok_f (by omega), m_tok_f (by omega), m_tok_f (by omega), m_tok_f (by omega)]; exact q1⟩ (by omega) Z Z0
      · rw [if_neg c59, if_pos c66] at Z0
        rw [Z0 rfl]
        refine w_iconst (x := Int32.ofInt (-1)) rfl rfl (by decide) ?_
        exact w_iret rfl rfl rfl rfl rfl
def m_tx1 (I : hI) (n : Nat) : hI := am_u (am_u (am_u (am_u (am_u (m_z I) 110 6 (Int32.ofNat n)) 110 1 (Int32.ofNat 0)) 110 4 (Int32.ofNat 0)) 110 5 (Int32.ofInt (-1))) 110 7 (Int32.ofNat 0)
def m_tx2 (I : hI) (n : Nat) : hI := m_tok (m_pl (m_tx1 I n))
def m_tx (I : hI) (n : Nat) : Option Nat × hI := m_txR 800 0 (m_tx2 I n)
def m_text (I : hI) (n : Nat) : Int32 := match (m_tx I n).1 with
  | some l => Int32.ofNat l
  | none => Int32.ofInt (-1)
def m_textI (I : hI) (n : Nat) : hI := match (m_tx I n).1 with
  | some _ => m_beI (m_ktI (m_tx I n).2)
  | none => (m_tx I n).2
def m_textJ (I : hI) (J : hJ) (n : Nat) : hJ := match (m_tx I n).1 with
  | some _ => am_u J 110 62 (m_af 0 (m_ktI (m_tx I n).2) 114 1).toInt64
  | none => J
theorem m_pl_f {I : hI} {a i : Nat} (h1 : a ≠ 113 ∧ a ≠ 114 ∧ a ≠ 122 ∧ a ≠ 128) (h2 : a = 110 → ¬ (17 ≤ i ∧ i ≤ 21) ∧ i ≠ 48) : m_pl I a i = I a i := by
  have e3 : ∀ n X, m_pl3 n X a i = X a i := by
    intro n X
    induction n with
    | zero => rfl
    | succ n ih => exact (am_u_na (by omega)).trans ih
  have e2 : ∀ n X, m_pl2 n X a i = X a i := by
    intro n X
    induction n with
    | zero => rfl
    | succ n ih => exact (am_u_na (by omega)).trans ih
  have e1 : ∀ n X, m_pl1 n X a i = X a i := by
    intro n X
    induction n with
    | zero => rfl
    | succ n ih => exact (am_u_na (by omega)).trans ((am_u_na (by omega)).trans ih)
  unfold m_pl
  rw [e3, e2, e1]
  unfold m_pl0 am_u
  rw [if_neg (by omega), if_neg (by omega), if_neg (by omega), if_neg (by omega), if_neg (by omega), if_neg (by omega)]
theorem m_pl_rc (I : hI) : rc (m_pl I) 0 0 0 0 0 := ⟨⟨rfl, by omega⟩, ⟨rfl, by omega⟩, ⟨rfl, by omega⟩, ⟨rfl, by omega⟩, rfl, rfl, by omega⟩
theorem m_pl_b (I : hI) : bI01 (m_pl I) := by
  intro i h1 h2
  have : i = 3 ∨ i = 4 ∨ i = 5 := by omega
  rcases this with rfl | rfl | rfl <;> exact Or.inl rfl
theorem c_text_no {k : Nat} {I : hI} {J : hJ} {R : hR} {x : Int32} (hx : ¬ (¬ x < 0 ∧ ¬ I 110 1 < x)) (hk : 1 ≤ k) : ct k 193 [.ref 110, .int x] I J R (some (.int (Int32.ofInt (-2)))) (m_z I) J R := by
  obtain ⟨k, rfl⟩ : ∃ k', k = k' + 1 := ⟨k - 1, by omega⟩
  refine ct_of (q := am_m193) (o := 12) (rt := (some .int)) (co := am_c193) (L := [_, _, _]) rfl rfl rfl rfl rfl rfl ?_
  refine w_aload_n rfl rfl rfl ?_
  refine w_iconst (x := Int32.ofNat 0) rfl rfl (by decide) ?_
  refine w_pf rfl rfl rfl sp110 rfl rfl rfl ?_
  refine w_iload_n rfl rfl rfl ?_
  refine w_if_lt (t := 17) (f := 9) rfl rfl rfl (fun c6 => ?_) (fun c6 => ?_)
  · refine w_bipush (x := Int32.ofInt (-2)) rfl rfl (by decide) ?_
    exact w_iret rfl rfl rfl rfl rfl
  · refine w_iload_n rfl rfl rfl ?_
    refine w_aload_n rfl rfl rfl ?_
    refine w_gf (t := .int 0) (v := .int _) rfl rfl rfl sp110 rfl (congrArg Value.int (am_u_nk (by decide))) rfl ?_
    refine w_ic_le (t := 20) (f := 17) rfl rfl rfl (fun c14 => ?_) (fun c14 => ?_)
    · exact (hx ⟨c6, c14⟩).elim
    · refine w_bipush (x := Int32.ofInt (-2)) rfl rfl (by decide) ?_
      exact w_iret rfl rfl rfl rfl rfl
theorem c_text {k : Nat} {I : hI} {J : hJ} {R : hR} {n z : Nat} (hW : ∀ i, i < 106 → I 112 i = Int32.ofNat (wd i)) (hn : n ≤ z) (hz : z ≤ 700) (h1 : I 110 1 = Int32.ofNat z) (hk : 8 ≤ k) : ct k 193 [.ref 110, .int (Int32.ofNat n)] I J R (some (.int (m_text I n))) (m_textI I n) (m_textJ I J n) R := by
  obtain ⟨k, rfl⟩ : ∃ k', k = k' + 1 := ⟨k - 1, by omega⟩
  have g1 : pv (m_pl (m_tx1 I n)) (I 111) n := by
    refine ⟨funext fun i => m_pl_f (by omega) (by omega), fun i hi => (m_pl_f (by omega) (by omega)).trans (hW i hi), (m_pl_f (by omega) (by omega)).trans rfl, by omega, ?_⟩
    rw [m_pl_f (by omega) (by omega)]
    exact okn_of (by omega) (by omega)
  have g2 : pv (m_tx2 I n) (I 111) n := pv_tok g1
  have q2 : rc (m_tx2 I n) 0 0 0 0 0 := by
    have q1 := m_pl_rc (m_tx1 I n)
    unfold m_tx2
    unfold rc at q1 ⊢
    rw [m_tok_f (by omega), m_tok_f (by omega), m_tok_f (by omega), m_tok_f (by omega), m_tok_f (by omega), m_tok_f (by omega)]
    exact q1
  have b2 : bI01 (m_tx2 I n) := b01_c (p8_tok p8_rf) (m_pl_b _)
  refine ct_of (q := am_m193) (o := 12) (rt := (some .int)) (co := am_c193) (L := [_, _, _]) rfl rfl rfl rfl rfl rfl ?_
  refine w_aload_n rfl rfl rfl ?_
  refine w_iconst (x := Int32.ofNat 0) rfl rfl (by decide) ?_
  refine w_pf rfl rfl rfl sp110 rfl rfl rfl ?_
  refine w_iload_n rfl rfl rfl ?_
  refine w_if_lt (t := 17) (f := 9) rfl rfl rfl (fun c6 => absurd c6 (am_oN0 (by omega))) (fun c6 => ?_)
  refine w_iload_n rfl rfl rfl ?_
  refine w_aload_n rfl rfl rfl ?_
  refine w_gf (t := .int 0) (v := .int _) rfl rfl rfl sp110 rfl (congrArg Value.int ((am_u_nk (by decide)).trans h1)) rfl ?_
  refine w_ic_leN (t := 20) (f := 17) rfl rfl rfl (by omega) (by omega) (fun c14 => ?_) (fun c14 => absurd c14 (by omega))
  refine w_aload_n rfl rfl rfl ?_
  refine w_iload_n rfl rfl rfl ?_
  refine w_pf rfl rfl rfl sp110 rfl rfl rfl ?_
  refine w_aload_n rfl rfl rfl ?_
  refine w_iconst (x := Int32.ofNat 0) rfl rfl (by decide) ?_
  refine w_pf rfl rfl rfl sp110 rfl rfl rfl ?_
  refine w_aload_n rfl rfl rfl ?_
  refine w_iconst (x := Int32.ofNat 0) rfl rfl (by decide) ?_
  refine w_pf rfl rfl rfl sp110 rfl rfl rfl ?_
  refine w_aload_n rfl rfl rfl ?_
  refine w_iconst (x := Int32.ofInt (-1)) rfl rfl (by decide) ?_
  refine w_pf rfl rfl rfl sp110 rfl rfl rfl ?_
  refine w_aload_n rfl rfl rfl ?_
  refine w_iconst (x := Int32.ofNat 0) rfl rfl (by decide) ?_
  refine w_pf rfl rfl rfl sp110 rfl rfl rfl ?_
  refine w_aload_n rfl rfl rfl ?_
  refine w_cv (q := am_m180) (as := []) (rest := []) (st' := []) rfl rfl rfl rfl rfl rfl sp110 rfl rfl rfl rfl (c_plain (by omega)) rfl rfl ?_
  refine w_aload_n rfl rfl rfl ?_
  refine w_cv (q := am_m174) (as := []) (rest := []) (st' := []) rfl rfl rfl rfl rfl rfl sp110 rfl rfl rfl rfl (c_tok g1 (by omega)) rfl rfl ?_
  refine w_iconst (x := Int32.ofNat 0) rfl rfl (by decide) ?_
  refine w_istore_n (L' := [_, _, _]) rfl rfl rfl ?_
  change wz _ _ _ _ _ _ _ (m_tx2 I n) _ _ _
  refine l_text (f := I 111) (st := n) (by omega) 800 0 (m_tx2 I n) g2 (tv_tok _) b2 ⟨0, 0, 0, 0, 0, q2⟩ (by unfold mu; split <;> omega) (fun l' hl hb => ?_) (fun hl => (by unfold m_text m_textI m_textJ m_tx; rw [hl]))
  refine w_aload_n rfl rfl rfl ?_
  refine w_cv (q := am_m182) (as := []) (rest := []) (st' := []) rfl rfl rfl rfl rfl rfl sp110 rfl rfl rfl rfl (c_keepText hb (by omega)) rfl rfl ?_
  refine w_iload_n rfl rfl rfl ?_
  exact w_iret rfl (by unfold m_text m_tx; rw [hl]) (by unfold m_textI m_tx; rw [hl]) (by unfold m_textJ m_tx; rw [hl]) rfl
