/-! The reference: a line. -/
theorem pv_mkL {I : hI} {f : Nat → Int32} {st a : Nat} (g : pv I f st) : pv (m_mkL I a).2 f st := by
  have v1 : pv (ml1 I a).2 f st := pv_new (by decide) (pv_tok g)
  have v2 : pv (ml2 I a).2 f st := pv_num v1
  have v3 : pv (ml3 I a) f st := pv_u (by omega) (by omega) v2
  have v4 : pv (ml4 I a).2 f st := pv_num v3
  unfold m_mkL
  (repeat' split) <;> dsimp only
  · exact pv_wr g
  · exact v1
  · exact v2
  · exact v4
  · unfold ml5
    exact pv_u (by omega) (by omega) (pv_u (by omega) (by omega) v4)
theorem pv_rpL {I : hI} {f : Nat → Int32} {st a b : Nat} (g : pv I f st) : pv (m_rpL I a b).2 f st := by
  have v1 : pv (rl1 I b).2 f st := pv_new (by decide) (pv_tok g)
  have v2 : pv (rl2 I a b).2 f st := pv_the v1
  have v3 : pv (rl3 I a b) f st := pv_u (by omega) (by omega) v2
  have v4 : pv (rl4 I a b).2 f st := pv_num v3
  have v5 : pv (rl5 I a b) f st := pv_u (by omega) (by omega) v4
  have v6 : pv (rl6 I a b).2 f st := pv_num v5
  unfold m_rpL
  (repeat' split) <;> dsimp only
  · exact pv_wr g
  · exact v1
  · exact v2
  · exact v4
  · exact v6
  · unfold rl7
    exact pv_u (by omega) (by omega) (pv_u (by omega) (by omega) v6)
theorem pv_shL {I : hI} {f : Nat → Int32} {st c : Nat} (g : pv I f st) : pv (m_shL I c).2 f st := by
  have v1 : pv (sl1 I c).2 f st := pv_new (by decide) (pv_tok g)
  have v2 : pv (sl2 I c).2 f st := pv_num v1
  unfold m_shL
  (repeat' split) <;> dsimp only
  · exact pv_wr g
  · exact v1
  · exact v2
  · unfold sl3
    exact pv_u (by omega) (by omega) (pv_u (by omega) (by omega) v2)
theorem pv_rgL {I : hI} {f : Nat → Int32} {st b c : Nat} (g : pv I f st) : pv (m_rgL I b c).2 f st := by
  have v1 : pv (gl1 I b).2 f st := pv_the (pv_tok g)
  have v2 : pv (gl2 I b c).2 f st := pv_the v1
  unfold m_rgL
  (repeat' split) <;> dsimp only
  · exact v1
  · exact v2
  · exact pv_u (by omega) (by omega) v2
  · exact pv_wr (pv_u (by omega) (by omega) v1)
theorem pv_saL {I : hI} {f : Nat → Int32} {st c d : Nat} (g : pv I f st) : pv (m_saL I c d).2 f st := by
  have v1 : pv (al1 I c).2 f st := pv_the (pv_tok g)
  have v2 : pv (al2 I c d) f st := pv_u (by omega) (by omega) v1
  have v3 : pv (al3 I c d).2 f st := pv_num v2
  have v4 : pv (al4 I c d) f st := pv_u (by omega) (by omega) v3
  have v5 : pv (al5 I c d).2 f st := pv_num v4
  unfold m_saL
  (repeat' split) <;> dsimp only
  · exact pv_wr g
  · exact v1
  · exact v3
  · exact v5
  · unfold al6
    exact pv_u (by omega) (by omega) (pv_u (by omega) (by omega) v5)
theorem pv_onL {I : hI} {f : Nat → Int32} {st j : Nat} {m : Int32} (g : pv I f st) : pv (m_onL I j m).2 f st := by
  have v1 : pv (ol1 I j m).2 f st := pv_num (pv_tok (pv_u (by omega) (by omega) g))
  unfold m_onL
  (repeat' split) <;> dsimp only
  · exact v1
  · exact pv_u (by omega) (by omega) v1
  · exact pv_wr g
theorem pv_leaf {I : hI} {f : Nat → Int32} {st W H K B C : Nat} (g : pv I f st) : pv (m_leaf I W H K B C).2 f st := by
  unfold m_leaf
  (repeat' split) <;> dsimp only
  · exact pv_wr g
  · exact pv_tok (pv_u (by omega) (by omega) (pv_u (by omega) (by omega) (pv_u (by omega) (by omega) (pv_u (by omega) (by omega) g))))
  · exact pv_wr g
  · exact pv_tok (pv_u (by omega) (by omega) (pv_u (by omega) (by omega) (pv_u (by omega) (by omega) g)))
  · exact pv_wr g
  · exact pv_wr g
  · exact pv_wr g
  · exact pv_tok (pv_u (by omega) (by omega) (pv_gr (pv_u (by omega) (by omega) g)))
  · exact pv_tok (pv_u (by omega) (by omega) (pv_gr (pv_u (by omega) (by omega) g)))
theorem pv_sg {I : hI} {f : Nat → Int32} {st W H K B C : Nat} (g : pv I f st) : pv (m_sg I W H K B C).2 f st := by
  unfold m_sg
  split
  · exact pv_tok (pv_u (by omega) (by omega) (pv_u (by omega) (by omega) (pv_bi g)))
  · split
    · exact pv_wr g
    · unfold m_sg1
      split
      · exact pv_wr (pv_bi g)
      · split
        · exact pv_wr (pv_bi g)
        · exact pv_tok (pv_u (by omega) (by omega) (pv_u (by omega) (by omega) (pv_u (by omega) (by omega) (pv_u (by omega) (by omega) (pv_u (by omega) (by omega) (pv_bi g))))))
theorem pv_sumL {f : Nat → Int32} {st : Nat} : ∀ n (I : hI), pv I f st → pv (m_sumL n I).2 f st := by
  intro n
  induction n with
  | zero => intro I g; exact g
  | succ n ih =>
    intro I g
    have g2 : pv (m_sumS I).2 f st := by
      unfold m_sumS
      split
      · exact pv_sg g
      · exact pv_leaf g
    rw [m_sumL_s]
    split
    · exact pv_bi g
    · split
      · exact g2
      · exact ih _ g2
theorem pv_sum {I : hI} {f : Nat → Int32} {st : Nat} (g : pv I f st) : pv (m_sum I).2 f st := pv_sumL 800 _ (pv_u (by omega) (by omega) (pv_u (by omega) (by omega) (pv_u (by omega) (by omega) (pv_u (by omega) (by omega) (pv_u (by omega) (by omega) g)))))
def m_lnE (r : Int32 × hI) : Int32 × hI := if r.1 = 0 then (0, r.2) else if r.2 110 8 = Int32.ofNat 4 ∧ r.2 110 9 = Int32.ofNat 59 then (1, m_tok r.2) else (0, m_wr r.2 (Int32.ofNat 1))
theorem l_lnE {k : Nat} {J : hJ} {R : hR} {f : Nat → Int32} {st : Nat} {r : Int32 × hI} {u : Value} (g : pv r.2 f st) (hk : 2 ≤ k) : wz k 12 (some .boolean) am_c192 227 [.ref 110, .int r.1, u] [] r.2 J R (some (.int (m_lnE r).1), am_hp (m_lnE r).2 J R) := by
  refine w_iload_n rfl rfl rfl ?_
  refine w_if_ne (t := 233) (f := 231) rfl rfl rfl (fun c228 => ?_) (fun c228 => ?_)
  · refine w_aload_n rfl rfl rfl ?_
    refine w_bipush (x := Int32.ofNat 59) rfl rfl (by decide) ?_
    refine w_cv (q := am_m178) (as := [_]) (rest := []) (st' := [_]) rfl rfl rfl rfl rfl rfl sp110 rfl rfl rfl rfl (c_isSign (by omega)) rfl rfl ?_
    refine w_if_neB (t := 248) (f := 242) rfl rfl rfl (fun c239 => ?_) (fun c239 => ?_)
    · refine w_aload_n rfl rfl rfl ?_
      refine w_cv (q := am_m174) (as := []) (rest := []) (st' := []) rfl rfl rfl rfl rfl rfl sp110 rfl rfl rfl rfl (c_tok g (by omega)) rfl rfl ?_
      refine w_iconst (x := Int32.ofNat 1) rfl rfl (by decide) ?_
      have hE : m_lnE r = (1, m_tok r.2) := (if_neg c228).trans (if_pos c239)
      exact w_bret rfl (by decide) (by rw [hE] <;> rfl) (by rw [hE]) rfl rfl
    · refine w_aload_n rfl rfl rfl ?_
      refine w_iconst (x := Int32.ofNat 1) rfl rfl (by decide) ?_
      refine w_cv (q := am_m170) (as := [_]) (rest := []) (st' := [_]) rfl rfl rfl rfl rfl rfl sp110 rfl rfl rfl rfl (c_wrong (by omega)) rfl rfl ?_
      have hE : m_lnE r = (0, m_wr r.2 (Int32.ofNat 1)) := (if_neg c228).trans (if_neg c239)
      exact w_bret rfl (by decide) (by rw [hE] <;> rfl) (by rw [hE]) rfl rfl
  · refine w_iconst (x := Int32.ofNat 0) rfl rfl (by decide) ?_
    have hE : m_lnE r = (0, r.2) := if_pos c228
    exact w_bret rfl (by decide) (by rw [hE] <;> rfl) (by rw [hE]) rfl rfl
def lw1 (I : hI) : hI := m_tok I
def lk (I : hI) : Nat := 3 + nn (lw1 I 110 9) - 8
def lw3 (I : hI) : hI := m_tok (am_u (lw1 I) 128 (lk I) (Int32.ofNat 1))
def lw4 (I : hI) : hI := am_u (lw3 I) 129 (lk I) (lw3 I 110 21)
def lw5 (I : hI) : Int32 × hI := m_sum (lw4 I)
def lw6 (I : hI) : hI := am_u (lw5 I).2 130 (lk I) ((lw5 I).2 110 21)
def m_lwP (I : hI) : Prop := lw1 I 110 8 = Int32.ofNat 1 ∧ ¬ lw1 I 110 9 < Int32.ofNat 8 ∧ ¬ Int32.ofNat 10 < lw1 I 110 9
def m_lwPD (I : hI) : Decidable (m_lwP I) := inferInstanceAs (Decidable (_ ∧ _))
def m_lwL (I : hI) : Int32 × hI := @ite _ (m_lwP I) (m_lwPD I) (if lw1 I 128 (lk I) = 0 then m_lnE ((lw5 I).1, lw6 I) else (0, m_wr (lw1 I) (Int32.ofNat 3))) (0, m_wr (lw1 I) (Int32.ofNat 1))
def m_ln (I : hI) (a b c d : Nat) : Int32 × hI := if I 110 8 = Int32.ofNat 1 ∧ ¬ Int32.ofNat 7 < I 110 9 then (if I 110 9 = Int32.ofNat 0 then m_lnE (m_mkL I a) else if I 110 9 = Int32.ofNat 1 then m_lnE (m_rpL I a b) else if I 110 9 = Int32.ofNat 2 then m_lnE (m_shL I c) else if I 110 9 = Int32.ofNat 3 then m_lnE (m_rgL I b c) else if I 110 9 = Int32.ofNat 4 then m_lnE (m_saL I c d) else if I 110 9 = Int32.ofNat 5 then m_lnE (m_onL I 0 (Int32.ofNat 100)) else if I 110 9 = Int32.ofNat 6 then m_lnE (m_onL I 1 (Int32.ofNat 99999)) else m_lwL I) else (0, m_wr I (Int32.ofNat 1))
