/-! The reference: reading goes on and comes to an end. -/
theorem mu_c {I I' : hI} {st : Nat} (h7 : I' 110 7 = I 110 7) (h8 : I' 110 8 = I 110 8) : mu I' st = mu I st := by
  unfold mu
  rw [h7, h8]
theorem mu_tok_le {X : hI} {f : Nat → Int32} {st : Nat} (g : pv X f st) : mu (m_tok X) st ≤ mu X st := by
  by_cases h8 : X 110 8 = 0
  · have e6 := pv_nn g
    have g5 := g.2.2.2.2
    have g4 := g.2.2.2.1
    unfold mu
    rw [if_pos h8, m_tok_7, m_tok_8, e6]
    have la := t_at_le (f := X 111) (st := st) (p := nn (X 110 7)) (by have := g5.2; omega)
    have lo := t_one_le (f := X 111) (w := X 110 9) la.2
    rw [nn_ofNat (by omega)]
    by_cases e : t_at (X 111) st (nn (X 110 7)) = st
    · have e0 : t_one (X 111) st (t_at (X 111) st (nn (X 110 7))) (X 110 9) = (t_at (X 111) st (nn (X 110 7)), Int32.ofNat 0, X 110 9) := by unfold t_one; rw [if_pos e]
      rw [e0]
      dsimp only
      rw [if_pos (show Int32.ofNat 0 = 0 from rfl), e]
      omega
    · have := t_one_gt (f := X 111) (w := X 110 9) (show t_at (X 111) st (nn (X 110 7)) < st by omega)
      split <;> omega
  · exact Nat.le_of_lt (mu_tok g rfl h8)
/-- reading from I0 has come to X -/
def pm (I0 X : hI) (f : Nat → Int32) (st : Nat) : Prop := pv X f st ∧ mu X st ≤ mu I0 st ∧ ∀ i, 12 ≤ i → i ≤ 20 → X 110 i = I0 110 i
theorem pm_rf {I : hI} {f : Nat → Int32} {st : Nat} (g : pv I f st) : pm I I f st := ⟨g, Nat.le_refl _, fun _ _ _ => rfl⟩
theorem pm_tok {I0 X : hI} {f : Nat → Int32} {st : Nat} (g : pm I0 X f st) : pm I0 (m_tok X) f st := ⟨pv_tok g.1, Nat.le_trans (mu_tok_le g.1) g.2.1, fun i h1 h2 => (m_tok_f (by omega)).trans (g.2.2 i h1 h2)⟩
theorem pm_u {I0 X : hI} {f : Nat → Int32} {st a k : Nat} {x : Int32} (h1 : a ≠ 111 ∧ a ≠ 112) (h2 : a = 110 → k < 6 ∨ (8 < k ∧ k < 12) ∨ 20 < k) (g : pm I0 X f st) : pm I0 (am_u X a k x) f st := by
  refine ⟨pv_u h1 (by omega) g.1, ?_, fun i h3 h4 => ?_⟩
  · rw [mu_c (I := X)]
    · exact g.2.1
    · unfold am_u; rw [if_neg (by omega)]
    · unfold am_u; rw [if_neg (by omega)]
  · unfold am_u; rw [if_neg (by omega)]; exact g.2.2 i h3 h4
theorem pm_wr {I0 X : hI} {f : Nat → Int32} {st : Nat} {x : Int32} (g : pm I0 X f st) : pm I0 (m_wr X x) f st := pm_u (by omega) (by omega) (pm_u (by omega) (by omega) g)
theorem pm_num {I0 X : hI} {f : Nat → Int32} {st : Nat} {lo hi : Int32} (g : pm I0 X f st) : pm I0 (m_num X lo hi).2 f st := by
  unfold m_num
  (repeat' split) <;> dsimp only
  · exact pm_tok (pm_u (by omega) (by omega) g)
  · exact pm_wr g
  · exact pm_wr g
theorem pm_new {I0 X : hI} {f : Nat → Int32} {st A x n : Nat} (hA : A ≠ 110 ∧ A ≠ 111 ∧ A ≠ 112) (g : pm I0 X f st) : pm I0 (m_new X A x n).2 f st := by
  unfold m_new
  (repeat' split) <;> dsimp only
  · exact pm_tok (pm_u (by omega) (by omega) g)
  · exact pm_wr g
  · exact pm_wr g
theorem pm_the {I0 X : hI} {f : Nat → Int32} {st A x n : Nat} (g : pm I0 X f st) : pm I0 (m_the X A x n).2 f st := by
  unfold m_the
  (repeat' split) <;> dsimp only
  · exact pm_wr g
  · exact pm_u (by omega) (by omega) (pm_tok g)
  · exact pm_wr g
theorem pm_gr {I0 X : hI} {f : Nat → Int32} {st K H : Nat} {x y z : Int32} (g : pm I0 X f st) : pm I0 (m_gr X K H x y z) f st := by
  unfold m_gr
  exact pm_u (by omega) (by omega) (pm_u (by omega) (by omega) (pm_u (by omega) (by omega) (pm_u (by omega) (by omega) (pm_u (by omega) (by omega) (pm_u (by omega) (by omega) g)))))
theorem pm_bi {I0 X : hI} {f : Nat → Int32} {st W H K : Nat} {l : Int32} (g : pm I0 X f st) : pm I0 (m_bi l W H K X) f st := by
  refine ⟨pv_bi g.1, ?_, fun i h3 h4 => (m_bi_f (by omega) (by omega) (by omega) W H K X).trans (g.2.2 i h3 h4)⟩
  rw [mu_c (I := X) (m_bi_f (by omega) (by omega) (by omega) W H K X) (m_bi_f (by omega) (by omega) (by omega) W H K X)]
  exact g.2.1
theorem pm_leaf {I0 X : hI} {f : Nat → Int32} {st W H K B C : Nat} (g : pm I0 X f st) : pm I0 (m_leaf X W H K B C).2 f st := by
  unfold m_leaf
  (repeat' split) <;> dsimp only
  · exact pm_wr g
  · exact pm_tok (pm_u (by omega) (by omega) (pm_u (by omega) (by omega) (pm_u (by omega) (by omega) (pm_u (by omega) (by omega) g))))
  · exact pm_wr g
  · exact pm_tok (pm_u (by omega) (by omega) (pm_u (by omega) (by omega) (pm_u (by omega) (by omega) g)))
  · exact pm_wr g
  · exact pm_wr g
  · exact pm_wr g
  · exact pm_tok (pm_u (by omega) (by omega) (pm_gr (pm_u (by omega) (by omega) g)))
  · exact pm_tok (pm_u (by omega) (by omega) (pm_gr (pm_u (by omega) (by omega) g)))
theorem pm_sg {I0 X : hI} {f : Nat → Int32} {st W H K B C : Nat} (g : pm I0 X f st) : pm I0 (m_sg X W H K B C).2 f st := by
  unfold m_sg
  split
  · exact pm_tok (pm_u (by omega) (by omega) (pm_u (by omega) (by omega) (pm_bi g)))
  · split
    · exact pm_wr g
    · unfold m_sg1
      split
      · exact pm_wr (pm_bi g)
      · split
        · exact pm_wr (pm_bi g)
        · exact pm_tok (pm_u (by omega) (by omega) (pm_u (by omega) (by omega) (pm_u (by omega) (by omega) (pm_u (by omega) (by omega) (pm_u (by omega) (by omega) (pm_bi g))))))
theorem pm_sumL {I0 : hI} {f : Nat → Int32} {st : Nat} : ∀ n (X : hI), pm I0 X f st → pm I0 (m_sumL n X).2 f st := by
  intro n
  induction n with
  | zero => intro I g; exact g
  | succ n ih =>
    intro I g
    have g2 : pm I0 (m_sumS I).2 f st := by
      unfold m_sumS
      split
      · exact pm_sg g
      · exact pm_leaf g
    rw [m_sumL_s]
    split
    · exact pm_bi g
    · split
      · exact g2
      · exact ih _ g2
theorem pm_sum {I0 X : hI} {f : Nat → Int32} {st : Nat} (g : pm I0 X f st) : pm I0 (m_sum X).2 f st := pm_sumL 800 _ (pm_u (by omega) (by omega) (pm_u (by omega) (by omega) (pm_u (by omega) (by omega) (pm_u (by omega) (by omega) (pm_u (by omega) (by omega) g)))))
/-- a sum that is read leaves nothing waiting -/
theorem sum_end {f : Nat → Int32} {st : Nat} : ∀ n (I : hI), smX I → pv I f st → tv I → ¬ (m_sumL n I).1 = 0 → ∃ K, K ≤ 64 ∧ (m_sumL n I).2 110 21 = Int32.ofNat K ∧ (m_sumL n I).2 110 48 = Int32.ofNat K := by
  intro n
  induction n with
  | zero => intro I _ _ _ h; exact absurd rfl h
  | succ n ih =>
    intro I x g v h
    obtain ⟨W, H, K, C, d, s, h49, hd⟩ := x
    have b2 := s.2.2.1
    have b3 := s.2.2.2.1
    have b4 := s.2.2.2.2.1
    have b1 := s.2.1
    have b5 := cb_le (I 134) W
    have e45 : nn (I 110 45) = W := by rw [s.1.1, nn_ofNat (by omega)]
    have e46 : nn (I 110 46) = H := by rw [s.1.2.1, nn_ofNat (by omega)]
    have e21 : nn (I 110 21) = K := by rw [s.1.2.2.1, nn_ofNat (by omega)]
    have e47 : nn (I 110 47) = cz (I 134) W := by rw [s.1.2.2.2.1, nn_ofNat (by omega)]
    have e48 : nn (I 110 48) = C := by rw [s.1.2.2.2.2, nn_ofNat (by omega)]
    rw [m_sumL_s] at h ⊢
    by_cases n0 : m_sumP I
    · rw [if_pos n0, e45, e46, e21]
      have d0 : d = 0 := by
        have := (am_eqN (y := 0) (by omega) (by omega)).mp (h49.symm.trans n0.2.1)
        exact this
      subst d0
      have s0 := sm_sw0 s
      obtain ⟨q, qc⟩ := bi_ok (l := 1) (by decide) (by decide) W H K I s0
      have ez := bi_cz (l := 1) (by decide) (by decide) s0
      have z0 : cz (I 134) W = 0 := by
        have h1 := n0.2.2
        rw [s.1.2.2.2.1] at h1
        rcases Nat.eq_zero_or_pos (cz (I 134) W) with e | e
        · exact e
        · exact absurd ((am_ltN (x := 0) (by omega) (by omega)).mpr e) h1
      have hw := m_biW_le (Int32.ofNat 1) I W
      have w0 : m_biW (Int32.ofNat 1) W I = 0 := by
        rcases m_biW_top (Int32.ofNat 1) I W with e | ⟨e1, e2⟩
        · exact e
        · exfalso
          have ht0 := rk_lt1 (s.2.2.2.2.2 _ (show m_biW (Int32.ofNat 1) W I - 1 < W by omega)) e2
          obtain ⟨w, hw1⟩ : ∃ w, m_biW (Int32.ofNat 1) W I = w + 1 := ⟨m_biW (Int32.ofNat 1) W I - 1, by omega⟩
          rw [hw1, Nat.add_sub_cancel] at ht0
          rw [hw1] at ez
          have zz : cz (I 134) (w + 1) = cz (I 134) w + 1 := by
            show cz (I 134) w + (if nn (I 134 w) = 0 then 1 else 0) = _
            rw [if_pos ht0]
          omega
      refine ⟨C, b3, ?_, ?_⟩
      · have q3 := q.2.2.1
        rw [w0] at q3
        rw [show C = K + W - 0 by omega]
        exact q3
      · show m_bi (Int32.ofNat 1) W H K I 110 48 = _
        rw [m_bi_f (by omega) (by omega) (by omega)]
        exact s.1.2.2.2.2
    · rw [if_neg n0] at h ⊢
      by_cases c : (m_sumS I).1 = 0
      · rw [if_pos c] at h; exact absurd rfl h
      · rw [if_neg c] at h ⊢
        have hd2 : d = 0 ∨ d = 1 := by omega
        rcases hd2 with rfl | rfl
        · have hS : m_sumS I = m_sg I W H K (cz (I 134) W) C := by unfold m_sumS; rw [if_pos (show I 110 49 = 0 from h49), e45, e46, e21, e47, e48]
          rw [hS] at c h ⊢
          obtain ⟨X, e1, e2, e3, e4, e5⟩ := sign_ok v s h49 c
          rw [e1] at h ⊢
          exact ih _ (smX_tok e2) (pv_tok (e3 _ _ g)) (tv_tok X) h
        · have hS : m_sumS I = m_leaf I W H K (cz (I 134) W) C := by unfold m_sumS; rw [if_neg (by rw [h49]; decide), e45, e46, e21, e47, e48]
          rw [hS] at c h ⊢
          obtain ⟨X, e1, e2, e3, e4, e5⟩ := leaf_ok s h49 c
          rw [e1] at h ⊢
          exact ih _ (smX_tok e2) (pv_tok (e3 _ _ g)) (tv_tok X) h
