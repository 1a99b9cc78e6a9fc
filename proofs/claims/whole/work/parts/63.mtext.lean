/-! The reference: a text. -/
def p8 (I0 X : hI) : Prop := ∀ i, X 128 i = I0 128 i
theorem p8_rf {I : hI} : p8 I I := fun _ => rfl
theorem p8_tok {I0 X : hI} (g : p8 I0 X) : p8 I0 (m_tok X) := fun i => (m_tok_f (by omega)).trans (g i)
theorem p8_u {I0 X : hI} {a k : Nat} {x : Int32} (h : a ≠ 128) (g : p8 I0 X) : p8 I0 (am_u X a k x) := fun i => (am_u_na (fun z => h z.symm)).trans (g i)
theorem p8_wr {I0 X : hI} {x : Int32} (g : p8 I0 X) : p8 I0 (m_wr X x) := p8_u (by decide) (p8_u (by decide) g)
theorem p8_num {I0 X : hI} {lo hi : Int32} (g : p8 I0 X) : p8 I0 (m_num X lo hi).2 := fun i => (num_f (by omega)).trans (g i)
theorem p8_new {I0 X : hI} {A x n : Nat} (h : A ≠ 128) (g : p8 I0 X) : p8 I0 (m_new X A x n).2 := fun i => (new_f (by omega) (fun z => h z.symm)).trans (g i)
theorem p8_the {I0 X : hI} {A x n : Nat} (g : p8 I0 X) : p8 I0 (m_the X A x n).2 := fun i => (the_f (by omega)).trans (g i)
theorem p8_gr {I0 X : hI} {K H : Nat} {x y z : Int32} (g : p8 I0 X) : p8 I0 (m_gr X K H x y z) := fun i => (m_gr_f (by omega) (by omega) (by omega)).trans (g i)
theorem p8_bi {I0 X : hI} {W H K : Nat} {l : Int32} (g : p8 I0 X) : p8 I0 (m_bi l W H K X) := fun i => (m_bi_f (by omega) (by omega) (by omega) W H K X).trans (g i)
theorem p8_leaf {I0 X : hI} {W H K B C : Nat} (g : p8 I0 X) : p8 I0 (m_leaf X W H K B C).2 := by
  unfold m_leaf
  (repeat' split) <;> dsimp only
  · exact p8_wr g
  · exact p8_tok (p8_u (by decide) (p8_u (by decide) (p8_u (by decide) (p8_u (by decide) g))))
  · exact p8_wr g
  · exact p8_tok (p8_u (by decide) (p8_u (by decide) (p8_u (by decide) g)))
  · exact p8_wr g
  · exact p8_wr g
  · exact p8_wr g
  · exact p8_tok (p8_u (by decide) (p8_gr (p8_u (by decide) g)))
  · exact p8_tok (p8_u (by decide) (p8_gr (p8_u (by decide) g)))
theorem p8_sg {I0 X : hI} {W H K B C : Nat} (g : p8 I0 X) : p8 I0 (m_sg X W H K B C).2 := by
  unfold m_sg
  split
  · exact p8_tok (p8_u (by decide) (p8_u (by decide) (p8_bi g)))
  · split
    · exact p8_wr g
    · unfold m_sg1
      split
      · exact p8_wr (p8_bi g)
      · split
        · exact p8_wr (p8_bi g)
        · exact p8_tok (p8_u (by decide) (p8_u (by decide) (p8_u (by decide) (p8_u (by decide) (p8_u (by decide) (p8_bi g))))))
theorem p8_sumL {I0 : hI} : ∀ n (X : hI), p8 I0 X → p8 I0 (m_sumL n X).2 := by
  intro n
  induction n with
  | zero => intro I g; exact g
  | succ n ih =>
    intro I g
    have g2 : p8 I0 (m_sumS I).2 := by
      unfold m_sumS
      split
      · exact p8_sg g
      · exact p8_leaf g
    rw [m_sumL_s]
    split
    · exact p8_bi g
    · split
      · exact g2
      · exact ih _ g2
theorem p8_sum {I0 X : hI} (g : p8 I0 X) : p8 I0 (m_sum X).2 := by
  unfold m_sum
  exact p8_sumL _ _ (p8_u (by decide) (p8_u (by decide) (p8_u (by decide) (p8_u (by decide) (p8_u (by decide) g)))))
theorem b01_c {I X : hI} (g : p8 I X) (h : bI01 I) : bI01 X := fun i h1 h2 => by rw [g i]; exact h i h1 h2
/-- a line's row before its end is looked at: what it leaves -/
def lnR (I : hI) (r : Int32 × hI) (f : Nat → Int32) (st : Nat) : Prop := ¬ r.1 = 0 → lnO I r.2 f st ∧ bI01 r.2
theorem ln_ok {I : hI} {f : Nat → Int32} {st a b c d K : Nat} (q : rc I a b c d K) (g : pv I f st) (h8 : bI01 I) (h : ¬ (m_ln I a b c d).1 = 0) : ∃ X, (m_ln I a b c d).2 = m_tok X ∧ lnO I X f st ∧ bI01 X ∧ ¬ X 110 8 = 0 := by
  have ee : ∀ r : Int32 × hI, lnR I r f st → ¬ (m_lnE r).1 = 0 → ∃ X, (m_lnE r).2 = m_tok X ∧ lnO I X f st ∧ bI01 X ∧ ¬ X 110 8 = 0 := by
    intro r hr h
    unfold m_lnE at h ⊢
    split at h
    · exact absurd rfl h
    · rename_i c1
      rw [if_neg c1]
      split at h
      · rename_i c2
        rw [if_pos c2]
        exact ⟨r.2, rfl, (hr c1).1, (hr c1).2, fun z => by rw [c2.1] at z; exact absurd z (by decide)⟩
      · exact absurd rfl h
  have p1 : p8 I (m_tok I) := p8_tok p8_rf
  unfold m_ln at h ⊢
  split at h
  · rename_i c1
    rw [if_pos c1]
    split at h
    · rename_i c2
      rw [if_pos c2]
      refine ee _ (fun z => ⟨mkL_ok q g z, b01_c ?_ h8⟩) h
      have v1 : p8 I (ml1 I a).2 := p8_new (by decide) p1
      have v2 : p8 I (ml2 I a).2 := p8_num v1
      have v3 : p8 I (ml3 I a) := p8_u (by decide) v2
      have v4 : p8 I (ml4 I a).2 := p8_num v3
      unfold m_mkL
      (repeat' split) <;> dsimp only
      · exact p8_wr p8_rf
      · exact v1
      · exact v2
      · exact v4
      · unfold ml5
        exact p8_u (by decide) (p8_u (by decide) v4)
    · rename_i n0
      rw [if_neg n0]
      split at h
      · rename_i c2
        rw [if_pos c2]
        refine ee _ (fun z => ⟨rpL_ok q g z, b01_c ?_ h8⟩) h
        have v1 : p8 I (rl1 I b).2 := p8_new (by decide) p1
        have v2 : p8 I (rl2 I a b).2 := p8_the v1
        have v3 : p8 I (rl3 I a b) := p8_u (by decide) v2
        have v4 : p8 I (rl4 I a b).2 := p8_num v3
        have v5 : p8 I (rl5 I a b) := p8_u (by decide) v4
        have v6 : p8 I (rl6 I a b).2 := p8_num v5
        unfold m_rpL
        (repeat' split) <;> dsimp only
        · exact p8_wr p8_rf
        · exact v1
        · exact v2
        · exact v4
        · exact v6
        · unfold rl7
          exact p8_u (by decide) (p8_u (by decide) v6)
      · rename_i n1
        rw [if_neg n1]
        split at h
        · rename_i c2
          rw [if_pos c2]
          refine ee _ (fun z => ⟨shL_ok q g z, b01_c ?_ h8⟩) h
          have v1 : p8 I (sl1 I c).2 := p8_new (by decide) p1
          have v2 : p8 I (sl2 I c).2 := p8_num v1
          unfold m_shL
          (repeat' split) <;> dsimp only
          · exact p8_wr p8_rf
          · exact v1
          · exact v2
          · unfold sl3
            exact p8_u (by decide) (p8_u (by decide) v2)
        · rename_i n2
          rw [if_neg n2]
          split at h
          · rename_i c2
            rw [if_pos c2]
            refine ee _ (fun z => ⟨rgL_ok q g, b01_c ?_ h8⟩) h
            have v1 : p8 I (gl1 I b).2 := p8_the p1
            have v2 : p8 I (gl2 I b c).2 := p8_the v1
            unfold m_rgL
            (repeat' split) <;> dsimp only
            · exact v1
            · exact v2
            · exact p8_u (by decide) v2
            · exact p8_wr (p8_u (by decide) v1)
          · rename_i n3
            rw [if_neg n3]
            split at h
            · rename_i c2
              rw [if_pos c2]
              refine ee _ (fun z => ⟨saL_ok q g z, b01_c ?_ h8⟩) h
              have v1 : p8 I (al1 I c).2 := p8_the p1
              have v2 : p8 I (al2 I c d) := p8_u (by decide) v1
              have v3 : p8 I (al3 I c d).2 := p8_num v2
              have v4 : p8 I (al4 I c d) := p8_u (by decide) v3
              have v5 : p8 I (al5 I c d).2 := p8_num v4
              unfold m_saL
              (repeat' split) <;> dsimp only
              · exact p8_wr p8_rf
              · exact v1
              · exact v3
              · exact v5
              · unfold al6
                exact p8_u (by decide) (p8_u (by decide) v5)
            · rename_i n4
              rw [if_neg n4]
              have on : ∀ j m, p8 I (m_onL I j m).2 := by
                intro j m
                have v1 : p8 I (ol1 I j m).2 := p8_num (p8_tok (p8_u (by decide) p8_rf))
                unfold m_onL
                (repeat' split) <;> dsimp only
                · exact v1
                · exact p8_u (by decide) v1
                · exact p8_wr p8_rf
              split at h
              · rename_i c2
                rw [if_pos c2]
                exact ee _ (fun z => ⟨onL_ok q g, b01_c (on _ _) h8⟩) h
              · rename_i n5
                rw [if_neg n5]
                split at h
                · rename_i c2
                  rw [if_pos c2]
                  exact ee _ (fun z => ⟨onL_ok q g, b01_c (on _ _) h8⟩) h
                · rename_i n6
                  rw [if_neg n6]
                  unfold m_lwL at h ⊢
                  by_cases cp : m_lwP I
                  · rw [if_pos cp] at h ⊢
                    split at h
                    · rename_i c3
                      rw [if_pos c3]
                      refine ee _ (fun z => ⟨law_ok q g z, ?_⟩) h
                      dsimp only
                      have w3 : bI01 (am_u (lw1 I) 128 (lk I) (Int32.ofNat 1)) := by
                        intro i h1 h2
                        by_cases e : i = lk I
                        · subst e; rw [am_u_at]; exact Or.inr rfl
                        · rw [am_u_nk e]; exact b01_c p1 h8 i h1 h2
                      have x3 : p8 (am_u (lw1 I) 128 (lk I) (Int32.ofNat 1)) (lw3 I) := p8_tok p8_rf
                      have x4 : p8 (am_u (lw1 I) 128 (lk I) (Int32.ofNat 1)) (lw4 I) := p8_u (by decide) x3
                      have x5 : p8 (am_u (lw1 I) 128 (lk I) (Int32.ofNat 1)) (lw5 I).2 := by unfold lw5; exact p8_sum x4
                      exact b01_c (show p8 (am_u (lw1 I) 128 (lk I) (Int32.ofNat 1)) (lw6 I) from by unfold lw6; exact p8_u (by decide) x5) w3
                    · exact absurd rfl h
                  · rw [if_neg cp] at h
                    exact absurd rfl h
  · exact absurd rfl h
