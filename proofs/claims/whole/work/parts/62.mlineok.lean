/-! The reference: a line that is read leaves what can be read on. -/
def pn (I0 X : hI) (f : Nat → Int32) (st : Nat) : Prop := pv X f st ∧ mu X st ≤ mu I0 st ∧ ∀ i, 12 ≤ i → X 110 i = I0 110 i
theorem pn_rf {I : hI} {f : Nat → Int32} {st : Nat} (g : pv I f st) : pn I I f st := ⟨g, Nat.le_refl _, fun _ _ => rfl⟩
theorem pn_tok {I0 X : hI} {f : Nat → Int32} {st : Nat} (g : pn I0 X f st) : pn I0 (m_tok X) f st := ⟨pv_tok g.1, Nat.le_trans (mu_tok_le g.1) g.2.1, fun i h1 => (m_tok_f (by omega)).trans (g.2.2 i h1)⟩
theorem pn_u {I0 X : hI} {f : Nat → Int32} {st a k : Nat} {x : Int32} (h1 : a ≠ 111 ∧ a ≠ 112) (h2 : a = 110 → k < 6 ∨ (8 < k ∧ k < 12)) (g : pn I0 X f st) : pn I0 (am_u X a k x) f st := by
  refine ⟨pv_u h1 (by omega) g.1, ?_, fun i h3 => ?_⟩
  · rw [mu_c (I := X)]
    · exact g.2.1
    · unfold am_u; rw [if_neg (by omega)]
    · unfold am_u; rw [if_neg (by omega)]
  · unfold am_u; rw [if_neg (by omega)]; exact g.2.2 i h3
theorem pn_wr {I0 X : hI} {f : Nat → Int32} {st : Nat} {x : Int32} (g : pn I0 X f st) : pn I0 (m_wr X x) f st := pn_u (by omega) (by omega) (pn_u (by omega) (by omega) g)
theorem pn_num {I0 X : hI} {f : Nat → Int32} {st : Nat} {lo hi : Int32} (g : pn I0 X f st) : pn I0 (m_num X lo hi).2 f st := by
  unfold m_num
  (repeat' split) <;> dsimp only
  · exact pn_tok (pn_u (by omega) (by omega) g)
  · exact pn_wr g
  · exact pn_wr g
theorem pn_new {I0 X : hI} {f : Nat → Int32} {st A x n : Nat} (hA : A ≠ 110 ∧ A ≠ 111 ∧ A ≠ 112) (g : pn I0 X f st) : pn I0 (m_new X A x n).2 f st := by
  unfold m_new
  (repeat' split) <;> dsimp only
  · exact pn_tok (pn_u (by omega) (by omega) g)
  · exact pn_wr g
  · exact pn_wr g
theorem pn_the {I0 X : hI} {f : Nat → Int32} {st A x n : Nat} (g : pn I0 X f st) : pn I0 (m_the X A x n).2 f st := by
  unfold m_the
  (repeat' split) <;> dsimp only
  · exact pn_wr g
  · exact pn_u (by omega) (by omega) (pn_tok g)
  · exact pn_wr g
/-- what a line that is read leaves -/
def lnO (I X : hI) (f : Nat → Int32) (st : Nat) : Prop := pv X f st ∧ mu X st ≤ mu I st ∧ ∃ a b c d K, rc X a b c d K
theorem lnO_pn {I X : hI} {f : Nat → Int32} {st a b c d K : Nat} (q : rc I a b c d K) (g : pn I X f st) : lnO I X f st := by
  refine ⟨g.1, g.2.1, a, b, c, d, K, ?_⟩
  unfold rc at q ⊢
  rw [g.2.2 17 (by omega), g.2.2 18 (by omega), g.2.2 19 (by omega), g.2.2 20 (by omega), g.2.2 21 (by omega), g.2.2 48 (by omega)]
  exact q
theorem lnO_u {I Y : hI} {f : Nat → Int32} {st a b c d K A i j : Nat} {x y : Int32} (q : rc I a b c d K) (g : pn I Y f st) (hA : A ≠ 110 ∧ A ≠ 111 ∧ A ≠ 112) (hj : 17 ≤ j ∧ j ≤ 20) {a' b' c' d' : Nat} (h : rc (am_u I 110 j y) a' b' c' d' K) : lnO I (am_u (am_u Y A i x) 110 j y) f st := by
  have g2 := pn_u (a := A) (k := i) (x := x) (by omega) (by omega) g
  refine ⟨pv_u (by omega) (by omega) g2.1, ?_, a', b', c', d', K, ?_⟩
  · rw [mu_c (I := am_u Y A i x)]
    · exact g2.2.1
    · exact am_u_nk (by omega)
    · exact am_u_nk (by omega)
  · have e : ∀ k, 12 ≤ k → am_u (am_u Y A i x) 110 j y 110 k = am_u I 110 j y 110 k := by
      intro k hk
      by_cases ej : k = j
      · subst ej; rw [am_u_at, am_u_at]
      · rw [am_u_nk ej, am_u_nk ej]; exact g2.2.2 k hk
    unfold rc at h ⊢
    rw [e 17 (by omega), e 18 (by omega), e 19 (by omega), e 20 (by omega), e 21 (by omega), e 48 (by omega)]
    exact h
theorem mkL_ok {I : hI} {f : Nat → Int32} {st a b c d K : Nat} (q : rc I a b c d K) (g : pv I f st) (h : ¬ (m_mkL I a).1 = 0) : lnO I (m_mkL I a).2 f st := by
  have v1 : pn I (ml1 I a).2 f st := pn_new (by decide) (pn_tok (pn_rf g))
  have v2 : pn I (ml2 I a).2 f st := pn_num v1
  have v3 : pn I (ml3 I a) f st := pn_u (by omega) (by omega) v2
  have v4 : pn I (ml4 I a).2 f st := pn_num v3
  unfold m_mkL at h ⊢
  split at h
  · exact absurd rfl h
  · rename_i c1
    rw [if_neg c1]
    split at h
    · exact absurd rfl h
    · rename_i c2
      rw [if_neg c2]
      split at h
      · exact absurd rfl h
      · rename_i c3
        rw [if_neg c3]
        split at h
        · exact absurd rfl h
        · rename_i c4
          rw [if_neg c4]
          dsimp only
          unfold ml5
          refine lnO_u (a' := a + 1) (b' := b) (c' := c) (d' := d) q v4 (by decide) (by decide) ?_
          obtain ⟨⟨h17, ha⟩, h18, h19, h20, h21, h48, hK⟩ := q
          exact ⟨⟨am_u_at, by omega⟩, ⟨(am_u_nk (by decide)).trans h18.1, h18.2⟩, ⟨(am_u_nk (by decide)).trans h19.1, h19.2⟩, ⟨(am_u_nk (by decide)).trans h20.1, h20.2⟩, (am_u_nk (by decide)).trans h21, (am_u_nk (by decide)).trans h48, hK⟩
theorem rpL_ok {I : hI} {f : Nat → Int32} {st a b c d K : Nat} (q : rc I a b c d K) (g : pv I f st) (h : ¬ (m_rpL I a b).1 = 0) : lnO I (m_rpL I a b).2 f st := by
  have v1 : pn I (rl1 I b).2 f st := pn_new (by decide) (pn_tok (pn_rf g))
  have v2 : pn I (rl2 I a b).2 f st := pn_the v1
  have v3 : pn I (rl3 I a b) f st := pn_u (by omega) (by omega) v2
  have v4 : pn I (rl4 I a b).2 f st := pn_num v3
  have v5 : pn I (rl5 I a b) f st := pn_u (by omega) (by omega) v4
  have v6 : pn I (rl6 I a b).2 f st := pn_num v5
  unfold m_rpL at h ⊢
  split at h
  · exact absurd rfl h
  · rename_i c1
    rw [if_neg c1]
    split at h
    · exact absurd rfl h
    · rename_i c2
      rw [if_neg c2]
      split at h
      · exact absurd rfl h
      · rename_i c3
        rw [if_neg c3]
        split at h
        · exact absurd rfl h
        · rename_i c4
          rw [if_neg c4]
          split at h
          · exact absurd rfl h
          · rename_i c5
            rw [if_neg c5]
            dsimp only
            unfold rl7
            refine lnO_u (a' := a) (b' := b + 1) (c' := c) (d' := d) q v6 (by decide) (by decide) ?_
            obtain ⟨h17, ⟨h18, hb⟩, h19, h20, h21, h48, hK⟩ := q
            exact ⟨⟨(am_u_nk (by decide)).trans h17.1, h17.2⟩, ⟨am_u_at, by omega⟩, ⟨(am_u_nk (by decide)).trans h19.1, h19.2⟩, ⟨(am_u_nk (by decide)).trans h20.1, h20.2⟩, (am_u_nk (by decide)).trans h21, (am_u_nk (by decide)).trans h48, hK⟩
theorem shL_ok {I : hI} {f : Nat → Int32} {st a b c d K : Nat} (q : rc I a b c d K) (g : pv I f st) (h : ¬ (m_shL I c).1 = 0) : lnO I (m_shL I c).2 f st := by
  have v1 : pn I (sl1 I c).2 f st := pn_new (by decide) (pn_tok (pn_rf g))
  have v2 : pn I (sl2 I c).2 f st := pn_num v1
  unfold m_shL at h ⊢
  split at h
  · exact absurd rfl h
  · rename_i c1
    rw [if_neg c1]
    split at h
    · exact absurd rfl h
    · rename_i c2
      rw [if_neg c2]
      split at h
      · exact absurd rfl h
      · rename_i c3
        rw [if_neg c3]
        dsimp only
        unfold sl3
        refine lnO_u (a' := a) (b' := b) (c' := c + 1) (d' := d) q v2 (by decide) (by decide) ?_
        obtain ⟨h17, h18, ⟨h19, hc⟩, h20, h21, h48, hK⟩ := q
        exact ⟨⟨(am_u_nk (by decide)).trans h17.1, h17.2⟩, ⟨(am_u_nk (by decide)).trans h18.1, h18.2⟩, ⟨am_u_at, by omega⟩, ⟨(am_u_nk (by decide)).trans h20.1, h20.2⟩, (am_u_nk (by decide)).trans h21, (am_u_nk (by decide)).trans h48, hK⟩
theorem rgL_ok {I : hI} {f : Nat → Int32} {st a b c d K : Nat} (q : rc I a b c d K) (g : pv I f st) : lnO I (m_rgL I b c).2 f st := by
  have v1 : pn I (gl1 I b).2 f st := pn_the (pn_tok (pn_rf g))
  have v2 : pn I (gl2 I b c).2 f st := pn_the v1
  unfold m_rgL
  (repeat' split) <;> dsimp only
  · exact lnO_pn q v1
  · exact lnO_pn q v2
  · exact lnO_pn q (pn_u (by omega) (by omega) v2)
  · exact lnO_pn q (pn_wr (pn_u (by omega) (by omega) v1))
theorem saL_ok {I : hI} {f : Nat → Int32} {st a b c d K : Nat} (q : rc I a b c d K) (g : pv I f st) (h : ¬ (m_saL I c d).1 = 0) : lnO I (m_saL I c d).2 f st := by
  have v1 : pn I (al1 I c).2 f st := pn_the (pn_tok (pn_rf g))
  have v2 : pn I (al2 I c d) f st := pn_u (by omega) (by omega) v1
  have v3 : pn I (al3 I c d).2 f st := pn_num v2
  have v4 : pn I (al4 I c d) f st := pn_u (by omega) (by omega) v3
  have v5 : pn I (al5 I c d).2 f st := pn_num v4
  unfold m_saL at h ⊢
  split at h
  · exact absurd rfl h
  · rename_i c1
    rw [if_neg c1]
    split at h
    · exact absurd rfl h
    · rename_i c2
      rw [if_neg c2]
      split at h
      · exact absurd rfl h
      · rename_i c3
        rw [if_neg c3]
        split at h
        · exact absurd rfl h
        · rename_i c4
          rw [if_neg c4]
          dsimp only
          unfold al6
          refine lnO_u (a' := a) (b' := b) (c' := c) (d' := d + 1) q v5 (by decide) (by decide) ?_
          obtain ⟨h17, h18, h19, ⟨h20, hd⟩, h21, h48, hK⟩ := q
          exact ⟨⟨(am_u_nk (by decide)).trans h17.1, h17.2⟩, ⟨(am_u_nk (by decide)).trans h18.1, h18.2⟩, ⟨(am_u_nk (by decide)).trans h19.1, h19.2⟩, ⟨am_u_at, by omega⟩, (am_u_nk (by decide)).trans h21, (am_u_nk (by decide)).trans h48, hK⟩
theorem onL_ok {I : hI} {f : Nat → Int32} {st a b c d K j : Nat} {m : Int32} (q : rc I a b c d K) (g : pv I f st) : lnO I (m_onL I j m).2 f st := by
  have v1 : pn I (ol1 I j m).2 f st := pn_num (pn_tok (pn_u (by omega) (by omega) (pn_rf g)))
  unfold m_onL
  (repeat' split) <;> dsimp only
  · exact lnO_pn q v1
  · exact lnO_pn q (pn_u (by omega) (by omega) v1)
  · exact lnO_pn q (pn_wr (pn_rf g))
theorem sum_ok {I : hI} {f : Nat → Int32} {st K : Nat} (g : pv I f st) (v : tv I) (hK : K ≤ 64) (h21 : I 110 21 = Int32.ofNat K) (h48 : I 110 48 = Int32.ofNat K) (h : ¬ (m_sum I).1 = 0) : ∃ K', K' ≤ 64 ∧ (m_sum I).2 110 21 = Int32.ofNat K' ∧ (m_sum I).2 110 48 = Int32.ofNat K' := by
  unfold m_sum at h ⊢
  have x : smX (m_su0 I) := ⟨0, 0, K, K, 1, ⟨⟨rfl, rfl, h21, rfl, h48⟩, rfl, rfl, hK, Nat.zero_le _, fun i hi => absurd hi (by omega)⟩, rfl, Nat.le_refl _⟩
  have g2 : pv (m_su0 I) f st := pv_u (by omega) (by omega) (pv_u (by omega) (by omega) (pv_u (by omega) (by omega) (pv_u (by omega) (by omega) (pv_u (by omega) (by omega) g))))
  have v2 : tv (m_su0 I) := v
  revert h
  generalize 800 = n
  intro h
  exact sum_end n (m_su0 I) x g2 v2 h
theorem law_ok {I : hI} {f : Nat → Int32} {st a b c d K : Nat} (q : rc I a b c d K) (g : pv I f st) (h : ¬ (lw5 I).1 = 0) : lnO I (lw6 I) f st := by
  have v1 : pm I (lw1 I) f st := pm_tok (pm_rf g)
  have v3 : pm I (lw3 I) f st := pm_tok (pm_u (by omega) (by omega) v1)
  have v4 : pm I (lw4 I) f st := pm_u (by omega) (by omega) v3
  have v5 : pm I (lw5 I).2 f st := pm_sum v4
  have v6 : pm I (lw6 I) f st := pm_u (by omega) (by omega) v5
  have y4 : tv (lw4 I) := tv_u (by decide) (tv_tok _)
  obtain ⟨h17, h18, h19, h20, h21, h48, hK⟩ := q
  have f3 : ∀ i, i = 21 ∨ i = 48 → lw4 I 110 i = I 110 i := by
    intro i hi
    unfold lw4
    rw [am_u_na (by decide)]
    unfold lw3
    rw [m_tok_f (by omega), am_u_na (by decide)]
    unfold lw1
    exact m_tok_f (by omega)
  unfold lw5 at h
  obtain ⟨K', hK', e21, e48⟩ := sum_ok v4.1 y4 hK ((f3 21 (by omega)).trans h21) ((f3 48 (by omega)).trans h48) h
  have e21' : lw6 I 110 21 = Int32.ofNat K' := by unfold lw6; rw [am_u_na (by decide)]; unfold lw5; exact e21
  have e48' : lw6 I 110 48 = Int32.ofNat K' := by unfold lw6; rw [am_u_na (by decide)]; unfold lw5; exact e48
  refine ⟨v6.1, v6.2.1, a, b, c, d, K', ?_⟩
  exact ⟨⟨(v6.2.2 17 (by omega) (by omega)).trans h17.1, h17.2⟩, ⟨(v6.2.2 18 (by omega) (by omega)).trans h18.1, h18.2⟩, ⟨(v6.2.2 19 (by omega) (by omega)).trans h19.1, h19.2⟩, ⟨(v6.2.2 20 (by omega) (by omega)).trans h20.1, h20.2⟩, e21', e48', hK'⟩
