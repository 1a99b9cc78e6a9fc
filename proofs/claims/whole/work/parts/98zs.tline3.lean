/-! Texts alike: a law's line, any line. -/
theorem semi_eq {T st : Nat} {K : hI} {p r : Int32 × hI} (h9 : T = 9 ∨ T = 36) (h : LNR T st K p r) : LNR T st K (k_bd p k_semi) (m_lnE r) := by
  rcases h with ⟨h1, h2, h3, h4⟩ | ⟨h1, h2, h3, h4, e, h5⟩
  · rw [k_bd0 h1]
    unfold m_lnE
    rw [if_pos h2]
    exact Or.inl ⟨h1, rfl, h3, h4⟩
  · rw [k_bd1 h1]
    unfold m_lnE k_semi
    rw [if_neg h2]
    obtain ⟨_, _, t40, _⟩ := tk_cases h3.2.2.2.2
    by_cases g : u_tok p.2 3 4 = Int32.ofNat 40
    · rw [if_pos g, if_pos (t40.mp g)]
      refine Or.inr ⟨i01, i01, ?_, mF_tr h4 (mF_e eT_tok), e, DT_e (by omega) e3_tok eT_tok h5⟩
      exact nx_go h3 (fun b i u => u_tok_n (by omega)) (fun i => rfl) (fun _ _ _ => rfl)
    · rw [if_neg g, if_neg (fun z => g (t40.mpr z))]
      exact Or.inl ⟨rfl, rfl, FL_nx h3, mF_tr h4 (mF_e eT_wr)⟩
theorem FR_mF {A f : Nat} {I I' K K' : hI} (h : FR A f I I' K K') : mF K K' := fun a i k => by
  unfold kept at k
  exact h.2 a i (by omega) (by omega) (by omega) (by omega)
theorem LR_0 {A t : Nat} {I K : hI} (hA : 8 < A) (h2 : I 6 2 = Int32.ofNat 0) (h3 : I 6 3 = Int32.ofNat 0) (h4 : I 6 4 = Int32.ofNat t) (h5 : I 6 5 = Int32.ofNat 1) (h6 : I 6 6 = Int32.ofNat 1) (hA0 : I A 0 = Int32.ofNat 0) (k45 : K 110 45 = Int32.ofNat 0) (k46 : K 110 46 = Int32.ofNat 0) (k47 : K 110 47 = Int32.ofNat 0) (k48 : K 110 48 = Int32.ofNat t) (k49 : K 110 49 = Int32.ofNat 1) (k50 : K 110 50 = Int32.ofNat 1) (k21 : K 110 21 = Int32.ofNat t) (ht : t ≤ 64) : LR A t I K 0 0 t 0 1 := ⟨⟨⟨h2, k45⟩, ⟨h3, k47⟩, ⟨h4, k48⟩, ⟨hA0, k21⟩, ⟨h5, k49⟩, by rw [h6, k50], k46⟩, fun i hi => absurd hi (Nat.not_lt_zero i), ⟨ht, by omega, by omega, rfl, rfl⟩, ⟨fun i hi => absurd hi (Nat.not_lt_zero i), fun i hi => absurd hi (Nat.not_lt_zero i)⟩⟩
theorem ss_lt (g : Nat → Int32) : ∀ i t, t < sh g i → ss g i t < i := by
  intro i
  induction i with
  | zero => intro t h; exact absurd h (Nat.not_lt_zero t)
  | succ i ih =>
    intro t h
    rw [sh_s] at h
    rw [ss_s]
    split
    · omega
    · have := ih t (by omega); omega
theorem knR_kok {g v : Nat → Int32} {K : hI} {B f i : Nat} (h : knR g v K B f i) (hf : f + i < 64) : kok K (B + f + i) := by
  unfold kok
  rcases h with ⟨_, h2, _⟩ | ⟨n, hn, _, h2, h3⟩ | ⟨_, h1, h2, h3⟩ | ⟨n, hn, _, h1, h2, h3, h4⟩
  · rw [h2]; exact ⟨fun z => absurd z (by decide), fun z => absurd rfl z⟩
  · rw [h2, h3]; exact ⟨fun _ => okn_of hn (by omega), fun _ z => absurd rfl z⟩
  · have := ss_lt g i (sh g i - 1) (by omega)
    rw [h2, h3]; exact ⟨fun z => absurd z (by decide), fun _ _ => ⟨okn_of (by omega) (by omega), fun z => absurd rfl z⟩⟩
  · have a1 := ss_lt g i (sh g i - 1) (by omega)
    have a2 := ss_lt g i (sh g i - 2) (by omega)
    obtain ⟨c1, c2, c3⟩ := cod_3 hn
    rw [h2, h3, h4]; exact ⟨fun z => absurd z c2, fun _ _ => ⟨okn_of (by omega) (by omega), fun _ => okn_of (by omega) (by omega)⟩⟩
theorem lwr_eq {T st w : Nat} {e : Nat → Nat} {I K : hI} (h9 : T = 9 ∨ T = 36) (hw : w < 3) (b : bse st I K) (c : cur I K) (d : DT T e I K) (lk : Nat) (el : lk = 3 + w) : LNR T st K (k_lwr1 I (T + 18 + 3 * w) (e 4 + e 5 + e 6)) (if K 128 lk = 0 then m_lnE ((m_sum (am_u (m_tok (am_u K 128 lk (Int32.ofNat 1))) 129 lk (m_tok (am_u K 128 lk (Int32.ofNat 1)) 110 21))).1, am_u (m_sum (am_u (m_tok (am_u K 128 lk (Int32.ofNat 1))) 129 lk (m_tok (am_u K 128 lk (Int32.ofNat 1)) 110 21))).2 130 lk ((m_sum (am_u (m_tok (am_u K 128 lk (Int32.ofNat 1))) 129 lk (m_tok (am_u K 128 lk (Int32.ofNat 1)) 110 21))).2 110 21)) else (0, m_wr K (Int32.ofNat 3))) := by
  subst el
  obtain ⟨d1, d2, d3, d4, d5, d6⟩ := d
  obtain ⟨s1, s2, s3, s4, s5⟩ := d6
  obtain ⟨l0, l1⟩ := s4 w hw
  have hA : 8 < T + 18 + 3 * w := by omega
  unfold k_lwr1
  by_cases g : 0 < I (T + 18 + 3 * w) 0
  · have n1 : 1 ≤ e (4 + w) := by
      rcases l1 with ⟨z, _⟩ | ⟨z, _⟩
      · rw [l0, z] at g; exact absurd g (by decide)
      · exact z
    have k1 : ¬ K 128 (3 + w) = 0 := by
      rcases l1 with ⟨z, _⟩ | ⟨_, z, _⟩
      · omega
      · rw [z]; decide
    rw [if_pos g, if_neg k1]
    exact Or.inl ⟨rfl, rfl, FL_bl c.2.1, mF_e eT_wr⟩
  · have n0 : e (4 + w) = 0 := by
      rcases l1 with ⟨z, _⟩ | ⟨z, _⟩
      · exact z
      · refine absurd ?_ g
        rw [l0]
        have : e (4 + w) ≤ 64 := by
          have : w = 0 ∨ w = 1 ∨ w = 2 := by omega
          rcases this with rfl | rfl | rfl
          · show e 4 ≤ 64; omega
          · show e 5 ≤ 64; omega
          · show e 6 ≤ 64; omega
        exact (am_ltN (x := 0) (by omega) (by omega)).mpr (by omega)
    have k0 : K 128 (3 + w) = 0 := by
      rcases l1 with ⟨_, z⟩ | ⟨z, _⟩
      · exact z
      · omega
    rw [if_neg g, if_pos k0]
    unfold k_rdI m_sum
    generalize ht : e 4 + e 5 + e 6 = t at s1 s2 s3 s4 s5
    -- the reference as it begins
    have k21 : m_tok (am_u K 128 (3 + w) (Int32.ofNat 1)) 110 21 = Int32.ofNat t := by rw [m_tok_n (by omega), am_u_na (by decide)]; exact s2
    rw [k21]
    have b' : bse st I (am_u K 128 (3 + w) (Int32.ofNat 1)) := bse_c (fun _ _ _ => rfl) (fun a i h => am_u_na (by omega)) b
    have c' : cur I (am_u K 128 (3 + w) (Int32.ofNat 1)) := cur_c (fun _ _ => rfl) (fun i _ _ => am_u_na (by decide)) c
    have h0 := nx_kw b' c'
    have n2 : nn (I 3 2) = st := by rw [b.2.1, nn_ofNat (by have := b.1; omega)]
    rw [n2]
    have i6 : ∀ b' i, b' ≠ 6 → k_ri0 I t b' i = I b' i := fun b' i h => by
      unfold k_ri0; rw [am_u_na h, am_u_na h, am_u_na h, am_u_na h, am_u_na h]
    have j2 : k_ri0 I t 6 2 = Int32.ofNat 0 ∧ k_ri0 I t 6 3 = Int32.ofNat 0 ∧ k_ri0 I t 6 4 = Int32.ofNat t ∧ k_ri0 I t 6 5 = Int32.ofNat 1 ∧ k_ri0 I t 6 6 = Int32.ofNat 1 := by
      unfold k_ri0
      refine ⟨?_, ?_, ?_, ?_, am_u_at⟩
      · rw [am_u_nk (by decide), am_u_nk (by decide), am_u_nk (by decide), am_u_nk (by decide), am_u_at]
      · rw [am_u_nk (by decide), am_u_nk (by decide), am_u_nk (by decide), am_u_at]
      · rw [am_u_nk (by decide), am_u_nk (by decide), am_u_at]
      · rw [am_u_nk (by decide), am_u_at]
    revert i6 j2
    generalize k_ri0 I t = I2
    intro i6 j2
    have y0 : ∀ a i, ¬ (a = 110 ∧ (7 ≤ i ∧ i ≤ 10 ∨ 45 ≤ i ∧ i ≤ 50)) → a ≠ 128 → a ≠ 129 → m_su0 (am_u (m_tok (am_u K 128 (3 + w) (Int32.ofNat 1))) 129 (3 + w) (Int32.ofNat t)) a i = K a i := fun a i h1 h2 h3 => by
      unfold m_su0
      have e1 : ∀ (Z : hI) k x, (45 ≤ k ∧ k ≤ 50) → am_u Z 110 k x a i = Z a i := fun Z k x hk => by unfold am_u; rw [if_neg (by omega)]
      rw [e1 _ _ _ (by omega), e1 _ _ _ (by omega), e1 _ _ _ (by omega), e1 _ _ _ (by omega), e1 _ _ _ (by omega), am_u_na h3, m_tok_n (by omega), am_u_na h2]
    have yt : ∀ a i, ¬ (a = 110 ∧ 45 ≤ i ∧ i ≤ 50) → a ≠ 129 → m_su0 (am_u (m_tok (am_u K 128 (3 + w) (Int32.ofNat 1))) 129 (3 + w) (Int32.ofNat t)) a i = m_tok (am_u K 128 (3 + w) (Int32.ofNat 1)) a i := fun a i h1 h3 => by
      unfold m_su0
      have e1 : ∀ (Z : hI) k x, (45 ≤ k ∧ k ≤ 50) → am_u Z 110 k x a i = Z a i := fun Z k x hk => by unfold am_u; rw [if_neg (by omega)]
      rw [e1 _ _ _ (by omega), e1 _ _ _ (by omega), e1 _ _ _ (by omega), e1 _ _ _ (by omega), e1 _ _ _ (by omega), am_u_na h3]
    have y129 : ∀ i, m_su0 (am_u (m_tok (am_u K 128 (3 + w) (Int32.ofNat 1))) 129 (3 + w) (Int32.ofNat t)) 129 i = (if i = 3 + w then Int32.ofNat t else K 129 i) := fun i => by
      unfold m_su0
      rw [am_u_na (by decide), am_u_na (by decide), am_u_na (by decide), am_u_na (by decide), am_u_na (by decide)]
      by_cases z : i = 3 + w
      · rw [z, am_u_at, if_pos rfl]
      · rw [am_u_nk z, if_neg z, m_tok_n (by omega), am_u_na (by decide)]
    have y128 : ∀ i, m_su0 (am_u (m_tok (am_u K 128 (3 + w) (Int32.ofNat 1))) 129 (3 + w) (Int32.ofNat t)) 128 i = (if i = 3 + w then Int32.ofNat 1 else K 128 i) := fun i => by
      rw [yt 128 i (by omega) (by decide), m_tok_n (by omega)]
      by_cases z : i = 3 + w
      · rw [z, am_u_at, if_pos rfl]
      · rw [am_u_nk z, if_neg z]
    have y4 : ∀ j v, (j = 45 ∧ v = 0) ∨ (j = 46 ∧ v = 0) ∨ (j = 47 ∧ v = 0) ∨ (j = 49 ∧ v = 1) ∨ (j = 50 ∧ v = 1) → m_su0 (am_u (m_tok (am_u K 128 (3 + w) (Int32.ofNat 1))) 129 (3 + w) (Int32.ofNat t)) 110 j = Int32.ofNat v := by
      intro j v hj
      unfold m_su0
      rcases hj with ⟨rfl, rfl⟩ | ⟨rfl, rfl⟩ | ⟨rfl, rfl⟩ | ⟨rfl, rfl⟩ | ⟨rfl, rfl⟩
      · rw [am_u_nk (by decide), am_u_nk (by decide), am_u_nk (by decide), am_u_nk (by decide), am_u_at]
      · rw [am_u_nk (by decide), am_u_nk (by decide), am_u_nk (by decide), am_u_at]
      · rw [am_u_nk (by decide), am_u_nk (by decide), am_u_at]
      · rw [am_u_nk (by decide), am_u_at]
      · rw [am_u_at]
    have y48 : m_su0 (am_u (m_tok (am_u K 128 (3 + w) (Int32.ofNat 1))) 129 (3 + w) (Int32.ofNat t)) 110 48 = Int32.ofNat t := by
      unfold m_su0
      rw [am_u_nk (by decide), am_u_nk (by decide), am_u_nk (by decide), am_u_nk (by decide), am_u_nk (by decide), am_u_na (by decide), m_tok_n (by omega), am_u_na (by decide)]; exact s3
    revert y0 yt y129 y128 y4 y48
    generalize m_su0 (am_u (m_tok (am_u K 128 (3 + w) (Int32.ofNat 1))) 129 (3 + w) (Int32.ofNat t)) = K2
    intro y0 yt y129 y128 y4 y48
    have N : nx st I2 K2 := nx_c h0 (fun b i h => i6 b i (by omega)) (fun a i h => yt a i (by omega) (by omega))
    have R0 : LR (T + 18 + 3 * w) t (u_tok I2) K2 0 0 t 0 1 := by
      refine LR_0 hA ?_ ?_ ?_ ?_ ?_ ?_ (y4 45 0 (by omega)) (y4 46 0 (by omega)) (y4 47 0 (by omega)) y48 (y4 49 1 (by omega)) (y4 50 1 (by omega)) ?_ s1
      · rw [u_tok_n (by decide)]; exact j2.1
      · rw [u_tok_n (by decide)]; exact j2.2.1
      · rw [u_tok_n (by decide)]; exact j2.2.2.1
      · rw [u_tok_n (by decide)]; exact j2.2.2.2.1
      · rw [u_tok_n (by decide)]; exact j2.2.2.2.2
      · rw [u_tok_n (by omega), i6 _ _ (by omega), l0, n0]
      · rw [y0 110 21 (by omega) (by decide) (by decide)]; exact s2
    have st7 := b.1
    have RS := ri_eq hA (st + 1) 800 I2 K2 0 0 t 0 1 N.1 N.2.1 N.2.2 R0 (Nat.le_refl _) (by omega) (by omega)
    have mK : mF K K2 := fun a i k => by
      unfold kept at k
      by_cases z : a = 128
      · subst z; rw [y128, if_neg (by omega)]
      · by_cases z9 : a = 129
        · subst z9; rw [y129, if_neg (by omega)]
        · exact y0 a i (by omega) z z9
    rcases RS with ⟨R1, R2, R3, R4⟩ | ⟨R1, R2, R3, R4, R5, R6, cc, n', R7⟩
    · unfold m_lnE
      rw [if_pos R2]
      refine Or.inl ⟨R1, rfl, ⟨?_, ?_⟩, mF_tr (mF_tr mK (FR_mF R4)) (mF_u (by unfold kept; omega))⟩
      · exact R3.1.trans (show (m_sumL 800 K2).2 110 4 = am_u (m_sumL 800 K2).2 130 (3 + w) ((m_sumL 800 K2).2 110 21) 110 4 from (am_u_na (by decide)).symm)
      · exact R3.2.trans (show (m_sumL 800 K2).2 110 5 = am_u (m_sumL 800 K2).2 130 (3 + w) ((m_sumL 800 K2).2 110 21) 110 5 from (am_u_na (by decide)).symm)
    · obtain ⟨_, _, t40, _⟩ := tk_cases R4.2.2
      have tk := t40.mp R3
      unfold m_lnE
      rw [if_neg R2]
      dsimp only
      rw [if_pos (show am_u (m_sumL 800 K2).2 130 (3 + w) ((m_sumL 800 K2).2 110 21) 110 8 = Int32.ofNat 4 ∧ am_u (m_sumL 800 K2).2 130 (3 + w) ((m_sumL 800 K2).2 110 21) 110 9 = Int32.ofNat 59 from ⟨(am_u_na (by decide)).trans tk.1, (am_u_na (by decide)).trans tk.2⟩)]
      revert R1 R2 R3 R4 R5 R6 R7
      generalize k_ri (T + 18 + 3 * w) (st + 1) I2 = p
      generalize m_sumL 800 K2 = q
      intro R1 R2 R3 R4 R5 R6 R7
      obtain ⟨⟨⟨_, _⟩, ⟨_, _⟩, ⟨_, c3'⟩, ⟨c4, c4'⟩, _, _, _⟩, _, ⟨m1, m2, m3, m4, m5⟩, ⟨k1, _⟩⟩ := R7
      have sh1 : sh (p.2 (T + 18 + 3 * w + 1)) n' = 1 := by
        have : nb (p.2 7) 0 = 0 := rfl
        omega
      have np : 1 ≤ n' := by
        cases n' with
        | zero => exact absurd (show (0 : Nat) = 1 from sh1) (by decide)
        | succ n => omega
      have b5 : bse st p.2 (am_u q.2 130 (3 + w) (q.2 110 21)) := bse_c (fun _ _ _ => rfl) (fun a i h => am_u_na (by omega)) R5
      have c5 : cur p.2 (am_u q.2 130 (3 + w) (q.2 110 21)) := cur_c (fun _ _ => rfl) (fun i _ _ => am_u_na (by decide)) R4
      refine Or.inr ⟨R1, i01, nx_kw b5 c5, mF_tr (mF_tr (mF_tr mK (FR_mF R6)) (mF_u (by unfold kept; omega))) (mF_e eT_tok), up e (4 + w) n', ?_⟩
      refine DT_e (by omega) e3_rf eT_tok ?_
      have fI : ∀ b i, b ≠ 3 → b ≠ 6 → b ≠ 7 → b ≠ 8 → (b < T + 18 + 3 * w ∨ T + 18 + 3 * w + 2 < b) → p.2 b i = I b i := fun b i g1 g2 g3 g4 g5 => (R6.1 b i g1 g2 g3 g4 g5).trans (i6 b i g2)
      have fK : ∀ a i, a ≠ 128 → a ≠ 129 → a ≠ 130 → a ≠ 134 → a ≠ 135 → (131 ≤ a → a ≤ 133 → i < 64 + t) → ¬ (a = 110 ∧ ((4 ≤ i ∧ i ≤ 11) ∨ i = 21 ∨ (45 ≤ i ∧ i ≤ 50))) → am_u q.2 130 (3 + w) (q.2 110 21) a i = K a i := fun a i g1 g2 g3 g4 g5 g6 g7 => by
        rw [am_u_na g3]
        exact (R6.2 a i g4 g5 g6 g7).trans (y0 a i (by omega) g1 g2)
      have f128 : ∀ i, am_u q.2 130 (3 + w) (q.2 110 21) 128 i = if i = 3 + w then Int32.ofNat 1 else K 128 i := fun i => by
        rw [am_u_na (by decide)]
        exact (R6.2 128 i (by decide) (by decide) (by omega) (by omega)).trans (y128 i)
      have f129 : ∀ i, am_u q.2 130 (3 + w) (q.2 110 21) 129 i = if i = 3 + w then Int32.ofNat t else K 129 i := fun i => by
        rw [am_u_na (by decide)]
        exact (R6.2 129 i (by decide) (by decide) (by omega) (by omega)).trans (y129 i)
      have f130 : ∀ i, am_u q.2 130 (3 + w) (q.2 110 21) 130 i = if i = 3 + w then q.2 110 21 else K 130 i := fun i => by
        by_cases z : i = 3 + w
        · rw [z, am_u_at, if_pos rfl]
        · rw [am_u_nk z, if_neg z]
          exact (R6.2 130 i (by decide) (by decide) (by omega) (by omega)).trans (y0 130 i (by omega) (by decide) (by decide))
      have fq : ∀ a i, a ≠ 130 → am_u q.2 130 (3 + w) (q.2 110 21) a i = q.2 a i := fun a i h => am_u_na h
      refine ⟨?_, ?_, ?_, ?_, ?_, ?_⟩
      · rw [up_ne (by omega)]; exact D1_c (fun b i u v => fI b i (by omega) (by omega) (by omega) (by omega) (by omega)) (fun b i u => fK b i (by omega) (by omega) (by omega) (by omega) (by omega) (by omega) (by omega)) d1
      · rw [up_ne (by omega)]; exact D2_c (fun b i u v => fI b i (by omega) (by omega) (by omega) (by omega) (by omega)) (fun b i u => fK b i (by omega) (by omega) (by omega) (by omega) (by omega) (by omega) (by omega)) d2
      · rw [up_ne (by omega)]; exact D3_c (fun b i u v => fI b i (by omega) (by omega) (by omega) (by omega) (by omega)) (fun b i u => fK b i (by omega) (by omega) (by omega) (by omega) (by omega) (by omega) (by omega)) d3
      · rw [up_ne (by omega)]; exact D4_c (fun b i u => fI b i (by omega) (by omega) (by omega) (by omega) (by omega)) (fun b i u => fK b i (by omega) (by omega) (by omega) (by omega) (by omega) (by omega) (by omega)) d4
      · exact D5_c (fun b i u => fI b i (by omega) (by omega) (by omega) (by omega) (by omega)) (fun b i u => fK b i (by omega) (by omega) (by omega) (by omega) (by omega) (by omega) (by omega)) d5
      · have tot : up e (4 + w) n' 4 + up e (4 + w) n' 5 + up e (4 + w) n' 6 = t + n' := by
          have : w = 0 ∨ w = 1 ∨ w = 2 := by omega
          rcases this with rfl | rfl | rfl
          · rw [up_at, up_ne (by decide), up_ne (by decide)]
            have : e 4 = 0 := n0
            omega
          · rw [show 4 + 1 = 5 from rfl, up_at, up_ne (by decide), up_ne (by decide)]
            have : e 5 = 0 := n0
            omega
          · rw [show 4 + 2 = 6 from rfl, up_at, up_ne (by decide), up_ne (by decide)]
            have : e 6 = 0 := n0
            omega
        unfold D6
        rw [tot]
        refine ⟨by omega, ?_, ?_, fun w' hw' => ?_, fun i hi => ?_⟩
        · rw [fq 110 21 (by decide)]; exact c4'
        · rw [fq 110 48 (by decide), c3', show cc = t + n' by omega]
        · by_cases z : w' = w
          · subst z
            rw [up_at]
            refine ⟨c4, Or.inr ⟨np, by rw [f128, if_pos rfl], sh1, t, Nat.le_refl _, by rw [f129, if_pos rfl], by rw [f130, if_pos rfl]; exact c4', fun i hi => ?_⟩⟩
            exact knR_c (fun _ _ => rfl) rfl (fun a u v => fq a _ (by omega)) (k1 i hi)
          · rw [up_ne (by omega)]
            refine LW_c (by omega) (fun b i u v => fI b i (by omega) (by omega) (by omega) (by omega) (by omega)) (fun b i u => ?_) (s4 w' hw')
            rcases u with ⟨u1, u2, u3⟩ | ⟨u1, u2, u3⟩
            · have : b = 128 ∨ b = 129 ∨ b = 130 := by omega
              rcases this with rfl | rfl | rfl
              · rw [f128, if_neg (by omega)]
              · rw [f129, if_neg (by omega)]
              · rw [f130, if_neg (by omega)]
            · exact fK b i (by omega) (by omega) (by omega) (by omega) (by omega) (by omega) (by omega)
        · by_cases z : i < t
          · exact kok_c3 (fun a u v => fK a _ (by omega) (by omega) (by omega) (by omega) (by omega) (by omega) (by omega)) (s5 i z)
          · have kk := knR_kok (k1 (i - t) (by omega)) (by omega)
            rw [show 64 + t + (i - t) = 64 + i by omega] at kk
            exact kok_c3 (fun a u v => fq a _ (by omega)) kk
