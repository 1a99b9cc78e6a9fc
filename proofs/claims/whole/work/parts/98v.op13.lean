/-! Calls alike (thirteen): game. -/
theorem yg_N {I : hI} {T r : Nat} {N : Nat → Nat} (tq : tqs I T N) (hr : r < N 1) : k_yg I T r = Int32.ofNat (nn (k_yg I T r)) ∧ nn (k_yg I T r) < 128 := by
  unfold k_yg
  split
  · obtain ⟨_, ⟨y, _⟩, _, _⟩ := tq.1 r hr
    exact ⟨y.1, by have := y.2; omega⟩
  · exact ⟨rfl, by decide⟩
theorem gx_eq {I K : hI} {T n : Nat} (h : ∀ r, r < n → I 64 r = K 138 r ∧ I (T + 8) r = K 120 r) : ∀ j, j ≤ n → k_gx I T j = m_gx K j := by
  intro j
  induction j with
  | zero => intro _; rfl
  | succ j ih =>
    intro hj
    have e : m_gx K (j + 1) = m_gx K j ^^^ (if K 138 j = Int32.ofNat 1 then K 120 j else Int32.ofNat 0) := rfl
    rw [k_gx_s, e, ih (by omega), k_yg, (h j (by omega)).1, (h j (by omega)).2]
theorem gf_P {I K : hI} {T r m : Nat} (h1 : I 64 r = K 138 r) (h2 : I (T + 8) r = K 120 r) (hm : m < 128) : (k_yg I T r ^^^ Int32.ofNat m < k_yg I T r) ↔ (K 138 r = Int32.ofNat 1 ∧ K 120 r ^^^ Int32.ofNat m < K 120 r) := by
  unfold k_yg
  rw [h1, h2]
  by_cases c : K 138 r = Int32.ofNat 1
  · rw [if_pos c]; exact ⟨fun z => ⟨c, z⟩, fun z => z.2⟩
  · rw [if_neg c]
    refine ⟨fun z => ?_, fun z => absurd z.1 c⟩
    rw [am_xorN, am_ltN (by have := Nat.xor_lt_two_pow (n := 7) (x := 0) (y := m) (by decide) hm; omega) (by decide)] at z
    exact absurd z (Nat.not_lt_zero _)
theorem gf_eq {I K : hI} {T n m w : Nat} (hw : ¬ w = 0) (h : ∀ r, r < n → I 64 r = K 138 r ∧ I (T + 8) r = K 120 r) (hm : m < 128) : ∀ j r, r + j = n → k_gf I T w (Int32.ofNat m) j r = m_gf K w (Int32.ofNat m) j r := by
  intro j
  induction j with
  | zero => intro r _; rfl
  | succ j ih =>
    intro r e
    obtain ⟨h1, h2⟩ := h r (by omega)
    rw [k_gf_s, m_gf_s, ih (r + 1) (by omega)]
    by_cases c : k_yg I T r ^^^ Int32.ofNat m < k_yg I T r
    · have d := (gf_P h1 h2 hm).mp c
      rw [if_pos c, if_pos d, if_neg hw, k_yg, h1, h2, if_pos d.1]
    · rw [if_neg c, if_neg (fun z => c ((gf_P h1 h2 hm).mpr z))]
theorem gf_0 {I : hI} {T w n : Nat} {N : Nat → Nat} (tq : tqs I T N) (hn : n ≤ N 1) : ∀ j r, r + j = n → k_gf I T w (Int32.ofNat 0) j r = Int32.ofInt (-2) := by
  intro j
  induction j with
  | zero => intro r _; rfl
  | succ j ih =>
    intro r e
    obtain ⟨y1, y2⟩ := yg_N (r := r) tq (by omega)
    rw [k_gf_s, ih (r + 1) (by omega), if_neg]
    rw [y1, am_xorN, Nat.xor_zero]
    exact Int32.lt_irrefl
theorem gf_w0 {K : hI} {x : Int32} : ∀ j r, (∃ i, r ≤ i ∧ i < r + j ∧ K 138 i = Int32.ofNat 1 ∧ K 120 i ^^^ x < K 120 i) → m_gf K 0 x j r = Int32.ofNat 0 := by
  intro j
  induction j with
  | zero => rintro r ⟨i, h1, h2, _⟩; exact absurd h1 (by omega)
  | succ j ih =>
    rintro r ⟨i, h1, h2, h3, h4⟩
    rw [m_gf_s]
    by_cases c : K 138 r = Int32.ofNat 1 ∧ K 120 r ^^^ x < K 120 r
    · rw [if_pos c, if_pos rfl]
    · rw [if_neg c]
      refine ih (r + 1) ⟨i, ?_, by omega, h3, h4⟩
      by_cases e : i = r
      · subst e; exact absurd ⟨h3, h4⟩ c
      · omega
theorem op_game (x : Int32) : OPok 134 258 [.int x] := by
  rintro I J R ⟨T, O, N, u, q, h, r0, r2⟩
  obtain ⟨hT, _⟩ := rA_hT h.1
  obtain ⟨t, m0, l0⟩ := rA_ctk h.1
  have tr := h.1.2.2.2.2.2.1
  have tq := h.1.2.2.1
  by_cases c : ¬ x < Int32.ofNat 0 ∧ ¬ Int32.ofNat 2 < x
  · obtain ⟨ex, _, hw⟩ := am_btN (by omega) (by omega) c.1 c.2
    generalize nn x = w at ex hw
    subst ex
    refine op_same h r0 r2 (d_game hT r0 t hw (by omega)) (c_game h.1.2.2.2.2.1 hw (by omega)) ?_ kM_z tM_z
    have hv : ∀ r, r < N 1 → I 64 r = m_z I 138 r ∧ I (T + 8) r = m_z I 120 r := fun r hr => by
      rw [m_z_n (by omega), m_z_n (by omega)]
      exact ⟨(rB_r h.2.1 (show r < 8 by have := t.1.1; omega)).1, (tr.2.1 r hr).2.2.1⟩
    obtain ⟨m, hm, em, hb⟩ := gx_N (f := fun r => nn (k_yg I T r)) (fun r hr => yg_N tq hr) (N 1) (Nat.le_refl _)
    have eg := gx_eq hv (N 1) (Nat.le_refl _)
    unfold k_game m_game
    rw [← eg, em]
    by_cases c0 : m = 0
    · subst c0
      have z0 : Int32.ofNat 0 = 0 := rfl
      rw [if_pos z0, if_pos z0, gf_0 tq (Nat.le_refl _) (N 1) 0 (Nat.zero_add _)]
    · have z0 : ¬ Int32.ofNat m = 0 := fun z => c0 ((am_eqN (y := 0) (by omega) (by omega)).mp z)
      rw [if_neg z0, if_neg z0]
      by_cases c1 : w = 0
      · subst c1
        rw [if_pos rfl, gf_w0]
        by_cases g : ∀ r, r < N 1 → (nn (k_yg I T r)).testBit m.log2 = false
        · have := hb m.log2 g
          rw [Nat.testBit_log2 c0] at this
          exact absurd this (by decide)
        · obtain ⟨r, g1⟩ := Classical.not_forall.mp g
          obtain ⟨hr, g2⟩ := Classical.not_imp.mp g1
          obtain ⟨y1, y2⟩ := yg_N tq hr
          have g3 := nim7 m hm _ y2 c0 (by revert g2; cases (nn (k_yg I T r)).testBit m.log2 <;> simp)
          refine ⟨r, Nat.zero_le _, by omega, ?_⟩
          refine (gf_P (hv r hr).1 (hv r hr).2 hm).mp ?_
          rw [y1, am_xorN, am_ltN (by omega) (by omega)]; exact g3
      · rw [if_neg c1, gf_eq c1 hv hm (N 1) 0 (Nat.zero_add _)]
  · exact op_same h r0 r2 (d_game_no c (by omega)) (c_game_no c (by omega)) rfl kM_z tM_z
