/-! Calls alike (seven): see, strike, known, keep, back. -/
theorem op_see (x y w : Int32) (hw : w = 0 ∨ w = 1) : OPok 147 267 [.int x, .int y, .int w] := by
  rintro I J R ⟨T, O, N, u, q, h, r0, r2⟩
  obtain ⟨hT, _⟩ := rA_hT h.1
  obtain ⟨t, m0, l0⟩ := rA_ctk h.1
  have tk := h.1.2.2.2.2.1
  have n5 := t.1.2.1
  obtain ⟨e1, e2, e3, e4, e5, e6⟩ := h.2.2.2.2.1
  by_cases c : (¬ x < Int32.ofNat 1 ∧ ¬ Int32.ofNat 60 < x) ∧ (¬ y < 0 ∧ y < I (T + 11) 1)
  · obtain ⟨ex, h1, h2⟩ := am_btN (by omega) (by omega) c.1.1 c.1.2
    generalize nn x = n at ex h1 h2
    subst ex
    obtain ⟨s, hs, rfl⟩ := am_oneN t.2.1.2.1 (by omega) c.2
    by_cases g : q < 24
    · have fC : ∀ a i, a ≠ 88 → a ≠ 89 → a ≠ 90 → a ≠ 91 → a ≠ 92 → k_as I q (Int32.ofNat n) (Int32.ofNat s) w a i = I a i := fun a i g1 g2 g3 g4 g5 => (am_u_na g1).trans ((am_u_na g5).trans ((am_u_na g4).trans ((am_u_na g3).trans (am_u_na g2))))
      have tk1 : tok (k_as I q (Int32.ofNat n) (Int32.ofNat s) w) N := tok_c (fun a i z => fC a i (by omega) (by omega) (by omega) (by omega) (by omega)) tk
      have fM : ∀ (K : hI) (c : Int32) a i, a ≠ 149 → ¬ (a = 110 ∧ (i = 79 ∨ i = 2)) → m_noI (m_z K) q (Int32.ofNat n) (Int32.ofNat s) c a i = K a i := fun K c a i g1 g2 => by
        unfold m_noI m_z am_u
        rw [if_neg (by omega), if_neg (by omega), if_neg (by omega), if_neg (by omega), if_neg (by omega)]
      have hk : REL T O N u q I J (k_as I q (Int32.ofNat n) (Int32.ofNat s) w) J := REL_cc h (fun _ _ _ => rfl) (fun a i g => fC a i (by omega) (by omega) (by omega) (by omega) (by omega)) rfl rfl rfl rfl
      refine op_mk (T := T) (O := O) (N := N) (u := u) (q := q + 1) (d_see hT r0 t hs h1 h2 hw g e2 (by omega)) (c_see tk1 hs h1 h2 g (by rw [fC 110 79 (by omega) (by omega) (by omega) (by omega) (by omega)]; exact e3) (by omega)) rfl (fun a i g => fM _ _ a i (by omega) (by omega)) ⟨rfl, rfl⟩ ?_ r0 r2
      revert fC hk
      generalize hB : k_as I q (Int32.ofNat n) (Int32.ofNat s) w = B
      intro fC hk
      obtain ⟨a, b, cc, d, e, gg, f⟩ := hk
      have fM2 := fM B (if w = 0 then Int32.ofNat 0 else Int32.ofNat 1)
      refine ⟨rA_c (fun a i x y => fC a i (by omega) (by omega) (by omega) (by omega) (by omega)) (fun a i x => fM2 a i (by omega) (by omega)) a, rB_c (fun a i x y => fC a i (by omega) (by omega) (by omega) (by omega) (by omega)) (fun a i x y => fM2 a i (by omega) (by omega)) rfl rfl b, rC_c (fun a i x => fC a i (by omega) (by omega) (by omega) (by omega) (by omega)) (fun a i x => fM2 a i (by omega) (by omega)) rfl rfl cc, rD_c (fun a i x y => fC a i (by omega) (by omega) (by omega) (by omega) (by omega)) (fun a i x => fM2 a i (by omega) (by omega)) d, ?_, rG_c (fun a i x => fC a i (by omega) (by omega) (by omega) (by omega) (by omega)) (fun a i x => fM2 a i (by omega) (by omega)) gg, rF_c a (fun a i x => fC a i (by omega) (by omega) (by omega) (by omega) (by omega)) (fun a i x => fM2 a i (by omega) (by omega)) f⟩
      obtain ⟨_, _, b3, b4, _, b6⟩ := e
      refine ⟨by omega, ?_, ?_, ?_, ?_, fun i hi => ?_⟩
      · rw [← hB]; exact am_u_at
      · exact am_u_at
      · rw [fM2 110 80 (by omega) (by omega), ← b4, ← hB]
        unfold k_as
        rw [am_u_nk (by decide), am_u_na (by decide), am_u_na (by decide), am_u_na (by decide), am_u_na (by decide)]
      · rw [← hB]
        unfold k_as
        rw [am_u_nk (by decide), am_u_na (by decide), am_u_na (by decide), am_u_na (by decide), am_u_na (by decide)]
        exact e5.imp id (fun o => okn_mono o (by omega))
      · have m0 : m_noI (m_z B) q (Int32.ofNat n) (Int32.ofNat s) (if w = 0 then Int32.ofNat 0 else Int32.ofNat 1) 149 = am_u (am_u (am_u (m_z B) 149 (3 * q) (Int32.ofNat n)) 149 (3 * q + 1) (Int32.ofNat s)) 149 (3 * q + 2) (if w = 0 then Int32.ofNat 0 else Int32.ofNat 1) 149 := am_u_ne (by decide)
        rw [m0]
        by_cases ei : i = q
        · subst ei
          left
          have b89 : B 89 i = Int32.ofNat n := by rw [← hB]; unfold k_as; rw [am_u_na (by decide), am_u_na (by decide), am_u_na (by decide), am_u_na (by decide), am_u_at]
          have b90 : B 90 i = Int32.ofNat s := by rw [← hB]; unfold k_as; rw [am_u_na (by decide), am_u_na (by decide), am_u_na (by decide), am_u_at]
          have b91 : B 91 i = w := by rw [← hB]; unfold k_as; rw [am_u_na (by decide), am_u_na (by decide), am_u_at]
          have b92 : B 92 i = Int32.ofInt (-1) := by rw [← hB]; unfold k_as; rw [am_u_na (by decide), am_u_at]
          rw [b89, b90, b91, b92]
          refine ⟨rfl, okn_of (by omega) (by omega), okn_of (by omega) (by omega), by rw [nn_ofNat (by omega)]; exact h1, hw, ?_, ?_, ?_⟩
          · rw [am_u_nk (by omega), am_u_nk (by omega), am_u_at]
          · rw [am_u_nk (by omega), am_u_at]
          · rw [am_u_at]
            rcases hw with rfl | rfl
            · rfl
            · rfl
        · have hi2 : i < q := by omega
          have bo : ∀ a, 89 ≤ a → a ≤ 92 → B a i = I a i := fun a g1 g2 => by
            rw [← hB]; unfold k_as
            rw [am_u_na (by omega), am_u_nk ei, am_u_nk ei, am_u_nk ei, am_u_nk ei]
          have ko : ∀ j, j < 3 → am_u (am_u (am_u (m_z B) 149 (3 * q) (Int32.ofNat n)) 149 (3 * q + 1) (Int32.ofNat s)) 149 (3 * q + 2) (if w = 0 then Int32.ofNat 0 else Int32.ofNat 1) 149 (3 * i + j) = B 149 (3 * i + j) := fun j hj => by
            rw [am_u_nk (by omega), am_u_nk (by omega), am_u_nk (by omega)]; exact m_z_n (by omega)
          have k0 : am_u (am_u (am_u (m_z B) 149 (3 * q) (Int32.ofNat n)) 149 (3 * q + 1) (Int32.ofNat s)) 149 (3 * q + 2) (if w = 0 then Int32.ofNat 0 else Int32.ofNat 1) 149 (3 * i) = B 149 (3 * i) := ko 0 (by omega)
          have k1 := ko 1 (by omega)
          have k2 := ko 2 (by omega)
          rw [bo 89 (by omega) (by omega), bo 90 (by omega) (by omega), bo 91 (by omega) (by omega), bo 92 (by omega) (by omega), k0, k1, k2]
          exact b6 i hi2
    · obtain rfl : q = 24 := by omega
      exact op_same h r0 r2 (d_see_full hT r0 t hs h1 h2 e2 (by omega)) (c_see_no (fun z => z.1 e3) (by omega)) rfl kM_z tM_z
  · exact op_same h r0 r2 (d_see_no hT r0 c (by omega)) (c_see_no (fun z => c ⟨z.2.1, by rw [tk.2.1.2.2.1, ← t.2.1.2.1] at z; exact z.2.2⟩) (by omega)) rfl kM_z tM_z
theorem op_strike (x : Int32) : OPok 148 268 [.int x] := by
  rintro I J R ⟨T, O, N, u, q, h, r0, r2⟩
  obtain ⟨e1, e2, e3, e4, e5, e6⟩ := h.2.2.2.2.1
  by_cases c : ¬ x < 0 ∧ x < I 88 0 ∧ I 88 0 < Int32.ofNat 24
  · obtain ⟨i0, hi0, rfl⟩ := am_oneN e2 (by omega) ⟨c.1, c.2.1⟩
    have g : q < 24 := by have := c.2.2; rw [e2] at this; exact (am_ltN (by omega) (by omega)).mp this
    have fC : ∀ a i, a ≠ 88 → a ≠ 92 → k_sk I q (Int32.ofNat i0) a i = I a i := fun a i g1 g5 => (am_u_na g1).trans (am_u_na g5)
    have fM : ∀ (K : hI) a i, a ≠ 149 → ¬ (a = 110 ∧ (i = 79 ∨ i = 2)) → m_noI (m_z K) q (Int32.ofInt (-1)) (Int32.ofNat i0) (Int32.ofNat 0) a i = K a i := fun K a i g1 g2 => by
      unfold m_noI m_z am_u
      rw [if_neg (by omega), if_neg (by omega), if_neg (by omega), if_neg (by omega), if_neg (by omega)]
    have hk : REL T O N u q I J (k_sk I q (Int32.ofNat i0)) J := REL_cc h (fun _ _ _ => rfl) (fun a i g => fC a i (by omega) (by omega)) rfl rfl rfl rfl
    refine op_mk (T := T) (O := O) (N := N) (u := u) (q := q + 1) (d_strike g hi0 e2 (by omega)) (c_strike g (by rw [fC 110 79 (by omega) (by omega)]; exact e3) hi0 (by omega)) rfl (fun a i g => fM _ a i (by omega) (by omega)) ⟨rfl, rfl⟩ ?_ r0 r2
    revert fC hk
    generalize hB : k_sk I q (Int32.ofNat i0) = B
    intro fC hk
    obtain ⟨a, b, cc, d, e, gg, f⟩ := hk
    have fM2 := fM B
    refine ⟨rA_c (fun a i x y => fC a i (by omega) (by omega)) (fun a i x => fM2 a i (by omega) (by omega)) a, rB_c (fun a i x y => fC a i (by omega) (by omega)) (fun a i x y => fM2 a i (by omega) (by omega)) rfl rfl b, rC_c (fun a i x => fC a i (by omega) (by omega)) (fun a i x => fM2 a i (by omega) (by omega)) rfl rfl cc, rD_c (fun a i x y => fC a i (by omega) (by omega)) (fun a i x => fM2 a i (by omega) (by omega)) d, ?_, rG_c (fun a i x => fC a i (by omega) (by omega)) (fun a i x => fM2 a i (by omega) (by omega)) gg, rF_c a (fun a i x => fC a i (by omega) (by omega)) (fun a i x => fM2 a i (by omega) (by omega)) f⟩
    obtain ⟨_, _, b3, b4, _, b6⟩ := e
    have b88 : B 88 1 = I 88 1 := by rw [← hB]; unfold k_sk; rw [am_u_nk (by decide), am_u_na (by decide)]
    refine ⟨by omega, ?_, ?_, ?_, ?_, fun i hi => ?_⟩
    · rw [← hB]; exact am_u_at
    · exact am_u_at
    · rw [fM2 110 80 (by omega) (by omega), ← b4, b88]
    · rw [b88]; exact e5.imp id (fun o => okn_mono o (by omega))
    · have m0 : m_noI (m_z B) q (Int32.ofInt (-1)) (Int32.ofNat i0) (Int32.ofNat 0) 149 = am_u (am_u (am_u (m_z B) 149 (3 * q) (Int32.ofInt (-1))) 149 (3 * q + 1) (Int32.ofNat i0)) 149 (3 * q + 2) (Int32.ofNat 0) 149 := am_u_ne (by decide)
      rw [m0]
      by_cases ei : i = q
      · subst ei
        right
        have b92 : B 92 i = Int32.ofNat i0 := by rw [← hB]; unfold k_sk; rw [am_u_na (by decide), am_u_at]
        rw [b92]
        refine ⟨okn_of (by omega) (by omega), ?_, ?_⟩
        · rw [am_u_nk (by omega), am_u_nk (by omega), am_u_at]
        · rw [am_u_nk (by omega), am_u_at]
      · have hi2 : i < q := by omega
        have bo : ∀ a, 89 ≤ a → a ≤ 92 → B a i = I a i := fun a g1 g2 => by
          rw [← hB]; unfold k_sk
          rw [am_u_na (by omega), am_u_nk ei]
        have ko : ∀ j, j < 3 → am_u (am_u (am_u (m_z B) 149 (3 * q) (Int32.ofInt (-1))) 149 (3 * q + 1) (Int32.ofNat i0)) 149 (3 * q + 2) (Int32.ofNat 0) 149 (3 * i + j) = B 149 (3 * i + j) := fun j hj => by
          rw [am_u_nk (by omega), am_u_nk (by omega), am_u_nk (by omega)]; exact m_z_n (by omega)
        have k0 : am_u (am_u (am_u (m_z B) 149 (3 * q) (Int32.ofInt (-1))) 149 (3 * q + 1) (Int32.ofNat i0)) 149 (3 * q + 2) (Int32.ofNat 0) 149 (3 * i) = B 149 (3 * i) := ko 0 (by omega)
        have k1 := ko 1 (by omega)
        have k2 := ko 2 (by omega)
        rw [bo 89 (by omega) (by omega), bo 90 (by omega) (by omega), bo 91 (by omega) (by omega), bo 92 (by omega) (by omega), k0, k1, k2]
        exact b6 i hi2
  · refine op_same h r0 r2 (d_strike_no c (by omega)) (c_strike_no (fun z => c ?_) (by omega)) rfl kM_z tM_z
    rw [e3] at z
    rw [e2]
    refine ⟨z.2.1, z.2.2, (am_ltN (by omega) (by omega)).mpr ?_⟩
    have : ¬ q = 24 := fun y => z.1 (by rw [y])
    omega
theorem am_mk1 {x : Int32} {q : Nat} (hq : q ≤ 1000) (h : ¬ x < Int32.ofInt (-1)) (g : ¬ Int32.ofNat q < x) : x = Int32.ofInt (-1) ∨ okn x (q + 1) := by
  by_cases z : x < 0
  · left
    rw [Int32.lt_iff_toInt_lt] at h z
    have e1 : (Int32.ofInt (-1)).toInt = -1 := by decide
    have e0 : (0 : Int32).toInt = 0 := rfl
    rw [e1] at h
    rw [e0] at z
    apply Int32.toInt_inj.mp
    rw [e1]; omega
  · right
    obtain ⟨e, _, f⟩ := am_btN (a := 0) (by omega) (by omega) z g
    exact ⟨e, by omega⟩
theorem op_known (x : Int32) : OPok 149 269 [.int x] := by
  rintro I J R ⟨T, O, N, u, q, h, r0, r2⟩
  obtain ⟨e1, e2, e3, e4, e5, e6⟩ := h.2.2.2.2.1
  by_cases c : ¬ x < Int32.ofInt (-1) ∧ ¬ I 88 0 < x
  · have c2 : ¬ x < Int32.ofInt (-1) ∧ ¬ I 110 79 < x := by rw [e3, ← e2]; exact c
    have fM : ∀ (K : hI) a i, ¬ (a = 110 ∧ (i = 80 ∨ i = 2)) → am_u (m_z K) 110 80 x a i = K a i := fun K a i g2 => by
      unfold m_z am_u
      rw [if_neg (by omega), if_neg (by omega)]
    have hk : REL T O N u q I J (am_u I 88 1 x) J := REL_cc h (fun _ _ _ => rfl) (fun a i g => am_u_na (by omega)) rfl rfl rfl rfl
    refine op_mk (T := T) (O := O) (N := N) (u := u) (q := q) (d_known c (by omega)) (c_known (show m_knP (am_u I 88 1 x) x from c2) (by omega)) rfl (fun a i g => fM _ a i (by omega)) ⟨rfl, rfl⟩ ?_ r0 r2
    obtain ⟨a, b, cc, d, e, gg, f⟩ := hk
    have fM2 := fM (am_u I 88 1 x)
    refine ⟨rA_c (fun a i x y => am_u_na (by omega)) (fun a i x => fM2 a i (by omega)) a, rB_c (fun a i x y => am_u_na (by omega)) (fun a i x y => fM2 a i (by omega)) rfl rfl b, rC_c (fun a i x => am_u_na (by omega)) (fun a i x => fM2 a i (by omega)) rfl rfl cc, rD_c (fun a i x y => am_u_na (by omega)) (fun a i x => fM2 a i (by omega)) d, ?_, rG_c (fun a i x => am_u_na (by omega)) (fun a i x => fM2 a i (by omega)) gg, rF_c a (fun a i x => am_u_na (by omega)) (fun a i x => fM2 a i (by omega)) f⟩
    obtain ⟨_, _, b3, b4, _, b6⟩ := e
    refine ⟨e1, (am_u_nk (by decide)).trans e2, (fM2 110 79 (by omega)).trans b3, am_u_at.trans am_u_at.symm, ?_, fun i hi => ?_⟩
    · rw [am_u_at]; exact am_mk1 (by omega) c.1 (by rw [← e2]; exact c.2)
    · rw [am_u_na (by decide), am_u_na (by decide), am_u_na (by decide), am_u_na (by decide), fM2 149 _ (by omega), fM2 149 _ (by omega), fM2 149 _ (by omega)]
      exact b6 i hi
  · exact op_same h r0 r2 (d_known_no c (by omega)) (c_known_no (show ¬ m_knP I x from fun z => c (by have := z; unfold m_knP at this; rw [e3, ← e2] at this; exact this)) (by omega)) rfl kM_z tM_z
