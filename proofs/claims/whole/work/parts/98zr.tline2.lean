/-! Texts alike: ropes, rigging, voyages, storm and seed. -/
theorem m_rpL_b (K : hI) (a b : Nat) : m_rpL K a b = if b = 8 then (0, m_wr K (Int32.ofNat 2)) else mbd (rl1 K b) fun _ => mbd (rl2 K a b) fun _ => mbd (rl4 K a b) fun _ => mbd (rl6 K a b) fun _ => (1, rl7 K a b) := rfl
theorem rp_eq {T st : Nat} {e : Nat → Nat} {I K : hI} (h9 : T = 9 ∨ T = 36) (b : bse st I K) (c : cur I K) (d : DT T e I K) : LNR T st K (k_rp I T (e 1) (e 0)) (m_rpL K (e 0) (e 1)) := by
  obtain ⟨d1, d2, d3, d4, d5, d6⟩ := d
  obtain ⟨a1, a2, a3, a4, a5⟩ := d2
  have h0 := PR_kw b c
  rw [m_rpL_b]
  unfold k_rp
  by_cases g : e 1 = 8
  · rw [if_pos g, k_new4 (by omega), k_bd0 rfl]
    exact Or.inl ⟨rfl, rfl, FL_bl c.2.1, mF_e eT_wr⟩
  · rw [if_neg g]
    rcases new_st (A := T + 5) (m := 8) (n := e 1) (A' := 118) (a := 8) (by omega) (by omega) (by omega) (by omega) h0 (fun i hi => (a4 i hi).1) with f | ⟨X1, Y1, x, e1, e2, h1⟩
    · rw [k_bd0 f.1, show rl1 K (e 1) = m_new (m_tok K) 118 8 (e 1) from rfl, mbd0 f.2.1]; exact LNR_f mF_rf f
    · have q1 : rl1 K (e 1) = (1, Y1) := e2
      rw [e1, q1, kbd1, mbd1]
      have q2 : rl2 K (e 0) (e 1) = m_the Y1 115 6 (e 0) := by unfold rl2; rw [q1]
      rw [q2]
      rcases the_st (A := T + 1) (n := e 0) (A' := 115) (a := 6) (by have := d1.1; omega) (by omega) (by omega) h1 (fun i hi => by rw [am_u_na (by omega), am_u_na (by omega), am_u_na (by omega)]; exact (d1.2.2.2 i hi).1) with f | ⟨X2, Y2, j, hj, e3, e4, v1, v2, _, h2⟩
      · rw [k_bd0 f.1, mbd0 f.2.1]; exact LNR_f (mF_u (by unfold kept; omega)) f
      · rw [e3, e4, kbd1, mbd1, v1]
        have h3 := PR_w (a := T + 7) (k := e 1) (b := 119) (j := 8 + e 1) (x := Int32.ofNat j) (y := Int32.ofNat j) (PR_w1 (a := T + 10) (k := e 1) (x := Int32.ofInt (-1)) h2 (by omega)) (by omega) (by omega)
        have q3 : rl4 K (e 0) (e 1) = m_num (am_u Y2 119 (8 + e 1) (Int32.ofNat j)) (Int32.ofNat 1) (Int32.ofNat 99) := by unfold rl4 rl3; rw [q2, e4]; dsimp only; rw [v2]
        rw [q3]
        rcases num_st (lo := 1) (hi := 99) (by omega) (by omega) h3 with f | ⟨X4, Y4, w, e5, e6, w1, w2, h4⟩
        · rw [k_bd0 f.1, mbd0 f.2.1]; exact LNR_f (mF_tr (mF_u (by unfold kept; omega)) (mF_u (by unfold kept; omega))) f
        · rw [e5, e6, kbd1, mbd1, w1]
          have h5 := PR_w (a := T + 8) (k := e 1) (b := 120) (j := 8 + e 1) (x := w) (y := w) h4 (by omega) (by omega)
          have q4 : rl6 K (e 0) (e 1) = m_num (am_u Y4 120 (8 + e 1) w) (Int32.ofNat 0) (Int32.ofNat 99) := by unfold rl6 rl5; rw [q3, e6]; dsimp only; rw [w2]
          rw [q4]
          rcases num_st (lo := 0) (hi := 99) (by omega) (by omega) h5 with f | ⟨X6, Y6, y, e7, e8, y1, y2, h6⟩
          · rw [k_bd0 f.1, mbd0 f.2.1]; exact LNR_f (mF_tr (mF_tr (mF_u (by unfold kept; omega)) (mF_u (by unfold kept; omega))) (mF_u (by unfold kept; omega))) f
          · have q5 : rl7 K (e 0) (e 1) = am_u (am_u Y6 121 (8 + e 1) y) 110 18 (Int32.ofNat (e 1 + 1)) := by unfold rl7; rw [q4, e8]; dsimp only; rw [y2]
            rw [e7, e8, kbd1, mbd1, y1, q5]
            have h7 := PR_w2 (b := 110) (j := 18) (y := Int32.ofNat (e 1 + 1)) (PR_w (a := T + 9) (k := e 1) (b := 121) (j := 8 + e 1) (x := y) (y := y) h6 (by omega) (by omega)) (by omega)
            refine LNR_g (e := up e 1 (e 1 + 1)) (by omega) (mF_tr (mF_tr (mF_tr (mF_tr (mF_u (by unfold kept; omega)) (mF_u (by unfold kept; omega))) (mF_u (by unfold kept; omega))) (mF_u (by unfold kept; omega))) (mF_u (by unfold kept; omega))) h7 ⟨?_, ?_, ?_, ?_, ?_, ?_⟩
            · rw [up_ne (by decide)]; exact D1_c (fun b i u v => by rw [am_u_na (by omega), am_u_na (by omega), am_u_na (by omega), am_u_na (by omega), am_u_na (by omega), am_u_na (by omega)]) (fun b i u => by unfold am_u; rw [if_neg (by omega), if_neg (by omega), if_neg (by omega), if_neg (by omega), if_neg (by omega)]) d1
            · rw [up_at]
              refine ⟨by omega, ?_, am_u_at, fun m hm => ?_, fun r r1 r2 => ?_⟩
              · rw [am_u_na (by omega), am_u_na (by omega), am_u_na (by omega), am_u_na (by omega), am_u_at]
              · by_cases z : m = e 1
                · subst z
                  have k122 := a5 (e 1) (Nat.le_refl _) (by omega)
                  refine ⟨?_, ?_, ?_, ?_, ?_, ?_⟩
                  · rw [am_u_na (by omega), am_u_na (by omega), am_u_na (by omega), am_u_na (by omega), am_u_na (by omega), am_u_at, am_u_na (by omega), am_u_na (by omega), am_u_na (by omega), am_u_na (by omega), am_u_at]
                  · rw [am_u_na (by omega), am_u_na (by omega), am_u_at, am_u_na (by omega), am_u_na (by omega), am_u_na (by omega), am_u_at]
                  · rw [am_u_na (by omega), am_u_at, am_u_na (by omega), am_u_na (by omega), am_u_at]
                  · rw [am_u_at, am_u_na (by omega), am_u_at]
                  · rw [am_u_na (by omega), am_u_na (by omega), am_u_na (by omega), am_u_at, am_u_na (by omega), am_u_na (by omega), am_u_na (by omega), am_u_na (by omega), am_u_na (by omega)]; exact k122.symm
                  · rw [am_u_na (by omega), am_u_na (by omega), am_u_na (by omega), am_u_at]; exact Or.inl rfl
                · obtain ⟨q1, q2, q3, q4, q5, q6⟩ := a4 m (by omega)
                  have zz : 8 + m ≠ 8 + e 1 := by omega
                  refine ⟨?_, ?_, ?_, ?_, ?_, ?_⟩
                  · rw [am_u_na (by omega), am_u_na (by omega), am_u_na (by omega), am_u_na (by omega), am_u_na (by omega), am_u_nk z, am_u_na (by omega), am_u_na (by omega), am_u_na (by omega), am_u_na (by omega), am_u_nk zz]; exact q1
                  · rw [am_u_na (by omega), am_u_na (by omega), am_u_nk z, am_u_na (by omega), am_u_na (by omega), am_u_na (by omega), am_u_na (by omega), am_u_na (by omega), am_u_na (by omega), am_u_nk zz, am_u_na (by omega)]; exact q2
                  · rw [am_u_na (by omega), am_u_nk z, am_u_na (by omega), am_u_na (by omega), am_u_na (by omega), am_u_na (by omega), am_u_na (by omega), am_u_na (by omega), am_u_nk zz, am_u_na (by omega), am_u_na (by omega)]; exact q3
                  · rw [am_u_nk z, am_u_na (by omega), am_u_na (by omega), am_u_na (by omega), am_u_na (by omega), am_u_na (by omega), am_u_na (by omega), am_u_nk zz, am_u_na (by omega), am_u_na (by omega), am_u_na (by omega)]; exact q4
                  · rw [am_u_na (by omega), am_u_na (by omega), am_u_na (by omega), am_u_nk z, am_u_na (by omega), am_u_na (by omega), am_u_na (by omega), am_u_na (by omega), am_u_na (by omega), am_u_na (by omega), am_u_na (by omega)]; exact q5
                  · rw [am_u_na (by omega), am_u_na (by omega), am_u_na (by omega), am_u_nk z, am_u_na (by omega), am_u_na (by omega)]; exact q6
              · rw [am_u_na (by omega), am_u_na (by omega), am_u_na (by omega), am_u_na (by omega), am_u_na (by omega)]; exact a5 r (by omega) r2
            · rw [up_ne (by decide)]; exact D3_c (fun b i u v => by rw [am_u_na (by omega), am_u_na (by omega), am_u_na (by omega), am_u_na (by omega), am_u_na (by omega), am_u_na (by omega)]) (fun b i u => by unfold am_u; rw [if_neg (by omega), if_neg (by omega), if_neg (by omega), if_neg (by omega), if_neg (by omega)]) d3
            · rw [up_ne (by decide)]; exact D4_c (fun b i u => by unfold am_u; rw [if_neg (by omega), if_neg (by omega), if_neg (by omega), if_neg (by omega), if_neg (by omega), if_neg (by omega)]) (fun b i u => by unfold am_u; rw [if_neg (by omega), if_neg (by omega), if_neg (by omega), if_neg (by omega), if_neg (by omega)]) d4
            · exact D5_c (fun b i u => by unfold am_u; rw [if_neg (by omega), if_neg (by omega), if_neg (by omega), if_neg (by omega), if_neg (by omega), if_neg (by omega)]) (fun b i u => by unfold am_u; rw [if_neg (by omega), if_neg (by omega), if_neg (by omega), if_neg (by omega), if_neg (by omega)]) d5
            · exact D6_e (up_ne (by decide)) (up_ne (by decide)) (up_ne (by decide)) (D6_c (fun b i u v => by unfold am_u; rw [if_neg (by omega), if_neg (by omega), if_neg (by omega), if_neg (by omega), if_neg (by omega), if_neg (by omega)]) (fun b i u => by unfold am_u; rw [if_neg (by omega), if_neg (by omega), if_neg (by omega), if_neg (by omega), if_neg (by omega)]) d6)
theorem neg1 {x : Int32} (h : x = Int32.ofInt (-1) ∨ okn x 5) : x = Int32.ofInt (-1) ↔ x < 0 := by
  constructor
  · intro z; rw [z]; decide
  · intro z
    rcases h with h | h
    · exact h
    · rw [h.1] at z
      have := h.2
      exact absurd ((am_ltN (x := nn x) (y := 0) (by omega) (by omega)).mp z) (Nat.not_lt_zero _)
theorem rg_eq {T st : Nat} {e : Nat → Nat} {I K : hI} (h9 : T = 9 ∨ T = 36) (b : bse st I K) (c : cur I K) (d : DT T e I K) : LNR T st K (k_rg I T (e 1) (e 2)) (m_rgL K (e 1) (e 2)) := by
  obtain ⟨d1, d2, d3, d4, d5, d6⟩ := d
  obtain ⟨a1, a2, a3, a4, a5⟩ := d2
  have h0 := PR_kw b c
  unfold k_rg m_rgL
  rcases the_st (A := T + 5) (n := e 1) (A' := 118) (a := 8) a1 (by omega) (by omega) h0 (fun i hi => (a4 i hi).1) with f | ⟨X1, Y1, j, hj, e1, e2, v1, v2, v3, h1⟩
  · rw [k_bd0 f.1, if_pos (show (gl1 K (e 1)).1 = 0 from f.2.1)]; exact LNR_f mF_rf f
  · have q1 : gl1 K (e 1) = (1, Y1) := e2
    have q0 : glr K (e 1) = j := by unfold glr; rw [q1]; dsimp only; rw [v2, nn_ofNat (by omega)]
    rw [if_neg (show ¬ (gl1 K (e 1)).1 = 0 by rw [q1]; exact i01), q0]
    have q2 : gl2 K (e 1) (e 2) = m_the Y1 123 5 (e 2) := by unfold gl2; rw [q1]
    rw [e1, kbd1, v1, nn_ofNat (by omega)]
    unfold k_rg1
    obtain ⟨g1, g2, g3, g4, g5, g6⟩ := a4 j hj
    have x10 : X1 (T + 10) j = I (T + 10) j := h1.2.1 _ _ (by omega)
    have y10 : (gl1 K (e 1)).2 122 (8 + j) = K 122 (8 + j) := by rw [q1]; exact h1.2.2 _ _ (by omega)
    rw [x10]
    by_cases g : I (T + 10) j = Int32.ofInt (-1)
    · rw [if_pos g, if_pos (show (gl1 K (e 1)).2 122 (8 + j) < 0 by rw [y10, ← g5]; exact (neg1 g6).mp g)]
      rcases the_st (A := T + 11) (n := e 2) (A' := 123) (a := 5) (by have := d3.1; omega) (by omega) (by omega) h1 (fun i hi => (d3.2.2.2 i hi).1) with f | ⟨X2, Y2, i2, hi2, e3, e4, w1, w2, w3, h2⟩
      · rw [k_bd0 f.1, if_pos (show (gl2 K (e 1) (e 2)).1 = 0 by rw [q2]; exact f.2.1), q2]; exact LNR_f mF_rf f
      · have q3 : gl2 K (e 1) (e 2) = (1, Y2) := q2.trans e4
        rw [if_neg (show ¬ (gl2 K (e 1) (e 2)).1 = 0 by rw [q3]; exact i01), e3, kbd1, w1, q3]
        dsimp only
        rw [w2]
        have h3 := PR_w (a := T + 10) (k := j) (b := 122) (j := 8 + j) (x := Int32.ofNat i2) (y := Int32.ofNat i2) h2 (by omega) (by omega)
        refine LNR_g (e := e) (by omega) (mF_u (by unfold kept; omega)) h3 ⟨?_, ?_, ?_, ?_, ?_, ?_⟩
        · exact D1_c (fun b i u v => by rw [am_u_na (by omega)]) (fun b i u => by unfold am_u; rw [if_neg (by omega)]) d1
        · refine ⟨a1, ?_, ?_, fun m hm => ?_, fun r r1 r2 => ?_⟩
          · rw [am_u_na (by omega)]; exact a2
          · rw [am_u_na (by omega)]; exact a3
          · obtain ⟨q1, q2, q3, q4, q5, q6⟩ := a4 m hm
            refine ⟨by rw [am_u_na (by omega), am_u_na (by omega)]; exact q1, by rw [am_u_na (by omega), am_u_na (by omega)]; exact q2, by rw [am_u_na (by omega), am_u_na (by omega)]; exact q3, by rw [am_u_na (by omega), am_u_na (by omega)]; exact q4, ?_, ?_⟩
            · by_cases z : m = j
              · subst z; rw [am_u_at, am_u_at]
              · rw [am_u_nk z, am_u_nk (by omega)]; exact q5
            · by_cases z : m = j
              · subst z; rw [am_u_at]; exact Or.inr (okn_of (by have := d3.1; omega) (by omega))
              · rw [am_u_nk z]; exact q6
          · rw [am_u_nk (by omega)]; exact a5 r r1 r2
        · exact D3_c (fun b i u v => by rw [am_u_na (by omega)]) (fun b i u => by unfold am_u; rw [if_neg (by omega)]) d3
        · exact D4_c (fun b i u => by unfold am_u; rw [if_neg (by omega)]) (fun b i u => by unfold am_u; rw [if_neg (by omega)]) d4
        · exact D5_c (fun b i u => by unfold am_u; rw [if_neg (by omega)]) (fun b i u => by unfold am_u; rw [if_neg (by omega)]) d5
        · exact (D6_c (fun b i u v => by unfold am_u; rw [if_neg (by omega)]) (fun b i u => by unfold am_u; rw [if_neg (by omega)]) d6)
    · rw [if_neg g, if_neg (show ¬ (gl1 K (e 1)).2 122 (8 + j) < 0 by rw [y10, ← g5]; exact fun z => g ((neg1 g6).mpr z)), q1]
      refine Or.inl ⟨rfl, rfl, FL_bl ?_, ?_⟩
      · rw [am_u_at]; exact v3
      · refine mF_e (eT_tr eT_wr (eT_tr (fun a i h => ?_) h1.2.2))
        unfold am_u; rw [if_neg (by omega)]
theorem m_saL_b (K : hI) (c d : Nat) : m_saL K c d = if d = 10 then (0, m_wr K (Int32.ofNat 2)) else mbd (al1 K c) fun _ => mbd (al3 K c d) fun _ => mbd (al5 K c d) fun _ => (1, al6 K c d) := rfl
theorem sl_eq {T st : Nat} {e : Nat → Nat} {I K : hI} (h9 : T = 9 ∨ T = 36) (b : bse st I K) (c : cur I K) (d : DT T e I K) : LNR T st K (k_slc I T (e 3) (e 2)) (m_saL K (e 2) (e 3)) := by
  obtain ⟨d1, d2, d3, d4, d5, d6⟩ := d
  obtain ⟨a1, a2, a3, a4⟩ := d4
  have h0 := PR_kw b c
  rw [m_saL_b]
  unfold k_slc
  by_cases g : e 3 = 10
  · rw [if_pos g, if_neg (show ¬ e 3 < 10 by omega)]
    exact Or.inl ⟨rfl, rfl, FL_bl c.2.1, mF_e eT_wr⟩
  · rw [if_neg g, if_pos (show e 3 < 10 by omega)]
    unfold k_sl
    rcases the_st (A := T + 11) (n := e 2) (A' := 123) (a := 5) (by have := d3.1; omega) (by omega) (by omega) h0 (fun i hi => (d3.2.2.2 i hi).1) with f | ⟨X1, Y1, j, hj, e1, e2, v1, v2, _, h1⟩
    · rw [k_bd0 f.1, show al1 K (e 2) = m_the (m_tok K) 123 5 (e 2) from rfl, mbd0 f.2.1]; exact LNR_f mF_rf f
    · have q1 : al1 K (e 2) = (1, Y1) := e2
      rw [e1, q1, kbd1, mbd1, v1]
      have h2 := PR_w (a := T + 14) (k := e 3) (b := 125) (j := 10 + e 3) (x := Int32.ofNat j) (y := Int32.ofNat j) h1 (by omega) (by omega)
      have q2 : al3 K (e 2) (e 3) = m_num (am_u Y1 125 (10 + e 3) (Int32.ofNat j)) (Int32.ofNat 0) (Int32.ofNat 99) := by unfold al3 al2; rw [q1]; dsimp only; rw [v2]
      rw [q2]
      rcases num_st (lo := 0) (hi := 99) (by omega) (by omega) h2 with f | ⟨X3, Y3, w, e3, e4, w1, w2, h3⟩
      · rw [k_bd0 f.1, mbd0 f.2.1]; exact LNR_f (mF_u (by unfold kept; omega)) f
      · rw [e3, e4, kbd1, mbd1, w1]
        have h4 := PR_w (a := T + 15) (k := e 3) (b := 126) (j := 10 + e 3) (x := w) (y := w) h3 (by omega) (by omega)
        have q3 : al5 K (e 2) (e 3) = m_num (am_u Y3 126 (10 + e 3) w) (Int32.ofNat 1) (Int32.ofNat 30) := by unfold al5 al4; rw [q2, e4]; dsimp only; rw [w2]
        rw [q3]
        rcases num_st (lo := 1) (hi := 30) (by omega) (by omega) h4 with f | ⟨X5, Y5, y, e5, e6, y1, y2, h5⟩
        · rw [k_bd0 f.1, mbd0 f.2.1]; exact LNR_f (mF_tr (mF_u (by unfold kept; omega)) (mF_u (by unfold kept; omega))) f
        · have q4 : al6 K (e 2) (e 3) = am_u (am_u Y5 127 (10 + e 3) y) 110 20 (Int32.ofNat (e 3 + 1)) := by unfold al6; rw [q3, e6]; dsimp only; rw [y2]
          rw [e5, e6, kbd1, mbd1, q4]
          unfold k_sl3
          have x15 : X5 T 15 = I T 15 := (h5.2.1 _ _ (by omega)).trans ((am_u_na (by omega)).trans (am_u_na (by omega)))
          have xv : X5 (T + 15) (e 3) = w := (h5.2.1 _ _ (by omega)).trans am_u_at
          rw [y1, x15, xv]
          have h6 := PR_w (a := T) (k := 11) (b := 110) (j := 20) (x := Int32.ofNat (e 3 + 1)) (y := Int32.ofNat (e 3 + 1)) (PR_w1 (a := T) (k := 15) (x := if I T 15 < w then w else I T 15) (PR_w (a := T + 16) (k := e 3) (b := 127) (j := 10 + e 3) (x := y) (y := y) h5 (by omega) (by omega)) (by omega)) (by omega) (by omega)
          refine LNR_g (e := up e 3 (e 3 + 1)) (by omega) (mF_tr (mF_tr (mF_tr (mF_u (by unfold kept; omega)) (mF_u (by unfold kept; omega))) (mF_u (by unfold kept; omega))) (mF_u (by unfold kept; omega))) h6 ⟨?_, ?_, ?_, ?_, ?_, ?_⟩
          · rw [up_ne (by decide)]; exact D1_c (fun b i u v => by unfold am_u; rw [if_neg (by omega), if_neg (by omega), if_neg (by omega), if_neg (by omega), if_neg (by omega)]) (fun b i u => by unfold am_u; rw [if_neg (by omega), if_neg (by omega), if_neg (by omega), if_neg (by omega)]) d1
          · rw [up_ne (by decide)]; exact D2_c (fun b i u v => by unfold am_u; rw [if_neg (by omega), if_neg (by omega), if_neg (by omega), if_neg (by omega), if_neg (by omega)]) (fun b i u => by unfold am_u; rw [if_neg (by omega), if_neg (by omega), if_neg (by omega), if_neg (by omega)]) d2
          · rw [up_ne (by decide)]; exact D3_c (fun b i u v => by unfold am_u; rw [if_neg (by omega), if_neg (by omega), if_neg (by omega), if_neg (by omega), if_neg (by omega)]) (fun b i u => by unfold am_u; rw [if_neg (by omega), if_neg (by omega), if_neg (by omega), if_neg (by omega)]) d3
          · rw [up_at]
            have t15 : am_u (am_u (am_u (am_u (am_u I (T + 14) (e 3) (Int32.ofNat j)) (T + 15) (e 3) w) (T + 16) (e 3) y) T 15 (if I T 15 < w then w else I T 15)) T 11 (Int32.ofNat (e 3 + 1)) T 15 = (if I T 15 < w then w else I T 15) := by rw [am_u_nk (by decide), am_u_at]
            refine ⟨by omega, am_u_at, am_u_at, fun m hm => ?_⟩
            by_cases z : m = e 3
            · subst z
              refine ⟨?_, ?_, ?_, ?_⟩
              · rw [am_u_na (by omega), am_u_na (by omega), am_u_na (by omega), am_u_na (by omega), am_u_at, am_u_na (by omega), am_u_na (by omega), am_u_na (by omega), am_u_at]
              · rw [am_u_na (by omega), am_u_na (by omega), am_u_na (by omega), am_u_at, am_u_na (by omega), am_u_na (by omega), am_u_at]
              · rw [am_u_na (by omega), am_u_na (by omega), am_u_at, am_u_na (by omega), am_u_at]
              · rw [t15, am_u_na (by omega), am_u_na (by omega), am_u_na (by omega), am_u_at]
                by_cases q : I T 15 < w
                · rw [if_pos q]; exact Int32.lt_irrefl
                · rw [if_neg q]; exact q
            · obtain ⟨q1, q2, q3, q4⟩ := a4 m (by omega)
              have zz : 10 + m ≠ 10 + e 3 := by omega
              refine ⟨?_, ?_, ?_, ?_⟩
              · rw [am_u_na (by omega), am_u_na (by omega), am_u_na (by omega), am_u_na (by omega), am_u_nk z, am_u_na (by omega), am_u_na (by omega), am_u_na (by omega), am_u_nk zz]; exact q1
              · rw [am_u_na (by omega), am_u_na (by omega), am_u_na (by omega), am_u_nk z, am_u_na (by omega), am_u_na (by omega), am_u_na (by omega), am_u_nk zz, am_u_na (by omega)]; exact q2
              · rw [am_u_na (by omega), am_u_na (by omega), am_u_nk z, am_u_na (by omega), am_u_na (by omega), am_u_na (by omega), am_u_nk zz, am_u_na (by omega), am_u_na (by omega)]; exact q3
              · rw [t15, am_u_na (by omega), am_u_na (by omega), am_u_na (by omega), am_u_nk z, am_u_na (by omega)]
                by_cases q : I T 15 < w
                · rw [if_pos q]; exact fun y => q4 (Int32.lt_trans q y)
                · rw [if_neg q]; exact q4
          · exact D5_c (fun b i u => by unfold am_u; rw [if_neg (by omega), if_neg (by omega), if_neg (by omega), if_neg (by omega), if_neg (by omega)]) (fun b i u => by unfold am_u; rw [if_neg (by omega), if_neg (by omega), if_neg (by omega), if_neg (by omega)]) d5
          · exact D6_e (up_ne (by decide)) (up_ne (by decide)) (up_ne (by decide)) (D6_c (fun b i u v => by unfold am_u; rw [if_neg (by omega), if_neg (by omega), if_neg (by omega), if_neg (by omega), if_neg (by omega)]) (fun b i u => by unfold am_u; rw [if_neg (by omega), if_neg (by omega), if_neg (by omega), if_neg (by omega)]) d6)
theorem sto_eq {T st : Nat} {e : Nat → Nat} {I K : hI} (h9 : T = 9 ∨ T = 36) (b : bse st I K) (c : cur I K) (d : DT T e I K) : LNR T st K (k_sto I T) (m_onL K 0 (Int32.ofNat 100)) := by
  obtain ⟨d1, d2, d3, d4, ⟨⟨u1, u2⟩, u3, u4⟩, d6⟩ := d
  unfold k_sto m_onL
  by_cases g : I 2 3 = 0
  · rw [if_pos g, if_pos (show K 113 0 = 0 from u3.mp g)]
    have b' : bse st I (am_u K 113 0 (Int32.ofNat 1)) := bse_c (fun _ _ _ => rfl) (fun a i h => am_u_na (by omega)) b
    have c' : cur I (am_u K 113 0 (Int32.ofNat 1)) := cur_c (fun _ _ => rfl) (fun i _ _ => am_u_na (by decide)) c
    have h0 := PR_kw b' c'
    have q1 : ol1 K 0 (Int32.ofNat 100) = m_num (m_tok (am_u K 113 0 (Int32.ofNat 1))) (Int32.ofNat 0) (Int32.ofNat 100) := rfl
    rcases num_st (lo := 0) (hi := 100) (by omega) (by omega) h0 with f | ⟨X1, Y1, v, e1, e2, v1, v2, h1⟩
    · rw [k_bd0 f.1, if_pos (show (ol1 K 0 (Int32.ofNat 100)).1 = 0 from f.2.1), q1]; exact LNR_f (mF_u (by unfold kept; omega)) f
    · have q2 : ol1 K 0 (Int32.ofNat 100) = (1, Y1) := e2
      rw [if_neg (show ¬ (ol1 K 0 (Int32.ofNat 100)).1 = 0 by rw [q2]; exact i01), e1, kbd1, q2, v1]
      dsimp only
      rw [v2]
      have h2 := PR_w1 (a := 2) (k := 3) (x := Int32.ofNat 1) (PR_w (a := T) (k := 16) (b := 114) (j := 2 + 0) (x := v) (y := v) h1 (by omega) (by omega)) (by omega)
      refine LNR_g (e := e) (by omega) (mF_tr (mF_u (by unfold kept; omega)) (mF_u (by unfold kept; omega))) h2 ⟨?_, ?_, ?_, ?_, ?_, ?_⟩
      · exact D1_c (fun b i u v => by rw [am_u_na (by omega), am_u_na (by omega)]) (fun b i u => by unfold am_u; rw [if_neg (by omega), if_neg (by omega)]) d1
      · exact D2_c (fun b i u v => by rw [am_u_na (by omega), am_u_na (by omega)]) (fun b i u => by unfold am_u; rw [if_neg (by omega), if_neg (by omega)]) d2
      · exact D3_c (fun b i u v => by rw [am_u_na (by omega), am_u_na (by omega)]) (fun b i u => by unfold am_u; rw [if_neg (by omega), if_neg (by omega)]) d3
      · exact D4_c (fun b i u => by unfold am_u; rw [if_neg (by omega), if_neg (by omega)]) (fun b i u => by unfold am_u; rw [if_neg (by omega), if_neg (by omega)]) d4
      · refine ⟨⟨?_, ?_⟩, ?_, ?_⟩
        · rw [am_u_na (by omega), am_u_at]; exact am_u_at.symm
        · rw [am_u_na (by omega), am_u_nk (by decide), am_u_nk (by decide), am_u_na (by decide)]; exact u2
        · rw [am_u_at, am_u_na (by decide), am_u_at]
        · rw [am_u_nk (by decide), am_u_na (by omega), am_u_na (by decide), am_u_nk (by decide)]; exact u4
      · exact D6_c (fun b i u v => by unfold am_u; rw [if_neg (by omega), if_neg (by omega)]) (fun b i u => by unfold am_u; rw [if_neg (by omega), if_neg (by omega)]) d6
  · rw [if_neg g, if_neg (show ¬ K 113 0 = 0 from fun z => g (u3.mpr z))]
    exact Or.inl ⟨rfl, rfl, FL_bl c.2.1, mF_e eT_wr⟩
theorem see_eq {T st : Nat} {e : Nat → Nat} {I K : hI} (h9 : T = 9 ∨ T = 36) (b : bse st I K) (c : cur I K) (d : DT T e I K) : LNR T st K (k_see I T) (m_onL K 1 (Int32.ofNat 99999)) := by
  obtain ⟨d1, d2, d3, d4, ⟨⟨u1, u2⟩, u3, u4⟩, d6⟩ := d
  unfold k_see m_onL
  by_cases g : I 2 4 = 0
  · rw [if_pos g, if_pos (show K 113 1 = 0 from u4.mp g)]
    have b' : bse st I (am_u K 113 1 (Int32.ofNat 1)) := bse_c (fun _ _ _ => rfl) (fun a i h => am_u_na (by omega)) b
    have c' : cur I (am_u K 113 1 (Int32.ofNat 1)) := cur_c (fun _ _ => rfl) (fun i _ _ => am_u_na (by decide)) c
    have h0 := PR_kw b' c'
    have q1 : ol1 K 1 (Int32.ofNat 99999) = m_num (m_tok (am_u K 113 1 (Int32.ofNat 1))) (Int32.ofNat 0) (Int32.ofNat 99999) := rfl
    rcases num_st (lo := 0) (hi := 99999) (by omega) (by omega) h0 with f | ⟨X1, Y1, v, e1, e2, v1, v2, h1⟩
    · rw [k_bd0 f.1, if_pos (show (ol1 K 1 (Int32.ofNat 99999)).1 = 0 from f.2.1), q1]; exact LNR_f (mF_u (by unfold kept; omega)) f
    · have q2 : ol1 K 1 (Int32.ofNat 99999) = (1, Y1) := e2
      rw [if_neg (show ¬ (ol1 K 1 (Int32.ofNat 99999)).1 = 0 by rw [q2]; exact i01), e1, kbd1, q2, v1]
      dsimp only
      rw [v2]
      have h2 := PR_w1 (a := 2) (k := 4) (x := Int32.ofNat 1) (PR_w (a := T) (k := 17) (b := 114) (j := 2 + 1) (x := v) (y := v) h1 (by omega) (by omega)) (by omega)
      refine LNR_g (e := e) (by omega) (mF_tr (mF_u (by unfold kept; omega)) (mF_u (by unfold kept; omega))) h2 ⟨?_, ?_, ?_, ?_, ?_, ?_⟩
      · exact D1_c (fun b i u v => by rw [am_u_na (by omega), am_u_na (by omega)]) (fun b i u => by unfold am_u; rw [if_neg (by omega), if_neg (by omega)]) d1
      · exact D2_c (fun b i u v => by rw [am_u_na (by omega), am_u_na (by omega)]) (fun b i u => by unfold am_u; rw [if_neg (by omega), if_neg (by omega)]) d2
      · exact D3_c (fun b i u v => by rw [am_u_na (by omega), am_u_na (by omega)]) (fun b i u => by unfold am_u; rw [if_neg (by omega), if_neg (by omega)]) d3
      · exact D4_c (fun b i u => by unfold am_u; rw [if_neg (by omega), if_neg (by omega)]) (fun b i u => by unfold am_u; rw [if_neg (by omega), if_neg (by omega)]) d4
      · refine ⟨⟨?_, ?_⟩, ?_, ?_⟩
        · rw [am_u_na (by omega), am_u_nk (by decide), am_u_nk (by decide), am_u_na (by decide)]; exact u1
        · rw [am_u_na (by omega), am_u_at]; exact am_u_at.symm
        · rw [am_u_nk (by decide), am_u_na (by omega), am_u_na (by decide), am_u_nk (by decide)]; exact u3
        · rw [am_u_at, am_u_na (by decide), am_u_at]
      · exact D6_c (fun b i u v => by unfold am_u; rw [if_neg (by omega), if_neg (by omega)]) (fun b i u => by unfold am_u; rw [if_neg (by omega), if_neg (by omega)]) d6
  · rw [if_neg g, if_neg (show ¬ K 113 1 = 0 from fun z => g (u4.mpr z))]
    exact Or.inl ⟨rfl, rfl, FL_bl c.2.1, mF_e eT_wr⟩
