/-! Calls alike (twenty-two): text. -/
/-- a text read, told on both sides -/
theorem DT_rA {T O : Nat} {e : Nat → Nat} {X q M : hI} {c : Nat → Nat} (h1 : (T = 9 ∧ O = 36) ∨ (T = 36 ∧ O = 9)) (d : DT T e X q) (tz : tsz X T c) (tq : tqs X T c) (th : thk X O) (hM : ∀ a i, (112 ≤ a ∧ a ≤ 133) ∨ (a = 110 ∧ 12 ≤ i ∧ i ≤ 16) → M a i = m_ktI q a i) (h112 : ∀ i, i < 106 → q 112 i = Int32.ofNat (wd i)) : rA T O e X M := by
  obtain ⟨⟨a1, a2, a3, a4⟩, ⟨b1, b2, b3, b4, b5⟩, ⟨c1, c2, c3, c4⟩, ⟨d1, d2, d3, d4⟩, ⟨⟨f1, f2⟩, _, _⟩, ⟨g1, g2, g3, g4, g5⟩⟩ := d
  obtain ⟨z, z0, z1, z2, z3, z4, z5, z6⟩ := tz
  have e0 : c 0 = e 0 := (am_eqN (by omega) (by omega)).mp (z0.symm.trans a2)
  have e1 : c 1 = e 1 := (am_eqN (by omega) (by omega)).mp (z1.symm.trans b2)
  have e2 : c 2 = e 2 := (am_eqN (by omega) (by omega)).mp (z2.symm.trans c2)
  have e3 : c 3 = e 3 := (am_eqN (by omega) (by omega)).mp (z3.symm.trans d2)
  have tq' : tqs X T e := by
    unfold tqs at tq ⊢
    rw [← e0, ← e1, ← e2, ← e3]; exact tq
  obtain ⟨k12, k13, k14, k15, k16⟩ := kt_110 (K := q)
  have mr : ∀ a i, 112 ≤ a → a ≤ 133 → M a i = m_ktI q a i := fun a i u v => hM a i (by omega)
  have lw : ∀ w, w < 3 → M 128 w = q 128 (3 + w) ∧ M 129 w = q 129 (3 + w) ∧ M 130 w = q 130 (3 + w) := fun w hw => ⟨(mr _ _ (by omega) (by omega)).trans (kt_128 hw), (mr _ _ (by omega) (by omega)).trans (kt_129 hw), (mr _ _ (by omega) (by omega)).trans (kt_130 hw)⟩
  have kn : ∀ a i, 131 ≤ a → a ≤ 133 → i < 64 → M a i = q a (64 + i) := fun a i u v hi => by
    rw [mr a i (by omega) v]
    have : a = 131 ∨ a = 132 ∨ a = 133 := by omega
    rcases this with rfl | rfl | rfl
    · exact kt_131 hi
    · exact kt_132 hi
    · exact kt_133 hi
  refine ⟨h1, ⟨⟨a1, b1, c1, d1, g1⟩, a2, b2, c2, d2, (g4 0 (by omega)).1, (g4 1 (by omega)).1, (g4 2 (by omega)).1⟩, tq', th, ⟨⟨a1, b1, c1, d1⟩, ⟨?_, ?_, ?_, ?_⟩, fun r hr => ?_, fun v hv => ?_, fun w hw g => ?_⟩, ⟨fun m hm => ?_, fun r hr => ?_, fun r hr => ?_, fun s hs => ?_, fun v hv => ?_, ?_⟩, fun w hw => ?_, ?_, fun i hi => ?_, fun v hv => ?_⟩
  · rw [hM 110 12 (by omega), k12]; exact a3
  · rw [hM 110 13 (by omega), k13]; exact b3
  · rw [hM 110 14 (by omega), k14]; exact c3
  · rw [hM 110 15 (by omega), k15]; exact d3
  · rw [mr 119 r (by omega) (by omega), kt_119 (by omega), ← (b4 r hr).2.1]; exact okn_mono (tq'.1 r hr).1 a1
  · rw [mr 125 v (by omega) (by omega), kt_125 (by omega), ← (d4 v hv).1]; exact okn_mono (tq'.2.2.2.2.1 v hv).1 c1
  · rw [(lw w hw).1] at g
    rcases (g4 w hw).2 with ⟨_, y⟩ | ⟨y1, y2, y3, f, y4, y5, y6, y7⟩
    · exact absurd y g
    · have l1 : lf M w = f := by unfold lf; rw [(lw w hw).2.1, y5, nn_ofNat (by omega)]
      have l2 : ln M w = e (4 + w) := by unfold ln; rw [(lw w hw).2.1, (lw w hw).2.2, y5, y6, nn_ofNat (by omega), nn_ofNat (by omega)]; omega
      unfold lok
      rw [l1, l2, (lw w hw).2.1, (lw w hw).2.2]
      exact ⟨y5, y6, y1, by omega, fun i hi => kok_c3 (fun a u v => kn a i u v (by omega)) (g5 i (by omega))⟩
  · rw [mr 115 m (by omega) (by omega), mr 116 m (by omega) (by omega), mr 117 m (by omega) (by omega), kt_115 (by omega), kt_116 (by omega), kt_117 (by omega)]; exact a4 m hm
  · rw [mr 118 r (by omega) (by omega), mr 119 r (by omega) (by omega), mr 120 r (by omega) (by omega), mr 121 r (by omega) (by omega), kt_118 (by omega), kt_119 (by omega), kt_120 (by omega), kt_121 (by omega)]
    obtain ⟨q1, q2, q3, q4, _⟩ := b4 r hr
    exact ⟨q1, q2, q3, q4⟩
  · rw [mr 122 r (by omega) (by omega), kt_122 hr]
    by_cases z : e 1 ≤ r
    · rw [if_pos z, b5 r z hr]
    · rw [if_neg z]; exact (b4 r (by omega)).2.2.2.2.1
  · rw [mr 123 s (by omega) (by omega), mr 124 s (by omega) (by omega), kt_123 (by omega), kt_124 (by omega)]; exact c4 s hs
  · rw [mr 125 v (by omega) (by omega), mr 126 v (by omega) (by omega), mr 127 v (by omega) (by omega), kt_125 (by omega), kt_126 (by omega), kt_127 (by omega)]
    obtain ⟨q1, q2, q3, _⟩ := d4 v hv
    exact ⟨q1, q2, q3⟩
  · rw [mr 114 0 (by omega) (by omega), mr 114 1 (by omega) (by omega), kt_114 (by omega), kt_114 (by omega)]; exact ⟨f1, f2⟩
  · obtain ⟨y0, y⟩ := g4 w hw
    have n64 : e (4 + w) ≤ 64 := by
      have : w = 0 ∨ w = 1 ∨ w = 2 := by omega
      rcases this with rfl | rfl | rfl
      · show e 4 ≤ 64; omega
      · show e 5 ≤ 64; omega
      · show e 6 ≤ 64; omega
    rw [y0, (lw w hw).1]
    have lt0 : 0 < Int32.ofNat (e (4 + w)) ↔ 0 < e (4 + w) := am_ltN (x := 0) (by omega) (by omega)
    rcases y with ⟨y1, y2⟩ | ⟨y1, y2, y3, f, y4, y5, y6, y7⟩
    · rw [y2, lt0]
      exact ⟨⟨fun z => by omega, fun z => absurd rfl z⟩, fun _ => y1, fun z => absurd rfl z⟩
    · have ny : ¬ q 128 (3 + w) = 0 := by rw [y2]; decide
      refine ⟨⟨fun _ => ny, fun _ => lt0.mpr (by omega)⟩, fun z => absurd z ny, fun _ I2 K2 J L i1 i2 i3 => ?_⟩
      have l1 : lf K2 w = f := by unfold lf; rw [i2 129 w (by omega) (by omega), (lw w hw).2.1, y5, nn_ofNat (by omega)]
      have l2 : ln K2 w = e (4 + w) := by unfold ln; rw [i2 129 w (by omega) (by omega), i2 130 w (by omega) (by omega), (lw w hw).2.1, (lw w hw).2.2, y5, y6, nn_ofNat (by omega), nn_ofNat (by omega)]; omega
      have g1' : ∀ j, I2 (T + 18 + 3 * w + 1) j = X (T + 18 + 3 * w + 1) j := fun j => i1 _ j (by omega) (by omega)
      have g2' : ∀ j, I2 (T + 18 + 3 * w + 2) j = X (T + 18 + 3 * w + 2) j := fun j => i1 _ j (by omega) (by omega)
      have E := ev_go (I := I2) (K := K2) (L := L) (A := T + 18 + 3 * w) (f := f) (n := e (4 + w)) (by omega) (fun i hi => knR_c (fun j _ => g1' j) (g2' i) (fun a u v => by
        rw [Nat.zero_add, i2 a _ (by omega) v, kn a _ u v (by omega), Nat.add_assoc]) (y7 i hi)) (by rw [show I2 (T + 18 + 3 * w + 1) = X (T + 18 + 3 * w + 1) from funext g1']; exact y3) (e (4 + w)) 0 J (by omega) (fun t ht => ⟨(i3 t ht).1, by
        obtain ⟨y, hy⟩ := (i3 t ht).2
        rw [hy]; exact bn_32 y⟩) (by unfold m_lw; simp only [s_for]; rfl) (fun t ht => absurd ht (Nat.not_lt_zero t))
      have es : m_ls K2 L w = m_lw K2 L f (e (4 + w)) := by unfold m_ls; rw [l1, l2]
      have el : (m_ls K2 L w).1 = 0 → m_law K2 L w = (m_lw K2 L f (e (4 + w))).2 137 (f + e (4 + w) - 1) := fun z => by
        unfold m_law; rw [if_pos z, es, l1, l2]
      rw [es] at el ⊢
      refine ⟨E.1.trans ?_, fun z => by rw [el z]; exact E.2 z⟩
      by_cases z : (m_lw K2 L f (e (4 + w))).1 = 0
      · rw [if_pos z, if_pos z, el z]
      · rw [if_neg z, if_neg z]
  · rw [hM 110 16 (by omega), k16]; exact g2
  · rw [mr 112 i (by omega) (by omega), kt_o (by omega) (by omega)]; exact h112 i hi
  · rw [d2, nn_ofNat (by omega)] at hv
    exact (d4 v hv).2.2.2
theorem op_text (x : Int32) : OPok 109 193 [.int x] := by
  rintro I J R ⟨T, O, N, u, q, h, r0, r2⟩
  obtain ⟨hT, hO⟩ := rA_hT h.1
  have hTO := h.1.1
  obtain ⟨⟨z, hz, g1, g2, g3⟩, g4, g5, g6⟩ := h.2.2.2.2.2.1
  have thO := h.1.2.2.2.1
  by_cases c : ¬ x < 0 ∧ ¬ I 0 1 < x
  · obtain ⟨ex, _, hn⟩ := am_btN (x := x) (a := 0) (b := z) (by omega) (by omega) c.1 (by rw [← g1]; exact c.2)
    generalize nn x = n at ex hn
    subst ex
    have th1 : thk (am_u I 0 1 (Int32.ofNat 0)) O := thk_u (by omega) thO
    have TE := k_txt_e (I := am_u I 0 1 (Int32.ofNat 0)) (n := n) hO (by omega) th1
    -- what the class's reading leaves
    have fC : ∀ b i, b ≠ 2 → b ≠ 3 → b ≠ 6 → b ≠ 7 → b ≠ 8 → (b < O ∨ O + 26 < b) → b ≠ 0 → k_txF I O n b i = I b i := fun b i h1 h2 h3 h4 h5 h6 h7 => by
      unfold k_txF
      rw [am_u_na h7, am_u_na h7, TE.1.1 b h1 h2 h3 h4 h5 h6, am_u_na h7]
    have fC0 : ∀ i, i ≠ 1 → i ≠ 4 → i ≠ 5 → k_txF I O n 0 i = I 0 i := fun i h1 h4 h5 => by
      unfold k_txF
      rw [am_u_nk h5, am_u_nk h4, TE.1.1 0 (by decide) (by decide) (by decide) (by decide) (by decide) (by omega), am_u_nk h1]
    have fCp : ∀ b i, b ≠ 0 → k_txF I O n b i = (k_txt (am_u I 0 1 (Int32.ofNat 0)) O n).2 b i := fun b i h => by
      unfold k_txF; rw [am_u_na h, am_u_na h]
    have f01 : k_txF I O n 0 1 = Int32.ofNat 0 := by
      unfold k_txF
      rw [am_u_nk (by decide), am_u_nk (by decide), TE.1.1 0 (by decide) (by decide) (by decide) (by decide) (by decide) (by omega), am_u_at]
    have f04 : k_txF I O n 0 4 = (k_txt (am_u I 0 1 (Int32.ofNat 0)) O n).2 3 7 := by unfold k_txF; rw [am_u_nk (by decide), am_u_at]
    have f05 : k_txF I O n 0 5 = (k_txt (am_u I 0 1 (Int32.ofNat 0)) O n).2 3 8 := by unfold k_txF; rw [am_u_at]
    have thF : thk (k_txF I O n) O := fun m hm => by rw [fCp _ _ (by omega)]; exact (TE.1.2 th1) m hm
    -- the reference's reading, on a heap whose own rows are as they were
    have ref : ∀ B : hI, (∀ a i, 110 ≤ a → B a i = I a i) → TXR O (m_tx2 B n) (k_txt (am_u I 0 1 (Int32.ofNat 0)) O n) (m_tx B n) := fun B hB => tx_start hO (by omega) (fun i hi => by rw [am_u_na (by decide), hB 111 i (by omega)]; exact g3 i (by omega)) (fun r hr => by rw [am_u_na (by decide)]; exact g6 r hr) (fun i hi => by rw [hB 112 i (by omega)]; exact h.1.2.2.2.2.2.2.2.2.1 i hi)
    by_cases g : (k_txt (am_u I 0 1 (Int32.ofNat 0)) O n).1 = 0
    · have cls := d_text_bad (k := 20) (J := J) hT r0 hO r2 hn hz g1 thO g (by omega)
      have hB : ∀ a i, 110 ≤ a → k_txF I O n a i = I a i := fun a i ha => fC a i (by omega) (by omega) (by omega) (by omega) (by omega) (by omega) (by omega)
      have TX := ref _ hB
      rcases TX with ⟨_, T2, T3, T4⟩ | ⟨T1, _⟩
      · have rf := c_text (k := 20) (I := k_txF I O n) (J := J) (R := am_u R 3 1 1) (n := n) (z := z) (fun i hi => by rw [hB 112 i (by omega)]; exact h.1.2.2.2.2.2.2.2.2.1 i hi) hn hz (by rw [hB 110 1 (by omega)]; exact g2) (by omega)
        have m1 : m_text (k_txF I O n) n = Int32.ofInt (-1) := by unfold m_text; rw [T2]
        have m2 : m_textI (k_txF I O n) n = (m_tx (k_txF I O n) n).2 := by unfold m_textI; rw [T2]
        have m3 : m_textJ (k_txF I O n) J n = J := by unfold m_textJ; rw [T2]
        rw [m1, m2, m3] at rf
        obtain ⟨t1, t2⟩ := tx2_f (K := k_txF I O n) (n := n)
        have fK : ∀ a i, kept a i → ¬ (a = 110 ∧ (i = 1 ∨ i = 2)) → (m_tx (k_txF I O n) n).2 a i = k_txF I O n a i := fun a i k g => (T4 a i k).trans (t1 a i k g)
        have fI : ∀ a i, kept a i → 110 ≤ a → ¬ (a = 110 ∧ (i = 1 ∨ i = 2)) → (m_tx (k_txF I O n) n).2 a i = I a i := fun a i k u g => (fK a i k g).trans (hB a i u)
        obtain ⟨a, b, cc, d, e, _, f⟩ := h
        have fT : ∀ a i, T ≤ a → a ≤ T + 26 → k_txF I O n a i = I a i := fun a i u v => fC a i (by omega) (by omega) (by omega) (by omega) (by omega) (by omega) (by omega)
        have aF : rA T O N (k_txF I O n) (m_tx (k_txF I O n) n).2 := rA_h fT thF (fun a i u k => fI a i k (by omega) (by omega)) a
        have aK : rA T O N I (m_tx (k_txF I O n) n).2 := rA_h (fun _ _ _ _ => rfl) thO (fun a i u k => fI a i k (by omega) (by omega)) a
        have kp : ∀ a i, 138 ≤ a → kept a i := fun a i u => by unfold kept; omega
        have k0 : ∀ i, (i < 4 ∨ 51 ≤ i) → kept 110 i := fun i u => by unfold kept; omega
        refine op_mk (T := T) (O := O) (N := N) (u := u) (q := q) cls rf rfl (fun a i ga => fK a i (by unfold kept; omega) (by omega)) ⟨rfl, rfl⟩ ⟨aF, rB_c (fun a i u v => fC a i (by omega) (by omega) (by omega) (by omega) (by omega) (by omega) (by omega)) (fun a i u v => fI a i (kp a i u) (by omega) (by omega)) rfl rfl b, rC_c (fun a i u => ?_) (fun a i u => fI a i (by unfold kept; omega) (by omega) (by omega)) rfl rfl cc, rD_c (fun a i u v => fC a i (by omega) (by omega) (by omega) (by omega) (by omega) (by omega) (by omega)) (fun a i u => fI a i (by unfold kept; omega) (by omega) (by omega)) d, rE_c (fun a i u v => fC a i (by omega) (by omega) (by omega) (by omega) (by omega) (by omega) (by omega)) (fun a i u => fI a i (by unfold kept; omega) (by omega) (by omega)) e, ⟨⟨0, by omega, f01, ?_, fun i hi => absurd hi (Nat.not_lt_zero i)⟩, ?_, ?_, fun r hr => ?_⟩, ⟨fun m hm h94 e he s hs d d1 d2 => ?_, fun m hm h94 e he s hs => ?_⟩⟩ ((am_u_na (by decide)).trans r0) ((am_u_na (by decide)).trans r2)
        · rcases u with u | ⟨u1, u2⟩
          · exact fC a i (by omega) (by omega) (by omega) (by omega) (by omega) (by omega) (by omega)
          · rw [u1, u2]; exact fC0 9 (by decide) (by decide) (by decide)
        · rw [T4 110 1 (by unfold kept; omega)]; exact t2
        · rw [f04]; exact T3.1
        · rw [f05]; exact T3.2
        · rw [fC 4 r (by decide) (by decide) (by decide) (by decide) (by decide) (by omega) (by decide)]; exact g6 r hr
        · rw [fC 94 m (by decide) (by decide) (by decide) (by decide) (by decide) (by omega) (by decide)] at h94
          rw [RL_c a aK hs, ← f.1 m hm h94 e he s hs d d1 d2]
          unfold k_lb
          rw [fC 95 _ (by decide) (by decide) (by decide) (by decide) (by decide) (by omega) (by decide)]
        · rw [fC 94 m (by decide) (by decide) (by decide) (by decide) (by decide) (by omega) (by decide)] at h94
          rw [fC 95 _ (by decide) (by decide) (by decide) (by decide) (by decide) (by omega) (by decide)]
          exact f.2 m hm h94 e he s hs
      · exact absurd g T1
    · -- the class has read it
      rcases TE.2 with z0 | ⟨cn, tri⟩
      · exact absurd z0 g
      · have h5c : k_txF I O n (O + 5) 1 = Int32.ofNat (cn 1) := by rw [fCp _ _ (by omega)]; exact tri.2.1.2.2.1
        have cls := d_text (k := 20) (J := J) hT r0 hO r2 hn hz g1 thO g tri.2.1.1.2.1 h5c (by omega)
        have ea : k_txO I O n (cn 1) = k_sfg (am_u (am_u (k_begin (k_txF I O n) 63 O (cn 1)) 0 9 (Int32.ofNat 0)) 96 0 (Int32.ofNat 0)) := rfl
        obtain ⟨s94, s95, s88, s81, sO⟩ := sfg_f (I := am_u (am_u (k_begin (k_txF I O n) 63 O (cn 1)) 0 9 (Int32.ofNat 0)) 96 0 (Int32.ofNat 0))
        rw [← ea] at s94 s95 s88 s81 sO
        have bF : sF 63 (k_txF I O n) (k_begin (k_txF I O n) 63 O (cn 1)) := sF_begin
        have xF : ∀ a i, (a < 63 ∨ 69 < a) → a ≠ 94 → a ≠ 95 → a ≠ 88 → a ≠ 84 → a ≠ 87 → a ≠ 96 → (a ≠ 0 ∨ i ≠ 9) → k_txO I O n (cn 1) a i = k_txF I O n a i := fun a i h1 h2 h3 h4 h5 h6 h7 h8 => by
          rw [sO a i h2 h3 h4, am_u_na h7]
          have e9 : am_u (k_begin (k_txF I O n) 63 O (cn 1)) 0 9 (Int32.ofNat 0) a i = k_begin (k_txF I O n) 63 O (cn 1) a i := by unfold am_u; rw [if_neg (by omega)]
          rw [e9]; exact bF a i (by omega) (by omega) (by omega)
        have xB : ∀ a i, 63 ≤ a → a ≤ 69 → k_txO I O n (cn 1) a i = k_begin (k_txF I O n) 63 O (cn 1) a i := fun a i u v => by
          rw [sO a i (by omega) (by omega) (by omega), am_u_na (by omega), am_u_na (by omega)]
        have x09 : k_txO I O n (cn 1) 0 9 = Int32.ofNat 0 := by rw [sO 0 9 (by decide) (by decide) (by decide), am_u_na (by decide), am_u_at]
        have x96 : k_txO I O n (cn 1) 96 0 = Int32.ofNat 0 := by rw [sO 96 0 (by decide) (by decide) (by decide), am_u_at]
        revert cls s94 s95 s88 s81 xF xB x09 x96
        generalize k_txO I O n (cn 1) = X
        intro cls s94 s95 s88 s81 xF xB x09 x96
        have hX : ∀ a i, 110 ≤ a → X a i = I a i := fun a i u => (xF a i (by omega) (by omega) (by omega) (by omega) (by omega) (by omega) (by omega) (by omega)).trans (fC a i (by omega) (by omega) (by omega) (by omega) (by omega) (by omega) (by omega))
        have TX := ref X hX
        rcases TX with ⟨T1, _⟩ | ⟨_, T3, T4, l, e, T5, T6, T7, _, _⟩
        · exact absurd T1 g
        · have rf := c_text (k := 20) (I := X) (J := am_u J 63 1 (k_txF I O n O 17).toInt64) (R := am_u (am_u (am_u R 3 1 1) 2 2 T) 0 3 O) (n := n) (z := z) (fun i hi => by rw [hX 112 i (by omega)]; exact h.1.2.2.2.2.2.2.2.2.1 i hi) hn hz (by rw [hX 110 1 (by omega)]; exact g2) (by omega)
          have m1 : m_text X n = Int32.ofNat l := by unfold m_text; rw [T5]
          have m2 : m_textI X n = m_beI (m_ktI (m_tx X n).2) := by unfold m_textI; rw [T5]
          have m3 : m_textJ X (am_u J 63 1 (k_txF I O n O 17).toInt64) n = am_u (am_u J 63 1 (k_txF I O n O 17).toInt64) 110 62 (m_af 0 (m_ktI (m_tx X n).2) 114 1).toInt64 := by unfold m_textJ; rw [T5]
          rw [m1, m2, m3] at rf
          obtain ⟨t1, t2⟩ := tx2_f (K := X) (n := n)
          have fK : ∀ a i, kept a i → ¬ (a = 110 ∧ (i = 1 ∨ i = 2)) → (m_tx X n).2 a i = X a i := fun a i k g => (T4 a i k).trans (t1 a i k g)
          have q1 : (m_tx X n).2 110 1 = Int32.ofNat 0 := (T4 110 1 (by unfold kept; omega)).trans t2
          revert rf T3 T4 T7 fK q1
          generalize (m_tx X n).2 = Q
          intro T3 T4 T7 rf fK q1
          have dF : DT O e (k_txF I O n) Q := ⟨D1_c (fun b i u v => fCp b i (by omega)) (fun _ _ _ => rfl) T7.1, D2_c (fun b i u v => fCp b i (by omega)) (fun _ _ _ => rfl) T7.2.1, D3_c (fun b i u v => fCp b i (by omega)) (fun _ _ _ => rfl) T7.2.2.1, D4_c (fun b i u => fCp b i (by omega)) (fun _ _ _ => rfl) T7.2.2.2.1, D5_c (fun b i u => fCp b i (by omega)) (fun _ _ _ => rfl) T7.2.2.2.2.1, D6_c (fun b i u v => fCp b i (by omega)) (fun _ _ _ => rfl) T7.2.2.2.2.2⟩
          have tO : ∀ a i, O ≤ a → a ≤ O + 26 → k_txF I O n a i = (k_txt (am_u I 0 1 (Int32.ofNat 0)) O n).2 a i := fun a i u v => fCp a i (by omega)
          have thT : thk (k_txF I O n) T := fun m hm => by rw [fC _ _ (by omega) (by omega) (by omega) (by omega) (by omega) (by omega) (by omega)]; exact h.1.2.2.1.2.1 m hm
          have aF : rA O T e (k_txF I O n) (m_ktI Q) := DT_rA (c := cn) (by omega) dF (tsz_c tO tri.2.1) (tqs_c tO tri.2.2) thT (fun _ _ _ => rfl) (fun i hi => by rw [fK 112 i (by unfold kept; omega) (by omega), hX 112 i (by omega)]; exact h.1.2.2.2.2.2.2.2.2.1 i hi)
          have e1 : cn 1 = e 1 := (am_eqN (by have := tri.2.1.1.2.1; omega) (by have := T7.2.1.1; omega)).mp (h5c.symm.trans aF.2.1.2.2.1)
          rw [e1] at xB
          have aX : rA O T e X (m_beI (m_ktI Q)) := rA_c (fun a i u v => xF a i (by omega) (by omega) (by omega) (by omega) (by omega) (by omega) (by omega) (by omega)) (fun a i u => be_o (by omega) (by omega)) aF
          obtain ⟨b1, b2, b3⟩ := begin_eq (S := 63) (b := 0) (T := O) (N := e) (I := k_txF I O n) (K := m_ktI Q) hO (Or.inl rfl) aF.2.1.1.2.2.1 aF.2.2.2.2.2.1 aF.2.2.1
          have e17 : k_txF I O n O 17 = m_ktI Q 114 1 := aF.2.2.2.2.2.1.2.2.2.2.2.2
          have e114 : m_af 0 (m_ktI Q) 114 1 = m_ktI Q 114 1 := simF_af 0 (m_ktI Q) 114 1 (by omega) (by omega)
          obtain ⟨w79, w80, w84, w86⟩ := be_v (K := m_ktI Q)
          have mo : ∀ i, i = 1 ∨ i = 4 ∨ i = 5 → m_beI (m_ktI Q) 110 i = Q 110 i := fun i hi => (be_o (by omega) (by omega)).trans (kt_o (by omega) (by omega))
          refine op_mk (T := O) (O := T) (N := e) (u := 0) (q := 0) cls rf ?_ (fun a i ga => (be_o (by omega) (by omega)).trans ((kt_o (by omega) (by omega)).trans (fK a i (by unfold kept; omega) (by omega)))) ⟨am_u_na (by decide), am_u_na (by decide)⟩ ⟨aX, ⟨sR_c xB (fun a i u v => be_s (by omega)) b1, ?_, hL_c xB b2, wN_c xB b3⟩, ⟨⟨fun _ => w86, fun _ => x09⟩, fun z => absurd x09 z⟩, ⟨by omega, x96, w84, fun i hi => absurd hi (Nat.not_lt_zero i)⟩, ⟨by omega, s88, w79, s81.trans w80.symm, Or.inl s81, fun i hi => absurd hi (Nat.not_lt_zero i)⟩, ⟨⟨0, by omega, ?_, (mo 1 (by omega)).trans q1, fun i hi => absurd hi (Nat.not_lt_zero i)⟩, ?_, ?_, fun r hr => ?_⟩, ⟨fun m hm h94 => absurd (s94 m (by have := aX.2.1.1.1; omega)) h94, fun m hm _ e' he s hs => s95 _ (by have := aX.2.1.1.1; unfold k_cl; omega)⟩⟩ am_u_at ((am_u_na (by decide)).trans am_u_at)
          · rw [xF O 0 (by omega) (by omega) (by omega) (by omega) (by omega) (by omega) (by omega) (by omega), fCp O 0 (by omega), T6]
          · rw [am_u_at, am_u_at, e17, e114]
          · rw [xF 0 1 (by omega) (by omega) (by omega) (by omega) (by omega) (by omega) (by omega) (by omega)]; exact f01
          · rw [xF 0 4 (by omega) (by omega) (by omega) (by omega) (by omega) (by omega) (by omega) (by omega), f04, mo 4 (by omega)]; exact T3.1
          · rw [xF 0 5 (by omega) (by omega) (by omega) (by omega) (by omega) (by omega) (by omega) (by omega), f05, mo 5 (by omega)]; exact T3.2
          · rw [xF 4 r (by omega) (by omega) (by omega) (by omega) (by omega) (by omega) (by omega) (by omega), fC 4 r (by decide) (by decide) (by decide) (by decide) (by decide) (by omega) (by decide)]; exact g6 r hr
  · have e1 : I 110 1 = I 0 1 := g2.trans g1.symm
    exact op_same h r0 r2 (d_text_no c (by omega)) (c_text_no (by rw [e1]; exact c) (by omega)) rfl kM_z tM_z
