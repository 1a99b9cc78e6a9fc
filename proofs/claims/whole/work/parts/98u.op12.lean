/-! Calls alike (twelve): feed, calm, game. -/
/-- a number's bytes -/
def bt (x : Int32) (t : Nat) : Int32 := (x >>> (Int32.ofNat (24 - 8 * t) &&& 31)) &&& Int32.ofNat 255
theorem k_pb_f {I : hI} {z : Nat} {x : Int32} : (∀ t, t < 4 → k_pb I z x 1 (z + t) = bt x t) ∧ (∀ j, (j < z ∨ z + 4 ≤ j) → k_pb I z x 1 j = I 1 j) ∧ (∀ a j, a ≠ 1 → ¬ (a = 0 ∧ j = 1) → k_pb I z x a j = I a j) := by
  unfold k_pb k_pb1 bt
  refine ⟨fun t ht => ?_, fun j hj => ?_, fun a j h1 h2 => ?_⟩
  · have : t = 0 ∨ t = 1 ∨ t = 2 ∨ t = 3 := by omega
    rcases this with rfl | rfl | rfl | rfl
    · rw [am_u_na (by decide), am_u_nk (by omega), am_u_na (by decide), am_u_nk (by omega), am_u_na (by decide), am_u_nk (by omega), am_u_na (by decide), show z + 0 = z from rfl, am_u_at]
    · rw [am_u_na (by decide), am_u_nk (by omega), am_u_na (by decide), am_u_nk (by omega), am_u_na (by decide), am_u_at]
    · rw [am_u_na (by decide), am_u_nk (by omega), am_u_na (by decide), show z + 2 = z + 1 + 1 from rfl, am_u_at]
    · rw [am_u_na (by decide), show z + 3 = z + 1 + 1 + 1 from rfl, am_u_at]
  · rw [am_u_na (by decide), am_u_nk (by omega), am_u_na (by decide), am_u_nk (by omega), am_u_na (by decide), am_u_nk (by omega), am_u_na (by decide), am_u_nk (by omega)]
  · have e : ∀ (X : hI) (v : Int32), am_u X 0 1 v a j = X a j := fun X v => by unfold am_u; rw [if_neg h2]
    rw [e, am_u_na h1, e, am_u_na h1, e, am_u_na h1, e, am_u_na h1]
theorem m_fd_f {K : hI} {z : Nat} {a b c d e : Int32} : ∀ n, (∀ r, r < n → m_fd a b c d e z n K 111 (z + r) = m_fb a b c d e r) ∧ (∀ x j, (x ≠ 111 ∨ j < z) → m_fd a b c d e z n K x j = K x j) := by
  intro n
  induction n with
  | zero => exact ⟨fun r hr => absurd hr (Nat.not_lt_zero r), fun _ _ _ => rfl⟩
  | succ n ih =>
    rw [m_fd_s]
    refine ⟨fun r hr => ?_, fun x j h => ?_⟩
    · by_cases g : r = n
      · rw [g, am_u_at]
      · rw [am_u_nk (by omega)]; exact ih.1 r (by omega)
    · unfold am_u
      rw [if_neg (by omega)]; exact ih.2 x j h
theorem k_fe_f {I : hI} {z : Nat} {a b c d e : Int32} : (∀ r, r < 20 → k_fe I z a b c d e 1 (z + r) = m_fb a b c d e r) ∧ (∀ j, j < z → k_fe I z a b c d e 1 j = I 1 j) ∧ (∀ x j, x ≠ 1 → ¬ (x = 0 ∧ j = 1) → k_fe I z a b c d e x j = I x j) ∧ k_fe I z a b c d e 0 1 = Int32.ofNat (z + 20) := by
  unfold k_fe
  obtain ⟨a1, a2, a3⟩ := k_pb_f (I := I) (z := z) (x := a)
  obtain ⟨b1, b2, b3⟩ := k_pb_f (I := k_pb I z a) (z := z + 4) (x := b)
  obtain ⟨c1, c2, c3⟩ := k_pb_f (I := k_pb (k_pb I z a) (z + 4) b) (z := z + 8) (x := c)
  obtain ⟨d1, d2, d3⟩ := k_pb_f (I := k_pb (k_pb (k_pb I z a) (z + 4) b) (z + 8) c) (z := z + 12) (x := d)
  obtain ⟨e1, e2, e3⟩ := k_pb_f (I := k_pb (k_pb (k_pb (k_pb I z a) (z + 4) b) (z + 8) c) (z + 12) d) (z := z + 16) (x := e)
  have fb : ∀ (m r : Nat) (x : Int32), m * 4 ≤ r → r < m * 4 + 4 → (if 4 ≤ r then (if 8 ≤ r then (if 12 ≤ r then (if 16 ≤ r then e else d) else c) else b) else a) = x → bt x (r - m * 4) = m_fb a b c d e r := fun m r x h1 h2 hx => by
    unfold bt m_fb
    rw [hx, show r % 4 = r - m * 4 by omega]
  refine ⟨fun r hr => ?_, fun j hj => ?_, fun x j h1 h2 => ?_, k_pb_1⟩
  · by_cases g16 : 16 ≤ r
    · have := e1 (r - 16) (by omega)
      rw [show z + 16 + (r - 16) = z + r by omega] at this
      rw [this]
      exact fb 4 r e (by omega) (by omega) (by rw [if_pos (by omega), if_pos (by omega), if_pos (by omega), if_pos g16])
    · rw [e2 _ (by omega)]
      by_cases g12 : 12 ≤ r
      · have := d1 (r - 12) (by omega)
        rw [show z + 12 + (r - 12) = z + r by omega] at this
        rw [this]
        exact fb 3 r d (by omega) (by omega) (by rw [if_pos (by omega), if_pos (by omega), if_pos g12, if_neg g16])
      · rw [d2 _ (by omega)]
        by_cases g8 : 8 ≤ r
        · have := c1 (r - 8) (by omega)
          rw [show z + 8 + (r - 8) = z + r by omega] at this
          rw [this]
          exact fb 2 r c (by omega) (by omega) (by rw [if_pos (by omega), if_pos g8, if_neg g12])
        · rw [c2 _ (by omega)]
          by_cases g4 : 4 ≤ r
          · have := b1 (r - 4) (by omega)
            rw [show z + 4 + (r - 4) = z + r by omega] at this
            rw [this]
            exact fb 1 r b (by omega) (by omega) (by rw [if_pos g4, if_neg g8])
          · rw [b2 _ (by omega), a1 r (by omega)]
            exact fb 0 r a (by omega) (by omega) (by rw [if_neg g4])
  · rw [e2 _ (by omega), d2 _ (by omega), c2 _ (by omega), b2 _ (by omega), a2 _ (by omega)]
  · rw [e3 x j h1 h2, d3 x j h1 h2, c3 x j h1 h2, b3 x j h1 h2, a3 x j h1 h2]
theorem op_feed (a b c d e0 : Int32) : OPok 107 167 [.int a, .int b, .int c, .int d, .int e0] := by
  rintro I J R ⟨T, O, N, u, q, h, r0, r2⟩
  obtain ⟨⟨z, hz, g1, g2, g3⟩, g4, g5, g6⟩ := h.2.2.2.2.2.1
  by_cases hc : z ≤ 680
  · obtain ⟨f1, f2, f3, f4⟩ := k_fe_f (I := I) (z := z) (a := a) (b := b) (c := c) (d := d) (e := e0)
    have cls := d_feed (k := 20) (I := I) (J := J) (R := R) (a := a) (b := b) (c := c) (d := d) (e0 := e0) hc g1 (by omega)
    revert cls f1 f2 f3 f4
    generalize k_fe I z a b c d e0 = B
    intro f1 f2 f3 f4 cls
    have hk : REL T O N u q I J B J := REL_cc h (fun _ _ _ => rfl) (fun x i g => f3 x i (by omega) (by omega)) rfl rfl rfl rfl
    obtain ⟨m1, m2⟩ := m_fd_f (K := m_z B) (z := z) (a := a) (b := b) (c := c) (d := d) (e := e0) 20
    have fM : ∀ x j, x ≠ 111 → ¬ (x = 110 ∧ (j = 1 ∨ j = 2)) → m_fe a b c d e0 z B x j = B x j := fun x j g g' => by
      have e : m_fe a b c d e0 z B x j = m_fd a b c d e0 z 20 (m_z B) x j := by unfold m_fe am_u; rw [if_neg (by omega)]
      rw [e, m2 x j (Or.inl g)]; exact m_z_n (by omega)
    have fT : ∀ j, m_fe a b c d e0 z B 111 j = m_fd a b c d e0 z 20 (m_z B) 111 j := fun j => by unfold m_fe; rw [am_u_na (by decide)]
    refine op_mk (T := T) (O := O) (N := N) (u := u) (q := q) cls (c_feed hc (by rw [f3 110 1 (by decide) (by decide)]; exact g2) (by omega)) rfl (fun x i g => fM x i (by omega) (by omega)) ⟨rfl, rfl⟩ ?_ r0 r2
    obtain ⟨aa, bb, cc, dd, ee, gg, ff⟩ := hk
    refine ⟨rA_c (fun x i _ _ => f3 x i (by omega) (by omega)) (fun x i _ => fM x i (by omega) (by omega)) aa, rB_c (fun x i _ _ => f3 x i (by omega) (by omega)) (fun x i _ _ => fM x i (by omega) (by omega)) rfl rfl bb, rC_c (fun x i _ => f3 x i (by omega) (by omega)) (fun x i _ => fM x i (by omega) (by omega)) rfl rfl cc, rD_c (fun x i _ _ => f3 x i (by omega) (by omega)) (fun x i _ => fM x i (by omega) (by omega)) dd, rE_c (fun x i _ _ => f3 x i (by omega) (by omega)) (fun x i _ => fM x i (by omega) (by omega)) ee, ⟨⟨z + 20, by omega, f4, am_u_at, fun i hi => ?_⟩, ?_, ?_, fun r hr => (f3 4 r (by decide) (by omega)).trans (g6 r hr)⟩, rF_c aa (fun x i _ => f3 x i (by omega) (by omega)) (fun x i _ => fM x i (by omega) (by omega)) ff⟩
    · rw [fT]
      by_cases gi : i < z
      · rw [f2 i gi, m2 111 i (Or.inr gi), m_z_n (by omega), f3 111 i (by decide) (by omega)]; exact g3 i gi
      · have e1 := f1 (i - z) (by omega)
        have e2 := m1 (i - z) (by omega)
        rw [show z + (i - z) = i by omega] at e1 e2
        rw [e1, e2]
    · rw [f3 0 4 (by decide) (by decide), fM 110 4 (by decide) (by omega), f3 110 4 (by decide) (by decide)]; exact g4
    · rw [f3 0 5 (by decide) (by decide), fM 110 5 (by decide) (by omega), f3 110 5 (by decide) (by decide)]; exact g5
  · exact op_same h r0 r2 (d_feed_no (by omega) (by omega) g1 (by omega)) (c_feed_no (by omega) (by omega) g2 (by omega)) rfl kM_z tM_z
/-- how likely it is calm -/
theorem k_ca_f {I : hI} {T q0 : Nat} (hq : q0 ≤ 100) (e : I T 16 = Int32.ofNat q0) : ∀ n, n ≤ 6 → k_ca I T n = Int64.ofNat ((100 - q0) ^ n) := by
  intro n
  induction n with
  | zero => intro _; rfl
  | succ n ih =>
    intro hn
    show k_ca I T n * (Int32.ofNat 100 - I T 16).toInt64 = _
    rw [ih (by omega), e, ← Int32.ofNat_sub _ _ hq]
    exact am_pwS (by omega)
theorem k_cb1_f : ∀ n, n ≤ 6 → k_cb1 n = Int64.ofNat (100 ^ n) := by
  intro n
  induction n with
  | zero => intro _; rfl
  | succ n ih =>
    intro hn
    show k_cb1 n * 100 = _
    rw [ih (by omega)]; exact am_pwH
theorem k_gd_f : ∀ (j f x y : Nat), 2 * j + 1 ≤ f → x < 4000000000000 → y < 4000000000000 → y < 2 ^ j → k_gd f (Int64.ofNat x) (Int64.ofNat y) = Int64.ofNat (Nat.gcd y x) := by
  intro j
  induction j with
  | zero =>
    intro f x y hf hx hy hj
    obtain ⟨f, rfl⟩ : ∃ g, f = g + 1 := ⟨f - 1, by omega⟩
    obtain rfl : y = 0 := by omega
    rw [k_gd_s, if_pos (show Int64.ofNat 0 = 0 from rfl), Nat.gcd_zero_left]
  | succ j ih =>
    intro f x y hf hx hy hj
    obtain ⟨f, rfl⟩ : ∃ g, f = g + 1 + 1 := ⟨f - 2, by omega⟩
    rw [k_gd_s]
    by_cases c : y = 0
    · subst c; rw [if_pos (show Int64.ofNat 0 = 0 from rfl), Nat.gcd_zero_left]
    · have c0 : ¬ Int64.ofNat y = 0 := fun z => c ((am_eqL (y := 0) (by omega) (by omega)).mp z)
      rw [if_neg c0, am_remL (by omega) (by omega) (by omega), k_gd_s]
      have h1 : x % y < y := Nat.mod_lt _ (by omega)
      by_cases c2 : x % y = 0
      · rw [c2, if_pos (show Int64.ofNat 0 = 0 from rfl), Nat.gcd_rec, c2, Nat.gcd_zero_left]
      · have c3 : ¬ Int64.ofNat (x % y) = 0 := fun z => c2 ((am_eqL (y := 0) (by omega) (by omega)).mp z)
        rw [if_neg c3, am_remL (by omega) (by omega) (by omega)]
        have h2 : y % (x % y) < x % y := Nat.mod_lt _ (by omega)
        have h3 : y % (x % y) + x % y ≤ y := by
          have e1 := Nat.div_add_mod y (x % y)
          have e2 : 1 ≤ y / (x % y) := (Nat.le_div_iff_mul_le (by omega)).mpr (by omega)
          have e3 : x % y * 1 ≤ x % y * (y / (x % y)) := Nat.mul_le_mul_left _ e2
          omega
        rw [ih f (x % y) (y % (x % y)) (by omega) (by omega) (by omega) (by rw [Nat.pow_succ] at hj; omega), ← Nat.gcd_rec, ← Nat.gcd_rec]
theorem op_calm (x y : Int32) : OPok 145 265 [.int x, .int y] := by
  rintro I J R ⟨T, O, N, u, q, h, r0, r2⟩
  obtain ⟨hT, _⟩ := rA_hT h.1
  have e16 : I T 16 = I 114 0 := h.1.2.2.2.2.2.1.2.2.2.2.2.1
  obtain ⟨o1, o2⟩ := h.1.2.2.1.2.2.2.2.2
  by_cases c : (¬ x < Int32.ofNat 0 ∧ ¬ Int32.ofNat 6 < x) ∧ ¬ y < Int32.ofNat 0 ∧ ¬ Int32.ofNat 1 < y
  · obtain ⟨ex, _, hn⟩ := am_btN (by omega) (by omega) c.1.1 c.1.2
    obtain ⟨ey, _, hw⟩ := am_btN (by omega) (by omega) c.2.1 c.2.2
    generalize nn x = n at ex hn
    generalize nn y = w at ey hw
    generalize nn (I T 16) = q0 at o1 o2
    subst ex ey
    refine op_same h r0 r2 (d_calm hT r0 hn hw (by omega)) (c_calm hn hw (by omega) (e16.symm.trans o1) (by omega)) ?_ kM_z tM_z
    have p1 : (100 - q0) ^ n ≤ 1000000000000 := am_pw6 (by omega) hn
    have p2 : 100 ^ n ≤ 1000000000000 := am_pw6 (by omega) hn
    have p3 : 0 < 100 ^ n := Nat.pow_pos (by decide)
    have g0 : 0 < Nat.gcd (100 ^ n) ((100 - q0) ^ n) := Nat.gcd_pos_of_pos_left _ p3
    have g1 : Nat.gcd (100 ^ n) ((100 - q0) ^ n) ≤ 100 ^ n := Nat.gcd_le_left _ p3
    have ecd : k_cd I T n = Int64.ofNat (Nat.gcd (100 ^ n) ((100 - q0) ^ n)) := by
      unfold k_cd
      rw [k_ca_f (by omega) o1 n hn, k_cb1_f n hn]
      exact k_gd_f 60 1000 _ _ (by omega) (by omega) (by omega) (Nat.lt_of_le_of_lt p2 (by decide))
    unfold k_calm
    rw [ecd, k_ca_f (by omega) o1 n hn, k_cb1_f n hn]
    have lp : 0 < Int64.ofNat (Nat.gcd (100 ^ n) ((100 - q0) ^ n)) := by
      rw [Int64.lt_iff_toInt_lt, Int64.toInt_ofNat_of_lt (by omega)]
      show (0 : Int) < _
      omega
    rw [if_pos lp, am_divL (by omega) (by omega) g0, am_divL (by omega) (by omega) g0]
    by_cases hw0 : w = 0
    · rw [if_pos hw0, if_pos hw0]
    · rw [if_neg hw0, if_neg hw0]
  · exact op_same h r0 r2 (d_calm_no c (by omega)) (c_calm_no c (by omega)) rfl kM_z tM_z
/-- the last yard: if the sum of all isn't 0, one row can be made smaller by it -/
theorem nim7 : ∀ x, x < 128 → ∀ y, y < 128 → x ≠ 0 → y.testBit x.log2 = true → y ^^^ x < y := by decide +kernel
theorem am_xorN (a b : Nat) : Int32.ofNat a ^^^ Int32.ofNat b = Int32.ofNat (a ^^^ b) := by
  apply Int32.toBitVec_inj.mp
  show BitVec.ofNat 32 a ^^^ BitVec.ofNat 32 b = BitVec.ofNat 32 (a ^^^ b)
  apply BitVec.eq_of_getLsbD_eq
  intro i hi
  simp [BitVec.getLsbD_xor, BitVec.getLsbD_ofNat, Nat.testBit_xor, hi]
theorem gx_N {I : hI} {T n : Nat} {f : Nat → Nat} (h : ∀ r, r < n → k_yg I T r = Int32.ofNat (f r) ∧ f r < 128) : ∀ j, j ≤ n → ∃ m, m < 128 ∧ k_gx I T j = Int32.ofNat m ∧ ∀ k, (∀ r, r < j → (f r).testBit k = false) → m.testBit k = false := by
  intro j
  induction j with
  | zero => intro _; exact ⟨0, by omega, rfl, fun k _ => Nat.zero_testBit k⟩
  | succ j ih =>
    intro hj
    obtain ⟨m, m1, m2, m3⟩ := ih (by omega)
    obtain ⟨f1, f2⟩ := h j (by omega)
    refine ⟨m ^^^ f j, Nat.xor_lt_two_pow (n := 7) m1 f2, by rw [k_gx_s, m2, f1, am_xorN], fun k hk => ?_⟩
    rw [Nat.testBit_xor, m3 k (fun r hr => hk r (by omega)), hk j (by omega)]; rfl
