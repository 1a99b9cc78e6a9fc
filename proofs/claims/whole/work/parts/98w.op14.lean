/-! Calls alike (fourteen): splice, exact. -/
set_option maxRecDepth 16384 in
theorem am_bit1 : ∀ v, v < 10 → ∀ m, m < 1024 → (((Int32.ofNat m >>> (Int32.ofNat v &&& 31)) &&& Int32.ofNat 1 = Int32.ofNat 1) ↔ m.testBit v = true) := by decide +kernel
set_option maxRecDepth 512
theorem am_many8 : ∀ n, n < 256 → m_many (Int32.ofNat n) 10 = k_bc (Int32.ofNat n) := by decide +kernel
theorem am_andN (a b : Nat) : Int32.ofNat a &&& Int32.ofNat b = Int32.ofNat (a &&& b) := by
  apply Int32.toBitVec_inj.mp
  show BitVec.ofNat 32 a &&& BitVec.ofNat 32 b = BitVec.ofNat 32 (a &&& b)
  apply BitVec.eq_of_getLsbD_eq
  intro i hi
  simp [BitVec.getLsbD_and, BitVec.getLsbD_ofNat, Nat.testBit_and, hi]
/-- a set within another -/
def sbs (b F : Nat) : Prop := ∀ r, b.testBit r = true → F.testBit r = true
theorem sbs_iff {b F : Nat} (hb : b < 256) (hF : F < 256) : Int32.ofNat b &&& (Int32.ofNat F ^^^ Int32.ofInt (-1)) = 0 ↔ sbs b F := by
  have e : Int32.ofInt (-1) = Int32.ofNat 4294967295 := by decide
  have l : b &&& (F ^^^ 4294967295) < 2147483648 := by
    have := Nat.and_lt_two_pow (n := 8) (x := F ^^^ 4294967295) (y := b) hb
    rw [Nat.and_comm] at this; omega
  rw [e, am_xorN, am_andN, show (0 : Int32) = Int32.ofNat 0 from rfl, am_eqN l (by decide)]
  have bt : ∀ r, (4294967295 : Nat).testBit r = decide (r < 32) := fun r => Nat.testBit_two_pow_sub_one 32 r
  have b8 : ∀ r, b.testBit r = true → r < 32 := fun r hr => by
    have h : 2 ^ r ≤ b := Nat.ge_two_pow_of_testBit hr
    by_cases c : r < 32
    · exact c
    · have := Nat.pow_le_pow_right (n := 2) (by decide) (show 8 ≤ r by omega)
      omega
  constructor
  · intro h r hr
    have := congrArg (fun x => Nat.testBit x r) h
    simp only [Nat.testBit_and, Nat.testBit_xor, bt, hr, b8 r hr, Nat.zero_testBit, decide_true, Bool.true_and, Bool.xor_true, Bool.not_eq_eq_eq_not, Bool.not_false] at this
    exact this
  · intro h
    apply Nat.eq_of_testBit_eq
    intro r
    rw [Nat.testBit_and, Nat.testBit_xor, bt, Nat.zero_testBit]
    cases c : b.testBit r with
    | false => rfl
    | true => rw [h r c, decide_eq_true (b8 r c)]; rfl
theorem sbs_le {b F : Nat} (h : sbs b F) : b ≤ F := by
  have e : b &&& F = b := by
    apply Nat.eq_of_testBit_eq
    intro r
    rw [Nat.testBit_and]
    cases c : b.testBit r with
    | false => rfl
    | true => rw [h r c]; rfl
  rw [← e]; exact Nat.and_le_right
theorem fn_bit {I : hI} : ∀ n r, (k_fnB I n).testBit r = true ↔ (r < n ∧ I 64 r = Int32.ofNat 1 ∧ I 66 r = Int32.ofInt (-1)) := by
  intro n
  induction n with
  | zero => intro r; rw [show k_fnB I 0 = 0 from rfl, Nat.zero_testBit]; exact ⟨fun z => absurd z (by decide), fun z => absurd z.1 (Nat.not_lt_zero _)⟩
  | succ n ih =>
    intro r
    rw [k_fnB_s]
    split
    · next c =>
      rw [Nat.testBit_or, Nat.testBit_two_pow, Bool.or_eq_true, ih r, decide_eq_true_iff]
      constructor
      · rintro (⟨a, b⟩ | e)
        · exact ⟨by omega, b⟩
        · subst e; exact ⟨by omega, c⟩
      · rintro ⟨a, b⟩
        by_cases g : n = r
        · exact Or.inr g
        · exact Or.inl ⟨by omega, b⟩
    · next c =>
      rw [ih r]
      constructor
      · rintro ⟨a, b⟩; exact ⟨by omega, b⟩
      · rintro ⟨a, b⟩
        by_cases g : n = r
        · subst g; exact absurd b c
        · exact ⟨by omega, b⟩
/-- free, on both sides -/
def frR (T n : Nat) (I K : hI) : Prop := ∀ r, r < n → ((I 64 r = Int32.ofNat 1 ∧ I 66 r = Int32.ofInt (-1)) ↔ (K 138 r = Int32.ofNat 1 ∧ K 140 r < 0)) ∧ I (T + 8) r = K 120 r
theorem yd_eq {T n b : Nat} {I K : hI} (f : frR T n I K) (hn : n ≤ 8) (hb : b < 256) (h : sbs b (k_fnB I n)) : ∀ j r, r + j = n → m_yd K (Int32.ofNat b) j r (k_yo I T (Int32.ofNat b) r) = k_yo I T (Int32.ofNat b) n := by
  intro j
  induction j with
  | zero => intro r e; obtain rfl : r = n := by omega
            rfl
  | succ j ih =>
    intro r e
    have b0 := am_bit r (by omega) b (by omega)
    have b1 := am_bit1 r (by omega) b (by omega)
    rw [m_yd_s]
    cases c : b.testBit r with
    | false =>
      rw [if_neg (fun z => by rw [b1.mp z] at c; exact absurd c (by decide)), ← k_yo_1 (b0.mpr c)]
      exact ih (r + 1) (by omega)
    | true =>
      have fr := (fn_bit n r).mp (h r c)
      rw [if_pos (b1.mpr c), if_pos ((f r (by omega)).1.mp fr.2), ← (f r (by omega)).2, ← k_yo_0 (fun z => by rw [b0.mp z] at c; exact absurd c (by decide))]
      exact ih (r + 1) (by omega)
theorem yd_no {T n b : Nat} {I K : hI} (f : frR T n I K) (hn : n ≤ 8) (hb : b < 2 ^ n) : ∀ j r (a : Int32), r + j = n → (∃ i, r ≤ i ∧ b.testBit i = true ∧ ¬ (k_fnB I n).testBit i = true) → m_yd K (Int32.ofNat b) j r a = Int32.ofInt (-1) := by
  have hb8 : b < 256 := Nat.lt_of_lt_of_le hb (Nat.pow_le_pow_right (n := 2) (by decide) hn)
  intro j
  induction j with
  | zero =>
    rintro r a e ⟨i, h1, h2, _⟩
    have := Nat.ge_two_pow_of_testBit h2
    have g := Nat.pow_le_pow_right (n := 2) (by decide) (show n ≤ i by omega)
    omega
  | succ j ih =>
    rintro r a e ⟨i, h1, h2, h3⟩
    have b1 := am_bit1 r (by omega) b (by omega)
    rw [m_yd_s]
    have nx : ∀ a', ¬ i = r → m_yd K (Int32.ofNat b) j (r + 1) a' = Int32.ofInt (-1) := fun a' g => ih (r + 1) a' (by omega) ⟨i, by omega, h2, h3⟩
    by_cases g : i = r
    · subst g
      rw [if_pos (b1.mpr h2), if_neg]
      exact fun z => h3 ((fn_bit n i).mpr ⟨by omega, (f i (by omega)).1.mpr z⟩)
    · split
      · split
        · exact nx _ g
        · rfl
      · exact nx _ g
theorem yd_v {T n b : Nat} {I K : hI} (f : frR T n I K) (hn : n ≤ 8) (hb : b < 2 ^ n) : (sbs b (k_fnB I n) ∧ m_yd K (Int32.ofNat b) n 0 (Int32.ofNat 0) = k_yo I T (Int32.ofNat b) n) ∨ (¬ sbs b (k_fnB I n) ∧ m_yd K (Int32.ofNat b) n 0 (Int32.ofNat 0) = Int32.ofInt (-1)) := by
  have hb8 : b < 256 := Nat.lt_of_lt_of_le hb (Nat.pow_le_pow_right (n := 2) (by decide) hn)
  by_cases c : sbs b (k_fnB I n)
  · exact Or.inl ⟨c, yd_eq f hn hb8 c n 0 (Nat.zero_add _)⟩
  · refine Or.inr ⟨c, yd_no f hn hb n 0 _ (Nat.zero_add _) ?_⟩
    obtain ⟨i, hi⟩ := Classical.not_forall.mp c
    obtain ⟨h1, h2⟩ := Classical.not_imp.mp hi
    exact ⟨i, Nat.zero_le _, h1, h2⟩
theorem am_n1z {z : Nat} (hz : z < 1000) : Int32.ofInt (-1) < Int32.ofNat z := by
  have : ∀ z, z < 1000 → Int32.ofInt (-1) < Int32.ofNat z := by decide +kernel
  exact this z hz
theorem cmp_lt (x y : Int32) : k_cmp x y < 0 ↔ x < y := by
  unfold k_cmp
  by_cases c : x < y
  · rw [if_pos c]; exact ⟨fun _ => c, fun _ => by decide⟩
  · rw [if_neg c]
    split
    · exact ⟨fun z => absurd z (by decide), fun z => absurd z c⟩
    · exact ⟨fun z => absurd z (by decide), fun z => absurd z c⟩
theorem cmp_eq (x y : Int32) : k_cmp x y = 0 ↔ x = y := by
  unfold k_cmp
  by_cases c : x < y
  · rw [if_pos c]; exact ⟨fun z => absurd z (by decide), fun z => by subst z; exact absurd c Int32.lt_irrefl⟩
  · rw [if_neg c]
    by_cases d : x = y
    · rw [if_pos d]; exact ⟨fun _ => d, fun _ => rfl⟩
    · rw [if_neg d]; exact ⟨fun z => absurd z (by decide), fun z => absurd z d⟩
/-- the best so far, on both sides -/
def spQ (K : hI) (n : Nat) (p : Int32 × Int32) (x : Int32) : Prop := (p.1 = 0 ∧ x = Int32.ofInt (-1)) ∨ ∃ b, 1 ≤ b ∧ b < 256 ∧ p.1 = Int32.ofNat b ∧ x = Int32.ofNat b ∧ p.2 = m_yd K x n 0 (Int32.ofNat 0)
theorem sp_Q {T n z : Nat} {I K : hI} (f : frR T n I K) (hn : n ≤ 8) (hz1 : 1 ≤ z) (hz : z ≤ 792) : ∀ r, r + 1 ≤ 2 ^ n → spQ K n (k_spL I T n (k_fnB I n) z r) (m_sp K n (Int32.ofNat z) (r + 1)) := by
  have p8 : 2 ^ n ≤ 256 := Nat.pow_le_pow_right (n := 2) (by decide) hn
  have F8 := k_fnB_8 (I := I) hn
  intro r
  induction r with
  | zero =>
    intro hr
    refine Or.inl ⟨rfl, ?_⟩
    rw [m_sp_s]
    unfold m_spS
    have s0 : sbs 0 (k_fnB I n) := fun r h => by rw [Nat.zero_testBit] at h; exact absurd h (by decide)
    rcases yd_v (b := 0) f hn (by omega) with ⟨_, e⟩ | ⟨e, _⟩
    · have k0 : ∀ j, j ≤ n → k_yo I T (Int32.ofNat 0) j = Int32.ofNat 0 := by
        intro j
        induction j with
        | zero => intro _; rfl
        | succ j ih => intro hj; rw [k_yo_1 ((am_bit j (by omega) 0 (by omega)).mpr (Nat.zero_testBit _))]; exact ih (by omega)
      rw [e, k0 n (Nat.le_refl _), if_pos ((am_ltN (by omega) (by omega)).mpr (by omega))]
      rfl
    · exact absurd s0 e
  | succ r ih =>
    intro hr
    have ih := ih (by omega)
    rw [m_sp_s]
    generalize hx : m_sp K n (Int32.ofNat z) (r + 1) = x at ih
    unfold m_spS
    rcases yd_v (b := r + 1) f hn (by omega) with ⟨s, e⟩ | ⟨s, e⟩
    · have ey : k_spY I T n (k_fnB I n) (r + 1) = k_yo I T (Int32.ofNat (r + 1)) n := k_spY1 ((sbs_iff (by omega) F8).mpr s)
      rw [← ey] at e
      generalize k_spY I T n (k_fnB I n) (r + 1) = y at ey e
      have ey' : k_spY I T n (k_fnB I n) (r + 1) = y := (k_spY1 ((sbs_iff (by omega) F8).mpr s)).trans ey.symm
      rw [e]
      by_cases c : y < Int32.ofNat z
      · rw [if_pos c, k_spL_0 ey' (k_spP_n c)]; exact ih
      · rw [if_neg c]
        have new : spQ K n (Int32.ofNat (r + 1), y) (Int32.ofNat (r + 1)) := Or.inr ⟨r + 1, by omega, by omega, rfl, rfl, e.symm⟩
        rcases ih with ⟨p1, x1⟩ | ⟨b, b1, b2, p1, x1, p2⟩
        · rw [k_spL_1 ey' ⟨c, Or.inl p1⟩, if_pos (Or.inl (by rw [x1]; decide))]; exact new
        · have nb : ¬ Int32.ofNat b = 0 := fun w => by have := (am_eqN (y := 0) (by omega) (by omega)).mp w; omega
          have ng : ¬ x < 0 := fun w => by
            rw [x1, show (0 : Int32) = Int32.ofNat 0 from rfl, am_ltN (by omega) (by omega)] at w; exact absurd w (Nat.not_lt_zero _)
          have bi : k_bsP (Int32.ofNat (r + 1)) y (k_spL I T n (k_fnB I n) z r).1 (k_spL I T n (k_fnB I n) z r).2 ↔ (m_many (Int32.ofNat (r + 1)) 10 < m_many x 10 ∨ (m_many (Int32.ofNat (r + 1)) 10 = m_many x 10 ∧ y < m_yd K x n 0 (Int32.ofNat 0))) := by
            show (_ ∨ (_ ∧ _)) ↔ _
            rw [cmp_lt, cmp_eq, p1, p2, x1, am_many8 _ (by omega), am_many8 _ (by omega)]
          by_cases d : k_bsP (Int32.ofNat (r + 1)) y (k_spL I T n (k_fnB I n) z r).1 (k_spL I T n (k_fnB I n) z r).2
          · rw [k_spL_1 ey' ⟨c, Or.inr d⟩, if_pos (Or.inr (bi.mp d))]; exact new
          · rw [k_spL_0 ey' (k_spP_m (by rw [p1]; exact nb) d), if_neg (fun w => w.elim ng (fun w => d (bi.mpr w)))]
            exact Or.inr ⟨b, b1, b2, p1, x1, p2⟩
    · have ey : k_spY I T n (k_fnB I n) (r + 1) = Int32.ofNat 0 := k_spY0 (fun w => s ((sbs_iff (by omega) F8).mp w))
      rw [k_spL_0 ey (k_spP_n ((am_ltN (by omega) (by omega)).mpr (by omega))), e, if_pos (am_n1z (by omega))]
      exact ih
theorem sp_tl {T n z : Nat} {I K : hI} (f : frR T n I K) (hn : n ≤ 8) (hz : z ≤ 792) : ∀ j, k_fnB I n + 1 + j ≤ 2 ^ n → m_sp K n (Int32.ofNat z) (k_fnB I n + 1 + j) = m_sp K n (Int32.ofNat z) (k_fnB I n + 1) := by
  intro j
  induction j with
  | zero => intro _; rfl
  | succ j ih =>
    intro hj
    rw [← Nat.add_assoc, m_sp_s]
    unfold m_spS
    rcases yd_v (b := k_fnB I n + 1 + j) f hn (by omega) with ⟨s, e⟩ | ⟨s, e⟩
    · exact absurd (sbs_le s) (by omega)
    · rw [e, if_pos (am_n1z (by omega))]; exact ih (by omega)
theorem ex_eq {T n z : Nat} {I K : hI} (f : frR T n I K) (hn : n ≤ 8) (hz : z ≤ 792) : ∀ r, r ≤ 2 ^ n → m_ex K n (Int32.ofNat z) r = Int32.ofNat (k_exa I T n (k_fnB I n) z r) := by
  have p8 : 2 ^ n ≤ 256 := Nat.pow_le_pow_right (n := 2) (by decide) hn
  have F8 := k_fnB_8 (I := I) hn
  intro r
  induction r with
  | zero => intro _; rfl
  | succ r ih =>
    intro hr
    have em : m_ex K n (Int32.ofNat z) (r + 1) = m_ex K n (Int32.ofNat z) r + (if m_yd K (Int32.ofNat r) n 0 (Int32.ofNat 0) = Int32.ofNat z then Int32.ofNat 1 else Int32.ofNat 0) := rfl
    rw [em, ih (by omega)]
    rcases yd_v (b := r) f hn (by omega) with ⟨s, e⟩ | ⟨s, e⟩
    · rw [e]
      by_cases c : k_yo I T (Int32.ofNat r) n = Int32.ofNat z
      · rw [if_pos c, k_exa_1 ⟨(sbs_iff (by omega) F8).mpr s, c⟩, Int32.ofNat_add]
      · rw [if_neg c, k_exa_0 (fun w => c w.2), am_a0]
    · rw [e, k_exa_0 (fun w => s ((sbs_iff (by omega) F8).mp w.1)), if_neg (fun w => by have := am_n1z (z := z) (by omega); rw [← w] at this; exact absurd this Int32.lt_irrefl), am_a0]
theorem exa_tl {T n z : Nat} {I : hI} (hn : n ≤ 8) : ∀ j, k_fnB I n + 1 + j ≤ 2 ^ n → k_exa I T n (k_fnB I n) z (k_fnB I n + 1 + j) = k_exa I T n (k_fnB I n) z (k_fnB I n + 1) := by
  have p8 : 2 ^ n ≤ 256 := Nat.pow_le_pow_right (n := 2) (by decide) hn
  have F8 := k_fnB_8 (I := I) hn
  intro j
  induction j with
  | zero => intro _; rfl
  | succ j ih =>
    intro hj
    rw [← Nat.add_assoc, k_exa_0 (fun w => absurd (sbs_le ((sbs_iff (by omega) F8).mp w.1)) (by omega))]
    exact ih (by omega)
theorem rB_fr {T O : Nat} {N : Nat → Nat} {u q : Nat} {I : hI} {J : hJ} (h : REL T O N u q I J I J) (hn : N 1 ≤ 8) : frR T (N 1) I (m_z I) := fun r hr => by
  obtain ⟨e1, e2, e3, e4⟩ := rB_r h.2.1 (show r < 8 by omega)
  have e3 := e3.resolve_left (fun z => by have := z.1; omega)
  rw [m_z_n (by omega), m_z_n (by omega), m_z_n (by omega), ← e1, ← e3]
  refine ⟨⟨fun w => ⟨w.1, ?_⟩, fun w => ⟨w.1, ?_⟩⟩, (h.1.2.2.2.2.2.1.2.1 r hr).2.2.1⟩
  · rw [w.2]; decide
  · rcases e4 with e | e
    · exact e
    · have w2 := w.2
      rw [e.1, show (0 : Int32) = Int32.ofNat 0 from rfl, am_ltN (by have := e.2; omega) (by omega)] at w2
      exact absurd w2 (Nat.not_lt_zero _)
theorem op_splice (x y : Int32) : OPok 128 253 [.int x, .int y] := by
  rintro I J R ⟨T, O, N, u, q, h, r0, r2⟩
  obtain ⟨hT, _⟩ := rA_hT h.1
  obtain ⟨t, m0, l0⟩ := rA_ctk h.1
  by_cases c : (¬ x < Int32.ofNat 1 ∧ ¬ Int32.ofNat 792 < x) ∧ ¬ y < Int32.ofNat 0 ∧ ¬ Int32.ofNat 1 < y
  · obtain ⟨ex, z1, z2⟩ := am_btN (by omega) (by omega) c.1.1 c.1.2
    obtain ⟨ey, _, hw⟩ := am_btN (by omega) (by omega) c.2.1 c.2.2
    generalize nn x = z at ex z1 z2
    generalize nn y = w at ey hw
    subst ex ey
    refine op_same h r0 r2 (d_splice hT r0 t z1 z2 hw (by omega)) (c_splice h.1.2.2.2.2.1 z1 z2 hw (by omega)) ?_ kM_z tM_z
    have hn := t.1.1
    have f := rB_fr h hn
    have lF := k_fnB_lt I (N 1)
    have Q := sp_Q f hn z1 z2 (k_fnB I (N 1)) (by omega)
    have tl := sp_tl f hn z2 (2 ^ N 1 - (k_fnB I (N 1) + 1)) (by omega)
    rw [show k_fnB I (N 1) + 1 + (2 ^ N 1 - (k_fnB I (N 1) + 1)) = 2 ^ N 1 by omega] at tl
    unfold k_spl m_splice
    rw [tl]
    rcases Q with ⟨p1, x1⟩ | ⟨b, b1, b2, p1, x1, p2⟩
    · rw [if_pos p1, if_pos (by rw [x1]; decide)]
    · have n1 : ¬ (k_spL I T (N 1) (k_fnB I (N 1)) z (k_fnB I (N 1))).1 = 0 := fun w => by rw [p1] at w; have := (am_eqN (y := 0) (by omega) (by omega)).mp w; omega
      have n2 : ¬ m_sp (m_z I) (N 1) (Int32.ofNat z) (k_fnB I (N 1) + 1) < 0 := fun w => by
        rw [x1, show (0 : Int32) = Int32.ofNat 0 from rfl, am_ltN (by omega) (by omega)] at w; exact absurd w (Nat.not_lt_zero _)
      rw [if_neg n1, if_neg n2, p1, p2, ← x1]
  · exact op_same h r0 r2 (d_splice_no c (by omega)) (c_splice_no c (by omega)) rfl kM_z tM_z
theorem op_exact (x : Int32) : OPok 130 254 [.int x] := by
  rintro I J R ⟨T, O, N, u, q, h, r0, r2⟩
  obtain ⟨hT, _⟩ := rA_hT h.1
  obtain ⟨t, m0, l0⟩ := rA_ctk h.1
  by_cases c : ¬ x < Int32.ofNat 0 ∧ ¬ Int32.ofNat 792 < x
  · obtain ⟨ex, _, z2⟩ := am_btN (by omega) (by omega) c.1 c.2
    generalize nn x = z at ex z2
    subst ex
    refine op_same h r0 r2 (d_exact hT r0 t z2 (by omega)) (c_exact h.1.2.2.2.2.1 z2 (by omega)) ?_ kM_z tM_z
    have hn := t.1.1
    have f := rB_fr h hn
    have lF := k_fnB_lt I (N 1)
    have tl := exa_tl (I := I) (T := T) (z := z) hn (2 ^ N 1 - (k_fnB I (N 1) + 1)) (by omega)
    rw [show k_fnB I (N 1) + 1 + (2 ^ N 1 - (k_fnB I (N 1) + 1)) = 2 ^ N 1 by omega] at tl
    rw [ex_eq f hn z2 _ (Nat.le_refl _), tl]
  · exact op_same h r0 r2 (d_exact_no c (by omega)) (c_exact_no c (by omega)) rfl kM_z tM_z
