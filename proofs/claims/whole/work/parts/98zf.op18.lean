/-! Calls alike (eighteen): putOff. -/
theorem fA_dis {T O : Nat} {N : Nat → Nat} {u q : Nat} {I K : hI} {J L : hJ} {s s' v : Nat} (h : REL T O N u q I J K L) (hs : s < N 2) (hs' : s' < N 2) (a : (k_fA T N s I).testBit v = true) (b : (k_fA T N s' I).testBit v = true) : s = s' := by
  rw [fA_bit h hs] at a
  rw [fA_bit h hs'] at b
  omega
theorem am_n2N {r : Nat} (h : r < 1024) : ¬ Int32.ofNat r = Int32.ofInt (-2) := by
  intro z
  have e := congrArg Int32.toInt z
  rw [Int32.toInt_ofNat_of_lt (by omega)] at e
  have e2 : (Int32.ofInt (-2)).toInt = -2 := rfl
  omega
theorem poL_ok {T O : Nat} {N : Nat → Nat} {u q : Nat} {I K : hI} {J L : hJ} (h : REL T O N u q I J K L) (hz : K 110 2 = Int32.ofNat 0) : ∀ j s acc (p : hI × hJ), s + j = N 2 → poI I J p → poI I J (k_poL T N j s (Int32.ofNat acc) p).2 ∧ (((∃ s', s ≤ s' ∧ s' < N 2 ∧ lst T N s' (I, J) (k_fA T N s' I)) ∧ (k_poL T N j s (Int32.ofNat acc) p).1 = Int32.ofInt (-2)) ∨ ∃ r, r < 1024 ∧ (k_poL T N j s (Int32.ofNat acc) p).1 = Int32.ofNat (acc ||| r) ∧ (∀ v, r.testBit v = true → ∃ s', s ≤ s' ∧ s' < N 2 ∧ (k_fA T N s' I).testBit v = true) ∧ ∀ s', s ≤ s' → s' < N 2 → minS (lst T N s' (I, J)) (k_fA T N s' I) (r &&& k_fA T N s' I)) := by
  obtain ⟨tt, _, _⟩ := rA_ctk h.1
  intro j
  induction j with
  | zero =>
    intro s acc p e hp
    refine ⟨hp, Or.inr ⟨0, by omega, ?_, fun v x => ?_, fun s' x y => by omega⟩⟩
    · show Int32.ofNat acc = _
      rw [Nat.or_zero]
    · rw [Nat.zero_testBit] at x; exact absurd x (by decide)
  | succ j ih =>
    intro s acc p e hp
    have hs : s < N 2 := by omega
    have hA : k_fA T N s I < 1024 := k_fA_lt tt.1.2.2
    obtain ⟨p1, w⟩ := few_ok h hz hs hp
    rcases w with ⟨w1, w2⟩ | ⟨r0, w1, w2⟩
    · rw [k_poL_c w2]
      exact ⟨p1, Or.inl ⟨⟨s, Nat.le_refl _, hs, w1⟩, rfl⟩⟩
    · have hr0 : r0 < 1024 := Nat.lt_of_le_of_lt (sbs_le w2.1) hA
      rw [k_poL_o (by rw [w1]; exact am_n2N hr0), w1, am_orN]
      obtain ⟨i1, i2⟩ := ih (s + 1) (acc ||| r0) (k_few T N s p).2 (by omega) p1
      refine ⟨i1, ?_⟩
      rcases i2 with ⟨⟨s', x1, x2, x3⟩, x4⟩ | ⟨r', x1, x2, x3, x4⟩
      · exact Or.inl ⟨⟨s', by omega, x2, x3⟩, x4⟩
      · refine Or.inr ⟨r0 ||| r', or_1024 hr0 x1, ?_, fun v x => ?_, fun s' y1 y2 => ?_⟩
        · rw [x2, Nat.or_assoc]
        · rw [Nat.testBit_or, Bool.or_eq_true] at x
          rcases x with x | x
          · exact ⟨s, Nat.le_refl _, hs, w2.1 v x⟩
          · obtain ⟨s', z1, z2, z3⟩ := x3 v x
            exact ⟨s', by omega, z2, z3⟩
        · by_cases es : s' = s
          · subst es
            have e2 : (r0 ||| r') &&& k_fA T N s' I = r0 := by
              apply Nat.eq_of_testBit_eq
              intro v
              rw [Nat.testBit_and, Nat.testBit_or]
              cases c0 : r0.testBit v with
              | true => rw [w2.1 v c0]; rfl
              | false =>
                cases c1 : r'.testBit v with
                | false => rfl
                | true =>
                  cases c2 : (k_fA T N s' I).testBit v with
                  | false => rfl
                  | true =>
                    obtain ⟨s2, z1, z2, z3⟩ := x3 v c1
                    have := fA_dis h y2 z2 c2 z3
                    omega
            rw [e2]; exact w2
          · have e2 : (r0 ||| r') &&& k_fA T N s' I = r' &&& k_fA T N s' I := by
              apply Nat.eq_of_testBit_eq
              intro v
              rw [Nat.testBit_and, Nat.testBit_or, Nat.testBit_and]
              cases c0 : r0.testBit v with
              | false => rw [Bool.false_or]
              | true =>
                cases c2 : (k_fA T N s' I).testBit v with
                | false => rw [Bool.and_false, Bool.and_false]
                | true =>
                  have := fA_dis h hs y2 (w2.1 v c0) c2
                  omega
            rw [e2]; exact x4 s' (by omega) y2
/-- the ships' own voyages together -/
def poW (T : Nat) (N : Nat → Nat) (I : hI) : Nat → Nat
  | 0 => 0
  | k + 1 => poW T N I k ||| k_fA T N k I
theorem poW_lt {T : Nat} {N : Nat → Nat} {I : hI} (h : N 3 ≤ 10) : ∀ k, poW T N I k < 1024 := by
  intro k
  induction k with
  | zero => exact Nat.succ_pos _
  | succ k ih => exact or_1024 ih (k_fA_lt h)
theorem poW_bit {T : Nat} {N : Nat → Nat} {I : hI} {v : Nat} : ∀ k, (poW T N I k).testBit v = true ↔ ∃ s, s < k ∧ (k_fA T N s I).testBit v = true := by
  intro k
  induction k with
  | zero =>
    show (0 : Nat).testBit v = true ↔ _
    rw [Nat.zero_testBit]
    exact ⟨fun z => absurd z (by decide), fun ⟨s, z, _⟩ => absurd z (Nat.not_lt_zero _)⟩
  | succ k ih =>
    show (poW T N I k ||| k_fA T N k I).testBit v = true ↔ _
    rw [Nat.testBit_or, Bool.or_eq_true, ih]
    constructor
    · rintro (⟨s, a, b⟩ | b)
      · exact ⟨s, by omega, b⟩
      · exact ⟨k, by omega, b⟩
    · rintro ⟨s, a, b⟩
      by_cases e : s = k
      · subst e; exact Or.inr b
      · exact Or.inl ⟨s, by omega, b⟩
theorem and_1024 {a b : Nat} (h : a < 1024) : a &&& b < 1024 := Nat.lt_of_le_of_lt Nat.and_le_left h
theorem poW_min {T O : Nat} {N : Nat → Nat} {u q : Nat} {I K : hI} {J L : hJ} {r m : Nat} (h : REL T O N u q I J K L) (hr : r < 1024) (hm : m < 1024) (a : ∀ s, s < N 2 → minS (lst T N s (I, J)) (k_fA T N s I) (r &&& k_fA T N s I)) (b : ∀ s, s < N 2 → ¬ lst T N s (I, J) (m &&& k_fA T N s I)) : ∀ k, k ≤ N 2 → k_pc (r &&& poW T N I k) < k_pc (m &&& poW T N I k) ∨ (k_pc (r &&& poW T N I k) = k_pc (m &&& poW T N I k) ∧ r &&& poW T N I k ≤ m &&& poW T N I k) := by
  obtain ⟨tt, _, _⟩ := rA_ctk h.1
  intro k
  induction k with
  | zero => intro _; exact Or.inr ⟨by show k_pc (r &&& 0) = k_pc (m &&& 0); rw [Nat.and_zero, Nat.and_zero], by show r &&& 0 ≤ m &&& 0; rw [Nat.and_zero, Nat.and_zero]; exact Nat.le_refl _⟩
  | succ k ih =>
    intro hk
    have ih := ih (by omega)
    have sp : ∀ x, x < 1024 → k_pc (x &&& poW T N I (k + 1)) = k_pc (x &&& poW T N I k) + k_pc (x &&& k_fA T N k I) ∧ x &&& poW T N I (k + 1) = (x &&& poW T N I k) + (x &&& k_fA T N k I) := fun x hx => by
      have e : x &&& poW T N I (k + 1) = (x &&& poW T N I k) ||| (x &&& k_fA T N k I) := by
        show x &&& (poW T N I k ||| k_fA T N k I) = _
        exact Nat.and_or_distrib_left _ _ _
      rw [e]
      refine pc_add (and_1024 hx) (and_1024 hx) (fun v z => ?_)
      rw [Nat.testBit_and, Nat.testBit_and, Bool.and_eq_true, Bool.and_eq_true, poW_bit] at z
      obtain ⟨s, z1, z2⟩ := z.1.2
      have := fA_dis h (show s < N 2 by omega) (show k < N 2 by omega) z2 z.2.2
      omega
    obtain ⟨r1, r2⟩ := sp r hr
    obtain ⟨m1, m2⟩ := sp m hm
    have mk := (a k (by omega)).2.2 (m &&& k_fA T N k I) (fun v z => by rw [Nat.testBit_and, Bool.and_eq_true] at z; exact z.2) (b k (by omega))
    omega
/-- the reference's search -/
def poOK (T : Nat) (N : Nat → Nat) (I : hI) (J : hJ) (r : Nat) : Prop := ∀ s, s < N 2 → ¬ lst T N s (I, J) r
theorem cS_0 {K : hI} {b : Nat} {x : Int32} : ∀ n, n ≤ 5 → ∃ c, c ≤ n ∧ m_cS K b n x = Int32.ofNat c ∧ (c = 0 ↔ ∀ s, s < n → ¬ K 141 (5 * b + s) = x) := by
  intro n
  induction n with
  | zero => intro _; exact ⟨0, Nat.le_refl _, rfl, fun _ s z => absurd z (Nat.not_lt_zero _), fun _ => rfl⟩
  | succ n ih =>
    intro hn
    obtain ⟨c, c1, c2, c3⟩ := ih (by omega)
    have e : m_cS K b (n + 1) x = m_cS K b n x + (if K 141 (5 * b + n) = x then Int32.ofNat 1 else Int32.ofNat 0) := rfl
    by_cases g : K 141 (5 * b + n) = x
    · rw [if_pos g] at e
      refine ⟨c + 1, by omega, by rw [e, c2, Int32.ofNat_add], fun z => by omega, fun z => absurd g (z n (by omega))⟩
    · rw [if_neg g, am_a0] at e
      refine ⟨c, by omega, by rw [e, c2], fun z s hs => ?_, fun z => c3.mpr (fun s hs => z s (by omega))⟩
      by_cases es : s = n
      · subst es; exact g
      · exact c3.mp z s (by omega)
set_option maxRecDepth 16384 in
theorem am_many10 : ∀ n, n < 1024 → m_many (Int32.ofNat n) 10 = Int32.ofNat (k_pc n) := by decide +kernel
set_option maxRecDepth 512
theorem sbs_iff2 {b F : Nat} (hb : b < 1024) (hF : F < 1024) : Int32.ofNat b &&& (Int32.ofNat F ^^^ Int32.ofInt (-1)) = 0 ↔ sbs b F := by
  have e : Int32.ofInt (-1) = Int32.ofNat 4294967295 := by decide
  have l : b &&& (F ^^^ 4294967295) < 2147483648 := by
    have := Nat.and_lt_two_pow (n := 10) (x := F ^^^ 4294967295) (y := b) hb
    rw [Nat.and_comm] at this; omega
  rw [e, am_xorN, am_andN, show (0 : Int32) = Int32.ofNat 0 from rfl, am_eqN l (by decide)]
  have bt : ∀ r, (4294967295 : Nat).testBit r = decide (r < 32) := fun r => Nat.testBit_two_pow_sub_one 32 r
  have b8 : ∀ r, b.testBit r = true → r < 32 := fun r hr => by
    by_cases c : r < 32
    · exact c
    · rw [bit_hi hb (by omega)] at hr; exact absurd hr (by decide)
  constructor
  · intro h r hr
    have := congrArg (fun x => Nat.testBit x r) h
    simp only [Nat.testBit_and, Nat.testBit_xor, bt, hr, b8 r hr, Nat.zero_testBit, decide_true, Bool.true_and, Bool.xor_true, Bool.not_eq_eq_eq_not, Bool.not_false] at this
    exact this
  · intro h
    apply Nat.eq_of_testBit_eq
    intro r
    rw [Nat.testBit_and, Nat.testBit_xor, bt, Nat.zero_testBit]
    cases c : b.testBit r with
    | false => rfl
    | true => rw [h r c, decide_eq_true (b8 r c)]; rfl
theorem poT_f {N : Nat → Nat} {r : Nat} {p : hI × hJ} : tM p.1 (m_poT N r p).1 ∧ (∀ a i, a ≠ 136 → a ≠ 137 → (m_poT N r p).2 a i = p.2 a i) := by
  refine ⟨tM_tr tM_lt (tM_tr (tM_u (by omega)) (tM_days 60)), fun a i h1 h2 => ?_⟩
  refine jM_days 60 a i h1 h2 (Or.inr ?_)
  show am_u (m_lt p.1) 110 72 (Int32.ofNat r) 110 64 = 0
  rw [am_u_nk (by decide)]; exact m_lt_110
theorem po_ref {T O : Nat} {N : Nat → Nat} {u q mN : Nat} {I K : hI} {J L : hJ} (h : REL T O N u q I J K L) (hz : K 110 2 = Int32.ofNat 0) (h2 : ∀ (p : hI × hJ) r, (m_poT N r p).1 110 2 = p.1 110 2) (hm : mN < 1024) : ∀ n, n ≤ 1024 → (REL T O N u q I J (m_poL N (Int32.ofNat mN) n (Int32.ofInt (-2), K, L)).2.1 (m_poL N (Int32.ofNat mN) n (Int32.ofInt (-2), K, L)).2.2 ∧ (m_poL N (Int32.ofNat mN) n (Int32.ofInt (-2), K, L)).2.1 110 2 = Int32.ofNat 0 ∧ tM K (m_poL N (Int32.ofNat mN) n (Int32.ofInt (-2), K, L)).2.1 ∧ (∀ a i, a ≠ 136 → a ≠ 137 → (m_poL N (Int32.ofNat mN) n (Int32.ofInt (-2), K, L)).2.2 a i = L a i)) ∧ (((m_poL N (Int32.ofNat mN) n (Int32.ofInt (-2), K, L)).1 = Int32.ofInt (-2) ∧ ∀ r, r < n → sbs r mN → ¬ poOK T N I J r) ∨ ∃ m, m < n ∧ (m_poL N (Int32.ofNat mN) n (Int32.ofInt (-2), K, L)).1 = Int32.ofNat m ∧ sbs m mN ∧ poOK T N I J m ∧ ∀ r, r < n → sbs r mN → poOK T N I J r → k_pc m < k_pc r ∨ (k_pc m = k_pc r ∧ m ≤ r)) := by
  obtain ⟨tt, _, _⟩ := rA_ctk h.1
  intro n
  induction n with
  | zero => intro _; exact ⟨⟨h, hz, tM_rf _, fun _ _ _ _ => rfl⟩, Or.inl ⟨rfl, fun r z => absurd z (Nat.not_lt_zero _)⟩⟩
  | succ n ih =>
    intro hn
    obtain ⟨⟨i1, i2, i3, i4⟩, i5⟩ := ih (by omega)
    have es : m_poL N (Int32.ofNat mN) (n + 1) (Int32.ofInt (-2), K, L) = m_poS N (Int32.ofNat mN) n (m_poL N (Int32.ofNat mN) n (Int32.ofInt (-2), K, L)) := rfl
    rw [es]
    generalize m_poL N (Int32.ofNat mN) n (Int32.ofInt (-2), K, L) = Q at i1 i2 i3 i4 i5
    obtain ⟨tf, jf⟩ := poT_f (N := N) (r := n) (p := Q.2)
    have i1' : REL T O N u q I J (m_poT N n Q.2).1 (m_poT N n Q.2).2 := REL_t i1 (fun _ _ _ => rfl) tf rfl rfl (jf _ _ (by decide) (by decide)) (jf _ _ (by decide) (by decide))
    have i2' : (m_poT N n Q.2).1 110 2 = Int32.ofNat 0 := (h2 _ _).trans i2
    have i3' : tM K (m_poT N n Q.2).1 := tM_tr i3 tf
    have i4' : ∀ a i, a ≠ 136 → a ≠ 137 → (m_poT N n Q.2).2 a i = L a i := fun a i x y => (jf a i x y).trans (i4 a i x y)
    have ok : m_cS (m_poT N n Q.2).1 1 (N 2) (Int32.ofNat 2) = 0 ↔ poOK T N I J n := by
      obtain ⟨c, c1, c2, c3⟩ := cS_0 (K := (m_poT N n Q.2).1) (b := 1) (x := Int32.ofNat 2) (N 2) tt.1.2.1
      have n5 := tt.1.2.1
      rw [c2, show (0 : Int32) = Int32.ofNat 0 from rfl, am_eqN (by omega) (by omega), c3]
      unfold poOK lst
      constructor
      · intro z s hs
        rw [po_TR i1 i2 hs (by omega) (by omega) (fun _ _ _ => rfl)]; exact z s hs
      · intro z s hs
        have := z s hs
        rw [po_TR i1 i2 hs (by omega) (show n < 1024 by omega) (fun _ _ _ => rfl)] at this; exact this
    have sub := sbs_iff2 (b := n) (F := mN) (by omega) hm
    have keep : (REL T O N u q I J Q.2.1 Q.2.2 ∧ Q.2.1 110 2 = Int32.ofNat 0 ∧ tM K Q.2.1 ∧ (∀ a i, a ≠ 136 → a ≠ 137 → Q.2.2 a i = L a i)) := ⟨i1, i2, i3, i4⟩
    have trial : (REL T O N u q I J (m_poT N n Q.2).1 (m_poT N n Q.2).2 ∧ (m_poT N n Q.2).1 110 2 = Int32.ofNat 0 ∧ tM K (m_poT N n Q.2).1 ∧ (∀ a i, a ≠ 136 → a ≠ 137 → (m_poT N n Q.2).2 a i = L a i)) := ⟨i1', i2', i3', i4'⟩
    unfold m_poS
    by_cases c : Int32.ofNat n &&& (Int32.ofNat mN ^^^ Int32.ofInt (-1)) = 0
    · rw [if_pos c]
      have cs := sub.mp c
      by_cases g : ¬ Q.1 < 0 ∧ ¬ m_many (Int32.ofNat n) 10 < m_many Q.1 10
      · rw [if_pos g]
        refine ⟨keep, ?_⟩
        rcases i5 with ⟨e1, _⟩ | ⟨m, e1, e2, e3, e4, e5⟩
        · rw [e1] at g; exact absurd g.1 (by decide)
        · refine Or.inr ⟨m, by omega, e2, e3, e4, fun r hr x y => ?_⟩
          by_cases er : r = n
          · subst er
            have g2 := g.2
            rw [e2, am_many10 _ (by omega), am_many10 _ (by omega)] at g2
            have p1 := k_pc_le r (by omega)
            have p2 := k_pc_le m (by omega)
            rw [am_ltN (by omega) (by omega)] at g2
            by_cases z : k_pc m < k_pc r
            · exact Or.inl z
            · exact Or.inr ⟨by omega, by omega⟩
          · exact e5 r (by omega) x y
      · rw [if_neg g]
        by_cases o : m_cS (m_poT N n Q.2).1 1 (N 2) (Int32.ofNat 2) = 0
        · rw [if_pos o]
          refine ⟨trial, Or.inr ⟨n, by omega, rfl, cs, ok.mp o, fun r hr x y => ?_⟩⟩
          by_cases er : r = n
          · subst er; exact Or.inr ⟨rfl, Nat.le_refl _⟩
          · rcases i5 with ⟨e1, e2⟩ | ⟨m, e1, e2, e3, e4, e5⟩
            · exact absurd y (e2 r (by omega) x)
            · have lt : k_pc n < k_pc m := by
                have p1 := k_pc_le n (by omega)
                have p2 := k_pc_le m (by omega)
                refine Classical.byContradiction (fun z => g ⟨?_, ?_⟩)
                · rw [e2, show (0 : Int32) = Int32.ofNat 0 from rfl, am_ltN (by omega) (by omega)]; exact Nat.not_lt_zero _
                · rw [e2, am_many10 _ (by omega), am_many10 _ (by omega), am_ltN (by omega) (by omega)]; exact z
              have := e5 r (by omega) x y
              omega
        · rw [if_neg o]
          refine ⟨trial, ?_⟩
          rcases i5 with ⟨e1, e2⟩ | ⟨m, e1, e2, e3, e4, e5⟩
          · refine Or.inl ⟨e1, fun r hr x y => ?_⟩
            by_cases er : r = n
            · subst er; exact o (ok.mpr y)
            · exact e2 r (by omega) x y
          · refine Or.inr ⟨m, by omega, e2, e3, e4, fun r hr x y => ?_⟩
            by_cases er : r = n
            · subst er; exact absurd (ok.mpr y) o
            · exact e5 r (by omega) x y
    · rw [if_neg c]
      refine ⟨keep, ?_⟩
      rcases i5 with ⟨e1, e2⟩ | ⟨m, e1, e2, e3, e4, e5⟩
      · refine Or.inl ⟨e1, fun r hr x y => ?_⟩
        by_cases er : r = n
        · subst er; exact c (sub.mpr x)
        · exact e2 r (by omega) x y
      · refine Or.inr ⟨m, by omega, e2, e3, e4, fun r hr x y => ?_⟩
        by_cases er : r = n
        · subst er; exact absurd (sub.mpr x) c
        · exact e5 r (by omega) x y
theorem m_lt_hz {K : hI} : m_lt K 110 2 = K 110 2 := by
  have e1 : ∀ n, m_lt1 n K 110 2 = K 110 2 := by
    intro n
    induction n with
    | zero => rfl
    | succ n ih =>
      show am_u (am_u (am_u (m_lt1 n K) 138 (8 + n) (m_lt1 n K 138 n)) 139 (8 + n) (m_lt1 n K 139 n)) 140 (8 + n) (m_lt1 n K 140 n) 110 2 = _
      rw [am_u_na (by decide), am_u_na (by decide), am_u_na (by decide)]; exact ih
  have e2 : ∀ n, m_lt2 n (m_lt1 8 K) 110 2 = K 110 2 := by
    intro n
    induction n with
    | zero => exact e1 8
    | succ n ih =>
      show am_u (am_u (am_u (m_lt2 n (m_lt1 8 K)) 141 (5 + n) (m_lt2 n (m_lt1 8 K) 141 n)) 142 (5 + n) (m_lt2 n (m_lt1 8 K) 142 n)) 143 (5 + n) (m_lt2 n (m_lt1 8 K) 143 n) 110 2 = _
      rw [am_u_na (by decide), am_u_na (by decide), am_u_na (by decide)]; exact ih
  unfold m_lt m_pt m_lt3
  rw [am_u_nk (by decide), am_u_nk (by decide), am_u_nk (by decide), am_u_nk (by decide), am_u_nk (by decide), am_u_nk (by decide), am_u_nk (by decide), am_u_nk (by decide), am_u_nk (by decide), am_u_nk (by decide), am_u_na (by decide), am_u_na (by decide)]
  exact e2 5
theorem poT_2 {N : Nat → Nat} {r : Nat} {p : hI × hJ} : (m_poT N r p).1 110 2 = p.1 110 2 := by
  refine (simF_days2 60 110 2 (by omega) (by omega)).trans ?_
  show am_u (m_lt p.1) 110 72 (Int32.ofNat r) 110 2 = _
  rw [am_u_nk (by decide)]
  exact m_lt_hz
theorem may_bit {K : hI} : ∀ n, n ≤ 10 → ∃ m, m < 2 ^ n ∧ m_may K n = Int32.ofNat m ∧ ∀ v, m.testBit v = true ↔ (v < n ∧ ¬ K 126 v < K 145 0) := by
  intro n
  induction n with
  | zero => intro _; exact ⟨0, Nat.one_pos, rfl, fun v => ⟨fun z => by rw [Nat.zero_testBit] at z; exact absurd z (by decide), fun z => absurd z.1 (Nat.not_lt_zero _)⟩⟩
  | succ n ih =>
    intro hn
    obtain ⟨m, m1, m2, m3⟩ := ih (by omega)
    have e : m_may K (n + 1) = m_may K n ||| (if K 126 n < K 145 0 then Int32.ofNat 0 else Int32.ofNat (2 ^ n)) := rfl
    have l : m < 2 ^ (n + 1) := Nat.lt_of_lt_of_le m1 (Nat.pow_le_pow_right (by decide) (by omega))
    by_cases g : K 126 n < K 145 0
    · rw [if_pos g, m2, am_orN, Nat.or_zero] at e
      refine ⟨m, l, e, fun v => ?_⟩
      rw [m3]
      exact ⟨fun z => ⟨by omega, z.2⟩, fun z => ⟨by
        by_cases ev : v = n
        · subst ev; exact absurd g z.2
        · omega, z.2⟩⟩
    · rw [if_neg g, m2, am_orN] at e
      refine ⟨m ||| 2 ^ n, Nat.or_lt_two_pow l (Nat.pow_lt_pow_right (by decide) (by omega)), e, fun v => ?_⟩
      rw [Nat.testBit_or, Bool.or_eq_true, m3, Nat.testBit_two_pow, decide_eq_true_iff]
      constructor
      · rintro (z | z)
        · exact ⟨by omega, z.2⟩
        · subst z; exact ⟨by omega, g⟩
      · rintro ⟨z1, z2⟩
        by_cases ev : n = v
        · exact Or.inr ev
        · exact Or.inl ⟨by omega, z2⟩
/-- class's answer and reference's -/
theorem po_eq {T O : Nat} {N : Nat → Nat} {u q : Nat} {I K : hI} {J L : hJ} {x y : Int32} {mN : Nat} (h : REL T O N u q I J K L) (mb : ∀ v, mN.testBit v = true ↔ (v < N 3 ∧ ¬ K 126 v < K 145 0)) (cl : ((∃ s', 0 ≤ s' ∧ s' < N 2 ∧ lst T N s' (I, J) (k_fA T N s' I)) ∧ x = Int32.ofInt (-2)) ∨ ∃ r, r < 1024 ∧ x = Int32.ofNat (0 ||| r) ∧ (∀ v, r.testBit v = true → ∃ s', 0 ≤ s' ∧ s' < N 2 ∧ (k_fA T N s' I).testBit v = true) ∧ ∀ s', 0 ≤ s' → s' < N 2 → minS (lst T N s' (I, J)) (k_fA T N s' I) (r &&& k_fA T N s' I)) (rf : (y = Int32.ofInt (-2) ∧ ∀ r, r < 2 ^ N 3 → sbs r mN → ¬ poOK T N I J r) ∨ ∃ m, m < 2 ^ N 3 ∧ y = Int32.ofNat m ∧ sbs m mN ∧ poOK T N I J m ∧ ∀ r, r < 2 ^ N 3 → sbs r mN → poOK T N I J r → k_pc m < k_pc r ∨ (k_pc m = k_pc r ∧ m ≤ r)) : x = y := by
  obtain ⟨tt, _, _⟩ := rA_ctk h.1
  have h10 := tt.1.2.2
  have p10 : 2 ^ N 3 ≤ 1024 := Nat.pow_le_pow_right (n := 2) (by decide) h10
  have tr := h.1.2.2.2.2.2.1
  have tq := h.1.2.2.1
  have o := h.2.1.2.2.1.2
  have w : ∀ s r, s < N 2 → r < 1024 → (lst T N s (I, J) (r &&& k_fA T N s I) ↔ lst T N s (I, J) r) := fun s r hs hr => lst_W h hs hr (and_1024 hr) (fun v z => by rw [Nat.testBit_and, z, Bool.and_true])
  rcases cl with ⟨⟨s, _, s2, s3⟩, e⟩ | ⟨r, r1, e, r3, r4⟩
  · rcases rf with ⟨e2, _⟩ | ⟨m, m1, e2, m3, m4, m5⟩
    · rw [e, e2]
    · exact absurd (lst_R h s2 (show m < 1024 by omega) s3) (m4 s s2)
  · rw [Nat.zero_or] at e
    have okr : poOK T N I J r := fun s hs z => (r4 s (Nat.zero_le _) hs).2.1 ((w s r hs r1).mpr z)
    have sr : sbs r mN := fun v z => by
      obtain ⟨s, _, s2, s3⟩ := r3 v z
      rw [fA_bit h s2] at s3
      rw [mb]
      refine ⟨s3.1, ?_⟩
      rw [← (tr.2.2.2.2.1 v s3.1).2.1, ← h.2.1.1.1]
      obtain ⟨_, q2, _⟩ := tq.2.2.2.2.1 v s3.1
      have z := am_ltN (x := nn (I (T + 15) v)) (y := nn (I 63 0)) (by have := q2.2; omega) (by have := o.2; omega)
      rw [← q2.1, ← o.1] at z
      rw [z]; omega
    have lr : r < 2 ^ N 3 := by
      refine Classical.byContradiction (fun z => ?_)
      have hr0 : r ≠ 0 := fun z2 => by subst z2; exact z (Nat.pow_pos (by decide))
      have t1 := Nat.testBit_log2 hr0
      have t2 := ((mb _).mp (sr _ t1)).1
      have t3 := Nat.lt_log2_self (n := r)
      have t4 := Nat.pow_le_pow_right (n := 2) (by decide) (show r.log2 + 1 ≤ N 3 by omega)
      omega
    rcases rf with ⟨_, e2⟩ | ⟨m, m1, e2, m3, m4, m5⟩
    · exact absurd okr (e2 r lr sr)
    · have hm : m < 1024 := by omega
      have a := m5 r lr sr okr
      have b := poW_min h r1 hm (fun s hs => r4 s (Nat.zero_le _) hs) (fun s hs z => m4 s hs ((w s m hs hm).mp z)) (N 2) (Nat.le_refl _)
      have er : r &&& poW T N I (N 2) = r := sbs_and.mp (fun v z => by
        obtain ⟨s, _, s2, s3⟩ := r3 v z
        exact (poW_bit _).mpr ⟨s, s2, s3⟩)
      have sm : sbs (m &&& poW T N I (N 2)) m := fun v z => by rw [Nat.testBit_and, Bool.and_eq_true] at z; exact z.1
      have lm := pc_le (and_1024 hm) hm sm
      rw [er] at b
      have eq : r = m := by
        by_cases g : k_pc (m &&& poW T N I (N 2)) = k_pc m
        · have em := pc_eq (and_1024 hm) hm sm g
          rw [em] at b
          omega
        · omega
      rw [e, e2, eq]
theorem op_putOff : OPok 136 259 [] := by
  rintro I J R ⟨T, O, N, u, q, h, r0, r2⟩
  obtain ⟨hT, _⟩ := rA_hT h.1
  obtain ⟨t, _, _⟩ := rA_ctk h.1
  have hz : m_z I 110 2 = Int32.ofNat 0 := by unfold m_z; exact am_u_at
  have h0 : REL T O N u q I J (m_z I) J := REL_t h (fun _ _ _ => rfl) tM_z rfl rfl rfl rfl
  have fin : ∀ (B : hI) (JB : hJ) (R1 : hR) (x : Int32), poI I J (B, JB) → ct 20 136 [.ref 0] I J R (some (.int x)) B JB R1 → R1 0 3 = T → R1 2 2 = O → (((∃ s', 0 ≤ s' ∧ s' < N 2 ∧ lst T N s' (I, J) (k_fA T N s' I)) ∧ x = Int32.ofInt (-2)) ∨ ∃ r, r < 1024 ∧ x = Int32.ofNat (0 ||| r) ∧ (∀ v, r.testBit v = true → ∃ s', 0 ≤ s' ∧ s' < N 2 ∧ (k_fA T N s' I).testBit v = true) ∧ ∀ s', 0 ≤ s' → s' < N 2 → minS (lst T N s' (I, J)) (k_fA T N s' I) (r &&& k_fA T N s' I)) → ∃ v I1 J1 R1 I2 J2, ct 20 136 [.ref 0] I J R (some v) I1 J1 R1 ∧ ct 20 259 [.ref 110] I1 J1 R1 (some v) I2 J2 R1 ∧ INV I2 J2 R1 := by
    intro B JB R1 x hp cls s0 s2 hx
    have hk : REL T O N u q I J B JB := REL_cc h (fun _ _ _ => rfl) (fun a i g => hp.2.2 a i g) rfl rfl (hp.2.1 110 62 (by decide) (by decide) (by decide)) (hp.2.1 110 89 (by decide) (by decide) (by decide))
    have hk0 : REL T O N u q I J (m_z B) JB := REL_t hk (fun _ _ _ => rfl) tM_z rfl rfl rfl rfl
    have hzB : m_z B 110 2 = Int32.ofNat 0 := by unfold m_z; exact am_u_at
    obtain ⟨mN, m1, m2, m3⟩ := may_bit (K := m_z B) (N 3) t.1.2.2
    have p10 : 2 ^ N 3 ≤ 1024 := Nat.pow_le_pow_right (n := 2) (by decide) t.1.2.2
    have PR := po_ref (mN := mN) hk0 hzB (fun p r => poT_2) (by omega) (2 ^ N 3) p10
    have c := c_putOff (k := 20) (I := B) (J := JB) (R := R1) hk.1.2.2.2.2.1 (by omega)
    have em : m_po N B JB = m_poL N (Int32.ofNat mN) (2 ^ N 3) (Int32.ofInt (-2), m_z B, JB) := by unfold m_po; rw [m2]
    rw [em] at c
    revert PR c
    generalize m_poL N (Int32.ofNat mN) (2 ^ N 3) (Int32.ofInt (-2), m_z B, JB) = Q
    intro PR c
    obtain ⟨⟨a1, a2, a3, a4⟩, a5⟩ := PR
    have tq : tM B (am_u Q.2.1 110 72 (Int32.ofNat 0)) := tM_tr tM_z (tM_tr a3 (tM_u (by omega)))
    refine op_mk (T := T) (O := O) (N := N) (u := u) (q := q) cls c (by rw [po_eq hk0 m3 hx a5]) (kM_tM tq) ⟨a4 _ _ (by decide) (by decide), a4 _ _ (by decide) (by decide)⟩ ?_ s0 s2
    exact REL_x (REL_t a1 (fun _ _ _ => rfl) (tM_u (by omega)) rfl rfl rfl rfl) hp.1 (hp.2.1 63 1 (by decide) (by decide) (by decide)) (hp.2.1 70 1 (by decide) (by decide) (by decide))
  have pI0 : poI I J (I, J) := ⟨fun _ _ _ => rfl, fun _ _ _ _ _ => rfl, fun _ _ _ => rfl⟩
  cases hy : N 2 with
  | zero =>
    refine fin I J R (Int32.ofNat 0) pI0 (d_putOff0 hT r0 t hy (by omega)) r0 r2 (Or.inr ⟨0, by omega, rfl, fun v z => ?_, fun s _ z => by omega⟩)
    rw [Nat.zero_testBit] at z; exact absurd z (by decide)
  | succ y =>
    have cls := d_putOff (k := 20) (J := J) hT r0 t hy (by omega)
    obtain ⟨p1, p2⟩ := poL_ok h0 hz (y + 1) 0 0 (I, J) (by omega) pI0
    revert cls p1 p2
    generalize k_poL T N (y + 1) 0 (Int32.ofNat 0) (I, J) = Y
    intro cls p1 p2
    exact fin Y.2.1 Y.2.2 (am_u R 84 3 T) Y.1 p1 cls ((am_u_na (by decide)).trans r0) ((am_u_na (by decide)).trans r2) p2
