/-! Calls alike (one): fault, named, maker, ship, count, weakest, rests, rest. -/
theorem REL_cc {T O : Nat} {N : Nat → Nat} {u q : Nat} {I I1 K K1 : hI} {J J1 L L1 : hJ} (h : REL T O N u q I J K L) (hI : ∀ a i, a < 110 → I1 a i = I a i) (hK : ∀ a i, 110 ≤ a → K1 a i = K a i) (j1 : J1 63 1 = J 63 1) (j2 : J1 70 1 = J 70 1) (l1 : L1 110 62 = L 110 62) (l2 : L1 110 89 = L 110 89) : REL T O N u q I1 J1 K1 L1 := by
  obtain ⟨a, b, cc, d, e, g, f⟩ := h
  exact ⟨rA_c (fun a i x y => hI a i (by omega)) (fun a i x => hK a i (by omega)) a, rB_c (fun a i x y => hI a i (by omega)) (fun a i x y => hK a i (by omega)) j1 l1 b, rC_c (fun a i x => hI a i (by omega)) (fun a i x => hK a i (by omega)) j2 l2 cc, rD_c (fun a i x y => hI a i (by omega)) (fun a i x => hK a i (by omega)) d, rE_c (fun a i x y => hI a i (by omega)) (fun a i x => hK a i (by omega)) e, rG_c (fun a i x => hI a i (by omega)) (fun a i x => hK a i (by omega)) g, rF_c a (fun a i x => hI a i (by omega)) (fun a i x => hK a i (by omega)) f⟩
/-- what holds at each call -/
def INV (I : hI) (J : hJ) (R : hR) : Prop := ∃ T O N u q, REL T O N u q I J I J ∧ R 0 3 = T ∧ R 2 2 = O
/-- a call: class and reference come to their ends with the same answer, and all holds again -/
def OPok (mk mr : Nat) (as : List Value) : Prop := ∀ I J R, INV I J R → ∃ v I1 J1 R1 I2 J2, ct 20 mk (.ref 0 :: as) I J R (some v) I1 J1 R1 ∧ ct 20 mr (.ref 110 :: as) I1 J1 R1 (some v) I2 J2 R1 ∧ INV I2 J2 R1
theorem op_mk {mk mr : Nat} {as : List Value} {I I1 I2 : hI} {J J1 J2 : hJ} {R R1 : hR} {T O : Nat} {N : Nat → Nat} {u q : Nat} {v v' : Value} (c : ct 20 mk (.ref 0 :: as) I J R (some v) I1 J1 R1) (m : ct 20 mr (.ref 110 :: as) I1 J1 R1 (some v') I2 J2 R1) (hv : v = v') (km : kM I1 I2) (jm : J2 63 1 = J1 63 1 ∧ J2 70 1 = J1 70 1) (h : REL T O N u q I1 J1 I2 J2) (s0 : R1 0 3 = T) (s2 : R1 2 2 = O) : ∃ v I1 J1 R1 I2 J2, ct 20 mk (.ref 0 :: as) I J R (some v) I1 J1 R1 ∧ ct 20 mr (.ref 110 :: as) I1 J1 R1 (some v) I2 J2 R1 ∧ INV I2 J2 R1 := by
  subst hv
  exact ⟨v, I1, J1, R1, I2, J2, c, m, T, O, N, u, q, REL_cc h (fun a i g => km a i g) (fun _ _ _ => rfl) jm.1 jm.2 rfl rfl, s0, s2⟩
/-- a call that changes nothing that stays: the class's heap as it was, the reference's but for its scratch -/
theorem op_same {mk mr : Nat} {as : List Value} {I K2 : hI} {J : hJ} {R : hR} {T O : Nat} {N : Nat → Nat} {u q : Nat} {v v' : Value} (h : REL T O N u q I J I J) (r0 : R 0 3 = T) (r2 : R 2 2 = O) (c : ct 20 mk (.ref 0 :: as) I J R (some v) I J R) (m : ct 20 mr (.ref 110 :: as) I J R (some v') K2 J R) (hv : v = v') (km : kM I K2) (tm : tM I K2) : ∃ v I1 J1 R1 I2 J2, ct 20 mk (.ref 0 :: as) I J R (some v) I1 J1 R1 ∧ ct 20 mr (.ref 110 :: as) I1 J1 R1 (some v) I2 J2 R1 ∧ INV I2 J2 R1 := op_mk c m hv km ⟨rfl, rfl⟩ (REL_t h (fun _ _ _ => rfl) tm rfl rfl rfl rfl) r0 r2
theorem kM_z {K : hI} : kM K (m_z K) := kM_u (by omega)
theorem m_z_n {K : hI} {a i : Nat} (h : a ≠ 110 ∨ i ≠ 2) : m_z K a i = K a i := by
  rcases h with h | h
  · exact am_u_na h
  · exact am_u_nk h
theorem rB_r {N : Nat → Nat} {I K : hI} {J L : hJ} (b : rB N I J K L) {r : Nat} (hr : r < 8) : I 64 r = K 138 r ∧ I 65 r = K 139 r ∧ (n0 N ∨ I 66 r = K 140 r) ∧ (I 66 r = Int32.ofInt (-1) ∨ okn (I 66 r) 5) := by
  obtain ⟨p1, p2, p3, p4⟩ := b.1.2.1 r hr
  have p5 := p3 (Or.inl rfl)
  rw [show 8 * 0 + r = r by omega] at p1 p5
  exact ⟨p5.1, p5.2, p1, p2⟩
theorem rB_s {N : Nat → Nat} {I K : hI} {J L : hJ} (b : rB N I J K L) {s : Nat} (hs : s < 5) : I 67 s = K 141 s ∧ I 68 s = K 142 s ∧ I 69 s = K 143 s := by
  have p := b.1.2.2.1 s hs (Or.inl rfl)
  rw [show 5 * 0 + s = s by omega] at p
  exact p
theorem op_fault (w : Int32) : OPok 111 194 [.int w] := by
  rintro I J R ⟨T, O, N, u, q, h, r0, r2⟩
  obtain ⟨g1, g2, g3, _⟩ := h.2.2.2.2.2.1
  refine op_same h r0 r2 (d_fault (by omega)) (c_fault (by omega)) ?_ kM_z tM_z
  rw [g2, g3]
theorem m_fnd_cg {f g : Nat → Int32} {x : Int32} : ∀ j r, (∀ i, r ≤ i → i < r + j → f i = g i) → m_fnd f x j r = m_fnd g x j r := by
  intro j
  induction j with
  | zero => intro r _; rfl
  | succ j ih =>
    intro r h
    rw [m_fnd_s, m_fnd_s, h r (Nat.le_refl _) (by omega), ih (r + 1) (fun i a b => h i (by omega) (by omega))]
theorem op_named (w x : Int32) : OPok 112 195 [.int w, .int x] := by
  rintro I J R ⟨T, O, N, u, q, h, r0, r2⟩
  obtain ⟨hT, _⟩ := rA_hT h.1
  obtain ⟨t, m0, l0⟩ := rA_ctk h.1
  have tr := h.1.2.2.2.2.2.1
  refine op_same h r0 r2 (d_named hT r0 t m0 l0 (by omega)) (c_named h.1.2.2.2.2.1 (by omega)) ?_ kM_z tM_z
  unfold k_named m_named
  rw [m_fnd_cg (f := I (T + 1 + 1)) (g := fun i => m_z I 115 (0 + i)) (N 0) 0 (fun i _ hi => by rw [m_z_n (by omega), Nat.zero_add]; exact (tr.1 i (by omega)).1), m_fnd_cg (f := I (T + 5 + 1)) (g := fun i => m_z I 118 (0 + i)) (N 1) 0 (fun i _ hi => by rw [m_z_n (by omega), Nat.zero_add]; exact (tr.2.1 i (by omega)).1), m_fnd_cg (f := I (T + 11 + 1)) (g := fun i => m_z I 123 (0 + i)) (N 2) 0 (fun i _ hi => by rw [m_z_n (by omega), Nat.zero_add]; exact (tr.2.2.2.1 i (by omega)).1)]
/-- a number that is one of n, or isn't -/
theorem am_oneN {x : Int32} {n : Nat} {y : Int32} (e : y = Int32.ofNat n) (hn : n ≤ 1000) (h : ¬ x < 0 ∧ x < y) : ∃ r, r < n ∧ x = Int32.ofNat r := by
  subst e
  have h1 : ¬ Int32.ofNat n < x := fun z => absurd (Int32.lt_trans h.2 z) Int32.lt_irrefl
  obtain ⟨e, f, g⟩ := am_btN (a := 0) (by omega) (by omega) h.1 h1
  refine ⟨nn x, ?_, e⟩
  have h2 := h.2
  rw [e] at h2
  exact (am_ltN (by omega) (by omega)).mp h2
theorem op_maker (x w : Int32) : OPok 115 239 [.int x, .int w] := by
  rintro I J R ⟨T, O, N, u, q, h, r0, r2⟩
  obtain ⟨hT, _⟩ := rA_hT h.1
  obtain ⟨t, m0, l0⟩ := rA_ctk h.1
  have tk := h.1.2.2.2.2.1
  have tr := h.1.2.2.2.2.2.1
  by_cases c : ¬ x < 0 ∧ x < I (T + 1) 1
  · obtain ⟨m, hm, rfl⟩ := am_oneN m0 (by omega) c
    refine op_same h r0 r2 (d_maker hT r0 t m0 l0 hm (by omega)) (c_maker tk hm (by omega)) ?_ kM_z tM_z
    unfold m_maker
    rw [(tr.1 m hm).2.1, (tr.1 m hm).2.2]
  · refine op_same h r0 r2 (d_maker_no hT r0 c (by omega)) (c_maker_no (by rw [tk.2.1.1, ← m0]; exact c) (by omega)) rfl kM_z tM_z
theorem am_sh8 : ∀ r, r < 11 → Int32.ofNat 1 <<< (Int32.ofNat r &&& 31) = Int32.ofNat (2 ^ r) := by decide
theorem sbits_eq {I K : hI} {n : Nat} {y : Int32} (h : ∀ r, r < 8 → I 66 r = K 140 r) : ∀ j, j ≤ 8 → k_within I 63 y j = m_sbits K j y := by
  intro j
  induction j with
  | zero => intro _; rfl
  | succ j ih =>
    intro hj
    show (if I 66 j = y then k_within I 63 y j ||| Int32.ofNat (2 ^ j) else k_within I 63 y j) = m_sbits K j y ||| (if K 140 j = y then Int32.ofNat 1 <<< (Int32.ofNat j &&& 31) else Int32.ofNat 0)
    rw [ih (by omega), h j (by omega), am_sh8 j (by omega)]
    split
    · rfl
    · exact (Int32.or_zero).symm
theorem sbits_tl {I : hI} {n : Nat} {y : Int32} (h : ∀ r, n ≤ r → r < 8 → ¬ I 66 r = y) : ∀ j, n + j ≤ 8 → k_within I 63 y (n + j) = k_within I 63 y n := by
  intro j
  induction j with
  | zero => intro _; rfl
  | succ j ih =>
    intro hj
    have e : k_within I 63 y (n + j + 1) = if I 66 (n + j) = y then k_within I 63 y (n + j) ||| Int32.ofNat (2 ^ (n + j)) else k_within I 63 y (n + j) := rfl
    rw [if_neg (h _ (by omega) (by omega))] at e
    exact e.trans (ih (by omega))
theorem op_ship (x w : Int32) : OPok 114 238 [.int x, .int w] := by
  rintro I J R ⟨T, O, N, u, q, h, r0, r2⟩
  obtain ⟨hT, _⟩ := rA_hT h.1
  obtain ⟨t, m0, l0⟩ := rA_ctk h.1
  have tk := h.1.2.2.2.2.1
  have tr := h.1.2.2.2.2.2.1
  have tq := h.1.2.2.1
  have b := h.2.1
  have n5 := t.1.2.1
  by_cases c : ¬ x < 0 ∧ x < I (T + 11) 1
  · obtain ⟨s, hs, rfl⟩ := am_oneN t.2.1.2.1 (by omega) c
    have bz : rB N I J (m_z I) J := rB_c (fun _ _ _ _ => rfl) (fun a i _ _ => m_z_n (by omega)) rfl rfl b
    by_cases c5 : w = Int32.ofNat 5
    · subst c5
      have e : k_mood I T 63 (Int32.ofNat s) (N 1) = m_mood (m_z I) 0 (N 1) (Int32.ofNat s) := by
        refine mood_eq hT (Or.inl rfl) t.1.1 (fun r hr => (bz.1.2.1 r hr).1.imp_left (fun z => z.1)) (fun r hr _ => (bz.1.2.1 r hr).2.2.1 (Or.inl rfl)) (fun r hr => ?_)
        obtain ⟨y1, y2, y3, y4⟩ := tq.1 r hr
        obtain ⟨e1, e2, e3, e4⟩ := tr.2.1 r hr
        have z1 : m_z I 119 r = I 119 r := m_z_n (by omega)
        have z2 : ∀ i, m_z I 116 i = I 116 i := fun i => m_z_n (by omega)
        have z3 : m_z I 120 r = I 120 r := m_z_n (by omega)
        rw [z1, z2, z3, ← e2]
        exact ⟨(tr.1 _ y1.2).2.1, e3, tq.2.1 _ (by have := y1.2; omega), y2.1⟩
      refine op_mk (d_ship5 hT r0 t hs (by omega)) (c_ship (tok_c (fun a i z => congrFun (k_mI_ne (by omega)) i) tk) hs (by omega)) ?_ kM_z ⟨rfl, rfl⟩ (REL_t (REL_cc h (fun _ _ _ => rfl) (fun a i g => congrFun (k_mI_ne (by omega)) i) rfl rfl rfl rfl) (fun a i g => congrFun (k_mI_ne (by omega)) i) tM_z rfl rfl rfl rfl) r0 r2
      have e2 : m_ship (m_z (k_mI I T 63 (Int32.ofNat s) (N 1))) (N 1) s (Int32.ofNat 5) = m_mood (m_z (k_mI I T 63 (Int32.ofNat s) (N 1))) 0 (N 1) (Int32.ofNat s) := by
        unfold m_ship; simp +decide only [ite_true, ite_false]
      rw [e2, e]
      have f : ∀ a, 110 < a → m_z (k_mI I T 63 (Int32.ofNat s) (N 1)) a = m_z I a := fun a ha => (am_u_ne (by omega)).trans ((k_mI_ne (by omega)).trans (am_u_ne (by omega)).symm)
      unfold m_mood m_md m_my
      rw [f 138 (by omega), f 140 (by omega), f 116 (by omega), f 119 (by omega), f 120 (by omega)]
    · refine op_same h r0 r2 (d_ship hT r0 t hs c5 (by omega)) (c_ship tk hs (by omega)) ?_ kM_z tM_z
      obtain ⟨v4, v5, v6⟩ := rB_s bz (show s < 5 by omega)
      have eb : k_bear I 63 (Int32.ofNat s) 8 = m_bear (m_z I) 0 (N 1) (Int32.ofNat s) := sR_bear t.1.1 bz.1 (Or.inl rfl)
      have ew : k_within I 63 (Int32.ofNat s) 8 = m_sbits (m_z I) (N 1) (Int32.ofNat s) := by
        rw [← sbits_eq (n := N 1) (fun r hr => (rB_r bz hr).2.2.1.resolve_left (fun z => by have := z.2; omega)) (N 1) t.1.1]
        have e := sbits_tl (I := I) (n := N 1) (y := Int32.ofNat s) (fun r h1 h2 => by rw [show I 66 r = Int32.ofInt (-1) from (b.2.2.2.resolve_left (fun z => by have := z.2; omega)) r h1 h2]; exact fun z => okn_n1 (okn_of (r := s) (m := 5) (by omega) (by omega)) (by omega) z.symm) (8 - N 1) (by have := t.1.1; omega)
        rwa [show N 1 + (8 - N 1) = 8 by have := t.1.1; omega] at e
      unfold k_ship m_ship
      rw [v4, v5, v6, eb, ew, if_neg c5, (tr.2.2.2.1 s hs).2, m_z_n (K := I) (a := 124) (by omega)]
  · refine op_same h r0 r2 (d_ship_no hT r0 c (by omega)) (c_ship_no (by rw [tk.2.1.2.2.1, ← t.2.1.2.1]; exact c) (by omega)) rfl kM_z tM_z
theorem ce_R {I K : hI} {v : Int32} (h : ∀ r, r < 8 → I 64 r = K 138 r) : ∀ n, n ≤ 8 → k_ce (I 64) v n = m_cR K 0 n v := by
  intro n
  induction n with
  | zero => intro _; rfl
  | succ n ih =>
    intro hn
    show (if I 64 n = v then k_ce (I 64) v n + Int32.ofInt 1 else k_ce (I 64) v n) = m_cR K 0 n v + (if K 138 (8 * 0 + n) = v then Int32.ofNat 1 else Int32.ofNat 0)
    rw [ih (by omega), h n (by omega), show 8 * 0 + n = n by omega]
    split
    · rfl
    · exact (am_a0 _).symm
theorem ce_S {I K : hI} {v : Int32} {A b : Nat} (h : ∀ r, r < 5 → I A r = K 141 (5 * b + r)) : ∀ n, n ≤ 5 → k_ce (I A) v n = m_cS K b n v := by
  intro n
  induction n with
  | zero => intro _; rfl
  | succ n ih =>
    intro hn
    show (if I A n = v then k_ce (I A) v n + Int32.ofInt 1 else k_ce (I A) v n) = m_cS K b n v + (if K 141 (5 * b + n) = v then Int32.ofNat 1 else Int32.ofNat 0)
    rw [ih (by omega), h n (by omega)]
    split
    · rfl
    · exact (am_a0 _).symm
theorem ce_Rb {I K : hI} {v : Int32} {A b : Nat} (h : ∀ r, r < 8 → I A r = K 138 (8 * b + r)) : ∀ n, n ≤ 8 → k_ce (I A) v n = m_cR K b n v := by
  intro n
  induction n with
  | zero => intro _; rfl
  | succ n ih =>
    intro hn
    show (if I A n = v then k_ce (I A) v n + Int32.ofInt 1 else k_ce (I A) v n) = m_cR K b n v + (if K 138 (8 * b + n) = v then Int32.ofNat 1 else Int32.ofNat 0)
    rw [ih (by omega), h n (by omega)]
    split
    · rfl
    · exact (am_a0 _).symm
theorem sm_H {I K : hI} {A b : Nat} (h : ∀ r, r < 5 → I A r = K 143 (5 * b + r)) : ∀ n, n ≤ 5 → k_sm (I A) n = m_hA K b n := by
  intro n
  induction n with
  | zero => intro _; rfl
  | succ n ih =>
    intro hn
    show k_sm (I A) n + I A n = m_hA K b n + K 143 (5 * b + n)
    rw [ih (by omega), h n (by omega)]
theorem sm_S {I K : hI} (h : ∀ r, r < 8 → I 65 r = K 139 r) : ∀ n, n ≤ 8 → k_sm (I 65) n = m_c13 K n := by
  intro n
  induction n with
  | zero => intro _; rfl
  | succ n ih =>
    intro hn
    show k_sm (I 65) n + I 65 n = m_c13 K n + K 139 n
    rw [ih (by omega), h n (by omega)]
theorem kn_eq {q : Nat} {I K : hI} (e : rE q I K) : k_kn I = (if K 110 80 < 0 then K 110 79 else K 110 80) := by
  obtain ⟨e1, e2, e3, e4, e5, _⟩ := e
  unfold k_kn
  rw [← e4, e3, ← e2]
  rcases e5 with h | h
  · rw [if_pos h, if_pos (by rw [h]; decide)]
  · rw [if_neg (okn_n1 h (by omega)), if_neg (fun z => by rw [h.1] at z; exact absurd ((am_ltN (y := 0) (by have := h.2; omega) (by omega)).mp z) (Nat.not_lt_zero _))]
theorem op_count (w : Int32) : OPok 158 285 [.int w] := by
  rintro I J R ⟨T, O, N, u, q, h, r0, r2⟩
  obtain ⟨hT, _⟩ := rA_hT h.1
  obtain ⟨t, m0, l0⟩ := rA_ctk h.1
  have tk := h.1.2.2.2.2.1
  have n16 := h.1.2.2.2.2.2.2.2.1
  have b := h.2.1
  have d := h.2.2.2.1
  have e := h.2.2.2.2.1
  have kn := kn_eq e
  refine op_same h r0 r2 (d_count hT r0 t (by omega)) (c_count tk (by omega)) ?_ kM_z tM_z
  have z : ∀ a i, (a ≠ 110 ∨ i ≠ 2) → m_z I a i = I a i := fun a i g => m_z_n g
  have e6 : ∀ v, k_ce (I 64) v (N 1) = m_cR (m_z I) 0 (N 1) v := fun v => ce_R (fun r hr => by rw [z 138 _ (by omega)]; exact (rB_r b hr).1) (N 1) t.1.1
  have e9 : ∀ v, k_ce (I 67) v (N 2) = m_cS (m_z I) 0 (N 2) v := fun v => ce_S (fun r hr => by rw [z 141 _ (by omega), show 5 * 0 + r = r by omega]; exact (rB_s b hr).1) (N 2) t.1.2.1
  have e11 : k_sm (I 69) (N 2) = m_hA (m_z I) 0 (N 2) := sm_H (fun r hr => by rw [z 143 _ (by omega), show 5 * 0 + r = r by omega]; exact (rB_s b hr).2.2) (N 2) t.1.2.1
  have e13 : k_sm (I 65) (N 1) = m_c13 (m_z I) (N 1) := sm_S (fun r hr => by rw [z 139 _ (by omega)]; exact (rB_r b hr).2.1) (N 1) t.1.1
  have y0 : I (T + 1) 1 = I 110 12 := m0.trans tk.2.1.1.symm
  have y1 : I (T + 5) 1 = I 110 13 := t.2.1.1.trans tk.2.1.2.1.symm
  have y2 : I (T + 11) 1 = I 110 14 := t.2.1.2.1.trans tk.2.1.2.2.1.symm
  have y3 : I T 11 = I 110 15 := t.2.1.2.2.trans tk.2.1.2.2.2.symm
  have y5 : I 63 0 = I 145 0 := b.1.1
  have y12 : I 63 2 = I 144 0 := b.1.2.2.2 rfl
  have y14 : I 88 0 = I 110 79 := e.2.1.trans e.2.2.1.symm
  have y16 : I 96 0 = I 110 84 := d.2.1.trans d.2.2.1.symm
  unfold k_cnt k_cst m_count
  rw [z 110 12 (by omega), z 110 13 (by omega), z 110 14 (by omega), z 110 15 (by omega), z 110 16 (by omega), z 145 0 (by omega), z 144 0 (by omega), z 110 79 (by omega), z 110 80 (by omega), z 110 84 (by omega), ← y0, ← y1, ← y2, ← y3, n16, ← y5, ← y12, ← y16, e6, e6, e6, e9, e9, e11, e13, kn, ← y14]
  congr 1
  by_cases c0 : w = Int32.ofNat 0
  · subst c0; simp +decide only [ite_true, ite_false]
  by_cases c1 : w = Int32.ofNat 1
  · subst c1; simp +decide only [ite_true, ite_false]
  by_cases c2 : w = Int32.ofNat 2
  · subst c2; simp +decide only [ite_true, ite_false]
  by_cases c3 : w = Int32.ofNat 3
  · subst c3; simp +decide only [ite_true, ite_false]
  by_cases c4 : w = Int32.ofNat 4
  · subst c4; simp +decide only [ite_true, ite_false]
  by_cases c5 : w = Int32.ofNat 5
  · subst c5; simp +decide only [ite_true, ite_false]
  by_cases c6 : w = Int32.ofNat 6
  · subst c6; simp +decide only [ite_true, ite_false]
  by_cases c7 : w = Int32.ofNat 7
  · subst c7; simp +decide only [ite_true, ite_false]
  by_cases c8 : w = Int32.ofNat 8
  · subst c8; simp +decide only [ite_true, ite_false]
  by_cases c9 : w = Int32.ofNat 9
  · subst c9; simp +decide only [ite_true, ite_false]
  by_cases c10 : w = Int32.ofNat 10
  · subst c10; simp +decide only [ite_true, ite_false]
  by_cases c11 : w = Int32.ofNat 11
  · subst c11; simp +decide only [ite_true, ite_false]
  by_cases c12 : w = Int32.ofNat 12
  · subst c12; simp +decide only [ite_true, ite_false]
  by_cases c13 : w = Int32.ofNat 13
  · subst c13; simp +decide only [ite_true, ite_false]
  by_cases c14 : w = Int32.ofNat 14
  · subst c14; simp +decide only [ite_true, ite_false]
  by_cases c15 : w = Int32.ofNat 15
  · subst c15; simp +decide only [ite_true, ite_false]
  by_cases c16 : w = Int32.ofNat 16
  · subst c16; simp +decide only [ite_true, ite_false]
  simp only [c0, c1, c2, c3, c4, c5, c6, c7, c8, c9, c10, c11, c12, c13, c14, c15, c16, ite_false]
theorem k_wkk_z {I : hI} {y : Int32} : k_wkk I y 0 = Int32.ofInt (-2) := rfl
theorem m_wk_z {I : hI} {y : Int32} : m_wk I y 0 = Int32.ofInt (-2) := rfl
theorem wk_eq {I K : hI} {y : Int32} (h : ∀ r, r < 8 → I 64 r = K 138 r ∧ I 65 r = K 139 r ∧ I 66 r = K 140 r) : ∀ n, n ≤ 8 → k_wkk I y n = m_wk K y n := by
  intro n
  induction n with
  | zero => intro _; exact k_wkk_z.trans m_wk_z.symm
  | succ n ih =>
    intro hn
    have ok := k_wkk_ok I y n (by omega)
    have ih1 := ih (by omega)
    obtain ⟨h1, h2, h3⟩ := h n (by omega)
    have e0 : 8 * 0 + n = n := by omega
    have hP : k_wkP I y n (k_wkk I y n) ↔ ((K 138 (8 * 0 + n) = Int32.ofNat 1 ∧ K 140 (8 * 0 + n) = y) ∧ (k_wkk I y n < 0 ∨ K 139 n < K 139 (nn (k_wkk I y n)))) := by
      rw [e0, ← h1, ← h2, ← h3]
      rcases ok with o | o
      · exact ⟨fun z => ⟨⟨z.1.2, z.1.1⟩, Or.inl o⟩, fun z => ⟨⟨z.1.2, z.1.1⟩, Or.inl o⟩⟩
      · rw [← (h _ o.2).2.1]
        exact ⟨fun z => ⟨⟨z.1.2, z.1.1⟩, z.2⟩, fun z => ⟨⟨z.1.2, z.1.1⟩, z.2⟩⟩
    have e := m_wk_s K y n
    rw [ih1] at hP
    by_cases c : k_wkP I y n (k_wkk I y n)
    · rw [k_wkk_1 c, e]
      rw [ih1] at c
      exact (if_pos (hP.mp c)).symm
    · rw [k_wkk_0 c, e, ih1]
      rw [ih1] at c
      exact (if_neg (fun z => c (hP.mpr z))).symm
theorem op_weakest (x : Int32) : OPok 127 249 [.int x] := by
  rintro I J R ⟨T, O, N, u, q, h, r0, r2⟩
  obtain ⟨hT, _⟩ := rA_hT h.1
  obtain ⟨t, m0, l0⟩ := rA_ctk h.1
  have tk := h.1.2.2.2.2.1
  have b := h.2.1
  have n5 := t.1.2.1
  by_cases c : ¬ x < 0 ∧ x < I (T + 11) 1
  · obtain ⟨s, hs, rfl⟩ := am_oneN t.2.1.2.1 (by omega) c
    refine op_same h r0 r2 (d_weakest hT r0 t hs (by omega)) (c_weakest tk hs (by omega)) ?_ kM_z tM_z
    rw [wk_eq (K := m_z I) (fun r hr => ⟨(rB_r b hr).1.trans (m_z_n (by omega)).symm, (rB_r b hr).2.1.trans (m_z_n (by omega)).symm, ((rB_r b hr).2.2.1.resolve_left (fun z => by have := z.2; omega)).trans (m_z_n (by omega)).symm⟩) (N 1) t.1.1]
  · exact op_same h r0 r2 (d_weakest_no hT r0 c (by omega)) (c_weakest_no (by rw [tk.2.1.2.2.1, ← t.2.1.2.1]; exact c) (by omega)) rfl kM_z tM_z
theorem hg_eq {T a c : Nat} {N : Nat → Nat} {I K : hI} {x y : Int32} (t : tR T N I K) (ha : a < N 0) (hc : c < N 0) : k_hg I T a c x y = m_hb K a c x y := by
  obtain ⟨_, a1, a2⟩ := t.1 a ha
  obtain ⟨_, c1, c2⟩ := t.1 c hc
  unfold m_hb
  rw [← a1, ← c1, ← a2, ← c2]
  by_cases hx : x = 0
  · rw [if_pos hx]
    by_cases hy : y = 0
    · rw [if_pos hy, k_hg1 hx hy]
      congr 1
      by_cases g : I (T + 3) a - I (T + 3) c < 0
      · rw [if_pos g, if_neg (fun z => absurd g (Int32.not_lt.mpr z))]; exact Int32.zero_sub _
      · rw [if_neg g, if_pos (Int32.not_lt.mp g)]
    · rw [if_neg hy, k_hg2 hx hy]
  · rw [if_neg hx]
    by_cases hy : y = 0
    · rw [if_pos hy, k_hg3 hx hy]
    · rw [if_neg hy, k_hg4 hx hy]
theorem rs_P {T a c : Nat} {N : Nat → Nat} {I K : hI} (t : tR T N I K) (ha : a < N 0) (hc : c < N 0) {g : Nat} (hg : g < 4) : k_rsP I T a c g ↔ ¬ m_raP K a c g := by
  have e1 : ∀ g, g < 4 → (Int32.ofNat g >>> (Int32.ofNat 1 &&& 31)) = Int32.ofNat (g / 2) := by decide
  have e2 : ∀ g, g < 4 → (Int32.ofNat g &&& Int32.ofNat 1) = Int32.ofNat (g % 2) := by decide
  have e3 : ∀ g, g < 4 → Int32.ofNat 1 - Int32.ofNat (g / 2) = Int32.ofNat (1 - g / 2) := by decide
  have e4 : ∀ g, g < 4 → Int32.ofNat 1 - Int32.ofNat (g % 2) = Int32.ofNat (1 - g % 2) := by decide
  show (¬ _ ∧ ¬ _) ↔ ¬ (_ ∨ _)
  rw [e1 g hg, e2 g hg, e3 g hg, e4 g hg, hg_eq t ha hc, hg_eq t ha hc, hg_eq t hc ha, hg_eq t hc ha]
  exact not_or.symm
theorem rs_eq {T a c : Nat} {N : Nat → Nat} {I K : hI} (t : tR T N I K) (ha : a < N 0) (hc : c < N 0) : ∀ j g, g + j = 4 → k_rs I T a c g ≤ g → m_ra K a c (Int32.ofInt (-1)) j g (k_rs I T a c g) = Int32.ofNat (k_rs I T a c 4) := by
  intro j
  induction j with
  | zero => intro g e _; obtain rfl : g = 4 := by omega
            rfl
  | succ j ih =>
    intro g e hl
    rw [m_ra_s]
    by_cases p : k_rsP I T a c g
    · rw [if_neg ((rs_P t ha hc (by omega)).mp p), if_neg (fun z => okn_n1 (okn_of (r := k_rs I T a c g) (m := 5) (by omega) (by omega)) (by omega) z), ← k_rs_1 p]
      exact ih (g + 1) (by omega) (by rw [k_rs_1 p]; omega)
    · rw [if_pos (@Decidable.of_not_not _ (m_raD K a c g) (fun z => p ((rs_P t ha hc (by omega)).mpr z)))]
      have i1 := ih (g + 1) (by omega) (by rw [k_rs_0 p]; omega)
      rw [k_rs_0 p] at i1
      exact i1
theorem rst_eq {T a c : Nat} {N : Nat → Nat} {I K : hI} {w : Int32} (t : tR T N I K) (ha : a < N 0) (hc : c < N 0) (hw : ¬ w < 0) : ∀ j g n, g + j = 4 → k_rst I T a c w j g n = m_ra K a c w j g n := by
  intro j
  induction j with
  | zero => intro g n e; exact (if_neg hw).symm
  | succ j ih =>
    intro g n e
    rw [m_ra_s, k_rst_s]
    by_cases p : k_rsP I T a c g
    · rw [if_pos p, if_neg ((rs_P t ha hc (by omega)).mp p)]
      by_cases y : Int32.ofNat n = w
      · rw [if_pos y, if_pos y]
        have e1 : ∀ g, g < 4 → Int32.ofNat 10 * (Int32.ofNat g >>> (Int32.ofNat 1 &&& 31)) + (Int32.ofNat g &&& Int32.ofNat 1) = Int32.ofNat (10 * (g / 2) + g % 2) := by decide
        exact e1 g (by omega)
      · rw [if_neg y, if_neg y]; exact ih (g + 1) (n + 1) (by omega)
    · rw [if_neg p, if_pos (@Decidable.of_not_not _ (m_raD K a c g) (fun z => p ((rs_P t ha hc (by omega)).mpr z)))]
      exact ih (g + 1) n (by omega)
theorem op_rests (x y : Int32) : OPok 141 263 [.int x, .int y] := by
  rintro I J R ⟨T, O, N, u, q, h, r0, r2⟩
  obtain ⟨hT, _⟩ := rA_hT h.1
  obtain ⟨t, m0, l0⟩ := rA_ctk h.1
  have tk := h.1.2.2.2.2.1
  have tr : tR T N I (m_z I) := tR_c (fun _ _ _ _ => rfl) (fun a i _ _ => m_z_n (by omega)) h.1.2.2.2.2.2.1
  by_cases c : (¬ x < 0 ∧ x < I (T + 1) 1) ∧ (¬ y < 0 ∧ y < I (T + 1) 1) ∧ ¬ x = y
  · obtain ⟨a, ha, rfl⟩ := am_oneN m0 (by omega) c.1
    obtain ⟨d, hd, rfl⟩ := am_oneN m0 (by omega) c.2.1
    have had : a ≠ d := fun z => c.2.2 (by rw [z])
    refine op_same h r0 r2 (d_rests hT r0 t m0 l0 ha hd had (by omega)) (c_rests tk ha hd had (by omega)) ?_ kM_z tM_z
    have e := rs_eq tr ha hd 4 0 (by omega) (Nat.le_refl _)
    rw [← e]; rfl
  · exact op_same h r0 r2 (d_rests_no hT r0 c (by omega)) (c_rests_no (by rw [tk.2.1.1, ← m0]; exact c) (by omega)) rfl kM_z tM_z
theorem op_rest (x y w : Int32) : OPok 142 264 [.int x, .int y, .int w] := by
  rintro I J R ⟨T, O, N, u, q, h, r0, r2⟩
  obtain ⟨hT, _⟩ := rA_hT h.1
  obtain ⟨t, m0, l0⟩ := rA_ctk h.1
  have tk := h.1.2.2.2.2.1
  have tr : tR T N I (m_z I) := tR_c (fun _ _ _ _ => rfl) (fun a i _ _ => m_z_n (by omega)) h.1.2.2.2.2.2.1
  by_cases c : ((¬ x < 0 ∧ x < I (T + 1) 1) ∧ (¬ y < 0 ∧ y < I (T + 1) 1) ∧ ¬ x = y) ∧ ¬ w < 0
  · obtain ⟨a, ha, rfl⟩ := am_oneN m0 (by omega) c.1.1
    obtain ⟨d, hd, rfl⟩ := am_oneN m0 (by omega) c.1.2.1
    have had : a ≠ d := fun z => c.1.2.2 (by rw [z])
    refine op_same h r0 r2 (d_rest hT r0 t m0 l0 ha hd had c.2 (by omega)) (c_rest tk ha hd had c.2 (by omega)) ?_ kM_z tM_z
    rw [rst_eq tr ha hd c.2 4 0 0 (by omega)]
  · exact op_same h r0 r2 (d_rest_no hT r0 c (by omega)) (c_rest_no (by rw [tk.2.1.1, ← m0]; exact c) (by omega)) rfl kM_z tM_z
