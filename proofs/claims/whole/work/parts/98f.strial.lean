/-! Class and reference: trials begun alike. -/
theorem k_db84 (I : hI) (T : Nat) (b : Int32) : k_db I T b 84 4 = b ∧ k_db I T b 84 5 = k_pst I T b ∧ k_db I T b 84 6 = Int32.ofNat 0 ∧ k_db I T b 84 8 = Int32.ofInt (-1) ∧ k_db I T b 84 9 = Int32.ofNat 1 ∧ k_db I T b 84 10 = Int32.ofNat 0 ∧ k_db I T b 84 11 = Int32.ofInt (-1) ∧ k_db I T b 84 12 = Int32.ofNat 0 := by
  refine ⟨?_, ?_, ?_, ?_, ?_, ?_, ?_, ?_⟩ <;> simp +decide [k_db, am_u]
theorem k_db_n {I : hI} {T : Nat} {b : Int32} : ∀ a, a ≠ 84 → k_db I T b a = I a := fun a h => by
  unfold k_db
  rw [am_u_ne h, am_u_ne h, am_u_ne h, am_u_ne h, am_u_ne h, am_u_ne h, am_u_ne h, am_u_ne h, am_u_ne h]
theorem m_pt110 (K : hI) : m_pt K 110 64 = Int32.ofNat 0 ∧ m_pt K 110 65 = Int32.ofNat 0 ∧ m_pt K 110 66 = Int32.ofNat 0 ∧ m_pt K 110 67 = Int32.ofNat 0 ∧ m_pt K 110 68 = Int32.ofNat 0 ∧ m_pt K 110 69 = Int32.ofInt (-1) ∧ m_pt K 110 70 = Int32.ofInt (-1) ∧ m_pt K 110 71 = Int32.ofNat 0 ∧ m_pt K 110 72 = Int32.ofNat 0 := by
  refine ⟨?_, ?_, ?_, ?_, ?_, ?_, ?_, ?_, ?_⟩ <;> simp +decide [m_pt, am_u]
theorem m_pt_n {K : hI} : ∀ a, a ≠ 110 → m_pt K a = K a := fun a h => by
  unfold m_pt
  rw [am_u_ne h, am_u_ne h, am_u_ne h, am_u_ne h, am_u_ne h, am_u_ne h, am_u_ne h, am_u_ne h, am_u_ne h, am_u_ne h]
theorem pst_eq {I K : hI} {T : Nat} {b : Int32} (e : I T 16 = K 114 0) (o : okn (I T 16) 101) (hb : b = Int32.ofNat 0 ∨ b = Int32.ofNat 1) : k_pst I T b = (if ¬ K 114 0 < Int32.ofNat 50 then Int32.ofNat 1 else Int32.ofNat 0) := by
  rw [← e]
  obtain ⟨o1, o2⟩ := o
  have l5 : I T 16 < Int32.ofNat 50 ↔ nn (I T 16) < 50 := by
    conv => lhs; rw [o1]
    exact am_ltN (by omega) (by omega)
  have l2 : Int32.ofNat 2 * I T 16 < Int32.ofNat 100 ↔ 2 * nn (I T 16) < 100 := by
    conv => lhs; rw [o1, ← Int32.ofNat_mul]
    exact am_ltN (by omega) (by omega)
  unfold k_pst
  rw [if_neg (by rcases hb with rfl | rfl <;> decide)]
  by_cases g : nn (I T 16) < 50
  · rw [if_neg (fun z => z.2 (l2.mpr (by omega))), if_neg (not_not_intro (l5.mpr g))]
  · rw [if_pos ⟨by rcases hb with rfl | rfl; exact Or.inl rfl; exact Or.inr rfl, fun z => g (by have := l2.mp z; omega)⟩, if_pos (fun z => g (l5.mp z))]
theorem am_sh0 (v : Nat) : (Int32.ofNat 0 >>> (Int32.ofNat v &&& 31)) &&& Int32.ofNat 1 = 0 := by
  have e : (Int32.ofNat 0 : Int32) = 0 := rfl
  rw [e, Int32.zero_shiftRight, Int32.zero_and]
theorem am_sh1 (v : Nat) : ¬ (Int32.ofNat 0 >>> (Int32.ofNat v &&& 31)) &&& Int32.ofNat 1 = Int32.ofNat 1 := by
  rw [am_sh0]; decide
theorem okn_n1 {x : Int32} {m : Nat} (h : okn x m) (hm : m ≤ 1000) : ¬ x = Int32.ofInt (-1) := by
  intro e
  have := h.1
  rw [e] at this
  have h2 := h.2
  rw [e] at h2
  exact absurd this (by decide)
/-- settings as they are without a call's own: as it goes, or by numbers -/
theorem cR_pl {x : Int32} {T : Nat} {N : Nat → Nat} {A K : hI} {b : Int32} (hb : b = Int32.ofNat 0 ∨ b = Int32.ofNat 1) (e : A T 16 = K 114 0) (o : okn (A T 16) 101) (hv : ∀ v, v < N 3 → okn (K 125 v) 5) (a4 : A 84 4 = b) (a5 : A 84 5 = k_pst A T b) (a6 : A 84 6 = Int32.ofNat 0) (a8 : A 84 8 = x) (a9 : A 84 9 = Int32.ofNat 1) (a10 : A 84 10 = Int32.ofNat 0) (a11 : A 84 11 = K 110 70) (a12 : A 84 12 = K 110 71) (k64 : K 110 64 = (if b = Int32.ofNat 0 then Int32.ofNat 1 else Int32.ofNat 0)) (k65 : K 110 65 = Int32.ofNat 0) (k66 : K 110 66 = Int32.ofNat 0) (k67 : K 110 67 = Int32.ofNat 0) (k68 : K 110 68 = Int32.ofNat 0) (k69 : K 110 69 = Int32.ofInt (-1)) (k72 : K 110 72 = Int32.ofNat 0) : cR x T N A K := by
  refine ⟨a8, ?_, a11, a12, ?_, fun v hv2 _ => ?_, ?_, ?_⟩
  · rw [a10, k68]
  · rw [a9, k67]
    exact ⟨fun z => absurd z (by decide), fun z => absurd rfl z⟩
  · rw [a6, k69, k72]
    exact ⟨fun _ => ⟨okn_n1 (hv v hv2) (by omega), am_sh1 v⟩, fun _ => am_sh0 v⟩
  · rw [a5, pst_eq e o hb, k66, k65]
    by_cases g : K 114 0 < Int32.ofNat 50
    · rw [if_neg (not_not_intro g), if_neg (fun z => z.elim (fun y => y rfl) (fun y => y.2 g))]
    · rw [if_pos g, if_pos (Or.inr ⟨rfl, g⟩)]
  · rw [a4, k64, k65, k66]
    rcases hb with rfl | rfl
    · rw [if_pos rfl]; exact Or.inl ⟨rfl, by decide, rfl, rfl⟩
    · rw [if_neg (by decide)]; exact Or.inr ⟨by decide, rfl⟩
theorem rA_hT {T O : Nat} {N : Nat → Nat} {I K : hI} (a : rA T O N I K) : (T = 9 ∨ T = 36) ∧ (O = 9 ∨ O = 36) := by
  rcases a.1 with ⟨h1, h2⟩ | ⟨h1, h2⟩ <;> omega
theorem rA_ctk {T O : Nat} {N : Nat → Nat} {I K : hI} (a : rA T O N I K) : ctk I T N ∧ I (T + 1) 1 = Int32.ofNat (N 0) ∧ N 0 ≤ 6 := by
  obtain ⟨a1, ⟨⟨z0, z1, z2, z3, z4⟩, y0, y1, y2, y3, y4, y5, y6⟩, ⟨q1, q2, q3, q4, q5, q6⟩, a4, a5, a6, a7, a8⟩ := a
  exact ⟨⟨⟨z1, z2, z3⟩, ⟨y1, y2, y3⟩, fun r hr => okn_mono (q1 r hr).1 z0, q2, fun v hv => okn_mono (q5 v hv).1 z2, ⟨y4, by omega⟩, ⟨y5, by omega⟩, ⟨y6, by omega⟩⟩, y0, z0⟩
theorem dR_of {x : Int32} {T O : Nat} {N : Nat → Nat} {I K I1 K1 : hI} (a : rA T O N I K) (h1 : ∀ a i, 9 ≤ a → a < 63 → I1 a i = I a i) (h2 : ∀ a i, 112 ≤ a → a ≤ 133 → K1 a i = K a i) (c : cR x T N I1 K1) : dR x T N I1 K1 := by
  obtain ⟨hT, _⟩ := rA_hT a
  obtain ⟨a1, a2, a3, a4, a5, a6, a7, a8⟩ := a
  have f : ∀ a i, T ≤ a → a ≤ T + 26 → I1 a i = I a i := fun a i u v => h1 a i (by omega) (by omega)
  exact ⟨tR_c f h2 a6, tqs_c f a3, LQ_c (fun a i u v => f a i (by omega) (by omega)) (fun a i u v => h2 a i (by omega) v) a7, c, a2.1.1, a2.1.2.1, a2.1.2.2.1, a2.1.2.2.2.1⟩
theorem sR_wt {S b : Nat} {x : Int32} {N : Nat → Nat} {I K : hI} (h : sR S b (Int32.ofInt (-1)) N I K) : sR S b x N I K := by
  obtain ⟨s1, s2, s3, s4⟩ := h
  exact ⟨s1, fun r hr => ⟨(s2 r hr).1, (s2 r hr).2.1, fun _ => (s2 r hr).2.2.1 (Or.inl rfl), (s2 r hr).2.2.2⟩, fun s hs _ => s3 s hs (Or.inl rfl), fun _ => s4 rfl⟩
/-- a state copied, on both sides -/
theorem k_copy_f (I : hI) : (∀ j, j = 0 ∨ j = 2 → k_copy I 77 63 77 j = I 63 j) ∧ (∀ r, r < 8 → k_copy I 77 63 78 r = I 64 r ∧ k_copy I 77 63 79 r = I 65 r ∧ k_copy I 77 63 80 r = I 66 r) ∧ (∀ s, s < 5 → k_copy I 77 63 81 s = I 67 s ∧ k_copy I 77 63 82 s = I 68 s ∧ k_copy I 77 63 83 s = I 69 s) := by
  refine ⟨fun j hj => ?_, fun r hr => ⟨?_, ?_, ?_⟩, fun s hs => ⟨?_, ?_, ?_⟩⟩
  · rcases hj with rfl | rfl <;> simp +decide [k_copy, am_cq, am_u]
  all_goals simp +decide [k_copy, am_cq, am_u, *]
theorem m_lt1_f (K : hI) : ∀ n, n ≤ 8 → (∀ r, r < n → m_lt1 n K 138 (8 + r) = K 138 r ∧ m_lt1 n K 139 (8 + r) = K 139 r ∧ m_lt1 n K 140 (8 + r) = K 140 r) ∧ (∀ a i, (i < 8 ∨ (a ≠ 138 ∧ a ≠ 139 ∧ a ≠ 140)) → m_lt1 n K a i = K a i) := by
  intro n
  induction n with
  | zero => intro _; exact ⟨fun r hr => absurd hr (Nat.not_lt_zero r), fun _ _ _ => rfl⟩
  | succ n ih =>
    intro hn
    obtain ⟨i1, i2⟩ := ih (by omega)
    have e : m_lt1 (n + 1) K = am_u (am_u (am_u (m_lt1 n K) 138 (8 + n) (m_lt1 n K 138 n)) 139 (8 + n) (am_u (m_lt1 n K) 138 (8 + n) (m_lt1 n K 138 n) 139 n)) 140 (8 + n) (am_u (am_u (m_lt1 n K) 138 (8 + n) (m_lt1 n K 138 n)) 139 (8 + n) (am_u (m_lt1 n K) 138 (8 + n) (m_lt1 n K 138 n) 139 n) 140 n) := rfl
    rw [e, am_u_na (show (139 : Nat) ≠ 138 by decide), am_u_na (show (140 : Nat) ≠ 139 by decide), am_u_na (show (140 : Nat) ≠ 138 by decide), i2 138 n (by omega), i2 139 n (by omega), i2 140 n (by omega)]
    refine ⟨fun r hr => ?_, fun a i h => ?_⟩
    · by_cases g : r = n
      · subst g
        refine ⟨?_, ?_, am_u_at⟩
        · rw [am_u_na (by decide), am_u_na (by decide), am_u_at]
        · rw [am_u_na (by decide), am_u_at]
      · have g2 : 8 + r ≠ 8 + n := by omega
        rw [am_u_nk g2, am_u_nk g2, am_u_nk g2, am_u_nk g2, am_u_nk g2, am_u_nk g2, am_u_nk g2, am_u_nk g2, am_u_nk g2]
        exact i1 r (by omega)
    · rcases h with h | h
      · have g2 : i ≠ 8 + n := by omega
        rw [am_u_nk g2, am_u_nk g2, am_u_nk g2]; exact i2 a i (Or.inl h)
      · rw [am_u_na h.2.2, am_u_na h.2.1, am_u_na h.1]; exact i2 a i (Or.inr h)
theorem m_lt2_f (K : hI) : ∀ n, n ≤ 5 → (∀ r, r < n → m_lt2 n K 141 (5 + r) = K 141 r ∧ m_lt2 n K 142 (5 + r) = K 142 r ∧ m_lt2 n K 143 (5 + r) = K 143 r) ∧ (∀ a i, (i < 5 ∨ (a ≠ 141 ∧ a ≠ 142 ∧ a ≠ 143)) → m_lt2 n K a i = K a i) := by
  intro n
  induction n with
  | zero => intro _; exact ⟨fun r hr => absurd hr (Nat.not_lt_zero r), fun _ _ _ => rfl⟩
  | succ n ih =>
    intro hn
    obtain ⟨i1, i2⟩ := ih (by omega)
    have e : m_lt2 (n + 1) K = am_u (am_u (am_u (m_lt2 n K) 141 (5 + n) (m_lt2 n K 141 n)) 142 (5 + n) (am_u (m_lt2 n K) 141 (5 + n) (m_lt2 n K 141 n) 142 n)) 143 (5 + n) (am_u (am_u (m_lt2 n K) 141 (5 + n) (m_lt2 n K 141 n)) 142 (5 + n) (am_u (m_lt2 n K) 141 (5 + n) (m_lt2 n K 141 n) 142 n) 143 n) := rfl
    rw [e, am_u_na (show (142 : Nat) ≠ 141 by decide), am_u_na (show (143 : Nat) ≠ 142 by decide), am_u_na (show (143 : Nat) ≠ 141 by decide), i2 141 n (by omega), i2 142 n (by omega), i2 143 n (by omega)]
    refine ⟨fun r hr => ?_, fun a i h => ?_⟩
    · by_cases g : r = n
      · subst g
        refine ⟨?_, ?_, am_u_at⟩
        · rw [am_u_na (by decide), am_u_na (by decide), am_u_at]
        · rw [am_u_na (by decide), am_u_at]
      · have g2 : 5 + r ≠ 5 + n := by omega
        rw [am_u_nk g2, am_u_nk g2, am_u_nk g2, am_u_nk g2, am_u_nk g2, am_u_nk g2, am_u_nk g2, am_u_nk g2, am_u_nk g2]
        exact i1 r (by omega)
    · rcases h with h | h
      · have g2 : i ≠ 5 + n := by omega
        rw [am_u_nk g2, am_u_nk g2, am_u_nk g2]; exact i2 a i (Or.inl h)
      · rw [am_u_na h.2.2, am_u_na h.2.1, am_u_na h.1]; exact i2 a i (Or.inr h)
theorem m_lt_f (K : hI) : (∀ r, r < 8 → m_lt K 138 (8 + r) = K 138 r ∧ m_lt K 139 (8 + r) = K 139 r ∧ m_lt K 140 (8 + r) = K 140 r) ∧ (∀ s, s < 5 → m_lt K 141 (5 + s) = K 141 s ∧ m_lt K 142 (5 + s) = K 142 s ∧ m_lt K 143 (5 + s) = K 143 s) ∧ m_lt K 144 1 = K 144 0 ∧ m_lt K 145 1 = K 145 0 ∧ (∀ a i, a ≠ 110 → (a < 138 ∨ 145 < a ∨ (a ≤ 140 ∧ i < 8) ∨ (141 ≤ a ∧ a ≤ 143 ∧ i < 5) ∨ (144 ≤ a ∧ i = 0)) → m_lt K a i = K a i) := by
  obtain ⟨p1, p2⟩ := m_lt1_f K 8 (by omega)
  obtain ⟨q1, q2⟩ := m_lt2_f (m_lt1 8 K) 5 (by omega)
  have e : ∀ a, a ≠ 110 → m_lt K a = m_lt3 (m_lt2 5 (m_lt1 8 K)) a := fun a h => m_pt_n a h
  have e3 : ∀ a, a ≠ 144 → a ≠ 145 → m_lt3 (m_lt2 5 (m_lt1 8 K)) a = m_lt2 5 (m_lt1 8 K) a := fun a h g => (am_u_ne g).trans (am_u_ne h)
  refine ⟨fun r hr => ?_, fun s hs => ?_, ?_, ?_, fun a i h g => ?_⟩
  · rw [e 138 (by decide), e 139 (by decide), e 140 (by decide), e3 138 (by decide) (by decide), e3 139 (by decide) (by decide), e3 140 (by decide) (by decide), q2 138 _ (by omega), q2 139 _ (by omega), q2 140 _ (by omega)]; exact p1 r hr
  · rw [e 141 (by decide), e 142 (by decide), e 143 (by decide), e3 141 (by decide) (by decide), e3 142 (by decide) (by decide), e3 143 (by decide) (by decide)]
    obtain ⟨u1, u2, u3⟩ := q1 s hs
    exact ⟨u1.trans (p2 _ _ (by omega)), u2.trans (p2 _ _ (by omega)), u3.trans (p2 _ _ (by omega))⟩
  · rw [e 144 (by decide)]
    refine (am_u_na (by decide)).trans (am_u_at.trans ?_)
    exact (q2 144 0 (by omega)).trans (p2 144 0 (by omega))
  · rw [e 145 (by decide)]
    exact am_u_at.trans ((q2 145 0 (by omega)).trans (p2 145 0 (by omega)))
  · rw [e a h]
    have f : m_lt2 5 (m_lt1 8 K) a i = K a i := (q2 a i (by omega)).trans (p2 a i (by omega))
    refine Eq.trans ?_ f
    unfold m_lt3
    by_cases c5 : a = 145
    · subst c5
      have : i ≠ 1 := by omega
      rw [am_u_nk this, am_u_nk this]
    · rw [am_u_na c5]
      by_cases c4 : a = 144
      · subst c4
        have : i ≠ 1 := by omega
        rw [am_u_nk this]
      · rw [am_u_na c4]
theorem sim_trial {x b : Int32} {T O : Nat} {N : Nat → Nat} {I K : hI} {J L : hJ} {y : Int64} (hb : b = Int32.ofNat 0 ∨ b = Int32.ofNat 1) (a : rA T O N I K) (s : sR 63 0 (Int32.ofInt (-1)) N I K) {K1 : hI} (hK : ∀ a i, ¬ (a = 110 ∧ i = 64) → K1 a i = m_lt (m_z K) a i) (h64 : K1 110 64 = (if b = Int32.ofNat 0 then Int32.ofNat 1 else Int32.ofNat 0)) (j : J 77 1 = L 110 62) : sim x T 77 1 N (k_stt I T x b, J) (K1, L) := by
  obtain ⟨hT, _⟩ := rA_hT a
  have fz : ∀ a i, (a ≠ 110 ∨ i ≠ 2) → m_z K a i = K a i := fun a i h => by
    rcases h with h | h
    · exact am_u_na h
    · exact am_u_nk h
  obtain ⟨l1, l2, l3, l4, l5⟩ := m_lt_f (m_z K)
  obtain ⟨c1, c2, c3⟩ := k_copy_f I
  have g0 : ∀ a, a ≠ 84 → k_stt I T x b a = k_copy I 77 63 a := fun a h => (am_u_ne h).trans (k_db_n a h)
  have gT : ∀ a i, 9 ≤ a → a < 63 → k_stt I T x b a i = I a i := fun a i u v => cF_stt a i u v
  have kT : ∀ a i, 112 ≤ a → a ≤ 133 → K1 a i = K a i := fun a i u v => (hK a i (by omega)).trans ((l5 a i (by omega) (by omega)).trans (fz a i (by omega)))
  obtain ⟨t4, t5, t6, t8, t9, t10, t11, t12⟩ := k_db84 (k_copy I 77 63) T b
  obtain ⟨u4, u5, u6, u7, u8, u9, u10, u11, u12⟩ := m_pt110 (m_lt3 (m_lt2 5 (m_lt1 8 (m_z K))))
  have g84 : ∀ j, j ≠ 8 → k_stt I T x b 84 j = k_db (k_copy I 77 63) T b 84 j := fun j h => am_u_nk h
  have ck : cR x T N (k_stt I T x b) K1 := by
    refine cR_pl hb ?_ ?_ ?_ ((g84 4 (by decide)).trans t4) ?_ ((g84 6 (by decide)).trans t6) am_u_at ((g84 9 (by decide)).trans t9) ((g84 10 (by decide)).trans t10) ?_ ?_ h64 ((hK 110 65 (by omega)).trans u5) ((hK 110 66 (by omega)).trans u6) ((hK 110 67 (by omega)).trans u7) ((hK 110 68 (by omega)).trans u8) ((hK 110 69 (by omega)).trans u9) ((hK 110 72 (by omega)).trans u12)
    · rw [gT T 16 (by omega) (by omega), kT 114 0 (by omega) (by omega)]; exact a.2.2.2.2.2.1.2.2.2.2.2.1
    · rw [gT T 16 (by omega) (by omega)]; exact a.2.2.1.2.2.2.2.2
    · intro v hv
      rw [kT 125 v (by omega) (by omega), ← (a.2.2.2.2.2.1.2.2.2.2.1 v hv).1]
      exact okn_mono (a.2.2.1.2.2.2.2.1 v hv).1 a.2.1.1.2.2.1
    · rw [g84 5 (by decide), t5]
      unfold k_pst
      rw [gT T 16 (by omega) (by omega), cF_copy (Or.inr (Or.inr rfl)) T 16 (by omega) (by omega)]
    · rw [g84 11 (by decide), t11, hK 110 70 (by omega)]; exact u10.symm
    · rw [g84 12 (by decide), t12, hK 110 71 (by omega)]; exact u11.symm
  refine ⟨dR_of a gT kT ck, ?_, fun _ => j⟩
  refine sR_wt ?_
  obtain ⟨s1, s2, s3, s4⟩ := s
  refine ⟨?_, fun r hr => ?_, fun q hq w => ?_, fun _ => ?_⟩
  · show k_stt I T x b 77 0 = K1 145 1
    rw [g0 77 (by decide), c1 0 (Or.inl rfl), hK 145 1 (by omega), l4, fz 145 0 (by omega)]; exact s1
  · show (n0 N ∨ k_stt I T x b 80 r = K1 140 (8 * 1 + r)) ∧ (k_stt I T x b 80 r = Int32.ofInt (-1) ∨ okn (k_stt I T x b 80 r) 5) ∧ (wt (Int32.ofInt (-1)) (k_stt I T x b 80 r) → k_stt I T x b 78 r = K1 138 (8 * 1 + r) ∧ k_stt I T x b 79 r = K1 139 (8 * 1 + r)) ∧ (N 1 ≤ r → k_stt I T x b 78 r = 0)
    rw [g0 80 (by decide), g0 78 (by decide), g0 79 (by decide), (c2 r hr).1, (c2 r hr).2.1, (c2 r hr).2.2, hK 140 _ (by omega), hK 138 _ (by omega), hK 139 _ (by omega)]
    show (n0 N ∨ I 66 r = m_lt (m_z K) 140 (8 + r)) ∧ (I 66 r = Int32.ofInt (-1) ∨ okn (I 66 r) 5) ∧ (wt (Int32.ofInt (-1)) (I 66 r) → I 64 r = m_lt (m_z K) 138 (8 + r) ∧ I 65 r = m_lt (m_z K) 139 (8 + r)) ∧ (N 1 ≤ r → I 64 r = 0)
    rw [(l1 r hr).1, (l1 r hr).2.1, (l1 r hr).2.2, fz 140 r (by omega), fz 138 r (by omega), fz 139 r (by omega)]
    have := s2 r hr
    rw [show 8 * 0 + r = r by omega] at this
    exact this
  · show k_stt I T x b 81 q = K1 141 (5 * 1 + q) ∧ k_stt I T x b 82 q = K1 142 (5 * 1 + q) ∧ k_stt I T x b 83 q = K1 143 (5 * 1 + q)
    rw [g0 81 (by decide), g0 82 (by decide), g0 83 (by decide), (c3 q hq).1, (c3 q hq).2.1, (c3 q hq).2.2, hK 141 _ (by omega), hK 142 _ (by omega), hK 143 _ (by omega)]
    show I 67 q = m_lt (m_z K) 141 (5 + q) ∧ I 68 q = m_lt (m_z K) 142 (5 + q) ∧ I 69 q = m_lt (m_z K) 143 (5 + q)
    rw [(l2 q hq).1, (l2 q hq).2.1, (l2 q hq).2.2, fz 141 q (by omega), fz 142 q (by omega), fz 143 q (by omega)]
    have := s3 q hq w
    rw [show 5 * 0 + q = q by omega] at this
    exact this
  · show k_stt I T x b 77 2 = K1 144 1
    rw [g0 77 (by decide), c1 2 (Or.inr rfl), hK 144 1 (by omega), l3, fz 144 0 (by omega)]; exact s4 rfl
