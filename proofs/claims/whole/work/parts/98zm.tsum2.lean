/-! Texts alike: a law's sum to its end. -/
/-- all that bind at least so are taken -/
theorem rel_eq {A f o c w : Nat} (hA : 8 < A) (w1 : 1 ≤ w) (w2 : w ≤ 6) : ∀ h n I K, LR A f I K h o c n 0 → ∃ h' n', k_rh (Int32.ofNat w) (I 8) h = h' ∧ m_biW (Int32.ofNat w) h K = h' ∧ h' ≤ h ∧ (h' = 0 ∨ I 8 (h' - 1) < Int32.ofNat w) ∧ LR A f (k_rel A (Int32.ofNat w) h I) (m_bi (Int32.ofNat w) h (sh (I (A + 1)) n) (f + n) K) h' o c n' 0 ∧ FR A f I (k_rel A (Int32.ofNat w) h I) K (m_bi (Int32.ofNat w) h (sh (I (A + 1)) n) (f + n) K) ∧ FT I (k_rel A (Int32.ofNat w) h I) K (m_bi (Int32.ofNat w) h (sh (I (A + 1)) n) (f + n) K) ∧ (∀ i, k_rel A (Int32.ofNat w) h I 8 i = I 8 i) ∧ (∀ i, m_bi (Int32.ofNat w) h (sh (I (A + 1)) n) (f + n) K 134 i = K 134 i) := by
  intro h
  induction h with
  | zero => intro n I K r; exact ⟨0, n, rfl, rfl, Nat.le_refl _, Or.inl rfl, r, FR_rf, FT_rf, fun _ => rfl, fun _ => rfl⟩
  | succ h ih =>
    intro n I K r
    obtain ⟨x, x1, x2, x3, x4⟩ := r.2.1 h (by omega)
    have er : m_rk (K 134 h) = I 8 h := by rw [x3, x4]; exact rk_cod x x1
    have eb : m_biW (Int32.ofNat w) (h + 1) K = if m_rk (K 134 h) < Int32.ofNat w then h + 1 else m_biW (Int32.ofNat w) h K := rfl
    rw [k_rh_s, k_rel_s, m_bi_s, eb, er]
    by_cases g : I 8 h < Int32.ofNat w
    · rw [if_pos g, if_pos g, if_pos g, if_pos g]
      exact ⟨h + 1, n, rfl, rfl, Nat.le_refl _, Or.inr (by rw [Nat.add_sub_cancel]; exact g), r, FR_rf, FT_rf, fun _ => rfl, fun _ => rfl⟩
    · rw [if_neg g, if_neg g, if_neg g, if_neg g]
      have h41 : ¬ I 7 h = Int32.ofNat 41 := fun z => by
        rw [x2] at z
        have ez := (am_eqN (by have := hx_lt x1; omega) (by omega)).mp z
        rw [x4, ez] at g
        exact g ((am_ltN (x := 0) (by omega) (by omega)).mpr (by omega))
      obtain ⟨p1, p2, p3, p4⟩ := pop1 hA r h41
      have e8 : ∀ i, k_ad (am_u I 6 2 (Int32.ofNat h)) A (I 7 h) (Int32.ofNat 0) 8 i = I 8 i := fun i => (congrFun (k_ad_ne (by omega)) i).trans (am_u_na (by decide))
      have e134 : ∀ i, m_pop K h (sh (I (A + 1)) n) (f + n) 134 i = K 134 i := fun i => m_pop_f (by omega) (by omega) (by omega)
      rw [p4]
      revert p1 p2 p3 e8 e134
      generalize k_ad (am_u I 6 2 (Int32.ofNat h)) A (I 7 h) (Int32.ofNat 0) = I1
      generalize m_pop K h (sh (I (A + 1)) n) (f + n) = K1
      intro p1 p2 p3 e8 e134
      obtain ⟨h', n', i1, i2, i3, i4, i5, i6, i7, i8, i9⟩ := ih (n + 1) I1 K1 p1
      have f8 : I1 8 = I 8 := funext e8
      have bw : m_biW (Int32.ofNat w) h K = m_biW (Int32.ofNat w) h K1 := by
        clear i1 i2 i3 i4 i5 i6 i7 i8 i9 ih p1 p2 p3 r x1 x2 x3 x4 er eb g h41 p4
        induction h with
        | zero => rfl
        | succ h ih =>
          show (if m_rk (K 134 h) < Int32.ofNat w then h + 1 else m_biW (Int32.ofNat w) h K) = (if m_rk (K1 134 h) < Int32.ofNat w then h + 1 else m_biW (Int32.ofNat w) h K1)
          rw [e134, ih]
      rw [f8] at i1 i4
      rw [bw]
      exact ⟨h', n', i1, i2, by omega, i4, i5, FR_tr p2 i6, FT_tr p3 i7, fun i => (i8 i).trans (e8 i), fun i => (i9 i).trans (e134 i)⟩
theorem no_0 {g : Nat → Int32} : ∀ h, no g h = 0 → ∀ i, i < h → ¬ g i = Int32.ofNat 41 := by
  intro h
  induction h with
  | zero => intro _ i hi; exact absurd hi (Nat.not_lt_zero i)
  | succ h ih =>
    intro e i hi z
    rw [no_s] at e
    by_cases q : i = h
    · subst q; rw [if_pos z] at e; omega
    · exact ih (by omega) i (by omega) z
theorem u_bl_e {I : hI} {x : Int32} : u_bl I x 3 7 = x ∧ u_bl I x 3 8 = I 3 5 := ⟨(am_u_nk (by decide)).trans am_u_at, am_u_at⟩
theorem m_wr_e {K : hI} {x : Int32} : m_wr K x 110 4 = x ∧ m_wr K x 110 5 = K 110 10 := ⟨(am_u_nk (by decide)).trans am_u_at, am_u_at⟩
theorem FL_bl {I K : hI} {x : Int32} (h : I 3 5 = K 110 10) : FL (u_bl I x) (m_wr K x) := by
  obtain ⟨a, b⟩ := u_bl_e (I := I) (x := x)
  obtain ⟨c, d⟩ := m_wr_e (K := K) (x := x)
  exact ⟨a.trans c.symm, (b.trans h).trans d.symm⟩
theorem FR_bl {A f : Nat} {I K : hI} {x y : Int32} : FR A f I (u_bl I x) K (m_wr K y) := ⟨fun b i h1 _ _ _ _ => (am_u_na h1).trans (am_u_na h1), fun a i h1 h2 h3 h4 => by unfold m_wr am_u; rw [if_neg (by omega), if_neg (by omega)]⟩
/-- tokens told apart alike -/
theorem tk_cases {kc vc kr wr : Int32} (t : tkR kc vc kr wr) :
    (kc = Int32.ofNat 41 ↔ (kr = Int32.ofNat 4 ∧ wr = Int32.ofNat 40)) ∧ (kc = Int32.ofNat 42 ↔ (kr = Int32.ofNat 4 ∧ wr = Int32.ofNat 41)) ∧ (kc = Int32.ofNat 40 ↔ (kr = Int32.ofNat 4 ∧ wr = Int32.ofNat 59)) ∧ (kc = Int32.ofNat 23 ↔ (kr = Int32.ofNat 1 ∧ wr = Int32.ofNat 13)) ∧ (kc = Int32.ofNat 2 ↔ kr = Int32.ofNat 3) ∧ (kc = Int32.ofNat 3 ↔ kr = Int32.ofNat 2) ∧ (kc = Int32.ofNat 0 ↔ kr = Int32.ofNat 0) := by
  have cl : ∀ x y : Nat, x < 100 → y < 100 → (Int32.ofNat x = Int32.ofNat y ↔ x = y) := fun x y h1 h2 => am_eqN (by omega) (by omega)
  rcases t with ⟨h1, h2⟩ | ⟨r, hr, h1, h2, h3⟩ | ⟨h1, h2, h3⟩ | ⟨h1, h2, h3⟩ | ⟨n, hn, h1, h2, h3⟩ | ⟨n, hn, h1, h2, h3⟩ | ⟨h1, h2⟩
  · subst h1 h2
    refine ⟨?_, ?_, ?_, ?_, ?_, ?_, ?_⟩ <;> simp +decide
  · subst h1 h2 h3
    have pl := pw_lt hr
    have p13 : pw r = 13 ↔ r = 13 := by unfold pw; by_cases a : r = 11 <;> by_cases b : r = 12 <;> simp [a, b]
    rw [cl (10 + pw r) 41 (by omega) (by omega), cl (10 + pw r) 42 (by omega) (by omega), cl (10 + pw r) 40 (by omega) (by omega), cl (10 + pw r) 23 (by omega) (by omega), cl (10 + pw r) 2 (by omega) (by omega), cl (10 + pw r) 3 (by omega) (by omega), cl (10 + pw r) 0 (by omega) (by omega), cl 1 4 (by omega) (by omega), cl 1 3 (by omega) (by omega), cl 1 2 (by omega) (by omega), cl 1 0 (by omega) (by omega), cl r 13 (by omega) (by omega)]
    simp only [true_and]
    omega
  · subst h1 h2
    refine ⟨?_, ?_, ?_, ?_, ?_, ?_, ?_⟩ <;> simp +decide
  · subst h1 h2
    refine ⟨?_, ?_, ?_, ?_, ?_, ?_, ?_⟩ <;> simp +decide
  · subst h1 h2 h3
    rcases hn with rfl | rfl | rfl | rfl | rfl | rfl | rfl | rfl <;> (refine ⟨?_, ?_, ?_, ?_, ?_, ?_, ?_⟩ <;> simp +decide)
  · subst h1 h2 h3
    have : n = 0 ∨ n = 1 ∨ n = 2 ∨ n = 3 ∨ n = 4 ∨ n = 5 := by omega
    rcases this with rfl | rfl | rfl | rfl | rfl | rfl <;> (refine ⟨?_, ?_, ?_, ?_, ?_, ?_, ?_⟩ <;> simp +decide)
  · subst h1 h2
    refine ⟨?_, ?_, ?_, ?_, ?_, ?_, ?_⟩ <;> simp +decide
