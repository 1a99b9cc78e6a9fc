/-! Texts alike: a law's sum, one token taken. -/
theorem LR_push {A f h o c n d o' c' d' x : Nat} {I K X Y : hI} (r : LR A f I K h o c n d) (hxx : hx x) (f7 : ∀ i, X 7 i = if i = h then Int32.ofNat x else I 7 i) (f8 : ∀ i, X 8 i = if i = h then k_rk (Int32.ofNat x) else I 8 i) (fA : ∀ b i, A ≤ b → b ≤ A + 2 → X b i = I b i) (g134 : ∀ i, Y 134 i = if i = h then Int32.ofNat (cod x) else K 134 i) (gk : ∀ a i, (131 ≤ a ∧ a ≤ 133) ∨ a = 135 → Y a i = K a i) (lc : LC A f X Y (h + 1) o' c' n d') (num : c' ≤ 64 ∧ o' ≤ 8 ∧ f + n + (h + 1) = c' + o' ∧ o' = o + (if x = 41 then 1 else 0) ∧ sh (I (A + 1)) n + d' = nb (I 7) h + (if x = 41 ∨ x = 23 then 0 else 1) + 1) : LR A f X Y (h + 1) o' c' n d' := by
  obtain ⟨_, s, ⟨l1, l2, l3, l4, l5⟩, k⟩ := r
  obtain ⟨n1, n2, n3, n4, n5⟩ := num
  have e7 : X 7 h = Int32.ofNat x := by rw [f7, if_pos rfl]
  have l7 : ∀ i, i < h → X 7 i = I 7 i := fun i hi => by rw [f7, if_neg (by omega)]
  have lx := hx_lt hxx
  obtain ⟨c1, c2⟩ := no_c (g := I 7) (g' := X 7) h l7
  have g1 : ∀ i, i < n → X (A + 1) i = I (A + 1) i := fun i _ => fA _ _ (by omega) (by omega)
  obtain ⟨s1, s2⟩ := sh_c (g := I (A + 1)) (g' := X (A + 1)) n g1
  refine ⟨lc, fun i hi => ?_, ⟨n1, n2, n3, ?_, ?_⟩, LK_c (fun i hi => ⟨g1 i hi, fA _ _ (by omega) (by omega)⟩) (fun a i u v _ => gk a _ (by omega)) (fun t _ => gk 135 t (by omega)) k⟩
  · by_cases z : i = h
    · subst z
      exact ⟨x, hxx, e7, by rw [g134, if_pos rfl], by rw [f8, if_pos rfl]⟩
    · rw [l7 i (by omega), f8, if_neg z, g134, if_neg z]; exact s i (by omega)
  · rw [no_s, c1, e7, l4, n4]
    by_cases z : x = 41
    · rw [if_pos z, if_pos (by rw [z])]
    · rw [if_neg z, if_neg (fun y => z ((am_eqN (by omega) (by omega)).mp y))]
  · rw [nb_s, c2, e7, s1, n5]
    by_cases z : x = 41 ∨ x = 23
    · rw [if_pos z, if_pos (by rcases z with rfl | rfl; exact Or.inl rfl; exact Or.inr rfl)]
    · rw [if_neg z, if_neg (fun y => z (y.imp (fun y => (am_eqN (by omega) (by omega)).mp y) (fun y => (am_eqN (by omega) (by omega)).mp y)))]
theorem FR_of {A f : Nat} {I I' K K' : hI} (h1 : ∀ b i, b ≠ 6 → b ≠ 7 → b ≠ 8 → (b < A ∨ A + 2 < b) → I' b i = I b i) (h2 : ∀ a i, a ≠ 134 → a ≠ 135 → (131 ≤ a → a ≤ 133 → i < 64 + f) → ¬ (a = 110 ∧ (i = 21 ∨ (45 ≤ i ∧ i ≤ 50))) → K' a i = K a i) (hA : 8 < A) : FR A f I I' K K' ∧ FT I I' K K' := ⟨⟨fun b i _ a2 a3 a4 a5 => h1 b i a2 a3 a4 a5, fun a i a1 a2 a3 a4 => h2 a i a1 a2 a3 (by omega)⟩, ⟨fun i => h1 3 i (by omega) (by omega) (by omega) (by omega), fun i a b => h2 110 i (by omega) (by omega) (by omega) (by omega)⟩⟩
/-- what a token taken comes to, on both sides -/
def TK (A f st : Nat) (I K : hI) (p q : Int32 × hI) : Prop :=
  (p.1 = 0 ∧ q.1 = 0 ∧ FL p.2 q.2 ∧ FR A f I p.2 K q.2) ∨
  (¬ p.1 = 0 ∧ ¬ q.1 = 0 ∧ (¬ p.2 3 4 = Int32.ofNat 40 ∧ ¬ p.2 3 4 = Int32.ofNat 0) ∧ ∃ K' h o c n d, q.2 = m_tok K' ∧ d ≤ 1 ∧ LR A f p.2 K' h o c n d ∧ FR A f I p.2 K K' ∧ FT I p.2 K K')
theorem TK_go {A f st h o c n d : Nat} {I K X Y : hI} (h3 : ¬ X 3 4 = Int32.ofNat 40 ∧ ¬ X 3 4 = Int32.ofNat 0) (hd : d ≤ 1) (lr : LR A f X Y h o c n d) (F : FR A f I X K Y ∧ FT I X K Y) : TK A f st I K (1, X) (1, m_tok Y) := Or.inr ⟨fun z => absurd (show (1 : Int32) = 0 from z) (by decide), fun z => absurd (show (1 : Int32) = 0 from z) (by decide), h3, Y, h, o, c, n, d, rfl, hd, lr, F.1, F.2⟩
theorem TK_bl {A f st : Nat} {I K : hI} {x : Int32} (h : I 3 5 = K 110 10) : TK A f st I K (0, u_bl I x) (0, m_wr K x) := Or.inl ⟨rfl, rfl, FL_bl h, FR_bl⟩
/-- a leaf's token -/
theorem tv_cases {kc vc kr wr : Int32} (t : tkR kc vc kr wr) : (kc = Int32.ofNat 2 ∧ kr = Int32.ofNat 3 ∧ ((∃ v, v < 1000000 ∧ vc = Int32.ofNat v ∧ wr = Int32.ofNat v) ∨ (Int32.ofNat 99999 < vc ∧ Int32.ofNat 99999 < wr))) ∨ (∃ j, j < 7 ∧ kc = Int32.ofNat (24 + j) ∧ kr = Int32.ofNat 1 ∧ wr = Int32.ofNat (14 + j)) ∨ (¬ k_tvP kc ∧ ¬ kr = Int32.ofNat 3 ∧ ¬ (kr = Int32.ofNat 1 ∧ ¬ wr < Int32.ofNat 14)) := by
  rcases t with ⟨h1, h2⟩ | ⟨r, hr, h1, h2, h3⟩ | ⟨h1, h2, h3⟩ | ⟨h1, h2, h3⟩ | ⟨n, hn, h1, h2, h3⟩ | ⟨n, hn, h1, h2, h3⟩ | ⟨h1, h2⟩
  · subst h1 h2
    refine Or.inr (Or.inr ⟨by decide, by decide, fun z => absurd z.1 (by decide)⟩)
  · subst h1 h2 h3
    by_cases g : 14 ≤ r
    · refine Or.inr (Or.inl ⟨r - 14, by omega, ?_, rfl, by rw [show 14 + (r - 14) = r by omega]⟩)
      unfold pw
      rw [if_neg (by omega), if_neg (by omega), show 24 + (r - 14) = 10 + r by omega]
    · refine Or.inr (Or.inr ⟨?_, by decide, fun z => z.2 ((am_ltN (by omega) (by omega)).mpr (by omega))⟩)
      have key : ∀ r, r < 14 → ¬ k_tvP (Int32.ofNat (10 + pw r)) := by decide
      exact key r (by omega)
  · subst h1 h2
    refine Or.inr (Or.inr ⟨by decide, by decide, fun z => absurd z.1 (by decide)⟩)
  · subst h1 h2
    exact Or.inl ⟨rfl, rfl, h3⟩
  · subst h1 h2 h3
    refine Or.inr (Or.inr ⟨?_, by decide, fun z => absurd z.1 (by decide)⟩)
    rcases hn with rfl | rfl | rfl | rfl | rfl | rfl | rfl | rfl <;> decide
  · subst h1 h2 h3
    refine Or.inr (Or.inr ⟨?_, by decide, fun z => absurd z.1 (by decide)⟩)
    have key : ∀ r, r < 6 → ¬ k_tvP (Int32.ofNat (43 + r)) := by decide
    exact key n hn
  · subst h1 h2
    refine Or.inr (Or.inr ⟨by decide, by decide, fun z => absurd z.1 (by decide)⟩)
theorem LR_leaf {A f h o c n : Nat} {I K : hI} {x y a b : Int32} (hA : 8 < A) (r : LR A f I K h o c n 1) (c64 : c < 64) (lf : (x = Int32.ofNat 2 ∧ a = 0 ∧ b = y) ∨ (∃ j, j < 7 ∧ x = Int32.ofNat (24 + j) ∧ a = Int32.ofNat 1 ∧ b = Int32.ofNat j)) : LR A f (am_u (k_ad (am_u I 6 4 (Int32.ofNat (c + 1))) A x y) 6 5 (Int32.ofNat 0)) (am_u (m_gr (am_u K 110 48 (Int32.ofNat (c + 1))) (f + n) (sh (I (A + 1)) n) a b (Int32.ofNat 0)) 110 49 (Int32.ofNat 0)) h o (c + 1) (n + 1) 0 ∧ FR A f I (am_u (k_ad (am_u I 6 4 (Int32.ofNat (c + 1))) A x y) 6 5 (Int32.ofNat 0)) K (am_u (m_gr (am_u K 110 48 (Int32.ofNat (c + 1))) (f + n) (sh (I (A + 1)) n) a b (Int32.ofNat 0)) 110 49 (Int32.ofNat 0)) ∧ FT I (am_u (k_ad (am_u I 6 4 (Int32.ofNat (c + 1))) A x y) 6 5 (Int32.ofNat 0)) K (am_u (m_gr (am_u K 110 48 (Int32.ofNat (c + 1))) (f + n) (sh (I (A + 1)) n) a b (Int32.ofNat 0)) 110 49 (Int32.ofNat 0)) := by
  obtain ⟨⟨⟨c1, c1'⟩, ⟨c2, c2'⟩, ⟨c3, c3'⟩, ⟨c4, c4'⟩, ⟨c5, c5'⟩, c6, c7⟩, s, ⟨l1, l2, l3, l4, l5⟩, ⟨k1, k2⟩⟩ := r
  have nn1 := no_nb (I 7) h
  rw [k_ad_1 (n := n) (by rw [am_u_na (by omega)]; exact c4) (by omega)]
  have gA : ∀ b' i, (b' < A ∨ A + 2 < b') → b' ≠ 6 → am_u (am_u (am_u (am_u (am_u I 6 4 (Int32.ofNat (c + 1))) (A + 1) n x) (A + 2) n y) A 0 (Int32.ofNat (n + 1))) 6 5 (Int32.ofNat 0) b' i = I b' i := fun b' i h1 h2 => by
    rw [am_u_na h2, am_u_na (by omega), am_u_na (by omega), am_u_na (by omega), am_u_na h2]
  have g1 : ∀ i, i < n → am_u (am_u (am_u (am_u (am_u I 6 4 (Int32.ofNat (c + 1))) (A + 1) n x) (A + 2) n y) A 0 (Int32.ofNat (n + 1))) 6 5 (Int32.ofNat 0) (A + 1) i = I (A + 1) i := fun i hi => by
    rw [am_u_na (by omega), am_u_na (by omega), am_u_na (by omega), am_u_nk (by omega), am_u_na (by omega)]
  have g2 : ∀ i, i < n → am_u (am_u (am_u (am_u (am_u I 6 4 (Int32.ofNat (c + 1))) (A + 1) n x) (A + 2) n y) A 0 (Int32.ofNat (n + 1))) 6 5 (Int32.ofNat 0) (A + 2) i = I (A + 2) i := fun i hi => by
    rw [am_u_na (by omega), am_u_na (by omega), am_u_nk (by omega), am_u_na (by omega), am_u_na (by omega)]
  have gn1 : am_u (am_u (am_u (am_u (am_u I 6 4 (Int32.ofNat (c + 1))) (A + 1) n x) (A + 2) n y) A 0 (Int32.ofNat (n + 1))) 6 5 (Int32.ofNat 0) (A + 1) n = x := by
    rw [am_u_na (by omega), am_u_na (by omega), am_u_na (by omega), am_u_at]
  have gn2 : am_u (am_u (am_u (am_u (am_u I 6 4 (Int32.ofNat (c + 1))) (A + 1) n x) (A + 2) n y) A 0 (Int32.ofNat (n + 1))) 6 5 (Int32.ofNat 0) (A + 2) n = y := by
    rw [am_u_na (by omega), am_u_na (by omega), am_u_at]
  have g0 : am_u (am_u (am_u (am_u (am_u I 6 4 (Int32.ofNat (c + 1))) (A + 1) n x) (A + 2) n y) A 0 (Int32.ofNat (n + 1))) 6 5 (Int32.ofNat 0) A 0 = Int32.ofNat (n + 1) := by
    rw [am_u_na (by omega), am_u_at]
  have g6 : ∀ i, am_u (am_u (am_u (am_u (am_u I 6 4 (Int32.ofNat (c + 1))) (A + 1) n x) (A + 2) n y) A 0 (Int32.ofNat (n + 1))) 6 5 (Int32.ofNat 0) 6 i = if i = 5 then Int32.ofNat 0 else if i = 4 then Int32.ofNat (c + 1) else I 6 i := fun i => by
    by_cases z : i = 5
    · rw [z, am_u_at, if_pos rfl]
    · rw [if_neg z, am_u_nk z, am_u_na (by omega), am_u_na (by omega), am_u_na (by omega)]
      by_cases z4 : i = 4
      · rw [z4, am_u_at, if_pos rfl]
      · rw [if_neg z4, am_u_nk z4]
  revert gA g1 g2 gn1 gn2 g0 g6
  generalize am_u (am_u (am_u (am_u (am_u I 6 4 (Int32.ofNat (c + 1))) (A + 1) n x) (A + 2) n y) A 0 (Int32.ofNat (n + 1))) 6 5 (Int32.ofNat 0) = X
  intro gA g1 g2 gn1 gn2 g0 g6
  obtain ⟨sc1, sc2⟩ := sh_c (g := I (A + 1)) (g' := X (A + 1)) n g1
  obtain ⟨nc1, nc2⟩ := no_c (g := I 7) (g' := X 7) h (fun i _ => gA 7 i (by omega) (by omega))
  have tk : k_tk (X (A + 1) n) = 0 := by
    rw [gn1]
    rcases lf with ⟨e, _⟩ | ⟨j, hj, e, _⟩
    · rw [e]; rfl
    · rw [e]
      have key : ∀ j, j < 7 → k_tk (Int32.ofNat (24 + j)) = 0 := by decide
      exact key j hj
  have shn : sh (X (A + 1)) (n + 1) = sh (I (A + 1)) n + 1 := by rw [sh_s, tk, sc1]; omega
  have yO : ∀ a' i, ¬ (131 ≤ a' ∧ a' ≤ 133) → a' ≠ 135 → ¬ (a' = 110 ∧ (i = 46 ∨ i = 21 ∨ i = 48 ∨ i = 49)) → am_u (m_gr (am_u K 110 48 (Int32.ofNat (c + 1))) (f + n) (sh (I (A + 1)) n) a b (Int32.ofNat 0)) 110 49 (Int32.ofNat 0) a' i = K a' i := fun a' i h1 h2 h3 => by
    have e1 : am_u (m_gr (am_u K 110 48 (Int32.ofNat (c + 1))) (f + n) (sh (I (A + 1)) n) a b (Int32.ofNat 0)) 110 49 (Int32.ofNat 0) a' i = m_gr (am_u K 110 48 (Int32.ofNat (c + 1))) (f + n) (sh (I (A + 1)) n) a b (Int32.ofNat 0) a' i := by unfold am_u; rw [if_neg (by omega)]
    rw [e1, m_gr_f h1 h2 (by omega)]; unfold am_u; rw [if_neg (by omega)]
  have y48 : am_u (m_gr (am_u K 110 48 (Int32.ofNat (c + 1))) (f + n) (sh (I (A + 1)) n) a b (Int32.ofNat 0)) 110 49 (Int32.ofNat 0) 110 48 = Int32.ofNat (c + 1) := by
    rw [am_u_nk (by decide), m_gr_f (by omega) (by omega) (by omega), am_u_at]
  have y46 : am_u (m_gr (am_u K 110 48 (Int32.ofNat (c + 1))) (f + n) (sh (I (A + 1)) n) a b (Int32.ofNat 0)) 110 49 (Int32.ofNat 0) 110 46 = Int32.ofNat (sh (I (A + 1)) n + 1) := by
    rw [am_u_nk (by decide), m_gr46]
  have y21 : am_u (m_gr (am_u K 110 48 (Int32.ofNat (c + 1))) (f + n) (sh (I (A + 1)) n) a b (Int32.ofNat 0)) 110 49 (Int32.ofNat 0) 110 21 = Int32.ofNat (f + n + 1) := by
    rw [am_u_nk (by decide), m_gr21]
  have yk : ∀ a' i, 131 ≤ a' → a' ≤ 133 → i ≠ 64 + f + n → am_u (m_gr (am_u K 110 48 (Int32.ofNat (c + 1))) (f + n) (sh (I (A + 1)) n) a b (Int32.ofNat 0)) 110 49 (Int32.ofNat 0) a' i = K a' i := fun a' i h1 h2 h3 => by
    unfold m_gr am_u
    rw [if_neg (by omega), if_neg (by omega), if_neg (by omega), if_neg (by omega), if_neg (by omega), if_neg (by omega), if_neg (by omega), if_neg (by omega)]
  have y131 : am_u (m_gr (am_u K 110 48 (Int32.ofNat (c + 1))) (f + n) (sh (I (A + 1)) n) a b (Int32.ofNat 0)) 110 49 (Int32.ofNat 0) 131 (64 + f + n) = a := by
    rw [Nat.add_assoc]; unfold m_gr
    rw [am_u_na (by decide), am_u_na (by decide), am_u_na (by decide), am_u_na (by decide), am_u_na (by decide), am_u_na (by decide), am_u_at]
  have y132 : am_u (m_gr (am_u K 110 48 (Int32.ofNat (c + 1))) (f + n) (sh (I (A + 1)) n) a b (Int32.ofNat 0)) 110 49 (Int32.ofNat 0) 132 (64 + f + n) = b := by
    rw [Nat.add_assoc]; unfold m_gr
    rw [am_u_na (by decide), am_u_na (by decide), am_u_na (by decide), am_u_na (by decide), am_u_na (by decide), am_u_at]
  have y135 : ∀ t, am_u (m_gr (am_u K 110 48 (Int32.ofNat (c + 1))) (f + n) (sh (I (A + 1)) n) a b (Int32.ofNat 0)) 110 49 (Int32.ofNat 0) 135 t = if t = sh (I (A + 1)) n then Int32.ofNat (f + n) else K 135 t := fun t => by
    unfold m_gr
    rw [am_u_na (by decide), am_u_na (by decide), am_u_na (by decide)]
    by_cases z : t = sh (I (A + 1)) n
    · rw [if_pos z, z, am_u_at]
    · rw [if_neg z, am_u_nk z, am_u_na (by decide), am_u_na (by decide), am_u_na (by decide), am_u_na (by decide)]
  have y49 : am_u (m_gr (am_u K 110 48 (Int32.ofNat (c + 1))) (f + n) (sh (I (A + 1)) n) a b (Int32.ofNat 0)) 110 49 (Int32.ofNat 0) 110 49 = Int32.ofNat 0 := am_u_at
  revert yO y48 y46 y21 yk y131 y132 y135 y49
  generalize am_u (m_gr (am_u K 110 48 (Int32.ofNat (c + 1))) (f + n) (sh (I (A + 1)) n) a b (Int32.ofNat 0)) 110 49 (Int32.ofNat 0) = Y
  intro yO y48 y46 y21 yk y131 y132 y135 y49
  refine ⟨⟨⟨⟨?_, ?_⟩, ⟨?_, ?_⟩, ⟨?_, y48⟩, ⟨g0, y21⟩, ⟨?_, y49⟩, ?_, by rw [shn]; exact y46⟩, LSt_c (fun i _ => ⟨gA 7 i (by omega) (by omega), gA 8 i (by omega) (by omega)⟩) (fun i _ => yO 134 i (by omega) (by omega) (by omega)) s, ⟨by omega, l2, by omega, by rw [nc1]; exact l4, by rw [nc2, shn]; omega⟩, ⟨fun i hi => ?_, fun t ht => ?_⟩⟩, ⟨fun b i h1 h2 h3 h4 h5 => gA b i h5 h2, fun a i h1 h2 h3 h4 => ?_⟩, ⟨fun i => gA 3 i (by omega) (by omega), fun i h1 h2 => yO 110 i (by omega) (by omega) (by omega)⟩⟩
  · rw [g6]; exact c1
  · rw [yO 110 45 (by omega) (by omega) (by omega)]; exact c1'
  · rw [g6]; exact c2
  · rw [yO 110 47 (by omega) (by omega) (by omega)]; exact c2'
  · rw [g6]; rfl
  · rw [g6]; rfl
  · rw [g6, yO 110 50 (by omega) (by omega) (by omega)]; exact c6
  · by_cases z : i = n
    · subst z
      rcases lf with ⟨e1, e2, e3⟩ | ⟨j, hj, e1, e2, e3⟩
      · exact Or.inl ⟨gn1.trans e1, y131.trans e2, (y132.trans e3).trans gn2.symm⟩
      · exact Or.inr (Or.inl ⟨j, hj, gn1.trans e1, y131.trans e2, y132.trans e3⟩)
    · exact knR_c (fun j hj => g1 j (by omega)) (g2 i (by omega)) (fun a u v => yk a _ u v (by omega)) (k1 i (by omega))
  · rw [shn] at ht
    rw [y135, ss_s, tk, sc1, sc2, Nat.sub_zero]
    by_cases z : t = sh (I (A + 1)) n
    · rw [if_pos z, if_pos z]
    · rw [if_neg z, if_neg z]; exact k2 t (by omega)
  · by_cases z : 131 ≤ a ∧ a ≤ 133
    · exact yk a i z.1 z.2 (by have := h3 z.1 z.2; omega)
    · exact yO a i z (by omega) (by omega)
theorem tv_eq {A f st h o c n : Nat} {I K : hI} (hA : 8 < A) (r : LR A f I K h o c n 1) (cu : cur I K) : TK A f st I K (k_tv I A h o c) (m_leaf K h (sh (I (A + 1)) n) (f + n) o c) := by
  have r' := r
  obtain ⟨⟨⟨c1, c1'⟩, ⟨c2, c2'⟩, ⟨c3, c3'⟩, ⟨c4, c4'⟩, ⟨c5, c5'⟩, c6, c7⟩, s, ⟨l1, l2, l3, l4, l5⟩, ⟨k1, k2⟩⟩ := r
  obtain ⟨u1, u2, u3⟩ := cu
  obtain ⟨t41, t42, t40, t23, t2, t3, t0⟩ := tk_cases u3
  have a6 : A ≠ 6 := by omega
  have a7 : A ≠ 7 := by omega
  have a8 : A ≠ 8 := by omega
  have b6 : A + 1 ≠ 6 := by omega
  have b7 : A + 1 ≠ 7 := by omega
  have b8 : A + 1 ≠ 8 := by omega
  have nn1 := no_nb (I 7) h
  unfold k_tv m_leaf
  by_cases x41 : I 3 4 = Int32.ofNat 41
  · rw [if_pos x41, if_pos (t41.mp x41)]
    unfold k_op
    by_cases o8 : o < 8
    · rw [if_pos o8, if_neg (show ¬ o = 8 by omega)]
      unfold k_ho
      rw [if_pos (show h < 72 by omega)]
      obtain ⟨F1, F2⟩ := FR_of (A := A) (f := f) (I := I) (I' := am_u (am_u (am_u (am_u (am_u I 6 3 (Int32.ofNat (o + 1))) 7 h (Int32.ofNat 41)) 8 h (k_rk (Int32.ofNat 41))) 6 2 (Int32.ofNat (h + 1))) 6 6 (Int32.ofNat 1)) (K := K) (K' := am_u (am_u (am_u (am_u K 110 47 (Int32.ofNat (o + 1))) 134 h (Int32.ofNat 0)) 110 45 (Int32.ofNat (h + 1))) 110 50 (Int32.ofNat 1)) (fun b i h1 h2 h3 _ => by rw [am_u_na h1, am_u_na h1, am_u_na h3, am_u_na h2, am_u_na h1]) (fun a i h1 _ _ h4 => by unfold am_u; rw [if_neg (by omega), if_neg (by omega), if_neg (by omega), if_neg (by omega)]) hA
      refine TK_go (h := h + 1) (o := o + 1) (c := c) (n := n) (d := 1) ⟨fun z => absurd (x41.symm.trans ((F2.1 4).symm.trans z)) (by decide), fun z => absurd (x41.symm.trans ((F2.1 4).symm.trans z)) (by decide)⟩ (by omega) (LR_push r' (Or.inl rfl) (fun i => ?_) (fun i => ?_) (fun b i h1 h2 => ?_) (fun i => ?_) (fun a i h1 => ?_) ⟨⟨?_, ?_⟩, ⟨?_, ?_⟩, ⟨?_, ?_⟩, ⟨?_, ?_⟩, ⟨?_, ?_⟩, ?_, ?_⟩ ⟨l1, by omega, by omega, rfl, by rw [if_pos (Or.inl rfl)]; omega⟩) ⟨F1, F2⟩
      · rw [am_u_na (by decide), am_u_na (by decide), am_u_na (by decide)]
        by_cases z : i = h
        · rw [z, am_u_at, if_pos rfl]
        · rw [am_u_nk z, if_neg z, am_u_na (by decide)]
      · rw [am_u_na (by decide), am_u_na (by decide)]
        by_cases z : i = h
        · rw [z, am_u_at, if_pos rfl]
        · rw [am_u_nk z, if_neg z, am_u_na (by decide), am_u_na (by decide)]
      · rw [am_u_na (by omega), am_u_na (by omega), am_u_na (by omega), am_u_na (by omega), am_u_na (by omega)]
      · rw [am_u_na (by decide), am_u_na (by decide)]
        by_cases z : i = h
        · rw [z, am_u_at, if_pos rfl]; rfl
        · rw [am_u_nk z, if_neg z, am_u_na (by decide)]
      · rw [am_u_na (by omega), am_u_na (by omega), am_u_na (by omega), am_u_na (by omega)]
      · rw [am_u_nk (by decide), am_u_at]
      · rw [am_u_nk (by decide), am_u_at]
      · rw [am_u_nk (by decide), am_u_nk (by decide), am_u_na (by decide), am_u_na (by decide), am_u_at]
      · rw [am_u_nk (by decide), am_u_nk (by decide), am_u_na (by decide), am_u_at]
      · rw [am_u_nk (by decide), am_u_nk (by decide), am_u_na (by decide), am_u_na (by decide), am_u_nk (by decide)]; exact c3
      · rw [am_u_nk (by decide), am_u_nk (by decide), am_u_na (by decide), am_u_nk (by decide)]; exact c3'
      · rw [am_u_na a6, am_u_na a6, am_u_na a8, am_u_na a7, am_u_na a6]; exact c4
      · rw [am_u_nk (by decide), am_u_nk (by decide), am_u_na (by decide), am_u_nk (by decide)]; exact c4'
      · rw [am_u_nk (by decide), am_u_nk (by decide), am_u_na (by decide), am_u_na (by decide), am_u_nk (by decide)]; exact c5
      · rw [am_u_nk (by decide), am_u_nk (by decide), am_u_na (by decide), am_u_nk (by decide)]; exact c5'
      · rw [am_u_at, am_u_at]
      · rw [am_u_ne b6, am_u_ne b6, am_u_ne b8, am_u_ne b7, am_u_ne b6, am_u_nk (by decide), am_u_nk (by decide), am_u_na (by decide), am_u_nk (by decide)]; exact c7
    · rw [if_neg o8, if_pos (show o = 8 by omega)]
      exact TK_bl u2
  · rw [if_neg x41, if_neg (fun z => x41 (t41.mpr z))]
    by_cases x23 : I 3 4 = Int32.ofNat 23 ∧ ¬ I 6 6 = 0
    · rw [if_pos x23, if_pos ⟨t23.mp x23.1, fun z => x23.2 (c6.mpr z)⟩]
      unfold k_hk
      by_cases c64 : c < 64
      · rw [if_pos c64, if_neg (show ¬ c = 64 by omega)]
        unfold k_ho
        rw [if_pos (show h < 72 by omega), x23.1]
        obtain ⟨F1, F2⟩ := FR_of (A := A) (f := f) (I := I) (I' := am_u (am_u (am_u (am_u I 6 4 (Int32.ofNat (c + 1))) 7 h (Int32.ofNat 23)) 8 h (k_rk (Int32.ofNat 23))) 6 2 (Int32.ofNat (h + 1))) (K := K) (K' := am_u (am_u (am_u K 110 48 (Int32.ofNat (c + 1))) 134 h (Int32.ofNat 2)) 110 45 (Int32.ofNat (h + 1))) (fun b i h1 h2 h3 _ => by rw [am_u_na h1, am_u_na h3, am_u_na h2, am_u_na h1]) (fun a i h1 _ _ h4 => by unfold am_u; rw [if_neg (by omega), if_neg (by omega), if_neg (by omega)]) hA
        refine TK_go (h := h + 1) (o := o) (c := c + 1) (n := n) (d := 1) ⟨fun z => absurd (x23.1.symm.trans ((F2.1 4).symm.trans z)) (by decide), fun z => absurd (x23.1.symm.trans ((F2.1 4).symm.trans z)) (by decide)⟩ (by omega) (LR_push r' (Or.inr (Or.inl rfl)) (fun i => ?_) (fun i => ?_) (fun b i h1 h2 => ?_) (fun i => ?_) (fun a i h1 => ?_) ⟨⟨?_, ?_⟩, ⟨?_, ?_⟩, ⟨?_, ?_⟩, ⟨?_, ?_⟩, ⟨?_, ?_⟩, ?_, ?_⟩ ⟨by omega, l2, by omega, by rw [if_neg (by decide)]; rfl, by rw [if_pos (Or.inr rfl)]; omega⟩) ⟨F1, F2⟩
        · rw [am_u_na (by decide), am_u_na (by decide)]
          by_cases z : i = h
          · rw [z, am_u_at, if_pos rfl]
          · rw [am_u_nk z, if_neg z, am_u_na (by decide)]
        · rw [am_u_na (by decide)]
          by_cases z : i = h
          · rw [z, am_u_at, if_pos rfl]
          · rw [am_u_nk z, if_neg z, am_u_na (by decide), am_u_na (by decide)]
        · rw [am_u_na (by omega), am_u_na (by omega), am_u_na (by omega), am_u_na (by omega)]
        · rw [am_u_na (by decide)]
          by_cases z : i = h
          · rw [z, am_u_at, if_pos rfl]; rfl
          · rw [am_u_nk z, if_neg z, am_u_na (by decide)]
        · rw [am_u_na (by omega), am_u_na (by omega), am_u_na (by omega)]
        · rw [am_u_at]
        · rw [am_u_at]
        · rw [am_u_nk (by decide), am_u_na (by decide), am_u_na (by decide), am_u_nk (by decide)]; exact c2
        · rw [am_u_nk (by decide), am_u_na (by decide), am_u_nk (by decide)]; exact c2'
        · rw [am_u_nk (by decide), am_u_na (by decide), am_u_na (by decide), am_u_at]
        · rw [am_u_nk (by decide), am_u_na (by decide), am_u_at]
        · rw [am_u_na a6, am_u_na a8, am_u_na a7, am_u_na a6]; exact c4
        · rw [am_u_nk (by decide), am_u_na (by decide), am_u_nk (by decide)]; exact c4'
        · rw [am_u_nk (by decide), am_u_na (by decide), am_u_na (by decide), am_u_nk (by decide)]; exact c5
        · rw [am_u_nk (by decide), am_u_na (by decide), am_u_nk (by decide)]; exact c5'
        · rw [am_u_nk (by decide), am_u_na (by decide), am_u_na (by decide), am_u_nk (by decide), am_u_nk (by decide), am_u_na (by decide), am_u_nk (by decide)]; exact c6
        · rw [am_u_ne b6, am_u_ne b8, am_u_ne b7, am_u_ne b6, am_u_nk (by decide), am_u_na (by decide), am_u_nk (by decide)]; exact c7
      · rw [if_neg c64, if_pos (show c = 64 by omega)]
        exact TK_bl u2
    · rw [if_neg x23, if_neg (fun z => x23 ⟨t23.mpr z.1, fun y => z.2 (c6.mp y)⟩)]
      unfold k_tv2 m_nmt
      rcases tv_cases u3 with ⟨e1, e2, e3⟩ | ⟨j, hj, e1, e2, e3⟩ | ⟨e1, e2, e3⟩
      · have nm : ¬ (K 110 8 = Int32.ofNat 1 ∧ ¬ K 110 9 < Int32.ofNat 14) := fun z => absurd (e2.symm.trans z.1) (by decide)
        have m1 : Int32.ofInt (-1) < 0 := by decide
        rw [if_pos (show k_tvP (I 3 4) from Or.inl e1), if_neg nm, if_neg (fun z => z.2 e2)]
        unfold k_tv3
        rcases e3 with ⟨v, v1, v2, v3⟩ | ⟨v2, v3⟩
        · have e9 : I 3 6 = K 110 9 := v2.trans v3.symm
          by_cases big : Int32.ofNat 9999 < I 3 6
          · rw [if_neg (fun z => z.2 ⟨e1, big⟩), if_pos ⟨m1, by rw [← e9]; exact big⟩]
            exact TK_bl u2
          · rw [if_neg (show ¬ (Int32.ofInt (-1) < 0 ∧ Int32.ofNat 9999 < K 110 9) from fun z => big (by rw [e9]; exact z.2))]
            by_cases c64 : c < 64
            · rw [if_pos ⟨c64, fun z => big z.2⟩, if_neg (show ¬ c = 64 by omega), if_pos m1, if_pos m1]
              obtain ⟨L1, L2, L3⟩ := LR_leaf (x := I 3 4) (y := I 3 6) (a := Int32.ofNat 0) (b := K 110 9) hA r' c64 (Or.inl ⟨e1, rfl, e9.symm⟩)
              exact TK_go ⟨fun z => absurd (e1.symm.trans ((L3.1 4).symm.trans z)) (by decide), fun z => absurd (e1.symm.trans ((L3.1 4).symm.trans z)) (by decide)⟩ (Nat.zero_le _) L1 ⟨L2, L3⟩
            · rw [if_neg (fun z => c64 z.1), if_pos (show c = 64 by omega)]
              exact TK_bl u2
        · have big1 : Int32.ofNat 9999 < I 3 6 := Int32.lt_trans (by decide) v2
          have big2 : Int32.ofNat 9999 < K 110 9 := Int32.lt_trans (by decide) v3
          rw [if_neg (fun z => z.2 ⟨e1, big1⟩), if_pos ⟨m1, big2⟩]
          exact TK_bl u2
      · have key1 : ∀ j, j < 7 → k_tvP (Int32.ofNat (24 + j)) := by decide
        have key2 : ∀ j, j < 7 → ¬ Int32.ofNat (14 + j) < Int32.ofNat 14 ∧ Int32.ofNat (14 + j) - Int32.ofNat 14 = Int32.ofNat j ∧ ¬ Int32.ofNat j < 0 ∧ ¬ Int32.ofNat (24 + j) = Int32.ofNat 2 ∧ ¬ Int32.ofNat (24 + j) = Int32.ofNat 40 ∧ ¬ Int32.ofNat (24 + j) = Int32.ofNat 0 := by decide
        obtain ⟨q1, q2, q3, q4, q5, q6⟩ := key2 j hj
        rw [if_pos (show k_tvP (I 3 4) by rw [e1]; exact key1 j hj), if_pos (show K 110 8 = Int32.ofNat 1 ∧ ¬ K 110 9 < Int32.ofNat 14 from ⟨e2, by rw [e3]; exact q1⟩), e3, q2, if_neg (fun z => q3 z.1), if_neg (fun z => q3 z.1)]
        unfold k_tv3
        by_cases c64 : c < 64
        · rw [if_pos ⟨c64, fun z => q4 (e1.symm.trans z.1)⟩, if_neg (show ¬ c = 64 by omega), if_neg q3, if_neg q3]
          obtain ⟨L1, L2, L3⟩ := LR_leaf (x := I 3 4) (y := I 3 6) (a := Int32.ofNat 1) (b := Int32.ofNat j) hA r' c64 (Or.inr ⟨j, hj, e1, rfl, rfl⟩)
          exact TK_go ⟨fun z => q5 (e1.symm.trans ((L3.1 4).symm.trans z)), fun z => q6 (e1.symm.trans ((L3.1 4).symm.trans z))⟩ (Nat.zero_le _) L1 ⟨L2, L3⟩
        · rw [if_neg (fun z => c64 z.1), if_pos (show c = 64 by omega)]
          exact TK_bl u2
      · rw [if_neg e1, if_neg e3, if_pos (show Int32.ofInt (-1) < 0 ∧ ¬ K 110 8 = Int32.ofNat 3 from ⟨by decide, e2⟩)]
        exact TK_bl u2
