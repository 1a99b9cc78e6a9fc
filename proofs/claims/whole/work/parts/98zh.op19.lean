/-! Calls alike (twenty): evens. -/
/-- struck alike -/
def stk (Kc : Nat) (I K : hI) : Prop := ∀ i, i < Kc → (I 93 i = 0 ↔ ¬ K 150 i = 0)
theorem ssA_f {I : hI} : ∀ n r, r < n → k_ssA n I 93 r = 0 := by
  intro n
  induction n with
  | zero => intro r h; exact absurd h (Nat.not_lt_zero r)
  | succ n ih =>
    intro r h
    show am_u (k_ssA n I) 93 n (Int32.ofNat 0) 93 r = 0
    by_cases g : r = n
    · subst g; exact am_u_at
    · rw [am_u_nk g]; exact ih r (by omega)
theorem ebA_f {I : hI} : ∀ n r, r < n → m_ebA n I 150 r = Int32.ofNat 1 := by
  intro n
  induction n with
  | zero => intro r h; exact absurd h (Nat.not_lt_zero r)
  | succ n ih =>
    intro r h
    show am_u (m_ebA n I) 150 n (Int32.ofNat 1) 150 r = _
    by_cases g : r = n
    · subst g; exact am_u_at
    · rw [am_u_nk g]; exact ih r (by omega)
theorem ebA_n {I : hI} {a i : Nat} (h : a ≠ 150) : ∀ n, m_ebA n I a i = I a i := by
  intro n
  induction n with
  | zero => rfl
  | succ n ih => exact (am_u_na h).trans ih
theorem ebB_n {a i : Nat} (h : a ≠ 150) : ∀ n I, m_ebB n I a i = I a i := by
  intro n
  induction n with
  | zero => intro I; rfl
  | succ n ih =>
    intro I
    rw [m_ebB_s]
    split
    · exact ih I
    · split
      · exact (ih _).trans (am_u_na h)
      · exact ih I
theorem eb0_n {I : hI} {a i n : Nat} (h : a ≠ 150) : m_eb0 n I a i = I a i := (ebB_n h n _).trans (ebA_n h n)
theorem lt_m1 : Int32.ofInt (-1) < 0 := by decide
theorem okn_nl {x : Int32} {m : Nat} (h : okn x m) (hm : m ≤ 1000) : ¬ x < 0 := by
  rw [h.1]
  have := h.2
  exact fun z => absurd ((am_ltN (x := nn x) (y := 0) (by omega) (by omega)).mp z) (Nat.not_lt_zero _)
theorem ss_eq {q Kc : Nat} (hK : Kc ≤ q) : ∀ j I K, j ≤ Kc → rE q I K → stk Kc I K → stk Kc (k_ssB j I) (m_ebB j K) := by
  intro j
  induction j with
  | zero => intro I K _ _ s; exact s
  | succ j ih =>
    intro I K hj e s
    have q24 := e.1
    have sj := s j (by omega)
    rw [k_ssB_s, m_ebB_s]
    by_cases g : I 93 j = 0
    · rw [if_pos g, if_neg (sj.mp g)]
      rcases e.2.2.2.2.2 j (by omega) with ⟨a1, a2, a3, a4, a5, a6, a7, a8⟩ | ⟨a1, a2, a3⟩
      · rw [if_pos a1, if_neg (by rw [a6]; exact okn_nl a3 (by omega))]
        exact ih I K (by omega) e s
      · rw [if_neg (okn_n1 a1 (by omega)), if_pos (by rw [a2]; exact lt_m1), a3]
        refine ih _ _ (by omega) (rE_c (fun a i u v => am_u_na (by omega)) (fun a i u => am_u_na (by omega)) e) (fun i hi => ?_)
        by_cases z : i = nn (I 92 j)
        · subst z
          rw [am_u_at, am_u_at]
          exact ⟨fun z => absurd z (by decide), fun z => absurd rfl z⟩
        · rw [am_u_nk z, am_u_nk z]; exact s i hi
    · rw [if_neg g, if_pos (Decidable.byContradiction fun z => g (sj.mpr z))]
      exact ih I K (by omega) e s
theorem rE_K {q : Nat} {I K : hI} (e : rE q I K) : ∃ Kc, Kc ≤ q ∧ k_kn I = Int32.ofNat Kc ∧ svk I Kc ∧ vok K Kc := by
  have kn := kn_eq e
  obtain ⟨q24, e0, e79, e1, o, rows⟩ := e
  have key : ∀ Kc, Kc ≤ q → k_kn I = Int32.ofNat Kc → ∃ Kc, Kc ≤ q ∧ k_kn I = Int32.ofNat Kc ∧ svk I Kc ∧ vok K Kc := by
    intro Kc h1 h2
    refine ⟨Kc, h1, h2, ⟨by omega, fun i hi => ?_⟩, ⟨?_, by omega, fun i hi => ?_⟩⟩
    · rcases rows i (by omega) with ⟨a1, a2, _⟩ | ⟨a1, _⟩
      · exact Or.inl ⟨a1, a2⟩
      · exact Or.inr (okn_mono a1 (by omega))
    · unfold kb; rw [← kn]; exact h2
    · rcases rows i (by omega) with ⟨a1, a2, a3, a4, a5, a6, a7, a8⟩ | ⟨a1, a2, a3⟩
      · rw [a6, a7]
        exact ⟨fun z => absurd z (okn_nl a3 (by omega)), fun _ => a2⟩
      · rw [a2, a3]
        exact ⟨fun _ => a1, fun z => absurd lt_m1 z⟩
  rcases o with o | o
  · refine key q (Nat.le_refl _) ?_
    unfold k_kn
    rw [if_pos o]; exact e0
  · refine key (nn (I 88 1)) (by have := o.2; omega) ?_
    unfold k_kn
    rw [if_neg (okn_n1 o (by omega))]; exact o.1
theorem k_fi_0 {I : hI} {m v : Nat} : ∀ j i, k_fi I m v j i = 0 ↔ ∃ i', i ≤ i' ∧ i' < i + j ∧ k_fb I m v i' := by
  intro j
  induction j with
  | zero =>
    intro i
    exact ⟨fun z => absurd (show (1 : Int32) = 0 from z) (by decide), fun ⟨i', a, b, _⟩ => by omega⟩
  | succ j ih =>
    intro i
    rw [k_fi_s]
    by_cases g : k_fb I m v i
    · rw [if_pos g]
      exact ⟨fun _ => ⟨i, Nat.le_refl _, by omega, g⟩, fun _ => rfl⟩
    · rw [if_neg g, ih]
      constructor
      · rintro ⟨i', a, b, c⟩; exact ⟨i', by omega, by omega, c⟩
      · rintro ⟨i', a, b, c⟩
        by_cases z : i' = i
        · subst z; exact absurd c g
        · exact ⟨i', by omega, by omega, c⟩
theorem m_so_0 {K : hI} {n : Nat} : ∀ j i, m_so K n j i = 0 ↔ ∃ i', i ≤ i' ∧ i' < i + j ∧ ¬ K 150 i' = 0 ∧ K 149 (3 * i') = Int32.ofNat n ∧ m_soP K i' := by
  intro j
  induction j with
  | zero =>
    intro i
    exact ⟨fun z => absurd (show (1 : Int32) = 0 from z) (by decide), fun ⟨i', a, b, _⟩ => by omega⟩
  | succ j ih =>
    intro i
    rw [m_so_s]
    have up : (¬ (¬ K 150 i = 0 ∧ K 149 (3 * i) = Int32.ofNat n ∧ m_soP K i)) → (m_so K n j (i + 1) = 0 ↔ ∃ i', i ≤ i' ∧ i' < i + (j + 1) ∧ ¬ K 150 i' = 0 ∧ K 149 (3 * i') = Int32.ofNat n ∧ m_soP K i') := by
      intro g
      rw [ih]
      constructor
      · rintro ⟨i', a, b, c⟩; exact ⟨i', by omega, by omega, c⟩
      · rintro ⟨i', a, b, c⟩
        by_cases z : i' = i
        · subst z; exact absurd c g
        · exact ⟨i', by omega, by omega, c⟩
    by_cases g1 : K 150 i = 0
    · rw [if_pos g1]; exact up (fun z => z.1 g1)
    · rw [if_neg g1]
      by_cases g2 : K 149 (3 * i) = Int32.ofNat n
      · rw [if_pos g2]
        by_cases g3 : m_soP K i
        · rw [@if_pos _ (m_soD K i) g3]
          exact ⟨fun _ => ⟨i, Nat.le_refl _, by omega, g1, g2, g3⟩, fun _ => rfl⟩
        · rw [@if_neg _ (m_soD K i) g3]; exact up (fun z => g3 z.2.2)
      · rw [if_neg g2]; exact up (fun z => g2 z.2.1)
theorem m_ft_0 {N : Nat → Nat} {Kc : Nat} : ∀ j n p, (m_ft N Kc j n p).1 = 0 ↔ ∃ c, c < j ∧ m_so (m_days N 1 (c + 1) p).1 (n + c) Kc 0 = 0 := by
  intro j
  induction j with
  | zero =>
    intro n p
    exact ⟨fun z => absurd (show (1 : Int32) = 0 from z) (by decide), fun ⟨c, a, _⟩ => absurd a (Nat.not_lt_zero c)⟩
  | succ j ih =>
    intro n p
    have fd : ∀ c, m_days N 1 (c + 1) (m_day N 1 p) = m_days N 1 (c + 1 + 1) p := fun c => by
      rw [show c + 1 + 1 = 1 + (c + 1) by omega]; exact (mdays_add (N := N) (p := p) (a := 1) (c + 1)).symm
    rw [m_ft_s]
    by_cases g : m_so (m_day N 1 p).1 n Kc 0 = 0
    · rw [if_pos g]
      exact ⟨fun _ => ⟨0, by omega, g⟩, fun _ => rfl⟩
    · rw [if_neg g, ih]
      constructor
      · rintro ⟨c, a, b⟩
        rw [fd, show n + 1 + c = n + (c + 1) by omega] at b
        exact ⟨c + 1, by omega, b⟩
      · rintro ⟨c, a, b⟩
        cases c with
        | zero => exact absurd b g
        | succ c =>
          refine ⟨c, by omega, ?_⟩
          rw [fd, show n + 1 + c = n + (c + 1) by omega]; exact b
theorem ft_tM {N : Nat → Nat} {Kc : Nat} : ∀ j n (p : hI × hJ), tM p.1 (m_ft N Kc j n p).2.1 ∧ (p.1 110 64 = 0 → ∀ a i, a ≠ 136 → a ≠ 137 → (m_ft N Kc j n p).2.2 a i = p.2 a i) := by
  intro j
  induction j with
  | zero => intro n p; exact ⟨tM_rf _, fun _ _ _ _ _ => rfl⟩
  | succ j ih =>
    intro n p
    rw [m_ft_s]
    split
    · exact ⟨tM_day, fun z a i h1 h2 => jM_day a i h1 h2 (Or.inr z)⟩
    · obtain ⟨g1, g2⟩ := ih (n + 1) (m_day N 1 p)
      exact ⟨tM_tr tM_day g1, fun z a i' h1 h2 => (g2 ((simF_day N 1 p 110 64 (by omega) (by omega)).trans z) a i' h1 h2).trans (jM_day a i' h1 h2 (Or.inr z))⟩
theorem m_le_64 {K : hI} {m e : Int32} : m_le K m e 110 64 = 0 := (am_u_nk (by decide)).trans ((am_u_nk (by decide)).trans (m_pt110 (m_af 1 K)).1)
theorem fits_tM {N : Nat → Nat} {Kc m e : Nat} {p : hI × hJ} : tM p.1 (m_fits N Kc m e p).2.1 ∧ (∀ a i, a ≠ 136 → a ≠ 137 → (m_fits N Kc m e p).2.2 a i = p.2 a i) := by
  obtain ⟨g1, g2⟩ := ft_tM (N := N) (Kc := Kc) 60 1 (m_le p.1 (Int32.ofNat m) (Int32.ofNat e), p.2)
  exact ⟨tM_tr tM_le g1, g2 (m_le_64 (K := p.1) (m := Int32.ofNat m) (e := Int32.ofNat e))⟩
theorem so_x {P : Prop} {x : Int32} (h : x = 0 ∨ x = 1) (d : Decidable P) : ((P ∧ ¬ x = Int32.ofNat 1) ∨ (¬ P ∧ x = Int32.ofNat 1)) ↔ ¬ (if P then (1 : Int32) else 0) = x := by
  have e1 : Int32.ofNat 1 = (1 : Int32) := rfl
  rw [e1]
  by_cases p : P
  · rw [if_pos p]
    exact ⟨fun z => z.elim (fun y => fun w => y.2 w.symm) (fun y => absurd p y.1), fun z => Or.inl ⟨p, fun w => z w.symm⟩⟩
  · rw [if_neg p]
    rcases h with rfl | rfl
    · exact ⟨fun z => z.elim (fun y => absurd y.1 p) (fun y => absurd y.2 (by decide)), fun z => absurd rfl z⟩
    · exact ⟨fun _ => by decide, fun _ => Or.inr ⟨p, rfl⟩⟩
theorem fits_0 {T O q Kc m e : Nat} {N : Nat → Nat} {I K : hI} {L : hJ} (a : rA T O N I K) (r : rE q I K) (hK : Kc ≤ q) (s : stk Kc I K) (lb : ∀ s, s < 5 → ∀ d, 1 ≤ d → d ≤ 60 → (k_lb I m e s (Int32.ofNat d) ↔ RL N K m e s d)) : ((m_fits N Kc m e (K, L)).1 = 0 ↔ k_fi I m e Kc 0 = 0) := by
  have q24 := r.1
  have row : ∀ c b i, b = 149 ∨ b = 150 → (m_days N 1 c (m_le K (Int32.ofNat m) (Int32.ofNat e), L)).1 b i = K b i := fun c b i hb => by
    have t : tM K (m_days N 1 c (m_le K (Int32.ofNat m) (Int32.ofNat e), L)).1 := tM_tr tM_le (tM_days (p := (_, _)) c)
    exact t.2 b i (by omega) (by omega)
  have one : ∀ i c, i < Kc → c < 60 → I 92 i = Int32.ofInt (-1) → I 89 i = Int32.ofNat (c + 1) → (m_soP (m_days N 1 (c + 1) (m_le K (Int32.ofNat m) (Int32.ofNat e), L)).1 i ↔ ¬ (if k_lb I m e (nn (I 90 i)) (I 89 i) then (1 : Int32) else 0) = I 91 i) := by
    intro i c hi hc h92 h89
    rcases r.2.2.2.2.2 i (by omega) with ⟨a1, a2, a3, a4, a5, a6, a7, a8⟩ | ⟨a1, _⟩
    · unfold m_soP
      rw [row (c + 1) 149 _ (Or.inl rfl), row (c + 1) 149 _ (Or.inl rfl), a7, a8, h89, RL_l a a2.2, ← lb _ a2.2 (c + 1) (by omega) (by omega)]
      exact so_x a5 inferInstance
    · exact absurd h92 (okn_n1 a1 (by omega))
  unfold m_fits
  rw [m_ft_0, k_fi_0]
  constructor
  · rintro ⟨c, hc, so⟩
    obtain ⟨i, _, hi, s1, s2, s3⟩ := (m_so_0 _ _).mp so
    rw [row (c + 1) 150 _ (Or.inr rfl)] at s1
    rw [row (c + 1) 149 _ (Or.inl rfl)] at s2
    refine ⟨i, Nat.zero_le _, hi, ?_⟩
    rcases r.2.2.2.2.2 i (by omega) with ⟨a1, a2, a3, a4, a5, a6, a7, a8⟩ | ⟨a1, a2, a3⟩
    · refine ⟨⟨(s i (by omega)).mpr s1, a1⟩, (one i c (by omega) hc a1 ?_).mp s3⟩
      rw [← a6, s2, Nat.add_comm]
    · rw [a2] at s2
      have := lt_m1
      rw [s2] at this
      exact absurd ((am_ltN (x := 1 + c) (y := 0) (by omega) (by omega)).mp this) (Nat.not_lt_zero _)
  · rintro ⟨i, _, hi, ⟨f1, f2⟩, f3⟩
    rcases r.2.2.2.2.2 i (by omega) with ⟨a1, a2, a3, a4, a5, a6, a7, a8⟩ | ⟨a1, _⟩
    · have a32 := a3.2
      have e89 : I 89 i = Int32.ofNat (nn (I 89 i) - 1 + 1) := by rw [show nn (I 89 i) - 1 + 1 = nn (I 89 i) by omega]; exact a3.1
      refine ⟨nn (I 89 i) - 1, by omega, (m_so_0 _ _).mpr ⟨i, Nat.zero_le _, hi, ?_, ?_, ?_⟩⟩
      · rw [row _ 150 _ (Or.inr rfl)]; exact (s i (by omega)).mp f1
      · rw [row _ 149 _ (Or.inl rfl), a6, Nat.add_comm]; exact e89
      · exact (one i (nn (I 89 i) - 1) (by omega) (by omega) f2 e89).mpr f3
    · exact absurd f2 (okn_n1 a1 (by omega))
theorem eb_ok {T O q Kc m : Nat} {N : Nat → Nat} {I K : hI} {L : hJ} (a : rA T O N I K) (r : rE q I K) (hK : Kc ≤ q) (s : stk Kc I K) (lb : ∀ e, e < 10 → ∀ s, s < 5 → ∀ d, 1 ≤ d → d ≤ 60 → (k_lb I m e s (Int32.ofNat d) ↔ RL N K m e s d)) : ∀ n, n ≤ 10 → (m_ebL N Kc m n (Int32.ofNat 0, K, L)).1 = k_ft I m Kc n ∧ tM K (m_ebL N Kc m n (Int32.ofNat 0, K, L)).2.1 ∧ (∀ a i, a ≠ 136 → a ≠ 137 → (m_ebL N Kc m n (Int32.ofNat 0, K, L)).2.2 a i = L a i) := by
  intro n
  induction n with
  | zero => intro _; exact ⟨rfl, tM_rf _, fun _ _ _ _ => rfl⟩
  | succ n ih =>
    intro hn
    obtain ⟨i1, i2, i3⟩ := ih (by omega)
    have es : m_ebL N Kc m (n + 1) (Int32.ofNat 0, K, L) = m_ebS N Kc m n (m_ebL N Kc m n (Int32.ofNat 0, K, L)) := rfl
    rw [es]
    revert i1 i2 i3
    generalize m_ebL N Kc m n (Int32.ofNat 0, K, L) = Q
    intro i1 i2 i3
    have a1 : rA T O N I Q.2.1 := rA_c (fun _ _ _ _ => rfl) (fun a i x => i2.2 a i (by omega) (by omega)) a
    have r1 : rE q I Q.2.1 := rE_c (fun _ _ _ _ => rfl) (fun a i x => i2.2 a i (by omega) (by omega)) r
    have s1 : stk Kc I Q.2.1 := fun i hi => by rw [i2.2 150 i (by omega) (by omega)]; exact s i hi
    have f := fits_0 (L := Q.2.2) (e := n) a1 r1 hK s1 (fun s hs d d1 d2 => by rw [RL_c a a1 hs]; exact lb n (by omega) s hs d d1 d2)
    obtain ⟨t1, t2⟩ := fits_tM (N := N) (Kc := Kc) (m := m) (e := n) (p := Q.2)
    refine ⟨?_, tM_tr i2 t1, fun a i h1 h2 => (t2 a i h1 h2).trans (i3 a i h1 h2)⟩
    show Q.1 ||| (if (m_fits N Kc m n Q.2).1 = 0 then Int32.ofNat 0 else Int32.ofNat (2 ^ n)) = _
    rw [k_ft_s, i1]
    by_cases g : k_fi I m n Kc 0 = 0
    · rw [if_pos g, if_pos (f.mpr g)]; exact Int32.or_zero
    · rw [if_neg g, if_neg (fun z => g (f.mp z))]
/-- what a reckoning by trials leaves as it is -/
def tQ (K K1 : hI) : Prop := (∀ a i, (138 ≤ a ∧ a ≤ 140 ∧ i < 8) ∨ (141 ≤ a ∧ a ≤ 143 ∧ i < 5) ∨ (144 ≤ a ∧ a ≤ 145 ∧ i = 0) → K1 a i = K a i) ∧ (∀ a i, a < 138 ∨ 145 < a → a ≠ 150 → a ≠ 151 → ¬ (a = 110 ∧ (i = 2 ∨ i = 53 ∨ (63 ≤ i ∧ i ≤ 72))) → K1 a i = K a i)
theorem tQ_t {K K1 : hI} (h : tM K K1) : tQ K K1 := ⟨h.1, fun a i x _ _ z => h.2 a i x z⟩
theorem tQ_tr {K K1 K2 : hI} (h : tQ K K1) (g : tQ K1 K2) : tQ K K2 := ⟨fun a i x => (g.1 a i x).trans (h.1 a i x), fun a i x y z w => (g.2 a i x y z w).trans (h.2 a i x y z w)⟩
theorem tQ_n {K K1 : hI} (h : ∀ a i, a ≠ 150 → a ≠ 151 → K1 a i = K a i) : tQ K K1 := ⟨fun a i x => h a i (by omega) (by omega), fun a i x y z _ => h a i y z⟩
theorem kM_tQ {K K1 : hI} (h : tQ K K1) : kM K K1 := fun a i g => h.2 a i (by omega) (by omega) (by omega) (by omega)
theorem REL_tq {T O : Nat} {N : Nat → Nat} {u q : Nat} {I K K1 : hI} {J L L1 : hJ} (h : REL T O N u q I J K L) (m : tQ K K1) (l1 : L1 110 62 = L 110 62) (l2 : L1 110 89 = L 110 89) : REL T O N u q I J K1 L1 := by
  have t : tM K (fun a i => if a = 150 ∨ a = 151 then K a i else K1 a i) := by
    refine ⟨fun a i x => ?_, fun a i x y => ?_⟩
    · show (if a = 150 ∨ a = 151 then K a i else K1 a i) = _
      rw [if_neg (by omega)]; exact m.1 a i x
    · show (if a = 150 ∨ a = 151 then K a i else K1 a i) = _
      by_cases g : a = 150 ∨ a = 151
      · rw [if_pos g]
      · rw [if_neg g]; exact m.2 a i x (fun z => g (Or.inl z)) (fun z => g (Or.inr z)) y
  have e : ∀ a i, a ≠ 150 → a ≠ 151 → K1 a i = (fun a i => if a = 150 ∨ a = 151 then K a i else K1 a i) a i := fun a i x y => by
    show _ = (if a = 150 ∨ a = 151 then K a i else K1 a i)
    rw [if_neg (by omega)]
  have h1 := REL_t h (fun _ _ _ => rfl) t rfl rfl l1 l2
  revert h1 e
  generalize (fun a i => if a = 150 ∨ a = 151 then K a i else K1 a i) = K2
  intro e h1
  obtain ⟨a, b, cc, d, ee, g, f⟩ := h1
  exact ⟨rA_c (fun _ _ _ _ => rfl) (fun a i x => e a i (by omega) (by omega)) a, rB_c (fun _ _ _ _ => rfl) (fun a i x y => e a i (by omega) (by omega)) rfl rfl b, rC_c (fun _ _ _ => rfl) (fun a i x => e a i (by omega) (by omega)) rfl rfl cc, rD_c (fun _ _ _ _ => rfl) (fun a i x => e a i (by omega) (by omega)) d, rE_c (fun _ _ _ _ => rfl) (fun a i x => e a i (by omega) (by omega)) ee, rG_c (fun _ _ _ => rfl) (fun a i x => e a i (by omega) (by omega)) g, rF_c a (fun _ _ _ => rfl) (fun a i x => e a i (by omega) (by omega)) f⟩
/-- what the class has when it has worked out, and the reference's evens on it -/
theorem ev_ok {T O u q m Kc : Nat} {N : Nat → Nat} {I : hI} {J : hJ} (h : REL T O N u q I J I J) (hm : m < N 0) (hK : Kc ≤ q) : ∃ A JA, k_evI T N m Kc (I, J) = A ∧ (k_woP T N m (I, J)).2 = JA ∧ REL T O N u q A JA A JA ∧ (∀ e, e < 10 → ∀ s, s < 5 → ∀ d, 1 ≤ d → d ≤ 60 → (k_lb A m e s (Int32.ofNat d) ↔ RL N A m e s d)) ∧ (m_eb N Kc m (m_z A, JA)).1 = k_ft A m Kc 10 ∧ tQ A (m_eb N Kc m (m_z A, JA)).2.1 ∧ (∀ a i, a ≠ 136 → a ≠ 137 → (m_eb N Kc m (m_z A, JA)).2.2 a i = JA a i) := by
  refine ⟨_, _, rfl, rfl, ?_⟩
  obtain ⟨w1, w2, w3⟩ := wo_ok (p := (I, J)) h.1 h.2.2.2.2.2.2 hm
  have f0 : ∀ a i, (a < 77 ∨ 87 < a) → a ≠ 95 → a ≠ 94 → (k_woP T N m (I, J)).1 a i = I a i := fun a i h1 h2 h3 => k_woP_f a i h1 h2 h3
  have eE : k_evI T N m Kc (I, J) = k_ssB Kc (k_ssA Kc (k_woP T N m (I, J)).1) := rfl
  have f1 : ∀ a, a ≠ 93 → k_evI T N m Kc (I, J) a = (k_woP T N m (I, J)).1 a := fun a h => k_ss_ne h
  have fA : ∀ a, a ≠ 93 → k_ssA Kc (k_woP T N m (I, J)).1 a = (k_woP T N m (I, J)).1 a := fun a h => k_ssA_ne h
  have sA : ∀ r, r < Kc → k_ssA Kc (k_woP T N m (I, J)).1 93 r = 0 := ssA_f Kc
  revert w1 w2 w3 f0 eE f1 fA sA
  generalize k_evI T N m Kc (I, J) = A
  generalize k_ssA Kc (k_woP T N m (I, J)).1 = B
  generalize k_woP T N m (I, J) = Y
  intro w1 w2 w3 f0 eE f1 fA sA
  have f2 : ∀ a i, (a < 77 ∨ 87 < a) → a ≠ 93 → a ≠ 94 → a ≠ 95 → A a i = I a i := fun a i h1 h2 h3 h4 => (congrFun (f1 a h2) i).trans (f0 a i h1 h4 h3)
  obtain ⟨a, b, cc, d, e, g, f⟩ := h
  have aA : rA T O N A A := rA_c (fun a i x y => f2 a i (by omega) (by omega) (by omega) (by omega)) (fun a i x => f2 a i (by omega) (by omega) (by omega) (by omega)) a
  have eA : rE q A A := rE_c (fun a i x y => f2 a i (by omega) (by omega) (by omega) (by omega)) (fun a i x => f2 a i (by omega) (by omega) (by omega) (by omega)) e
  have fF : rF N A A := rF_c (I := Y.1) (K := I) (rA_c (fun a i x y => f0 a i (by omega) (by omega) (by omega)) (fun _ _ _ => rfl) a) (fun a i x => congrFun (f1 a (by omega)) i) (fun a i x => f2 a i (by omega) (by omega) (by omega) (by omega)) w1
  have hR : REL T O N u q A Y.2 A Y.2 := ⟨aA, rB_c (fun a i x y => f2 a i (by omega) (by omega) (by omega) (by omega)) (fun a i x y => f2 a i (by omega) (by omega) (by omega) (by omega)) (w3 _ _ (by decide) (by decide) (by decide)) (w3 _ _ (by decide) (by decide) (by decide)) b, rC_c (fun a i x => f2 a i (by omega) (by omega) (by omega) (by omega)) (fun a i x => f2 a i (by omega) (by omega) (by omega) (by omega)) (w3 _ _ (by decide) (by decide) (by decide)) (w3 _ _ (by decide) (by decide) (by decide)) cc, rD_c (fun a i x y => f2 a i (by omega) (by omega) (by omega) (by omega)) (fun a i x => f2 a i (by omega) (by omega) (by omega) (by omega)) d, eA, rG_c (fun a i x => f2 a i (by omega) (by omega) (by omega) (by omega)) (fun a i x => f2 a i (by omega) (by omega) (by omega) (by omega)) g, fF⟩
  have lb := fF.1 m hm (by rw [congrFun (f1 94 (by decide)) m]; exact w2)
  refine ⟨hR, lb, ?_⟩
  have zz : ∀ a i, ¬ (a = 110 ∧ i = 2) → m_z A a i = A a i := fun a i h => by unfold m_z am_u; rw [if_neg h]
  have k0 : ∀ a i, a ≠ 150 → ¬ (a = 110 ∧ i = 2) → m_eb0 Kc (m_z A) a i = A a i := fun a i h1 h2 => (eb0_n h1).trans (zz a i h2)
  have st : stk Kc A (m_eb0 Kc (m_z A)) := by
    rw [show m_eb0 Kc (m_z A) = m_ebB Kc (m_ebA Kc (m_z A)) from rfl]
    have eB : rE q B (m_ebA Kc (m_z A)) := rE_c (fun a i x y => (congrFun (fA a (by omega)) i).trans (f0 a i (by omega) (by omega) (by omega))) (fun a i x => (ebA_n (by omega) Kc).trans ((zz a i (by omega)).trans (f2 a i (by omega) (by omega) (by omega) (by omega)))) e
    have s0 : stk Kc B (m_ebA Kc (m_z A)) := fun i hi => by
      rw [sA i hi, ebA_f Kc i hi]
      exact ⟨fun _ => by decide, fun _ => rfl⟩
    have s1 := ss_eq hK Kc B (m_ebA Kc (m_z A)) (Nat.le_refl _) eB s0
    rw [← eE] at s1; exact s1
  have a0 : rA T O N A (m_eb0 Kc (m_z A)) := rA_c (fun _ _ _ _ => rfl) (fun a i x => k0 a i (by omega) (by omega)) aA
  have e0 : rE q A (m_eb0 Kc (m_z A)) := rE_c (fun _ _ _ _ => rfl) (fun a i x => k0 a i (by omega) (by omega)) eA
  obtain ⟨o1, o2, o3⟩ := eb_ok (L := Y.2) a0 e0 hK st (fun e he s hs d d1 d2 => by rw [RL_c aA a0 hs]; exact lb e he s hs d d1 d2) 10 (Nat.le_refl _)
  have t0 : tQ A (m_eb0 Kc (m_z A)) := tQ_tr (tQ_t tM_z) (tQ_n (fun a i h1 _ => eb0_n h1))
  exact ⟨o1, tQ_tr t0 (tQ_t o2), o3⟩
theorem ev_vok {T m Kc : Nat} {N : Nat → Nat} {I : hI} {J : hJ} (v : vok I Kc) : vok (k_evI T N m Kc (I, J)) Kc := vok_c (fun a i h => (congrFun (k_ss_ne (by omega)) i).trans (k_woP_f a i (by omega) (by omega) (by omega))) v
theorem ebL_tM {N : Nat → Nat} {Kc m : Nat} {p : Int32 × hI × hJ} : ∀ n, tM p.2.1 (m_ebL N Kc m n p).2.1 ∧ (∀ a i, a ≠ 136 → a ≠ 137 → (m_ebL N Kc m n p).2.2 a i = p.2.2 a i) := by
  intro n
  induction n with
  | zero => exact ⟨tM_rf _, fun _ _ _ _ => rfl⟩
  | succ n ih =>
    obtain ⟨t1, t2⟩ := fits_tM (N := N) (Kc := Kc) (m := m) (e := n) (p := (m_ebL N Kc m n p).2)
    exact ⟨tM_tr ih.1 t1, fun a i h1 h2 => (t2 a i h1 h2).trans (ih.2 a i h1 h2)⟩
theorem eb_tQ {N : Nat → Nat} {Kc m : Nat} {p : hI × hJ} : tQ p.1 (m_eb N Kc m p).2.1 ∧ (∀ a i, a ≠ 136 → a ≠ 137 → (m_eb N Kc m p).2.2 a i = p.2 a i) := by
  obtain ⟨t1, t2⟩ := ebL_tM (N := N) (Kc := Kc) (m := m) (p := (Int32.ofNat 0, m_eb0 Kc p.1, p.2)) 10
  exact ⟨tQ_tr (tQ_n (fun a i h1 _ => eb0_n h1)) (tQ_t t1), t2⟩
theorem op_evens (x : Int32) : OPok 150 275 [.int x] := by
  rintro I J R ⟨T, O, N, u, q, h, r0, r2⟩
  obtain ⟨hT, _⟩ := rA_hT h.1
  obtain ⟨t, m0, l0⟩ := rA_ctk h.1
  have tk := h.1.2.2.2.2.1
  by_cases c : ¬ x < 0 ∧ x < I (T + 1) 1
  · obtain ⟨m, hm, rfl⟩ := am_oneN m0 (by omega) c
    obtain ⟨Kc, k1, k2, k3, k4⟩ := rE_K h.2.2.2.2.1
    have cls := d_evens (k := 20) (J := J) hT r0 t m0 l0 k3 k2 hm (by omega)
    obtain ⟨A, JA, e1, e2, hA, lb, o1, o2, o3⟩ := ev_ok h hm k1
    rw [e1, e2] at cls
    have vA : vok A Kc := by rw [← e1]; exact ev_vok k4
    have rf := c_evens (k := 20) (J := JA) (R := k_woR R I T m) hA.1.2.2.2.2.1 vA hm (by omega)
    have tq : tQ A (m_pt (m_eb N Kc m (m_z A, JA)).2.1) := tQ_tr o2 (tQ_t tM_pt)
    refine op_mk (T := T) (O := O) (N := N) (u := u) (q := q) cls rf (by rw [o1]) (kM_tQ tq) ⟨o3 _ _ (by decide) (by decide), o3 _ _ (by decide) (by decide)⟩ (REL_tq hA tq (o3 _ _ (by decide) (by decide)) (o3 _ _ (by decide) (by decide))) (k_woR_0 r0) ?_
    unfold k_woR; split
    · exact (am_u_na (by decide)).trans r2
    · exact r2
  · have e12 : I 110 12 = I (T + 1) 1 := tk.2.1.1.trans m0.symm
    exact op_same h r0 r2 (d_evens_no hT r0 c (by omega)) (c_evens_no (by rw [e12]; exact c) (by omega)) rfl kM_z tM_z
