/-! Calls alike (nineteen): what would be lost, worked out. -/
theorem sv_2 {T s : Nat} {I : hI} (h : I 81 s = Int32.ofNat 2) : ∀ n, k_svL T 77 n I 81 s = Int32.ofNat 2 := by
  intro n
  induction n with
  | zero => exact h
  | succ n ih =>
    show k_svS T 77 n (k_svL T 77 n I) 81 s = _
    revert ih
    generalize k_svL T 77 n I = X
    intro ih
    by_cases c : k_svP X T 77 n
    · by_cases w : X 84 8 = Int32.ofInt (-1) ∨ X 84 8 = Int32.ofNat (nn (X (T + 14) n))
      · by_cases g : X (77 + 4) (nn (X (T + 14) n)) = 0
        · rw [k_svS_s c w g, am_u_na (by decide), am_u_na (by decide)]
          have e : s ≠ nn (X (T + 14) n) := fun e => by rw [← e] at g; rw [ih] at g; exact absurd g (by decide)
          rw [am_u_nk e]; exact ih
        · rw [k_svS_r c w g, am_u_na (by decide)]; exact ih
      · rw [k_svS_w w]; exact ih
    · rw [k_svS_0 c]; exact ih
theorem sv_hi {T s : Nat} {N : Nat → Nat} {I : hI} (hT : T = 9 ∨ T = 36) (q : ∀ v, v < N 3 → nn (I (T + 14) v) < N 2) (hs : N 2 ≤ s) : ∀ n, n ≤ N 3 → k_svL T 77 n I 81 s = I 81 s := by
  intro n
  induction n with
  | zero => intro _; rfl
  | succ n ih =>
    intro hn
    have ih := ih (by omega)
    have eT : k_svL T 77 n I (T + 14) n = I (T + 14) n := k_svL_ne (by omega) (by omega) (by omega)
    have hq := q n (by omega)
    rw [← eT] at hq
    show k_svS T 77 n (k_svL T 77 n I) 81 s = _
    revert ih hq
    generalize k_svL T 77 n I = X
    intro ih hq
    by_cases c : k_svP X T 77 n
    · by_cases w : X 84 8 = Int32.ofInt (-1) ∨ X 84 8 = Int32.ofNat (nn (X (T + 14) n))
      · by_cases g : X (77 + 4) (nn (X (T + 14) n)) = 0
        · rw [k_svS_s c w g, am_u_na (by decide), am_u_na (by decide), am_u_nk (by omega)]; exact ih
        · rw [k_svS_r c w g, am_u_na (by decide)]; exact ih
      · rw [k_svS_w w]; exact ih
    · rw [k_svS_0 c]; exact ih
theorem day_2 {T s : Nat} {N : Nat → Nat} {p : hI × hJ} (h : p.1 81 s = Int32.ofNat 2) : (k_day T 77 N p).1 81 s = Int32.ofNat 2 := by
  have e := sv_2 (T := T) (s := s) (I := (k_p1 T 77 (N 4) (N 1) p).1) (by rw [p1_n (by decide) (by decide)]; exact h) (N 3)
  rw [day_81 (by rw [e]; decide), e]
theorem days_2 {T s : Nat} {N : Nat → Nat} {p : hI × hJ} (h : p.1 81 s = Int32.ofNat 2) : ∀ n, (k_days T 77 N n p).1 81 s = Int32.ofNat 2 := by
  intro n
  induction n with
  | zero => exact h
  | succ n ih => exact day_2 ih
theorem day_hi {T s : Nat} {N : Nat → Nat} {p : hI × hJ} (hT : T = 9 ∨ T = 36) (q : tqs p.1 T N) (hs : N 2 ≤ s) (h : p.1 81 s = 0) : (k_day T 77 N p).1 81 s = 0 := by
  have e := sv_hi (s := s) (N := N) (I := (k_p1 T 77 (N 4) (N 1) p).1) hT (fun v hv => by rw [p1_n (by omega) (by omega)]; exact (q.2.2.2.2.1 v hv).1.2) hs (N 3) (Nat.le_refl _)
  rw [p1_n (a := 81) (by decide) (by decide), h] at e
  rw [day_81 (by rw [e]; decide), e]
theorem days_hi {T s : Nat} {N : Nat → Nat} {p : hI × hJ} (hT : T = 9 ∨ T = 36) (q : tqs p.1 T N) (hs : N 2 ≤ s) (h : p.1 81 s = 0) : ∀ n, (k_days T 77 N n p).1 81 s = 0 := by
  intro n
  induction n with
  | zero => exact h
  | succ n ih => exact day_hi hT (tqs_c (fun a i u v => sF_days (p := p) a i (by omega) (by omega) (by omega)) q) hs ih
theorem days_add {T S : Nat} {N : Nat → Nat} {p : hI × hJ} {a : Nat} : ∀ b, k_days T S N (a + b) p = k_days T S N b (k_days T S N a p) := by
  intro b
  induction b with
  | zero => rfl
  | succ b ih =>
    show k_day T S N (k_days T S N (a + b) p) = k_day T S N (k_days T S N b (k_days T S N a p))
    rw [ih]
theorem mdays_add {N : Nat → Nat} {p : hI × hJ} {a : Nat} : ∀ b, m_days N 1 (a + b) p = m_days N 1 b (m_days N 1 a p) := by
  intro b
  induction b with
  | zero => rfl
  | succ b ih =>
    show m_day N 1 (m_days N 1 (a + b) p) = m_day N 1 (m_days N 1 b (m_days N 1 a p))
    rw [ih]
/-- lost, told by any heap that is alike -/
theorem RL_s {T O m e s d : Nat} {N : Nat → Nat} {I K : hI} {p : hI × hJ} {L : hJ} (a : rA T O N I K) (hs : s < 5) (h : sim (Int32.ofInt (-1)) T 77 1 N p (m_days N 1 d (m_le K (Int32.ofNat m) (Int32.ofNat e), L))) : (p.1 81 s = Int32.ofNat 2 ↔ RL N K m e s d) := by
  obtain ⟨hT, _⟩ := rA_hT a
  have e0 := (h.2.1.2.2.1 s hs (Or.inl rfl)).1
  have e1 := ((sim_days hT (Or.inr (Or.inr rfl)) (sim_wo (m := m) (e := e) (J := fun _ _ => 0) (L := L) a) d).2.1.2.2.1 s hs (Or.inl rfl)).1
  have e2 := ((sim_days hT (Or.inr (Or.inr rfl)) (sim_wo (m := m) (e := e) (J := fun _ _ => 0) (L := fun _ _ => 0) a) d).2.1.2.2.1 s hs (Or.inl rfl)).1
  rw [show 5 * 1 + s = 5 + s by omega] at e0 e1 e2
  unfold RL
  rw [← e2, e1, ← e0]
theorem RL_l {T O m e s d : Nat} {N : Nat → Nat} {I K : hI} {L : hJ} (a : rA T O N I K) (hs : s < 5) : ((m_days N 1 d (m_le K (Int32.ofNat m) (Int32.ofNat e), L)).1 141 (5 + s) = Int32.ofNat 2 ↔ RL N K m e s d) := by
  obtain ⟨hT, _⟩ := rA_hT a
  have s1 := sim_days hT (Or.inr (Or.inr rfl)) (sim_wo (m := m) (e := e) (J := fun _ _ => 0) (L := L) a) d
  have e1 := (s1.2.1.2.2.1 s hs (Or.inl rfl)).1
  rw [show 5 * 1 + s = 5 + s by omega] at e1
  rw [← RL_s a hs s1, e1]
theorem RL_k {T O m e s d : Nat} {N : Nat → Nat} {I K : hI} {J : hJ} (a : rA T O N I K) (hs : s < 5) : ((k_days T 77 N d (k_wo0 T N m e I, J)).1 81 s = Int32.ofNat 2 ↔ RL N K m e s d) := by
  obtain ⟨hT, _⟩ := rA_hT a
  exact RL_s (L := fun _ _ => 0) a hs (sim_days hT (Or.inr (Or.inr rfl)) (sim_wo a) d)
theorem wo0_n {T m e a : Nat} {N : Nat → Nat} {I : hI} (h : a ≠ 84) : k_wo0 T N m e I a = k_begin I 77 T (N 1) a := (am_u_ne h).trans ((am_u_ne h).trans (k_db_n a h))
theorem wo0_81 {T m e s : Nat} {N : Nat → Nat} {I : hI} (hs : s < 5) : k_wo0 T N m e I 81 s = 0 := by
  rw [wo0_n (by decide)]
  exact (k_be2_f (I := k_be1 (am_u (am_u I 77 0 (Int32.ofNat 0)) 77 2 (Int32.ofNat 0)) 77 T (N 1) 8) (S := 77) 5 s hs).1
theorem wo0_0 {T m e : Nat} {N : Nat → Nat} {I : hI} : k_wo0 T N m e I 77 0 = Int32.ofNat 0 := by
  rw [wo0_n (by decide)]
  unfold k_begin
  rw [k_be2_ne (by omega), k_be1_ne (by omega), am_u_nk (by decide), am_u_at]
theorem wo0_f {T m e : Nat} {N : Nat → Nat} {I : hI} : ∀ a i, (a < 77 ∨ 87 < a) → k_wo0 T N m e I a i = I a i := fun a i h => by
  rw [wo0_n (by omega)]
  have g : sF 77 I (k_begin I 77 T (N 1)) := sF_begin
  exact g a i (by omega) (by omega) (by omega)
theorem RL_mono {T O m e s d d' : Nat} {N : Nat → Nat} {I K : hI} (a : rA T O N I K) (hs : s < 5) (h : RL N K m e s d) (g : d ≤ d') : RL N K m e s d' := by
  rw [← RL_k (J := fun _ _ => 0) a hs] at h ⊢
  obtain ⟨c, rfl⟩ : ∃ c, d' = d + c := ⟨d' - d, by omega⟩
  rw [days_add]
  exact days_2 h c
theorem RL_hi {T O m e s d : Nat} {N : Nat → Nat} {I K : hI} (a : rA T O N I K) (hs : s < 5) (g : N 2 ≤ s) : ¬ RL N K m e s d := by
  obtain ⟨hT, _⟩ := rA_hT a
  rw [← RL_k (J := fun _ _ => 0) a hs, days_hi hT (tqs_c (fun a i u v => wo0_f a i (by omega)) a.2.2.1) g (wo0_81 (m := m) (e := e) hs) d]
  decide
theorem RL_0 {T O m e s : Nat} {N : Nat → Nat} {I K : hI} (a : rA T O N I K) (hs : s < 5) : ¬ RL N K m e s 0 := by
  rw [← RL_k (J := fun _ _ => 0) a hs]
  show ¬ k_wo0 T N m e I 81 s = _
  rw [wo0_81 hs]; decide
/-- losses, noted -/
theorem nl_f {m e : Nat} {w : Int32} : ∀ n I, n ≤ 5 → (∀ s, s < n → k_nl 77 m e w n I 95 (k_cl m e s) = (if I 95 (k_cl m e s) = 0 ∧ I 81 s = Int32.ofNat 2 then w else I 95 (k_cl m e s))) ∧ (∀ c, (∀ s, s < n → c ≠ k_cl m e s) → k_nl 77 m e w n I 95 c = I 95 c) ∧ (∀ a i, a ≠ 95 → k_nl 77 m e w n I a i = I a i) := by
  intro n I
  induction n with
  | zero => intro _; exact ⟨fun s h => absurd h (Nat.not_lt_zero s), fun _ _ => rfl, fun _ _ _ => rfl⟩
  | succ n ih =>
    intro hn
    obtain ⟨i1, i2, i3⟩ := ih (by omega)
    have es : k_nl 77 m e w (n + 1) I = k_nlS 77 m e w n (k_nl 77 m e w n I) := rfl
    have cn : ∀ s, s < n → k_cl m e n ≠ k_cl m e s := fun s hs => by unfold k_cl; omega
    have j2 := i2 (k_cl m e n) cn
    have j3 := i3 81 n (by decide)
    rw [es]
    revert i1 i2 i3 j2 j3
    generalize k_nl 77 m e w n I = X
    intro i1 i2 i3 j2 j3
    by_cases g : X 95 (k_cl m e n) = 0 ∧ X (77 + 4) n = Int32.ofNat 2
    · rw [k_nl1 g.1 g.2]
      refine ⟨fun s hs => ?_, fun c hc => ?_, fun a i h => (am_u_na h).trans (i3 a i h)⟩
      · by_cases q : s = n
        · subst q
          rw [am_u_at, if_pos ⟨j2.symm.trans g.1, j3.symm.trans g.2⟩]
        · rw [am_u_nk (fun z => cn s (by omega) z.symm)]; exact i1 s (by omega)
      · rw [am_u_nk (hc n (by omega))]; exact i2 c (fun s hs => hc s (by omega))
    · have e2 : k_nlS 77 m e w n X = X := if_neg g
      rw [e2]
      refine ⟨fun s hs => ?_, fun c hc => i2 c (fun s hs => hc s (by omega)), i3⟩
      by_cases q : s = n
      · subst q
        rw [j2, if_neg (fun z => g ⟨j2.trans z.1, j3.trans z.2⟩)]
      · exact i1 s (by omega)
/-- what is noted by a day -/
def nt (N : Nat → Nat) (K : hI) (m e d0 : Nat) (A : hI) : Prop := ∀ s, s < 5 → (A 95 (k_cl m e s) = 0 ∧ ¬ RL N K m e s d0) ∨ ∃ d, 1 ≤ d ∧ d ≤ d0 ∧ A 95 (k_cl m e s) = Int32.ofNat d ∧ RL N K m e s d ∧ ¬ RL N K m e s (d - 1)
theorem nt_lb {T O m e : Nat} {N : Nat → Nat} {I K A : hI} (a : rA T O N I K) (h : nt N K m e 60 A) : ∀ s, s < 5 → ∀ d, 1 ≤ d → d ≤ 60 → (k_lb A m e s (Int32.ofNat d) ↔ RL N K m e s d) := by
  intro s hs d d1 d2
  rcases h s hs with ⟨h1, h2⟩ | ⟨d0, h1, h2, h3, h4, h5⟩
  · unfold k_lb
    rw [h1]
    exact ⟨fun z => absurd rfl z.1, fun z => absurd (RL_mono a hs z d2) h2⟩
  · unfold k_lb
    rw [h3, am_ltN (by omega) (by omega)]
    have z0 : ¬ Int32.ofNat d0 = 0 := fun z => by
      have := (am_eqN (x := d0) (y := 0) (by omega) (by omega)).mp z
      omega
    constructor
    · intro z
      exact RL_mono a hs h4 (by omega)
    · intro z
      refine ⟨z0, fun y => h5 (RL_mono a hs z (by omega))⟩
theorem wi_ok {T O m e : Nat} {N : Nat → Nat} {I K : hI} (a : rA T O N I K) (L : hJ) : ∀ (j d0 : Nat) (p : hI × hJ), d0 + j = 60 → sim (Int32.ofInt (-1)) T 77 1 N p (m_days N 1 d0 (m_le K (Int32.ofNat m) (Int32.ofNat e), L)) → trk T d0 N p → nt N K m e d0 p.1 → nt N K m e 60 (k_wiL T N m e j (d0 + 1) p).1 := by
  obtain ⟨hT, _⟩ := rA_hT a
  have h5 := a.2.1.1.2.2.1
  intro j
  induction j with
  | zero =>
    intro d0 p hd _ _ n
    obtain rfl : d0 = 60 := by omega
    exact n
  | succ j ih =>
    intro d0 p hd sm tr n
    rw [k_wiL_s]
    by_cases c : k_cs p.1 T 77 (N 2) 0 = 0
    · rw [if_pos c]
      intro s hs
      rcases n s hs with ⟨n1, n2⟩ | ⟨d, n1, n2, n3⟩
      · refine Or.inl ⟨n1, fun z => n2 ?_⟩
        have sd := sim_days hT (Or.inr (Or.inr rfl)) sm (j + 1)
        rw [← mdays_add, hd] at sd
        rw [← RL_s a hs sd, nsl_days hT sm.1.2.2.2.2.2.1 (j + 1) d0 p (by omega) sm.1.2.1 tr (nsl_of c)] at z
        exact (RL_s a hs sm).mp z
      · exact Or.inr ⟨d, n1, by omega, n3⟩
    · rw [if_neg c]
      have s1 := sim_day hT (Or.inr (Or.inr rfl)) sm
      have tr1 := trk_day hT tr
      have e95 : ∀ i, (k_day T 77 N p).1 95 i = p.1 95 i := fun i => sF_day 95 i (by omega) (by omega) (by omega)
      have r1 : ∀ s, s < 5 → ((k_day T 77 N p).1 81 s = Int32.ofNat 2 ↔ RL N K m e s (d0 + 1)) := fun s hs => RL_s (d := d0 + 1) a hs s1
      obtain ⟨f1, f2, f3⟩ := nl_f (m := m) (e := e) (w := Int32.ofNat (d0 + 1)) (N 2) (k_day T 77 N p).1 h5
      revert s1 tr1 e95 r1 f1 f2 f3
      generalize k_day T 77 N p = y
      intro s1 tr1 e95 r1 f1 f2 f3
      refine ih (d0 + 1) _ (by omega) ?_ ?_ ?_
      · refine ⟨dR_c hT (fun a i h => f3 a i (by omega)) (fun _ _ _ => rfl) s1.1, sR_c (fun a i u v => f3 a i (by omega)) (fun _ _ _ _ => rfl) s1.2.1, fun g => s1.2.2 ?_⟩
        exact (f3 84 4 (by decide)).symm.trans g
      · refine ⟨fun v hv => ?_, ?_⟩
        · show ¬ k_nl 77 m e (Int32.ofNat (d0 + 1)) (N 2) y.1 T 15 < k_nl 77 m e (Int32.ofNat (d0 + 1)) (N 2) y.1 (T + 15) v
          rw [f3 T 15 (by omega), f3 (T + 15) v (by omega)]; exact tr1.1 v hv
        · exact (f3 77 0 (by decide)).trans tr1.2
      · intro s hs
        show (k_nl 77 m e (Int32.ofNat (d0 + 1)) (N 2) y.1 95 (k_cl m e s) = 0 ∧ ¬ RL N K m e s (d0 + 1)) ∨ ∃ d, 1 ≤ d ∧ d ≤ d0 + 1 ∧ k_nl 77 m e (Int32.ofNat (d0 + 1)) (N 2) y.1 95 (k_cl m e s) = Int32.ofNat d ∧ RL N K m e s d ∧ ¬ RL N K m e s (d - 1)
        by_cases g : s < N 2
        · rw [f1 s g, e95]
          rcases n s hs with ⟨n1, n2⟩ | ⟨d, n1, n2, n3, n4, n5⟩
          · by_cases r : RL N K m e s (d0 + 1)
            · rw [if_pos ⟨n1, (r1 s hs).mpr r⟩]
              exact Or.inr ⟨d0 + 1, by omega, by omega, rfl, r, n2⟩
            · rw [if_neg (fun z => r ((r1 s hs).mp z.2))]
              exact Or.inl ⟨n1, r⟩
          · have z0 : ¬ p.1 95 (k_cl m e s) = 0 := fun z => by
              rw [n3] at z
              have := (am_eqN (x := d) (y := 0) (by omega) (by omega)).mp z
              omega
            rw [if_neg (fun z => z0 z.1)]
            exact Or.inr ⟨d, n1, by omega, n3, n4, n5⟩
        · rw [f2 _ (fun s' hs' => by unfold k_cl; omega), e95]
          rcases n s hs with ⟨n1, n2⟩ | ⟨d, n1, n2, n3, n4, n5⟩
          · exact Or.inl ⟨n1, RL_hi a hs (by omega)⟩
          · exact absurd n4 (RL_hi a hs (by omega))
theorem wi_95 {T m e c : Nat} {N : Nat → Nat} (h5 : N 2 ≤ 5) (hc : ∀ s, s < 5 → c ≠ k_cl m e s) : ∀ (j i : Nat) (p : hI × hJ), (k_wiL T N m e j i p).1 95 c = p.1 95 c := by
  intro j
  induction j with
  | zero => intro i p; rfl
  | succ j ih =>
    intro i p
    rw [k_wiL_s]
    split
    · rfl
    · rw [ih]
      refine ((nl_f (m := m) (e := e) (w := Int32.ofNat i) (N 2) (k_day T 77 N p).1 h5).2.1 c (fun s hs => hc s (by omega))).trans ?_
      exact sF_day 95 c (by omega) (by omega) (by omega)
theorem wi_J {T m e : Nat} {N : Nat → Nat} : ∀ (j i : Nat) (p : hI × hJ), ∀ a k, a ≠ 85 → a ≠ 86 → a ≠ 77 → (k_wiL T N m e j i p).2 a k = p.2 a k := by
  intro j
  induction j with
  | zero => intro i p a k _ _ _; rfl
  | succ j ih =>
    intro i p a k h1 h2 h3
    rw [k_wiL_s]
    split
    · rfl
    · rw [ih _ _ a k h1 h2 h3]
      exact jD_day (Or.inr (Or.inr rfl)) a k h1 h2 (by omega)
theorem wo1_ok {T O m e : Nat} {N : Nat → Nat} {K : hI} {p : hI × hJ} (a : rA T O N p.1 K) (h : ∀ s, s < 5 → p.1 95 (k_cl m e s) = 0) : nt N K m e 60 (k_wo1 T N m e p).1 ∧ (∀ c, (∀ s, s < 5 → c ≠ k_cl m e s) → (k_wo1 T N m e p).1 95 c = p.1 95 c) ∧ (∀ a i, a ≠ 85 → a ≠ 86 → a ≠ 77 → (k_wo1 T N m e p).2 a i = p.2 a i) := by
  obtain ⟨hT, _⟩ := rA_hT a
  obtain ⟨t, _, _⟩ := rA_ctk a
  refine ⟨?_, fun c hc => ?_, fun b i h1 h2 h3 => ?_⟩
  · refine wi_ok (I := p.1) a (fun _ _ => 0) 60 0 (k_wo0 T N m e p.1, am_u p.2 77 1 (p.1 T 17).toInt64) rfl (sim_wo a) ⟨fun v hv => ?_, wo0_0 (T := T) (m := m) (e := e) (N := N) (I := p.1)⟩ (fun s hs => Or.inl ⟨?_, RL_0 a hs⟩)
    · show ¬ k_wo0 T N m e p.1 T 15 < k_wo0 T N m e p.1 (T + 15) v
      rw [wo0_f T 15 (by omega), wo0_f (T + 15) v (by omega)]
      refine a.2.2.2.2.2.2.2.2.2 v ?_
      rw [t.2.1.2.2, nn_ofNat (by have := t.1.2.2; omega)]; exact hv
    · show k_wo0 T N m e p.1 95 (k_cl m e s) = 0
      rw [wo0_f 95 _ (by omega)]; exact h s hs
  · exact (wi_95 a.2.1.1.2.2.1 hc 60 1 _).trans (wo0_f (T := T) (m := m) (e := e) (N := N) (I := p.1) 95 c (by omega))
  · exact (wi_J 60 1 _ b i h1 h2 h3).trans (am_u_na h3)
theorem wol_ok {T O m : Nat} {N : Nat → Nat} {K : hI} {p : hI × hJ} (a : rA T O N p.1 K) (h : ∀ e, e < 10 → ∀ s, s < 5 → p.1 95 (k_cl m e s) = 0) : ∀ j, j ≤ 10 → (∀ e, e < j → nt N K m e 60 (k_wol T N m j p).1) ∧ (∀ e, j ≤ e → e < 10 → ∀ s, s < 5 → (k_wol T N m j p).1 95 (k_cl m e s) = 0) ∧ (∀ c, (∀ e, e < 10 → ∀ s, s < 5 → c ≠ k_cl m e s) → (k_wol T N m j p).1 95 c = p.1 95 c) ∧ (∀ a i, a ≠ 85 → a ≠ 86 → a ≠ 77 → (k_wol T N m j p).2 a i = p.2 a i) := by
  intro j
  induction j with
  | zero => intro _; exact ⟨fun e he => absurd he (Nat.not_lt_zero e), fun e _ he s hs => h e he s hs, fun _ _ => rfl, fun _ _ _ _ _ => rfl⟩
  | succ j ih =>
    intro hj
    obtain ⟨i1, i2, i3, i4⟩ := ih (by omega)
    have aj : rA T O N (k_wol T N m j p).1 K := rA_c (fun a i u v => wF_wol a i (by omega) (by omega)) (fun _ _ _ => rfl) a
    obtain ⟨o1, o2, o3⟩ := wo1_ok (m := m) (e := j) aj (i2 j (Nat.le_refl _) (by omega))
    rw [k_wol_s]
    revert i1 i2 i3 i4 aj o1 o2 o3
    generalize k_wol T N m j p = y
    intro i1 i2 i3 i4 aj o1 o2 o3
    have ne : ∀ e, e ≠ j → e < 10 → ∀ s, s < 5 → ∀ s', s' < 5 → k_cl m e s ≠ k_cl m j s' := fun e h1 h2 s hs s' hs' => by unfold k_cl; omega
    refine ⟨fun e he => ?_, fun e he h10 s hs => ?_, fun c hc => (o2 c (fun s hs => hc j (by omega) s hs)).trans (i3 c hc), fun a i h1 h2 h3 => (o3 a i h1 h2 h3).trans (i4 a i h1 h2 h3)⟩
    · by_cases q : e = j
      · subst q; exact o1
      · intro s hs
        rw [o2 _ (ne e q (by omega) s hs)]
        exact i1 e (by omega) s hs
    · rw [o2 _ (ne e (by omega) h10 s hs)]
      exact i2 e (by omega) h10 s hs
/-- worked out, whatever was there -/
theorem wo_ok {T O m : Nat} {N : Nat → Nat} {K : hI} {p : hI × hJ} (a : rA T O N p.1 K) (f : rF N p.1 K) (hm : m < N 0) : rF N (k_woP T N m p).1 K ∧ ¬ (k_woP T N m p).1 94 m = 0 ∧ (∀ a i, a ≠ 85 → a ≠ 86 → a ≠ 77 → (k_woP T N m p).2 a i = p.2 a i) := by
  by_cases g : p.1 94 m = 0
  · rw [k_woP1 g]
    obtain ⟨i1, _, i3, i4⟩ := wol_ok (m := m) a (f.2 m hm g) 10 (Nat.le_refl _)
    have e94 : ∀ i, (k_wol T N m 10 p).1 94 i = p.1 94 i := fun i => wF_wol 94 i (by omega) (by omega)
    revert i1 i3 i4 e94
    generalize k_wol T N m 10 p = y
    intro i1 i3 i4 e94
    have eN : ∀ c, am_u y.1 94 m (Int32.ofNat 1) 95 c = y.1 95 c := fun c => am_u_na (by decide)
    have ne : ∀ m', m' ≠ m → ∀ e, e < 10 → ∀ s, s < 5 → am_u y.1 94 m (Int32.ofNat 1) 95 (k_cl m' e s) = p.1 95 (k_cl m' e s) := fun m' h1 e he s hs => (eN _).trans (i3 _ (fun e' he' s' hs' => by unfold k_cl; omega))
    refine ⟨⟨fun m' hm' h94 e he s hs d d1 d2 => ?_, fun m' hm' h94 e he s hs => ?_⟩, ?_, i4⟩
    · by_cases q : m' = m
      · subst q
        rw [← nt_lb a (i1 e he) s hs d d1 d2]
        unfold k_lb
        show ¬ am_u y.1 94 m' (Int32.ofNat 1) 95 (k_cl m' e s) = 0 ∧ ¬ Int32.ofNat d < am_u y.1 94 m' (Int32.ofNat 1) 95 (k_cl m' e s) ↔ _
        rw [eN]
      · rw [← f.1 m' hm' (fun z => h94 (by show am_u y.1 94 m (Int32.ofNat 1) 94 m' = 0; rw [am_u_nk q, e94]; exact z)) e he s hs d d1 d2]
        unfold k_lb
        show ¬ am_u y.1 94 m (Int32.ofNat 1) 95 (k_cl m' e s) = 0 ∧ ¬ Int32.ofNat d < am_u y.1 94 m (Int32.ofNat 1) 95 (k_cl m' e s) ↔ _
        rw [ne m' q e he s hs]
    · have h94' : am_u y.1 94 m (Int32.ofNat 1) 94 m' = 0 := h94
      by_cases q : m' = m
      · subst q; rw [am_u_at] at h94'; exact absurd h94' (by decide)
      · rw [am_u_nk q, e94] at h94'
        show am_u y.1 94 m (Int32.ofNat 1) 95 (k_cl m' e s) = 0
        rw [ne m' q e he s hs]; exact f.2 m' hm' h94' e he s hs
    · show ¬ am_u y.1 94 m (Int32.ofNat 1) 94 m = 0
      rw [am_u_at]; decide
  · rw [k_woP0 g]; exact ⟨f, g, fun _ _ _ _ _ => rfl⟩
