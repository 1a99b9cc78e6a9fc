/-! Calls alike (twenty-one): ask. -/
theorem ll_f {K : hI} : ∀ n, (∀ s, s < n → m_ll n K 151 s = K 151 s + (if K 141 (5 + s) = Int32.ofNat 2 then Int32.ofNat 1 else Int32.ofNat 0)) ∧ (∀ s, n ≤ s → m_ll n K 151 s = K 151 s) ∧ (∀ a i, a ≠ 151 → m_ll n K a i = K a i) := by
  intro n
  induction n with
  | zero => exact ⟨fun s h => absurd h (Nat.not_lt_zero s), fun _ _ => rfl, fun _ _ _ => rfl⟩
  | succ n ih =>
    obtain ⟨i1, i2, i3⟩ := ih
    have es : m_ll (n + 1) K = am_u (m_ll n K) 151 n (m_ll n K 151 n + (if m_ll n K 141 (5 + n) = Int32.ofNat 2 then Int32.ofNat 1 else Int32.ofNat 0)) := rfl
    rw [es]
    refine ⟨fun s hs => ?_, fun s hs => ?_, fun a i h => (am_u_na h).trans (i3 a i h)⟩
    · by_cases g : s = n
      · subst g
        rw [am_u_at, i2 s (Nat.le_refl _), i3 141 _ (by decide)]
      · rw [am_u_nk g]; exact i1 s (by omega)
    · rw [am_u_nk (by omega)]; exact i2 s (by omega)
theorem lz_f {K : hI} : ∀ n, (∀ s, s < n → m_lz n K 151 s = Int32.ofNat 0) ∧ (∀ a i, a ≠ 151 → m_lz n K a i = K a i) := by
  intro n
  induction n with
  | zero => exact ⟨fun s h => absurd h (Nat.not_lt_zero s), fun _ _ _ => rfl⟩
  | succ n ih =>
    obtain ⟨i1, i3⟩ := ih
    have es : m_lz (n + 1) K = am_u (m_lz n K) 151 n (Int32.ofNat 0) := rfl
    rw [es]
    refine ⟨fun s hs => ?_, fun a i h => (am_u_na h).trans (i3 a i h)⟩
    by_cases g : s = n
    · subst g; exact am_u_at
    · rw [am_u_nk g]; exact i1 s (by omega)
set_option maxRecDepth 16384 in
theorem am_bcM : ∀ n, n < 1024 → k_bc (Int32.ofNat n) = m_many (Int32.ofNat n) 10 := by decide +kernel
set_option maxRecDepth 512
theorem k_ft_N {I : hI} {m Kc : Nat} : ∀ n, n ≤ 10 → ∃ z, z < 2 ^ n ∧ k_ft I m Kc n = Int32.ofNat z := by
  intro n
  induction n with
  | zero => intro _; exact ⟨0, Nat.one_pos, rfl⟩
  | succ n ih =>
    intro hn
    obtain ⟨z, z1, z2⟩ := ih (by omega)
    have l : z < 2 ^ (n + 1) := Nat.lt_of_lt_of_le z1 (Nat.pow_le_pow_right (by decide) (by omega))
    rw [k_ft_s]
    split
    · exact ⟨z, l, z2⟩
    · exact ⟨z ||| 2 ^ n, Nat.or_lt_two_pow l (Nat.pow_lt_pow_right (by decide) (by omega)), by rw [z2, am_orN]⟩
theorem ak_ok {T O m n z : Nat} {N : Nat → Nat} {A K : hI} {L : hJ} (a : rA T O N A K) (h5 : N 2 ≤ 5) (hz : z < 1024) (n1 : 1 ≤ n) (n2 : n ≤ 60) (lb : ∀ e, e < 10 → ∀ s, s < 5 → ∀ d, 1 ≤ d → d ≤ 60 → (k_lb A m e s (Int32.ofNat d) ↔ RL N K m e s d)) (k0 : ∀ s, s < 5 → K 151 s = Int32.ofNat 0) : ∀ r, r ≤ 10 → (∀ s, s < N 2 → (m_akL N m n (Int32.ofNat z) r (K, L)).1 151 s = Int32.ofNat (k_lw A m (Int32.ofNat z) (Int32.ofNat n) s r)) ∧ tQ K (m_akL N m n (Int32.ofNat z) r (K, L)).1 ∧ (∀ a i, a ≠ 136 → a ≠ 137 → (m_akL N m n (Int32.ofNat z) r (K, L)).2 a i = L a i) := by
  intro r
  induction r with
  | zero => intro _; exact ⟨fun s hs => k0 s (by omega), tQ_t (tM_rf _), fun _ _ _ _ => rfl⟩
  | succ r ih =>
    intro hr
    obtain ⟨i1, i2, i3⟩ := ih (by omega)
    have es : m_akL N m n (Int32.ofNat z) (r + 1) (K, L) = m_akS N m n (Int32.ofNat z) r (m_akL N m n (Int32.ofNat z) r (K, L)) := rfl
    rw [es]
    revert i1 i2 i3
    generalize m_akL N m n (Int32.ofNat z) r (K, L) = Q
    intro i1 i2 i3
    have b1 := am_bit1 r (by omega) z hz
    have b0 := am_bit r (by omega) z hz
    unfold m_akS
    by_cases g : (Int32.ofNat z >>> (Int32.ofNat r &&& 31)) &&& Int32.ofNat 1 = Int32.ofNat 1
    · rw [if_pos g]
      have g0 : ¬ (Int32.ofNat z >>> (Int32.ofNat r &&& 31)) &&& Int32.ofNat 1 = 0 := by rw [g]; decide
      have a1 : rA T O N A Q.1 := rA_c (fun _ _ _ _ => rfl) (fun a i x => i2.2 a i (by omega) (by omega) (by omega) (by omega)) a
      have tD : tM Q.1 (m_days N 1 n (m_le Q.1 (Int32.ofNat m) (Int32.ofNat r), Q.2)).1 := tM_tr tM_le (tM_days (p := (_, _)) n)
      have jD : ∀ a i, a ≠ 136 → a ≠ 137 → (m_days N 1 n (m_le Q.1 (Int32.ofNat m) (Int32.ofNat r), Q.2)).2 a i = Q.2 a i := fun a i h1 h2 => jM_days n a i h1 h2 (Or.inr (m_le_64 (K := Q.1) (m := Int32.ofNat m) (e := Int32.ofNat r)))
      have rl : ∀ s, s < 5 → ((m_days N 1 n (m_le Q.1 (Int32.ofNat m) (Int32.ofNat r), Q.2)).1 141 (5 + s) = Int32.ofNat 2 ↔ k_lb A m r s (Int32.ofNat n)) := fun s hs => by
        rw [RL_l a1 hs, RL_c a a1 hs, lb r (by omega) s hs n n1 n2]
      revert tD jD rl
      generalize m_days N 1 n (m_le Q.1 (Int32.ofNat m) (Int32.ofNat r), Q.2) = D
      intro tD jD rl
      obtain ⟨l1, l2, l3⟩ := ll_f (K := D.1) (N 2)
      refine ⟨fun s hs => ?_, tQ_tr i2 (tQ_tr (tQ_t tD) (tQ_n (fun a i _ h => l3 a i h))), fun a i h1 h2 => (jD a i h1 h2).trans (i3 a i h1 h2)⟩
      show m_ll (N 2) D.1 151 s = _
      rw [l1 s hs, tD.2 151 s (by omega) (by omega), i1 s hs]
      by_cases y : k_lb A m r s (Int32.ofNat n)
      · rw [if_pos ((rl s (by omega)).mpr y), k_lw1 g0 y, Int32.ofNat_add]
      · rw [if_neg (fun x => y ((rl s (by omega)).mp x)), k_lw3 y]; exact am_a0 _
    · rw [if_neg g]
      have g0 : (Int32.ofNat z >>> (Int32.ofNat r &&& 31)) &&& Int32.ofNat 1 = 0 := by
        rw [b0]
        rw [b1] at g
        cases e : z.testBit r with
        | false => rfl
        | true => exact absurd e g
      exact ⟨fun s hs => by rw [k_lw2 g0]; exact i1 s hs, i2, i3⟩
theorem wst_eq {A K : hI} {m z s : Nat} {w : Int32} (hz : z < 1024) (h : K 151 s = Int32.ofNat (k_lw A m (Int32.ofNat z) w s 10)) : m_wst K (Int32.ofNat z) s = k_wo A m (Int32.ofNat z) w s := by
  unfold m_wst k_wo
  rw [h, am_bcM z hz]
  generalize m_many (Int32.ofNat z) 10 - Int32.ofNat (k_lw A m (Int32.ofNat z) w s 10) = D
  generalize Int32.ofNat (k_lw A m (Int32.ofNat z) w s 10) = C
  show (if D < C then C else D) = (if C < D then D else C)
  by_cases g : D < C
  · rw [if_pos g, if_neg (fun y => absurd (Int32.lt_trans g y) (Int32.lt_irrefl))]
  · rw [if_neg g]
    by_cases y : C < D
    · rw [if_pos y]
    · rw [if_neg y]; exact Int32.le_antisymm (Int32.not_lt.mp y) (Int32.not_lt.mp g)
theorem akB_eq {A K : hI} {m : Nat} {x w : Int32} {n : Nat} (hn : n ≤ 5) (h : ∀ s, s < n → m_wst K x s = k_wo A m x w s) : ∀ j, j + 1 ≤ n → m_akB K x (j + 1) = k_ak A m x w j ∧ ∃ r, r < 5 ∧ (k_ak A m x w j).1 = Int32.ofNat r := by
  intro j
  induction j with
  | zero =>
    intro hj
    refine ⟨?_, 0, by omega, rfl⟩
    rw [m_akB_s, if_pos (Or.inl (show (m_akB K x 0).1 < 0 from (by decide : Int32.ofInt (-2) < 0))), h 0 (by omega)]; rfl
  | succ j ih =>
    intro hj
    obtain ⟨i1, r, r1, r2⟩ := ih (by omega)
    rw [m_akB_s, i1, h (j + 1) (by omega)]
    have nl : ¬ (k_ak A m x w j).1 < 0 := by
      rw [r2]
      exact fun y => absurd ((am_ltN (x := r) (y := 0) (by omega) (by omega)).mp y) (Nat.not_lt_zero _)
    by_cases g : k_wo A m x w (j + 1) < (k_ak A m x w j).2
    · rw [if_pos (Or.inr g), k_ak_1 g]
      exact ⟨rfl, j + 1, by omega, rfl⟩
    · rw [if_neg (fun y => y.elim nl g), k_ak_0 g]
      exact ⟨rfl, r, r1, r2⟩
theorem akL_tQ {N : Nat → Nat} {m n : Nat} {x : Int32} {p : hI × hJ} : ∀ r, tQ p.1 (m_akL N m n x r p).1 ∧ (∀ a i, a ≠ 136 → a ≠ 137 → (m_akL N m n x r p).2 a i = p.2 a i) := by
  intro r
  induction r with
  | zero => exact ⟨tQ_t (tM_rf _), fun _ _ _ _ => rfl⟩
  | succ r ih =>
    have es : m_akL N m n x (r + 1) p = m_akS N m n x r (m_akL N m n x r p) := rfl
    rw [es]
    revert ih
    generalize m_akL N m n x r p = Q
    rintro ⟨i1, i2⟩
    unfold m_akS
    split
    · refine ⟨tQ_tr i1 (tQ_tr (tQ_t (tM_tr tM_le (tM_days (p := (_, _)) n))) (tQ_n (fun a i _ h => (ll_f (N 2)).2.2 a i h))), fun a i h1 h2 => (jM_days n a i h1 h2 (Or.inr (m_le_64 (K := Q.1) (m := Int32.ofNat m) (e := Int32.ofNat r)))).trans (i2 a i h1 h2)⟩
    · exact ⟨i1, i2⟩
theorem ak1_tQ {N : Nat → Nat} {Kc m n : Nat} {I : hI} {J : hJ} : tQ I (m_ak1 N Kc m n I J).1 ∧ (∀ a i, a ≠ 136 → a ≠ 137 → (m_ak1 N Kc m n I J).2 a i = J a i) := by
  obtain ⟨g1, g2⟩ := eb_tQ (N := N) (Kc := Kc) (m := m) (p := (m_z I, J))
  obtain ⟨k1, k2⟩ := akL_tQ (N := N) (m := m) (n := n) (x := (m_ak0 N Kc m I J).1) (p := (m_lz 5 (m_pt (m_ak0 N Kc m I J).2.1), (m_ak0 N Kc m I J).2.2)) 10
  exact ⟨tQ_tr (tQ_tr (tQ_tr (tQ_tr (tQ_t tM_z) g1) (tQ_t tM_pt)) (tQ_n (fun a i _ h => (lz_f 5).2 a i h))) k1, fun a i h1 h2 => (k2 a i h1 h2).trans (g2 a i h1 h2)⟩
theorem op_ask (x y w : Int32) : OPok 151 276 [.int x, .int y, .int w] := by
  rintro I J R ⟨T, O, N, u, q, h, r0, r2⟩
  obtain ⟨hT, _⟩ := rA_hT h.1
  obtain ⟨t, m0, l0⟩ := rA_ctk h.1
  have tk := h.1.2.2.2.2.1
  have n5 := t.1.2.1
  by_cases c : (¬ x < 0 ∧ x < I (T + 1) 1) ∧ (¬ y < Int32.ofNat 1 ∧ ¬ Int32.ofNat 60 < y) ∧ ¬ w < Int32.ofNat 0 ∧ ¬ Int32.ofNat 1 < w
  · obtain ⟨m, hm, rfl⟩ := am_oneN m0 (by omega) c.1
    obtain ⟨ey, y1, y2⟩ := am_btN (by omega) (by omega) c.2.1.1 c.2.1.2
    obtain ⟨ew, _, w2⟩ := am_btN (by omega) (by omega) c.2.2.1 c.2.2.2
    clear c
    generalize nn y = n at ey y1 y2
    generalize nn w = w0 at ew w2
    subst ey ew
    obtain ⟨Kc, k1, k2, k3, k4⟩ := rE_K h.2.2.2.2.1
    cases hy : N 2 with
    | zero =>
      have cls := d_ask_can (k := 20) (J := J) hT r0 t m0 l0 hm y1 y2 w2 hy (by omega)
      have rf := c_ask (k := 20) (J := J) (R := R) tk k4 hm y1 y2 w2 (by omega)
      have e : m_ask N Kc m n w0 I J = Int32.ofInt (-2) := by
        unfold m_ask
        rw [hy]
        split <;> rfl
      rw [e] at rf
      obtain ⟨f1, f2⟩ := ak1_tQ (N := N) (Kc := Kc) (m := m) (n := n) (I := I) (J := J)
      exact op_mk (T := T) (O := O) (N := N) (u := u) (q := q) cls rf rfl (kM_tQ (tQ_tr f1 (tQ_t tM_pt))) ⟨f2 _ _ (by decide) (by decide), f2 _ _ (by decide) (by decide)⟩ (REL_tq h (tQ_tr f1 (tQ_t tM_pt)) (f2 _ _ (by decide) (by decide)) (f2 _ _ (by decide) (by decide))) r0 r2
    | succ y =>
      have cls := d_ask (k := 20) (J := J) hT r0 t m0 l0 k3 k2 hm y1 y2 w2 hy (by omega)
      obtain ⟨A, JA, e1, e2, hA, lb, o1, o2, o3⟩ := ev_ok (Kc := Kc) h hm k1
      have vA : vok A Kc := by rw [← e1]; exact ev_vok k4
      unfold k_ask at cls
      rw [e1, e2] at cls
      have rf := c_ask (k := 20) (J := JA) (R := k_woR R I T m) hA.1.2.2.2.2.1 vA hm y1 y2 w2 (by omega)
      obtain ⟨f1, f2⟩ := ak1_tQ (N := N) (Kc := Kc) (m := m) (n := n) (I := A) (J := JA)
      have tq : tQ A (m_pt (m_ak1 N Kc m n A JA).1) := tQ_tr f1 (tQ_t tM_pt)
      obtain ⟨z, z1, z2⟩ := k_ft_N (I := A) (m := m) (Kc := Kc) 10 (Nat.le_refl _)
      have z1 : z < 1024 := z1
      have ans : m_akB (m_pt (m_ak1 N Kc m n A JA).1) (m_ak0 N Kc m A JA).1 (N 2) = k_ak A m (k_ft A m Kc 10) (Int32.ofNat n) y := by
        have e0 : (m_ak0 N Kc m A JA).1 = Int32.ofNat z := o1.trans z2
        obtain ⟨g1, g2⟩ := eb_tQ (N := N) (Kc := Kc) (m := m) (p := (m_z A, JA))
        obtain ⟨z0, z3⟩ := lz_f (K := m_pt (m_ak0 N Kc m A JA).2.1) 5
        have tK : tQ A (m_lz 5 (m_pt (m_ak0 N Kc m A JA).2.1)) := tQ_tr (tQ_tr (tQ_tr (tQ_t tM_z) g1) (tQ_t tM_pt)) (tQ_n (fun a i _ h => z3 a i h))
        have aK : rA T O N A (m_lz 5 (m_pt (m_ak0 N Kc m A JA).2.1)) := rA_c (fun _ _ _ _ => rfl) (fun a i x => tK.2 a i (by omega) (by omega) (by omega) (by omega)) hA.1
        have ok := (ak_ok (L := (m_ak0 N Kc m A JA).2.2) aK n5 z1 y1 y2 (fun e he s hs d d1 d2 => by rw [RL_c hA.1 aK hs]; exact lb e he s hs d d1 d2) z0 10 (Nat.le_refl _)).1
        unfold m_ak1
        rw [e0, z2, hy]
        refine (akB_eq (n := N 2) (A := A) (w := Int32.ofNat n) n5 (fun s hs => wst_eq z1 ?_) y (by omega)).1
        rw [m_pt_n 151 (by decide)]
        exact ok s hs
      refine op_mk (T := T) (O := O) (N := N) (u := u) (q := q) cls rf ?_ (kM_tQ tq) ⟨f2 _ _ (by decide) (by decide), f2 _ _ (by decide) (by decide)⟩ (REL_tq hA tq (f2 _ _ (by decide) (by decide)) (f2 _ _ (by decide) (by decide))) (k_woR_0 r0) ?_
      · unfold m_ask
        rw [ans]
      · unfold k_woR; split
        · exact (am_u_na (by decide)).trans r2
        · exact r2
  · have e12 : I 110 12 = I (T + 1) 1 := tk.2.1.1.trans m0.symm
    exact op_same h r0 r2 (d_ask_no hT r0 c (by omega)) (c_ask_no (by rw [e12]; exact c) (by omega)) rfl kM_z tM_z
