/-! Calls alike (four): chance, tried. -/
theorem m_lt_2 {K : hI} : m_lt K 110 2 = K 110 2 := by
  have e1 : ∀ n K, m_lt1 n K 110 = K 110 := by
    intro n K
    induction n with
    | zero => rfl
    | succ n ih =>
      have e : m_lt1 (n + 1) K = am_u (am_u (am_u (m_lt1 n K) 138 (8 + n) (m_lt1 n K 138 n)) 139 (8 + n) (am_u (m_lt1 n K) 138 (8 + n) (m_lt1 n K 138 n) 139 n)) 140 (8 + n) (am_u (am_u (m_lt1 n K) 138 (8 + n) (m_lt1 n K 138 n)) 139 (8 + n) (am_u (m_lt1 n K) 138 (8 + n) (m_lt1 n K 138 n) 139 n) 140 n) := rfl
      rw [e, am_u_ne (by decide), am_u_ne (by decide), am_u_ne (by decide)]; exact ih
  have e2 : ∀ n K, m_lt2 n K 110 = K 110 := by
    intro n K
    induction n with
    | zero => rfl
    | succ n ih =>
      have e : m_lt2 (n + 1) K = am_u (am_u (am_u (m_lt2 n K) 141 (5 + n) (m_lt2 n K 141 n)) 142 (5 + n) (am_u (m_lt2 n K) 141 (5 + n) (m_lt2 n K 141 n) 142 n)) 143 (5 + n) (am_u (am_u (m_lt2 n K) 141 (5 + n) (m_lt2 n K 141 n)) 142 (5 + n) (am_u (m_lt2 n K) 141 (5 + n) (m_lt2 n K 141 n) 142 n) 143 n) := rfl
      rw [e, am_u_ne (by decide), am_u_ne (by decide), am_u_ne (by decide)]; exact ih
  unfold m_lt m_pt
  rw [am_u_nk (by decide), am_u_nk (by decide), am_u_nk (by decide), am_u_nk (by decide), am_u_nk (by decide), am_u_nk (by decide), am_u_nk (by decide), am_u_nk (by decide), am_u_nk (by decide), am_u_nk (by decide)]
  unfold m_lt3
  rw [am_u_na (by decide), am_u_na (by decide), e2, e1]
theorem m_z_self {K : hI} (h : K 110 2 = Int32.ofNat 0) : m_z K = K := by
  have e := am_u_self K 110 2
  rw [h] at e
  exact e
/-- by chance, in step -/
def CH (T O : Nat) (N : Nat → Nat) (p : Int32 × Int64 × hI × hJ) (q : Int32 × hI × hJ) : Prop := p.1 = q.1 ∧ p.2.1 = q.2.2 110 62 ∧ rA T O N p.2.2.1 q.2.1 ∧ sR 63 0 (Int32.ofInt (-1)) N p.2.2.1 q.2.1 ∧ q.2.1 110 2 = Int32.ofNat 0
theorem ch_step {T O n s : Nat} {N : Nat → Nat} {p : Int32 × Int64 × hI × hJ} {q : Int32 × hI × hJ} (hs : s < 5) (h : CH T O N p q) : CH T O N (k_chS T N n s p) (m_chS N n s q) := by
  obtain ⟨c1, c2, c3, c4, c5⟩ := h
  obtain ⟨hT, _⟩ := rA_hT c3
  have sm := sim_days hT (Or.inr (Or.inr rfl)) (sim_trial (x := Int32.ofNat s) (b := Int32.ofNat 0) (y := 0) (Or.inl rfl) c3 c4 (K1 := am_u (m_lt q.2.1) 110 64 (Int32.ofNat 1)) (J := am_u (am_u p.2.2.2 77 1 (p.2.2.2 63 1)) 77 1 p.2.1) (L := q.2.2) (fun a i g => by rw [m_z_self c5]; unfold am_u; rw [if_neg g]) (by rw [am_u_at, if_pos rfl]) (by rw [am_u_at]; exact c2)) n
  have tm : tM q.2.1 (m_days N 1 n (am_u (m_lt q.2.1) 110 64 (Int32.ofNat 1), q.2.2)).1 := tM_tr (tM_tr tM_lt (tM_u (by omega))) (tM_days (p := (_, _)) n)
  have tc : tC p.2.2.1 (k_days T 77 N n (k_stt p.2.2.1 T (Int32.ofNat s) (Int32.ofNat 0), am_u (am_u p.2.2.2 77 1 (p.2.2.2 63 1)) 77 1 p.2.1)).1 := tC_tr tC_stt (tC_s sF_days)
  have e := (sm.2.1.2.2.1 s hs (Or.inr rfl)).1
  rw [show 5 * 1 + s = 5 + s by omega] at e
  have s4 : sF 77 (k_stt p.2.2.1 T (Int32.ofNat s) (Int32.ofNat 0)) (k_days T 77 N n (k_stt p.2.2.1 T (Int32.ofNat s) (Int32.ofNat 0), am_u (am_u p.2.2.2 77 1 (p.2.2.2 63 1)) 77 1 p.2.1)).1 := sF_days
  have g4 : (k_days T 77 N n (k_stt p.2.2.1 T (Int32.ofNat s) (Int32.ofNat 0), am_u (am_u p.2.2.2 77 1 (p.2.2.2 63 1)) 77 1 p.2.1)).1 84 4 = 0 := (s4 84 4 (by omega) (by omega) (by omega)).trans ((am_u_nk (by decide)).trans (k_db84 (k_copy p.2.2.1 77 63) T (Int32.ofNat 0)).1)
  refine ⟨?_, sm.2.2 g4, rA_c (fun a i u v => tc a i (by omega)) (fun a i u => tm.2 a i (by omega) (by omega)) c3, sR_c0 (fun a i u v => tc a i (by omega)) tm c4, ?_⟩
  · show (if (k_days T 77 N n (k_stt p.2.2.1 T (Int32.ofNat s) (Int32.ofNat 0), am_u (am_u p.2.2.2 77 1 (p.2.2.2 63 1)) 77 1 p.2.1)).1 81 s = Int32.ofNat 2 then p.1 + Int32.ofInt 1 else p.1) = q.1 + (if (m_days N 1 n (am_u (m_lt q.2.1) 110 64 (Int32.ofNat 1), q.2.2)).1 141 (5 + s) = Int32.ofNat 2 then Int32.ofNat 1 else Int32.ofNat 0)
    rw [← e, c1]
    by_cases g : (k_days T 77 N n (k_stt p.2.2.1 T (Int32.ofNat s) (Int32.ofNat 0), am_u (am_u p.2.2.2 77 1 (p.2.2.2 63 1)) 77 1 p.2.1)).1 81 s = Int32.ofNat 2
    · rw [if_pos g]
      exact (congrArg (fun z => q.1 + z) (if_pos g)).symm
    · rw [if_neg g]
      exact ((congrArg (fun z => q.1 + z) (if_neg g)).trans (am_a0 _)).symm
  · show (m_days N 1 n (am_u (m_lt q.2.1) 110 64 (Int32.ofNat 1), q.2.2)).1 110 2 = _
    rw [simF_days2 n 110 2 (by omega) (by omega)]
    show am_u (m_lt q.2.1) 110 64 (Int32.ofNat 1) 110 2 = _
    rw [am_u_nk (by decide), m_lt_2]; exact c5
theorem ch_all {T O n s : Nat} {N : Nat → Nat} {p : Int32 × Int64 × hI × hJ} {q : Int32 × hI × hJ} (hs : s < 5) (h : CH T O N p q) : ∀ j, CH T O N (k_chL T N n s j p) (m_chL N n s j q) := by
  intro j
  induction j with
  | zero => exact h
  | succ j ih => exact ch_step hs ih
theorem chL_f {T n s : Nat} {N : Nat → Nat} {p : Int32 × Int64 × hI × hJ} : ∀ j, tC p.2.2.1 (k_chL T N n s j p).2.2.1 ∧ (∀ a i, a ≠ 85 → a ≠ 86 → a ≠ 77 → (k_chL T N n s j p).2.2.2 a i = p.2.2.2 a i) := by
  intro j
  induction j with
  | zero => exact ⟨fun _ _ _ => rfl, fun _ _ _ _ _ => rfl⟩
  | succ j ih => exact ⟨tC_tr ih.1 (tC_tr tC_stt (tC_s sF_days)), fun a i h1 h2 h3 => (jD_days (Or.inr (Or.inr rfl)) n a i h1 h2 (by omega)).trans ((am_u_na h3).trans ((am_u_na h3).trans (ih.2 a i h1 h2 h3)))⟩
theorem mchL_f {n s : Nat} {N : Nat → Nat} {q : Int32 × hI × hJ} : ∀ j, tM q.2.1 (m_chL N n s j q).2.1 ∧ (∀ a i, a ≠ 136 → a ≠ 137 → ¬ (a = 110 ∧ i = 62) → (m_chL N n s j q).2.2 a i = q.2.2 a i) := by
  intro j
  induction j with
  | zero => exact ⟨tM_rf _, fun _ _ _ _ _ => rfl⟩
  | succ j ih => exact ⟨tM_tr ih.1 (tM_tr (tM_tr tM_lt (tM_u (by omega))) (tM_days (p := (_, _)) n)), fun a i h1 h2 h3 => (jM_days n a i h1 h2 (Or.inl h3)).trans (ih.2 a i h1 h2 h3)⟩
theorem op_chance (x y z : Int32) : OPok 153 277 [.int x, .int y, .int z] := by
  rintro I J R ⟨T, O, N, u, q, h, r0, r2⟩
  obtain ⟨hT, _⟩ := rA_hT h.1
  obtain ⟨t, m0, l0⟩ := rA_ctk h.1
  have tk := h.1.2.2.2.2.1
  have n5 := t.1.2.1
  by_cases c : ¬ x < 0 ∧ (¬ y < Int32.ofNat 1 ∧ ¬ Int32.ofNat 99 < y) ∧ ¬ z < 0 ∧ z < I (T + 11) 1
  · obtain ⟨ey, h1, h2⟩ := am_btN (by omega) (by omega) c.2.1.1 c.2.1.2
    generalize nn y = n at ey h1 h2
    subst ey
    obtain ⟨s, hs, rfl⟩ := am_oneN t.2.1.2.1 (by omega) c.2.2
    have cls := d_chance (k := 20) (J := J) hT r0 t c.1 h1 h2 hs (by omega)
    have cf := chL_f (T := T) (n := n) (s := s) (N := N) (p := (Int32.ofNat 0, x.toInt64, I, J)) 10
    have ca := fun (q : Int32 × hI × hJ) (g : CH T O N (Int32.ofNat 0, x.toInt64, I, J) q) => (ch_all (n := n) (s := s) (by omega) g 10).1
    revert cls cf ca
    generalize k_chL T N n s 10 (Int32.ofNat 0, x.toInt64, I, J) = Y
    intro cls cf ca
    have hk := REL_k h cf.1 (cf.2 _ _ (by decide) (by decide) (by decide)) (cf.2 _ _ (by decide) (by decide) (by decide))
    have tk1 := hk.1.2.2.2.2.1
    have mf := mchL_f (n := n) (s := s) (N := N) (q := (Int32.ofNat 0, m_z Y.2.2.1, am_u Y.2.2.2 110 62 x.toInt64)) 10
    have tm : tM Y.2.2.1 (am_u (m_ch N n s x Y.2.2.1 Y.2.2.2).2.1 110 64 (Int32.ofNat 0)) := tM_tr tM_z (tM_tr mf.1 (tM_u (by omega)))
    have jm : ∀ a i, a ≠ 136 → a ≠ 137 → am_u (m_ch N n s x Y.2.2.1 Y.2.2.2).2.2 110 62 (Y.2.2.2 110 62) a i = Y.2.2.2 a i := fun a i h1 h2 => by
      by_cases g : a = 110 ∧ i = 62
      · obtain ⟨rfl, rfl⟩ := g; rw [am_u_at]
      · unfold am_u; rw [if_neg g]
        refine (mf.2 a i h1 h2 g).trans ?_
        show am_u Y.2.2.2 110 62 x.toInt64 a i = _
        unfold am_u; rw [if_neg g]
    refine op_mk cls (c_chance tk1 c.1 h1 h2 hs (by omega)) ?_ (kM_tM tm) ⟨jm _ _ (by decide) (by decide), jm _ _ (by decide) (by decide)⟩ (REL_t hk cf.1 tm (cf.2 _ _ (by decide) (by decide) (by decide)) (cf.2 _ _ (by decide) (by decide) (by decide)) (jm _ _ (by decide) (by decide)) (jm _ _ (by decide) (by decide))) ((am_u_na (by decide)).trans r0) ((am_u_na (by decide)).trans r2)
    have e := ca (Int32.ofNat 0, m_z Y.2.2.1, am_u Y.2.2.2 110 62 x.toInt64) ⟨rfl, (show x.toInt64 = am_u Y.2.2.2 110 62 x.toInt64 110 62 from am_u_at.symm), rA_c (fun _ _ _ _ => rfl) (fun a i g => m_z_n (by omega)) hk.1, sR_c0 (fun _ _ _ _ => rfl) tM_z hk.2.1.1, (show am_u Y.2.2.1 110 2 (Int32.ofNat 0) 110 2 = Int32.ofNat 0 from am_u_at)⟩
    rw [e]
    rfl
  · exact op_same h r0 r2 (d_chance_no hT r0 c (by omega)) (c_chance_no (by rw [tk.2.1.2.2.1, ← t.2.1.2.1]; exact c) (by omega)) rfl kM_z tM_z
/-- bits of a set -/
theorem am_bit : ∀ v, v < 10 → ∀ m, m < 1024 → (((Int32.ofNat m >>> (Int32.ofNat v &&& 31)) &&& Int32.ofNat 1 = 0) ↔ m.testBit v = false) := by decide +kernel
theorem voy_bit {I : hI} {T : Nat} {x a b : Int32} : ∀ n v, v < n → ((k_voyN I T x a b n).testBit v = true ↔ (I (T + 14) v = x ∧ ¬ I (T + 15) v < a ∧ I (T + 15) v < b)) := by
  intro n
  induction n with
  | zero => intro v h; exact absurd h (Nat.not_lt_zero v)
  | succ n ih =>
    intro v hv
    rw [k_voyN_s]
    by_cases e : v = n
    · subst e
      have hf : (k_voyN I T x a b v).testBit v = false := Nat.testBit_lt_two_pow (k_voyN_e I T x a b v).2
      by_cases c : I (T + 14) v = x ∧ ¬ I (T + 15) v < a ∧ I (T + 15) v < b
      · rw [if_pos c, Nat.testBit_or, Nat.testBit_two_pow_self, Bool.or_true]
        exact ⟨fun _ => c, fun _ => rfl⟩
      · rw [if_neg c, hf]
        exact ⟨fun z => absurd z (by decide), fun z => absurd z c⟩
    · have hv2 : v < n := by omega
      by_cases c : I (T + 14) n = x ∧ ¬ I (T + 15) n < a ∧ I (T + 15) n < b
      · rw [if_pos c, Nat.testBit_or, Nat.testBit_two_pow_of_ne (fun z => e z.symm), Bool.or_false]
        exact ih v hv2
      · rw [if_neg c]; exact ih v hv2
/-- a trial with settings of its own -/
theorem sim_tried {T O : Nat} {N : Nat → Nat} {I K A K1 : hI} {J L : hJ} (a : rA T O N I K) (s : sR 63 0 (Int32.ofInt (-1)) N I K) (b : Int32) (hA : ∀ a i, a ≠ 84 → A a i = k_stt I T (Int32.ofInt (-1)) b a i) (hK : ∀ a i, a ≠ 110 → K1 a i = m_lt (m_z K) a i) (c : cR (Int32.ofInt (-1)) T N A K1) (j : J 77 1 = L 110 62) : sim (Int32.ofInt (-1)) T 77 1 N (A, J) (K1, L) := by
  have f : ∀ a i, a ≠ 84 → k_stt I T (Int32.ofInt (-1)) b a i = k_stt I T (Int32.ofInt (-1)) (Int32.ofNat 1) a i := fun a i g => ((am_u_na g).trans (congrFun (k_db_n a g) i)).trans ((am_u_na g).trans (congrFun (k_db_n a g) i)).symm
  have s0 := (sim_trial (x := Int32.ofInt (-1)) (b := Int32.ofNat 1) (y := 0) (Or.inr rfl) a s (K1 := m_lt (m_z K)) (J := J) (L := L) (fun _ _ _ => rfl) (by rw [m_lt_110, if_neg (by decide)]) j).2.1
  refine ⟨dR_of a (fun a i u v => (hA a i (by omega)).trans (tC_stt a i (by omega))) (fun a i u v => (hK a i (by omega)).trans ((tM_tr tM_z tM_lt).2 a i (by omega) (by omega))) c, ?_, fun _ => j⟩
  exact sR_c (fun a i u v => (hA a i (by omega)).trans (f a i (by omega))) (fun a i u v => hK a i (by omega)) s0
theorem k_trI_f {I : hI} {T : Nat} {b u w e : Int32} : (∀ a i, a ≠ 84 → k_trI I T b u w e a i = k_stt I T (Int32.ofInt (-1)) b a i) ∧ k_trI I T b u w e 84 4 = b ∧ k_trI I T b u w e 84 5 = k_pst (k_copy I 77 63) T b ∧ k_trI I T b u w e 84 6 = u ∧ k_trI I T b u w e 84 8 = Int32.ofInt (-1) ∧ k_trI I T b u w e 84 9 = w ∧ k_trI I T b u w e 84 10 = e ∧ k_trI I T b u w e 84 11 = Int32.ofInt (-1) ∧ k_trI I T b u w e 84 12 = Int32.ofNat 0 := by
  refine ⟨fun a i h => (am_u_na h).trans ((am_u_na h).trans (am_u_na h)), ?_, ?_, ?_, ?_, ?_, ?_, ?_, ?_⟩ <;> simp +decide [k_trI, k_stt, k_db, am_u]
theorem tried_ans {T O u q : Nat} {N : Nat → Nat} {n : Nat} {I : hI} {J : hJ} {A : hI} {R : hR} {as : List Value} {f : hI → hI} (h : REL T O N u q I J I J) (r0 : R 0 3 = T) (r2 : R 2 2 = O) (tA : tC I A) (tf : ∀ K, tM K (f K)) (f64 : ∀ K, f K 110 64 = 0) (cls : ct 20 154 (.ref 0 :: as) I J R (some (.int (k_ce ((k_days T 77 N n (A, am_u J 77 1 (J 63 1))).1 81) (Int32.ofNat 2) (N 2)))) (k_days T 77 N n (A, am_u J 77 1 (J 63 1))).1 (k_days T 77 N n (A, am_u J 77 1 (J 63 1))).2 (am_u R 84 3 T)) (rf : ∀ K L R, tok K N → ct 20 278 (.ref 110 :: as) K L R (some (.int (m_cS (m_pt (m_days N 1 n (f K, L)).1) 1 (N 2) (Int32.ofNat 2)))) (m_pt (m_days N 1 n (f K, L)).1) ((m_days N 1 n (f K, L)).2) R) (sm : ∀ K L J0, rA T O N I K → sR 63 0 (Int32.ofInt (-1)) N I K → J0 77 1 = L 110 62 → sim (Int32.ofInt (-1)) T 77 1 N (A, J0) (f K, L)) : ∃ v I1 J1 R1 I2 J2, ct 20 154 (.ref 0 :: as) I J R (some v) I1 J1 R1 ∧ ct 20 278 (.ref 110 :: as) I1 J1 R1 (some v) I2 J2 R1 ∧ INV I2 J2 R1 := by
  obtain ⟨hT, _⟩ := rA_hT h.1
  obtain ⟨t, m0, l0⟩ := rA_ctk h.1
  have tc : tC I (k_days T 77 N n (A, am_u J 77 1 (J 63 1))).1 := tC_tr tA (tC_s sF_days)
  have jj : ∀ a i, a ≠ 85 → a ≠ 86 → a ≠ 77 → (k_days T 77 N n (A, am_u J 77 1 (J 63 1))).2 a i = J a i := fun a i h1 h2 h3 => (jD_days (Or.inr (Or.inr rfl)) n a i h1 h2 (by omega)).trans (am_u_na h3)
  have sd := fun K L a s j => sim_days hT (Or.inr (Or.inr rfl)) (sm K L (am_u J 77 1 (J 63 1)) a s j) n
  revert cls tc jj sd
  generalize k_days T 77 N n (A, am_u J 77 1 (J 63 1)) = Y
  intro cls tc jj sd
  have hk := REL_k h tc (jj _ _ (by decide) (by decide) (by decide)) (jj _ _ (by decide) (by decide) (by decide))
  have s1 := sd Y.1 Y.2 hk.1 hk.2.1.1 (by rw [am_u_at]; exact hk.2.1.2.1)
  have tm : tM Y.1 (m_pt (m_days N 1 n (f Y.1, Y.2)).1) := tM_tr (tM_tr (tf Y.1) (tM_days (p := (_, _)) n)) tM_pt
  have jm : ∀ a i, a ≠ 136 → a ≠ 137 → (m_days N 1 n (f Y.1, Y.2)).2 a i = Y.2 a i := fun a i h1 h2 => jM_days n a i h1 h2 (Or.inr (f64 Y.1))
  refine op_mk cls (rf Y.1 Y.2 _ hk.1.2.2.2.2.1) ?_ (kM_tM tm) ⟨jm _ _ (by decide) (by decide), jm _ _ (by decide) (by decide)⟩ (REL_t hk tc tm (jj _ _ (by decide) (by decide) (by decide)) (jj _ _ (by decide) (by decide) (by decide)) (jm _ _ (by decide) (by decide)) (jm _ _ (by decide) (by decide))) ((am_u_na (by decide)).trans r0) ((am_u_na (by decide)).trans r2)
  have e : k_ce (Y.1 81) (Int32.ofNat 2) (N 2) = m_cS (m_pt (m_days N 1 n (f Y.1, Y.2)).1) 1 (N 2) (Int32.ofNat 2) := ce_S (fun r hr => by rw [m_pt_n 141 (by decide)]; exact (s1.2.1.2.2.1 r hr (Or.inl rfl)).1) (N 2) t.1.2.1
  rw [e]
theorem m_tf0_f {K : hI} : (∀ a i', a ≠ 110 → m_tf0 K a i' = m_lt (m_z K) a i') ∧ m_tf0 K 110 64 = Int32.ofNat 0 ∧ m_tf0 K 110 65 = Int32.ofNat 1 ∧ m_tf0 K 110 66 = Int32.ofNat 0 ∧ m_tf0 K 110 67 = Int32.ofNat 0 ∧ m_tf0 K 110 68 = Int32.ofNat 0 ∧ m_tf0 K 110 69 = Int32.ofInt (-1) ∧ m_tf0 K 110 70 = Int32.ofInt (-1) ∧ m_tf0 K 110 71 = Int32.ofNat 0 ∧ m_tf0 K 110 72 = Int32.ofNat 0 := by
  obtain ⟨u4, u5, u6, u7, u8, u9, u10, u11, u12⟩ := m_pt110 (m_lt3 (m_lt2 5 (m_lt1 8 (m_z K))))
  refine ⟨fun a i' h => (am_u_na h).trans ((am_u_na h).trans ((am_u_na h).trans ((am_u_na h).trans (am_u_na h)))), ?_, ?_, ?_, ?_, ?_, ?_, ?_, ?_, ?_⟩
  all_goals (unfold m_tf0; first | (rw [am_u_at]) | (rw [am_u_nk (by decide), am_u_at]) | (rw [am_u_nk (by decide), am_u_nk (by decide), am_u_at]) | (rw [am_u_nk (by decide), am_u_nk (by decide), am_u_nk (by decide), am_u_at]) | (rw [am_u_nk (by decide), am_u_nk (by decide), am_u_nk (by decide), am_u_nk (by decide), am_u_at]) | (rw [am_u_nk (by decide), am_u_nk (by decide), am_u_nk (by decide), am_u_nk (by decide), am_u_nk (by decide)]; first | exact u4 | exact u10 | exact u11 | exact u12))
theorem cR_t0 {T O : Nat} {N : Nat → Nat} {I K : hI} (a : rA T O N I K) : cR (Int32.ofInt (-1)) T N (k_trI I T (Int32.ofNat 2) (Int32.ofNat 0) (Int32.ofNat 1) (Int32.ofNat 0)) (m_tf0 K) := by
  obtain ⟨hT, _⟩ := rA_hT a
  obtain ⟨k0, k4, k5, k6, k8, k9, k10, k11, k12⟩ := k_trI_f (I := I) (T := T) (b := Int32.ofNat 2) (u := (Int32.ofNat 0)) (w := (Int32.ofNat 1)) (e := (Int32.ofNat 0))
  obtain ⟨t0, t4, t5, t6x, t7, t8, t9, t10, t11, t12⟩ := m_tf0_f (K := K)
  have t6 : True := trivial
  have kT : ∀ a c, 112 ≤ a → a ≤ 133 → m_tf0 K a c = K a c := fun a c u v => (t0 a c (by omega)).trans ((tM_tr tM_z tM_lt).2 a c (by omega) (by omega))
  have hv : ∀ v, v < N 3 → okn (m_tf0 K 125 v) 5 := fun v hv => by
    rw [kT 125 v (by omega) (by omega), ← (a.2.2.2.2.2.1.2.2.2.2.1 v hv).1]
    exact okn_mono (a.2.2.1.2.2.2.2.1 v hv).1 a.2.1.1.2.2.1
  refine ⟨k8, ?_, by rw [k11, t10], by rw [k12, t11], ?_, fun v hv2 _ => ?_, ?_, ?_⟩
  · rw [k10, t8]
  · rw [k9, t7]; decide
  ·
    rw [k6, t9]
    exact ⟨fun _ => ⟨okn_n1 (hv v hv2) (by omega), by rw [t12]; exact am_sh1 v⟩, fun _ => am_sh0 v⟩
  ·
    rw [k5, t5, t6x]
    rw [if_neg (fun z => z.elim (fun y => y rfl) (fun y => absurd y.1 (by decide)))]
    unfold k_pst
    rw [if_neg (by decide), if_neg (fun z => z.1.elim (fun y => absurd y (by decide)) (fun y => absurd y (by decide)))]
  · rw [k4, t4]; exact Or.inr ⟨by decide, rfl⟩
theorem m_tf1_f {K : hI} : (∀ a i', a ≠ 110 → m_tf1 K a i' = m_lt (m_z K) a i') ∧ m_tf1 K 110 64 = Int32.ofNat 0 ∧ m_tf1 K 110 65 = Int32.ofNat 0 ∧ m_tf1 K 110 66 = Int32.ofNat 1 ∧ m_tf1 K 110 67 = Int32.ofNat 0 ∧ m_tf1 K 110 68 = Int32.ofNat 0 ∧ m_tf1 K 110 69 = Int32.ofInt (-1) ∧ m_tf1 K 110 70 = Int32.ofInt (-1) ∧ m_tf1 K 110 71 = Int32.ofNat 0 ∧ m_tf1 K 110 72 = Int32.ofNat 0 := by
  obtain ⟨u4, u5, u6, u7, u8, u9, u10, u11, u12⟩ := m_pt110 (m_lt3 (m_lt2 5 (m_lt1 8 (m_z K))))
  refine ⟨fun a i' h => (am_u_na h).trans ((am_u_na h).trans ((am_u_na h).trans ((am_u_na h).trans (am_u_na h)))), ?_, ?_, ?_, ?_, ?_, ?_, ?_, ?_, ?_⟩
  all_goals (unfold m_tf1; first | (rw [am_u_at]) | (rw [am_u_nk (by decide), am_u_at]) | (rw [am_u_nk (by decide), am_u_nk (by decide), am_u_at]) | (rw [am_u_nk (by decide), am_u_nk (by decide), am_u_nk (by decide), am_u_at]) | (rw [am_u_nk (by decide), am_u_nk (by decide), am_u_nk (by decide), am_u_nk (by decide), am_u_at]) | (rw [am_u_nk (by decide), am_u_nk (by decide), am_u_nk (by decide), am_u_nk (by decide), am_u_nk (by decide)]; first | exact u4 | exact u10 | exact u11 | exact u12))
theorem cR_t1 {T O : Nat} {N : Nat → Nat} {I K : hI} (a : rA T O N I K) : cR (Int32.ofInt (-1)) T N (k_trI I T (Int32.ofNat 3) (Int32.ofNat 0) (Int32.ofNat 1) (Int32.ofNat 0)) (m_tf1 K) := by
  obtain ⟨hT, _⟩ := rA_hT a
  obtain ⟨k0, k4, k5, k6, k8, k9, k10, k11, k12⟩ := k_trI_f (I := I) (T := T) (b := Int32.ofNat 3) (u := (Int32.ofNat 0)) (w := (Int32.ofNat 1)) (e := (Int32.ofNat 0))
  obtain ⟨t0, t4, t5, t6x, t7, t8, t9, t10, t11, t12⟩ := m_tf1_f (K := K)
  have t6 : True := trivial
  have kT : ∀ a c, 112 ≤ a → a ≤ 133 → m_tf1 K a c = K a c := fun a c u v => (t0 a c (by omega)).trans ((tM_tr tM_z tM_lt).2 a c (by omega) (by omega))
  have hv : ∀ v, v < N 3 → okn (m_tf1 K 125 v) 5 := fun v hv => by
    rw [kT 125 v (by omega) (by omega), ← (a.2.2.2.2.2.1.2.2.2.2.1 v hv).1]
    exact okn_mono (a.2.2.1.2.2.2.2.1 v hv).1 a.2.1.1.2.2.1
  refine ⟨k8, ?_, by rw [k11, t10], by rw [k12, t11], ?_, fun v hv2 _ => ?_, ?_, ?_⟩
  · rw [k10, t8]
  · rw [k9, t7]; decide
  ·
    rw [k6, t9]
    exact ⟨fun _ => ⟨okn_n1 (hv v hv2) (by omega), by rw [t12]; exact am_sh1 v⟩, fun _ => am_sh0 v⟩
  ·
    rw [k5, t6x, if_pos (Or.inl (by decide))]
    exact if_pos rfl
  · rw [k4, t4]; exact Or.inr ⟨by decide, rfl⟩
theorem m_tf2_f {K : hI} {i : Nat} : (∀ a i', a ≠ 110 → m_tf2 K i a i' = m_lt (m_z K) a i') ∧ m_tf2 K i 110 64 = Int32.ofNat 0 ∧ m_tf2 K i 110 65 = Int32.ofNat 0 ∧ m_tf2 K i 110 66 = Int32.ofNat 0 ∧ m_tf2 K i 110 67 = Int32.ofNat 0 ∧ m_tf2 K i 110 68 = Int32.ofNat 0 ∧ m_tf2 K i 110 69 = Int32.ofNat i ∧ m_tf2 K i 110 70 = Int32.ofInt (-1) ∧ m_tf2 K i 110 71 = Int32.ofNat 0 ∧ m_tf2 K i 110 72 = Int32.ofNat 0 := by
  obtain ⟨u4, u5, u6, u7, u8, u9, u10, u11, u12⟩ := m_pt110 (m_lt3 (m_lt2 5 (m_lt1 8 (m_z K))))
  refine ⟨fun a i' h => (am_u_na h).trans ((am_u_na h).trans ((am_u_na h).trans ((am_u_na h).trans (am_u_na h)))), ?_, ?_, ?_, ?_, ?_, ?_, ?_, ?_, ?_⟩
  all_goals (unfold m_tf2; first | (rw [am_u_at]) | (rw [am_u_nk (by decide), am_u_at]) | (rw [am_u_nk (by decide), am_u_nk (by decide), am_u_at]) | (rw [am_u_nk (by decide), am_u_nk (by decide), am_u_nk (by decide), am_u_at]) | (rw [am_u_nk (by decide), am_u_nk (by decide), am_u_nk (by decide), am_u_nk (by decide), am_u_at]) | (rw [am_u_nk (by decide), am_u_nk (by decide), am_u_nk (by decide), am_u_nk (by decide), am_u_nk (by decide)]; first | exact u4 | exact u10 | exact u11 | exact u12))
theorem cR_t2 {T O : Nat} {N : Nat → Nat} {I K : hI} {i : Nat} (hi : i < N 2) (a : rA T O N I K) : cR (Int32.ofInt (-1)) T N (k_trI I T (Int32.ofNat 1) (k_voy (k_stt I T (Int32.ofInt (-1)) (Int32.ofNat 1)) T (Int32.ofNat i) (Int32.ofNat 0) (Int32.ofNat 9000) (N 3)) (Int32.ofNat 1) (Int32.ofNat 0)) (m_tf2 K i) := by
  obtain ⟨hT, _⟩ := rA_hT a
  obtain ⟨k0, k4, k5, k6, k8, k9, k10, k11, k12⟩ := k_trI_f (I := I) (T := T) (b := Int32.ofNat 1) (u := (k_voy (k_stt I T (Int32.ofInt (-1)) (Int32.ofNat 1)) T (Int32.ofNat i) (Int32.ofNat 0) (Int32.ofNat 9000) (N 3))) (w := (Int32.ofNat 1)) (e := (Int32.ofNat 0))
  obtain ⟨t0, t4, t5, t6x, t7, t8, t9, t10, t11, t12⟩ := m_tf2_f (K := K) (i := i)
  have t6 : True := trivial
  have kT : ∀ a c, 112 ≤ a → a ≤ 133 → m_tf2 K i a c = K a c := fun a c u v => (t0 a c (by omega)).trans ((tM_tr tM_z tM_lt).2 a c (by omega) (by omega))
  have hv : ∀ v, v < N 3 → okn (m_tf2 K i 125 v) 5 := fun v hv => by
    rw [kT 125 v (by omega) (by omega), ← (a.2.2.2.2.2.1.2.2.2.2.1 v hv).1]
    exact okn_mono (a.2.2.1.2.2.2.2.1 v hv).1 a.2.1.1.2.2.1
  refine ⟨k8, ?_, by rw [k11, t10], by rw [k12, t11], ?_, fun v hv2 _ => ?_, ?_, ?_⟩
  · rw [k10, t8]
  · rw [k9, t7]; decide
  ·
    rw [k6, t9, t12]
    have l3 := a.2.1.1.2.2.2.1
    rw [(k_voyN_e _ T _ _ _ (N 3)).1, am_bit v (by omega) _ (Nat.lt_of_lt_of_le (k_voyN_e _ T _ _ _ (N 3)).2 (Nat.pow_le_pow_right (n := 2) (by decide) l3))]
    have vb := voy_bit (I := k_stt I T (Int32.ofInt (-1)) (Int32.ofNat 1)) (T := T) (x := Int32.ofNat i) (a := Int32.ofNat 0) (b := Int32.ofNat 9000) (N 3) v hv2
    have e14 : k_stt I T (Int32.ofInt (-1)) (Int32.ofNat 1) (T + 14) v = I (T + 14) v := tC_stt _ _ (by omega)
    have e15 : k_stt I T (Int32.ofInt (-1)) (Int32.ofNat 1) (T + 15) v = I (T + 15) v := tC_stt _ _ (by omega)
    have o15 := (a.2.2.1.2.2.2.2.1 v hv2).2.1
    have o2 := o15.2
    rw [e14, e15] at vb
    rw [kT 125 v (by omega) (by omega), ← (a.2.2.2.2.2.1.2.2.2.2.1 v hv2).1]
    constructor
    · intro z
      refine ⟨fun y => ?_, am_sh1 v⟩
      have := vb.mpr ⟨y, by rw [o15.1]; exact fun z => absurd ((am_ltN (by omega) (by omega)).mp z) (Nat.not_lt_zero _), by rw [o15.1]; exact (am_ltN (by omega) (by omega)).mpr (by omega)⟩
      rw [this] at z; exact absurd z (by decide)
    · intro z
      exact Bool.eq_false_iff.mpr (fun y => z.1 (vb.mp y).1)
  ·
    rw [k5, t5, t6x, pst_eq (K := m_tf2 K i) (by rw [cF_copy (Or.inr (Or.inr rfl)) T 16 (by omega) (by omega), kT 114 0 (by omega) (by omega)]; exact a.2.2.2.2.2.1.2.2.2.2.2.1) (by rw [cF_copy (Or.inr (Or.inr rfl)) T 16 (by omega) (by omega)]; exact a.2.2.1.2.2.2.2.2) (Or.inr rfl)]
    by_cases g : m_tf2 K i 114 0 < Int32.ofNat 50
    · rw [if_neg (not_not_intro g), if_neg (fun z => z.elim (fun y => y rfl) (fun y => y.2 g))]
    · rw [if_pos g, if_pos (Or.inr ⟨rfl, g⟩)]
  · rw [k4, t4]; exact Or.inr ⟨by decide, rfl⟩
theorem m_tf3_f {K : hI} : (∀ a i', a ≠ 110 → m_tf3 K a i' = m_lt (m_z K) a i') ∧ m_tf3 K 110 64 = Int32.ofNat 0 ∧ m_tf3 K 110 65 = Int32.ofNat 0 ∧ m_tf3 K 110 66 = Int32.ofNat 0 ∧ m_tf3 K 110 67 = Int32.ofNat 1 ∧ m_tf3 K 110 68 = Int32.ofNat 0 ∧ m_tf3 K 110 69 = Int32.ofInt (-1) ∧ m_tf3 K 110 70 = Int32.ofInt (-1) ∧ m_tf3 K 110 71 = Int32.ofNat 0 ∧ m_tf3 K 110 72 = Int32.ofNat 0 := by
  obtain ⟨u4, u5, u6, u7, u8, u9, u10, u11, u12⟩ := m_pt110 (m_lt3 (m_lt2 5 (m_lt1 8 (m_z K))))
  refine ⟨fun a i' h => (am_u_na h).trans ((am_u_na h).trans ((am_u_na h).trans ((am_u_na h).trans (am_u_na h)))), ?_, ?_, ?_, ?_, ?_, ?_, ?_, ?_, ?_⟩
  all_goals (unfold m_tf3; first | (rw [am_u_at]) | (rw [am_u_nk (by decide), am_u_at]) | (rw [am_u_nk (by decide), am_u_nk (by decide), am_u_at]) | (rw [am_u_nk (by decide), am_u_nk (by decide), am_u_nk (by decide), am_u_at]) | (rw [am_u_nk (by decide), am_u_nk (by decide), am_u_nk (by decide), am_u_nk (by decide), am_u_at]) | (rw [am_u_nk (by decide), am_u_nk (by decide), am_u_nk (by decide), am_u_nk (by decide), am_u_nk (by decide)]; first | exact u4 | exact u10 | exact u11 | exact u12))
theorem cR_t3 {T O : Nat} {N : Nat → Nat} {I K : hI} (a : rA T O N I K) : cR (Int32.ofInt (-1)) T N (k_trI I T (Int32.ofNat 1) (Int32.ofNat 0) (Int32.ofNat 0) (Int32.ofNat 0)) (m_tf3 K) := by
  obtain ⟨hT, _⟩ := rA_hT a
  obtain ⟨k0, k4, k5, k6, k8, k9, k10, k11, k12⟩ := k_trI_f (I := I) (T := T) (b := Int32.ofNat 1) (u := (Int32.ofNat 0)) (w := (Int32.ofNat 0)) (e := (Int32.ofNat 0))
  obtain ⟨t0, t4, t5, t6x, t7, t8, t9, t10, t11, t12⟩ := m_tf3_f (K := K)
  have t6 : True := trivial
  have kT : ∀ a c, 112 ≤ a → a ≤ 133 → m_tf3 K a c = K a c := fun a c u v => (t0 a c (by omega)).trans ((tM_tr tM_z tM_lt).2 a c (by omega) (by omega))
  have hv : ∀ v, v < N 3 → okn (m_tf3 K 125 v) 5 := fun v hv => by
    rw [kT 125 v (by omega) (by omega), ← (a.2.2.2.2.2.1.2.2.2.2.1 v hv).1]
    exact okn_mono (a.2.2.1.2.2.2.2.1 v hv).1 a.2.1.1.2.2.1
  refine ⟨k8, ?_, by rw [k11, t10], by rw [k12, t11], ?_, fun v hv2 _ => ?_, ?_, ?_⟩
  · rw [k10, t8]
  · rw [k9, t7]; decide
  ·
    rw [k6, t9]
    exact ⟨fun _ => ⟨okn_n1 (hv v hv2) (by omega), by rw [t12]; exact am_sh1 v⟩, fun _ => am_sh0 v⟩
  ·
    rw [k5, t5, t6x, pst_eq (K := m_tf3 K) (by rw [cF_copy (Or.inr (Or.inr rfl)) T 16 (by omega) (by omega), kT 114 0 (by omega) (by omega)]; exact a.2.2.2.2.2.1.2.2.2.2.2.1) (by rw [cF_copy (Or.inr (Or.inr rfl)) T 16 (by omega) (by omega)]; exact a.2.2.1.2.2.2.2.2) (Or.inr rfl)]
    by_cases g : m_tf3 K 114 0 < Int32.ofNat 50
    · rw [if_neg (not_not_intro g), if_neg (fun z => z.elim (fun y => y rfl) (fun y => y.2 g))]
    · rw [if_pos g, if_pos (Or.inr ⟨rfl, g⟩)]
  · rw [k4, t4]; exact Or.inr ⟨by decide, rfl⟩
theorem m_tf4_f {K : hI} : (∀ a i', a ≠ 110 → m_tf4 K a i' = m_lt (m_z K) a i') ∧ m_tf4 K 110 64 = Int32.ofNat 0 ∧ m_tf4 K 110 65 = Int32.ofNat 0 ∧ m_tf4 K 110 66 = Int32.ofNat 0 ∧ m_tf4 K 110 67 = Int32.ofNat 0 ∧ m_tf4 K 110 68 = Int32.ofNat 1 ∧ m_tf4 K 110 69 = Int32.ofInt (-1) ∧ m_tf4 K 110 70 = Int32.ofInt (-1) ∧ m_tf4 K 110 71 = Int32.ofNat 0 ∧ m_tf4 K 110 72 = Int32.ofNat 0 := by
  obtain ⟨u4, u5, u6, u7, u8, u9, u10, u11, u12⟩ := m_pt110 (m_lt3 (m_lt2 5 (m_lt1 8 (m_z K))))
  refine ⟨fun a i' h => (am_u_na h).trans ((am_u_na h).trans ((am_u_na h).trans ((am_u_na h).trans (am_u_na h)))), ?_, ?_, ?_, ?_, ?_, ?_, ?_, ?_, ?_⟩
  all_goals (unfold m_tf4; first | (rw [am_u_at]) | (rw [am_u_nk (by decide), am_u_at]) | (rw [am_u_nk (by decide), am_u_nk (by decide), am_u_at]) | (rw [am_u_nk (by decide), am_u_nk (by decide), am_u_nk (by decide), am_u_at]) | (rw [am_u_nk (by decide), am_u_nk (by decide), am_u_nk (by decide), am_u_nk (by decide), am_u_at]) | (rw [am_u_nk (by decide), am_u_nk (by decide), am_u_nk (by decide), am_u_nk (by decide), am_u_nk (by decide)]; first | exact u4 | exact u10 | exact u11 | exact u12))
theorem cR_t4 {T O : Nat} {N : Nat → Nat} {I K : hI} (a : rA T O N I K) : cR (Int32.ofInt (-1)) T N (k_trI I T (Int32.ofNat 1) (Int32.ofNat 0) (Int32.ofNat 1) (Int32.ofNat 1)) (m_tf4 K) := by
  obtain ⟨hT, _⟩ := rA_hT a
  obtain ⟨k0, k4, k5, k6, k8, k9, k10, k11, k12⟩ := k_trI_f (I := I) (T := T) (b := Int32.ofNat 1) (u := (Int32.ofNat 0)) (w := (Int32.ofNat 1)) (e := (Int32.ofNat 1))
  obtain ⟨t0, t4, t5, t6x, t7, t8, t9, t10, t11, t12⟩ := m_tf4_f (K := K)
  have t6 : True := trivial
  have kT : ∀ a c, 112 ≤ a → a ≤ 133 → m_tf4 K a c = K a c := fun a c u v => (t0 a c (by omega)).trans ((tM_tr tM_z tM_lt).2 a c (by omega) (by omega))
  have hv : ∀ v, v < N 3 → okn (m_tf4 K 125 v) 5 := fun v hv => by
    rw [kT 125 v (by omega) (by omega), ← (a.2.2.2.2.2.1.2.2.2.2.1 v hv).1]
    exact okn_mono (a.2.2.1.2.2.2.2.1 v hv).1 a.2.1.1.2.2.1
  refine ⟨k8, ?_, by rw [k11, t10], by rw [k12, t11], ?_, fun v hv2 _ => ?_, ?_, ?_⟩
  · rw [k10, t8]
  · rw [k9, t7]; decide
  ·
    rw [k6, t9]
    exact ⟨fun _ => ⟨okn_n1 (hv v hv2) (by omega), by rw [t12]; exact am_sh1 v⟩, fun _ => am_sh0 v⟩
  ·
    rw [k5, t5, t6x, pst_eq (K := m_tf4 K) (by rw [cF_copy (Or.inr (Or.inr rfl)) T 16 (by omega) (by omega), kT 114 0 (by omega) (by omega)]; exact a.2.2.2.2.2.1.2.2.2.2.2.1) (by rw [cF_copy (Or.inr (Or.inr rfl)) T 16 (by omega) (by omega)]; exact a.2.2.1.2.2.2.2.2) (Or.inr rfl)]
    by_cases g : m_tf4 K 114 0 < Int32.ofNat 50
    · rw [if_neg (not_not_intro g), if_neg (fun z => z.elim (fun y => y rfl) (fun y => y.2 g))]
    · rw [if_pos g, if_pos (Or.inr ⟨rfl, g⟩)]
  · rw [k4, t4]; exact Or.inr ⟨by decide, rfl⟩
theorem tC_trI {I : hI} {T : Nat} {b u w e : Int32} : tC I (k_trI I T b u w e) := tC_tr tC_stt (tC_tr (tC_u (by omega)) (tC_tr (tC_u (by omega)) (tC_u (by omega))))
theorem op_tried (x y z : Int32) : OPok 154 278 [.int x, .int y, .int z] := by
  rintro I J R ⟨T, O, N, u, q, h, r0, r2⟩
  obtain ⟨hT, _⟩ := rA_hT h.1
  obtain ⟨t, m0, l0⟩ := rA_ctk h.1
  have tk := h.1.2.2.2.2.1
  have n5 := t.1.2.1
  by_cases c : (¬ x < Int32.ofNat 0 ∧ ¬ Int32.ofNat 4 < x) ∧ (¬ z < Int32.ofNat 0 ∧ ¬ Int32.ofNat 200 < z) ∧ (x = Int32.ofNat 2 → ¬ y < 0 ∧ y < I (T + 11) 1) ∧ (¬ x = Int32.ofNat 2 → y = 0)
  · obtain ⟨ex, _, hw⟩ := am_btN (by omega) (by omega) c.1.1 c.1.2
    obtain ⟨ez, _, hn⟩ := am_btN (by omega) (by omega) c.2.1.1 c.2.1.2
    have c3 := c.2.2.1
    have c4 := c.2.2.2
    generalize nn x = w at ex hw
    generalize nn z = n at ez hn
    subst ex ez
    have w5 : w = 0 ∨ w = 1 ∨ w = 2 ∨ w = 3 ∨ w = 4 := by omega
    rcases w5 with rfl | rfl | rfl | rfl | rfl
    · obtain rfl := c4 (by decide)
      exact tried_ans (f := m_tf0) h r0 r2 tC_trI (fun K => (tM_tr (tM_tr (tM_tr (tM_tr (tM_tr (tM_tr tM_z tM_lt) (tM_u (by omega))) (tM_u (by omega))) (tM_u (by omega))) (tM_u (by omega))) (tM_u (by omega)))) (fun K => m_tf0_f.2.1) (d_tried0 hT r0 t hn (by omega)) (fun K L R tk => c_tried0 tk hn (by omega)) (fun K L J0 a s j => sim_tried a s (Int32.ofNat 2) k_trI_f.1 m_tf0_f.1 (cR_t0 a) j)
    · obtain rfl := c4 (by decide)
      exact tried_ans (f := m_tf1) h r0 r2 tC_trI (fun K => (tM_tr (tM_tr (tM_tr (tM_tr (tM_tr (tM_tr tM_z tM_lt) (tM_u (by omega))) (tM_u (by omega))) (tM_u (by omega))) (tM_u (by omega))) (tM_u (by omega)))) (fun K => m_tf1_f.2.1) (d_tried1 hT r0 t hn (by omega)) (fun K L R tk => c_tried1 tk hn (by omega)) (fun K L J0 a s j => sim_tried a s (Int32.ofNat 3) k_trI_f.1 m_tf1_f.1 (cR_t1 a) j)
    · obtain ⟨i, hi, rfl⟩ := am_oneN t.2.1.2.1 (by omega) (c3 rfl)
      exact tried_ans (f := fun K => m_tf2 K i) h r0 r2 tC_trI (fun K => (tM_tr (tM_tr (tM_tr (tM_tr (tM_tr (tM_tr tM_z tM_lt) (tM_u (by omega))) (tM_u (by omega))) (tM_u (by omega))) (tM_u (by omega))) (tM_u (by omega)))) (fun K => m_tf2_f.2.1) (d_tried2 hT r0 t hn hi (by omega)) (fun K L R tk => c_tried2 tk hn hi (by omega)) (fun K L J0 a s j => sim_tried a s (Int32.ofNat 1) k_trI_f.1 m_tf2_f.1 (cR_t2 hi a) j)
    · obtain rfl := c4 (by decide)
      exact tried_ans (f := m_tf3) h r0 r2 tC_trI (fun K => (tM_tr (tM_tr (tM_tr (tM_tr (tM_tr (tM_tr tM_z tM_lt) (tM_u (by omega))) (tM_u (by omega))) (tM_u (by omega))) (tM_u (by omega))) (tM_u (by omega)))) (fun K => m_tf3_f.2.1) (d_tried3 hT r0 t hn (by omega)) (fun K L R tk => c_tried3 tk hn (by omega)) (fun K L J0 a s j => sim_tried a s (Int32.ofNat 1) k_trI_f.1 m_tf3_f.1 (cR_t3 a) j)
    · obtain rfl := c4 (by decide)
      exact tried_ans (f := m_tf4) h r0 r2 tC_trI (fun K => (tM_tr (tM_tr (tM_tr (tM_tr (tM_tr (tM_tr tM_z tM_lt) (tM_u (by omega))) (tM_u (by omega))) (tM_u (by omega))) (tM_u (by omega))) (tM_u (by omega)))) (fun K => m_tf4_f.2.1) (d_tried4 hT r0 t hn (by omega)) (fun K L R tk => c_tried4 tk hn (by omega)) (fun K L J0 a s j => sim_tried a s (Int32.ofNat 1) k_trI_f.1 m_tf4_f.1 (cR_t4 a) j)
  · exact op_same h r0 r2 (d_tried_no hT r0 c (by omega)) (c_tried_no (by rw [tk.2.1.2.2.1, ← t.2.1.2.1]; exact c) (by omega)) rfl kM_z tM_z
