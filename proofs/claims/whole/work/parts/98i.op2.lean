/-! Calls alike (two): ahead, tried, loses, homes, chance. -/
theorem jD_day {T S : Nat} {N : Nat → Nat} {p : hI × hJ} (hS : S = 63 ∨ S = 70 ∨ S = 77) : ∀ a i, a ≠ 85 → a ≠ 86 → ¬ (a = S ∧ i = 1) → (k_day T S N p).2 a i = p.2 a i := by
  intro a i h1 h2 h3
  have e1 : ∀ r, jF p.2 (k_p1 T S (N 4) r p).2 := by
    intro r
    induction r with
    | zero => exact jF_rf _
    | succ r ih =>
      refine jF_tr ih ?_
      show jF _ (k_p1S T S (N 4) r (k_p1 T S (N 4) r p)).2
      unfold k_p1S
      split
      · exact jF_tw
      · exact jF_rf _
  have e2 : ∀ z s (p : hI × hJ), jF p.2 (k_p2 T S N z s p).2 := by
    intro z s p
    induction s with
    | zero => exact jF_rf _
    | succ s ih =>
      refine jF_tr ih ?_
      show jF _ (k_p2S T S N z s (k_p2 T S N z s p)).2
      unfold k_p2S
      repeat' split
      · exact jF_pu
      · show jF _ (k_shW _ _ T S s N z).2
        unfold k_shW k_wr
        split
        · exact jF_pu
        · exact jF_tr jF_pu (jF_wrL (p := (_, _)) _)
      · exact jF_rf _
      · exact jF_rf _
  refine (e2 _ _ _ a i h1 h2).trans ?_
  refine Eq.trans ?_ (e1 (N 1) a i h1 h2)
  show k_stJ _ _ T S a i = _
  unfold k_stJ
  repeat' split
  · rfl
  · unfold am_u; rw [if_neg h3]; rfl
  · rfl
theorem jD_days {T S : Nat} {N : Nat → Nat} {p : hI × hJ} (hS : S = 63 ∨ S = 70 ∨ S = 77) : ∀ n a i, a ≠ 85 → a ≠ 86 → ¬ (a = S ∧ i = 1) → (k_days T S N n p).2 a i = p.2 a i := by
  intro n
  induction n with
  | zero => intro a i _ _ _; rfl
  | succ n ih => intro a i h1 h2 h3; exact (jD_day hS a i h1 h2 h3).trans (ih a i h1 h2 h3)
theorem jM_day {b : Nat} {N : Nat → Nat} {p : hI × hJ} : ∀ a i, a ≠ 136 → a ≠ 137 → (¬ (a = 110 ∧ i = 62) ∨ p.1 110 64 = 0) → (m_day N b p).2 a i = p.2 a i := by
  intro a i h1 h2 h3
  have e1 : ∀ r, jG p.2 (m_d1 b (N 1) r p).2 := by
    intro r
    induction r with
    | zero => exact jG_rf _
    | succ r ih =>
      refine jG_tr ih ?_
      show jG _ (m_d1S b (N 1) r (m_d1 b (N 1) r p)).2
      unfold m_d1S
      repeat' split
      · exact jG_tr jG_lay jG_blJ
      · exact jG_rf _
      · exact jG_rf _
  have e2 : ∀ s (p : hI × hJ), jG p.2 (m_d3 b (N 1) s p).2 := by
    intro s p
    induction s with
    | zero => exact jG_rf _
    | succ s ih =>
      refine jG_tr ih ?_
      show jG _ (m_d3S b (N 1) s (m_d3 b (N 1) s p)).2
      unfold m_d3S
      split
      · exact jG_tr (jG_tr jG_lay jG_blJ) (jG_asL (p := m_as0 _ _ b (N 1) s) (N 1))
      · exact jG_rf _
  refine (e2 _ _ a i h1 h2).trans ?_
  refine Eq.trans ?_ (e1 (N 1) a i h1 h2)
  show m_stJ _ _ a i = _
  unfold m_stJ
  repeat' split
  · rfl
  · rfl
  · rfl
  · rfl
  · rename_i g4
    have f : (m_p2 p.1 p.2 b N).1 110 64 = p.1 110 64 := simF_tr (simF_d1 (N 1) (p.1, p.2)) (simF_d2 (N 3) _) 110 64 (by omega) (by omega)
    rcases h3 with h3 | h3
    · unfold am_u; rw [if_neg h3]; rfl
    · exact absurd (f.trans h3) g4
theorem jM_days {b : Nat} {N : Nat → Nat} {p : hI × hJ} : ∀ n a i, a ≠ 136 → a ≠ 137 → (¬ (a = 110 ∧ i = 62) ∨ p.1 110 64 = 0) → (m_days N b n p).2 a i = p.2 a i := by
  intro n
  induction n with
  | zero => intro a i _ _ _; rfl
  | succ n ih =>
    intro a i h1 h2 h3
    refine (jM_day a i h1 h2 (h3.imp id fun g => ?_)).trans (ih a i h1 h2 h3)
    have f : simF p.1 (m_days N b n p).1 := by
      clear ih h3 g
      induction n with
      | zero => exact simF_rf _
      | succ n ih => exact simF_tr ih (simF_day N b _)
    exact (f 110 64 (by omega) (by omega)).trans g
theorem simF_days2 {b : Nat} {N : Nat → Nat} {p : hI × hJ} : ∀ n, simF p.1 (m_days N b n p).1 := by
  intro n
  induction n with
  | zero => exact simF_rf _
  | succ n ih => exact simF_tr ih (simF_day N b _)
theorem tC_stt {I : hI} {T : Nat} {x b : Int32} : tC I (k_stt I T x b) := fun a i h => ((am_u_na (by omega)).trans ((congrFun (k_db_n a (by omega)) i).trans (sF_copy a i (by omega) (by omega) (by omega))))
theorem tC_tr {I I1 I2 : hI} (h : tC I I1) (g : tC I1 I2) : tC I I2 := fun a i x => (g a i x).trans (h a i x)
theorem tC_s {I I1 : hI} (h : sF 77 I I1) : tC I I1 := fun a i x => h a i (by omega) (by omega) (by omega)
theorem tC_u {I : hI} {a k : Nat} {x : Int32} (h : 77 ≤ a ∧ a ≤ 87) : tC I (am_u I a k x) := fun b i g => am_u_na (by omega)
theorem kC_t {I I1 : hI} (h : tC I I1) : kC I I1 := fun a i g => h a i (by omega)
theorem kM_tM {K K1 : hI} (h : tM K K1) : kM K K1 := fun a i g => h.2 a i (by omega) (by omega)
theorem m_lt_110 {K : hI} : m_lt K 110 64 = Int32.ofNat 0 := (m_pt110 _).1
/-- what a trial of the class leaves of the reference's heap -/
theorem REL_k {T O : Nat} {N : Nat → Nat} {u q : Nat} {I I1 : hI} {J J1 : hJ} (h : REL T O N u q I J I J) (c : tC I I1) (j1 : J1 110 62 = J 110 62) (j2 : J1 110 89 = J 110 89) : REL T O N u q I J I1 J1 := REL_cc h (fun _ _ _ => rfl) (fun a i g => c a i (by omega)) rfl rfl j1 j2
theorem sim_k {x b : Int32} {T O n : Nat} {N : Nat → Nat} {u q : Nat} {I I1 : hI} {J J1 : hJ} (hb : b = Int32.ofNat 0 ∨ b = Int32.ofNat 1) (h : REL T O N u q I J I1 J1) {K1 : hI} (hK : ∀ a i, ¬ (a = 110 ∧ i = 64) → K1 a i = m_lt (m_z I1) a i) (h64 : K1 110 64 = (if b = Int32.ofNat 0 then Int32.ofNat 1 else Int32.ofNat 0)) {J0 L0 : hJ} (j : J0 77 1 = L0 110 62) : sim x T 77 1 N (k_days T 77 N n (k_stt I T x b, J0)) (m_days N 1 n (K1, L0)) := sim_days (rA_hT h.1).1 (Or.inr (Or.inr rfl)) (sim_trial (y := 0) hb h.1 h.2.1.1 hK h64 j) n
theorem op_ahead (x w y : Int32) : OPok 123 246 [.int x, .int w, .int y] := by
  rintro I J R ⟨T, O, N, u, q, h, r0, r2⟩
  obtain ⟨hT, _⟩ := rA_hT h.1
  obtain ⟨t, m0, l0⟩ := rA_ctk h.1
  have tk := h.1.2.2.2.2.1
  have n5 := t.1.2.1
  by_cases c : (¬ x < Int32.ofNat 0 ∧ ¬ Int32.ofNat 200 < x) ∧ (¬ w < Int32.ofNat 0 ∧ ¬ Int32.ofNat 4 < w) ∧ (w = Int32.ofNat 4 → ¬ y < 0 ∧ y < I (T + 11) 1)
  · obtain ⟨ex, _, hn⟩ := am_btN (by omega) (by omega) c.1.1 c.1.2
    obtain ⟨ew, _, hw⟩ := am_btN (by omega) (by omega) c.2.1.1 c.2.1.2
    have c3 := c.2.2
    generalize nn x = n at ex hn
    generalize nn w = w0 at ew hw
    subst ex ew
    by_cases w4 : w0 = 4
    · subst w4
      have hy := c3 rfl
      obtain ⟨s, hs, rfl⟩ := am_oneN t.2.1.2.1 (by omega) hy
      have tc : tC I (k_ahP I J T N n (Int32.ofNat s)).1 := tC_tr tC_stt (tC_s sF_days)
      have jj : ∀ a i, a ≠ 85 → a ≠ 86 → a ≠ 77 → (k_ahP I J T N n (Int32.ofNat s)).2 a i = J a i := fun a i h1 h2 h3 => (jD_days (Or.inr (Or.inr rfl)) n a i h1 h2 (by omega)).trans (am_u_na h3)
      have hk := REL_k h tc (jj _ _ (by decide) (by decide) (by decide)) (jj _ _ (by decide) (by decide) (by decide))
      have tk1 := hk.1.2.2.2.2.1
      have sm := sim_k (x := Int32.ofNat s) (n := n) (Or.inr rfl) hk (K1 := m_lt (m_z (k_ahP I J T N n (Int32.ofNat s)).1)) (fun _ _ _ => rfl) (by rw [m_lt_110, if_neg (by decide)]) (J0 := am_u J 77 1 (J 63 1)) (L0 := (k_ahP I J T N n (Int32.ofNat s)).2) (by rw [am_u_at]; exact hk.2.1.2.1)
      have tm : tM (k_ahP I J T N n (Int32.ofNat s)).1 (m_tr N (k_ahP I J T N n (Int32.ofNat s)).1 (k_ahP I J T N n (Int32.ofNat s)).2 n).1 := tM_tr tM_z (tM_tr tM_lt (tM_days (p := (_, _)) n))
      have jm : ∀ a i, a ≠ 136 → a ≠ 137 → (m_tr N (k_ahP I J T N n (Int32.ofNat s)).1 (k_ahP I J T N n (Int32.ofNat s)).2 n).2 a i = (k_ahP I J T N n (Int32.ofNat s)).2 a i := fun a i h1 h2 => jM_days n a i h1 h2 (Or.inr (m_lt_110 (K := m_z (k_ahP I J T N n (Int32.ofNat s)).1)))
      refine op_mk (d_ahead4 hT r0 t hn hs (by omega)) (c_ahead tk1 hn (by omega) (fun _ => by rw [tk1.2.1.2.2.1, ← t.2.1.2.1]; exact hy) (by omega)) ?_ (kM_tM tm) ⟨jm _ _ (by decide) (by decide), jm _ _ (by decide) (by decide)⟩ (REL_t hk tc tm (jj _ _ (by decide) (by decide) (by decide)) (jj _ _ (by decide) (by decide) (by decide)) (jm _ _ (by decide) (by decide)) (jm _ _ (by decide) (by decide))) ((am_u_na (by decide)).trans r0) ((am_u_na (by decide)).trans r2)
      have e : k_bear (k_ahP I J T N n (Int32.ofNat s)).1 77 (Int32.ofNat s) 8 = m_bear (m_tr N (k_ahP I J T N n (Int32.ofNat s)).1 (k_ahP I J T N n (Int32.ofNat s)).2 n).1 1 (N 1) (Int32.ofNat s) := sR_bear t.1.1 sm.2.1 (Or.inr rfl)
      rw [e]
      rfl
    · have tc : tC I (k_ahP I J T N n (Int32.ofInt (-1))).1 := tC_tr tC_stt (tC_s sF_days)
      have jj : ∀ a i, a ≠ 85 → a ≠ 86 → a ≠ 77 → (k_ahP I J T N n (Int32.ofInt (-1))).2 a i = J a i := fun a i h1 h2 h3 => (jD_days (Or.inr (Or.inr rfl)) n a i h1 h2 (by omega)).trans (am_u_na h3)
      have hk := REL_k h tc (jj _ _ (by decide) (by decide) (by decide)) (jj _ _ (by decide) (by decide) (by decide))
      have tk1 := hk.1.2.2.2.2.1
      have sm := sim_k (x := Int32.ofInt (-1)) (n := n) (Or.inr rfl) hk (K1 := m_lt (m_z (k_ahP I J T N n (Int32.ofInt (-1))).1)) (fun _ _ _ => rfl) (by rw [m_lt_110, if_neg (by decide)]) (J0 := am_u J 77 1 (J 63 1)) (L0 := (k_ahP I J T N n (Int32.ofInt (-1))).2) (by rw [am_u_at]; exact hk.2.1.2.1)
      have tm : tM (k_ahP I J T N n (Int32.ofInt (-1))).1 (m_tr N (k_ahP I J T N n (Int32.ofInt (-1))).1 (k_ahP I J T N n (Int32.ofInt (-1))).2 n).1 := tM_tr tM_z (tM_tr tM_lt (tM_days (p := (_, _)) n))
      have jm : ∀ a i, a ≠ 136 → a ≠ 137 → (m_tr N (k_ahP I J T N n (Int32.ofInt (-1))).1 (k_ahP I J T N n (Int32.ofInt (-1))).2 n).2 a i = (k_ahP I J T N n (Int32.ofInt (-1))).2 a i := fun a i h1 h2 => jM_days n a i h1 h2 (Or.inr (m_lt_110 (K := m_z (k_ahP I J T N n (Int32.ofInt (-1))).1)))
      refine op_mk (d_ahead hT r0 t hn (by omega) (by omega)) (c_ahead tk1 hn hw (fun z => absurd z w4) (by omega)) ?_ (kM_tM tm) ⟨jm _ _ (by decide) (by decide), jm _ _ (by decide) (by decide)⟩ (REL_t hk tc tm (jj _ _ (by decide) (by decide) (by decide)) (jj _ _ (by decide) (by decide) (by decide)) (jm _ _ (by decide) (by decide)) (jm _ _ (by decide) (by decide))) ((am_u_na (by decide)).trans r0) ((am_u_na (by decide)).trans r2)
      have b := hk.2.1
      have s1 := sm.2.1
      have f0 : ∀ a i, a < 77 → (k_ahP I J T N n (Int32.ofInt (-1))).1 a i = I a i := fun a i g => tc a i (by omega)
      have e81 : k_ce ((k_ahP I J T N n (Int32.ofInt (-1))).1 81) (Int32.ofNat 2) (N 2) = m_cS (m_tr N (k_ahP I J T N n (Int32.ofInt (-1))).1 (k_ahP I J T N n (Int32.ofInt (-1))).2 n).1 1 (N 2) (Int32.ofNat 2) := ce_S (fun r hr => (s1.2.2.1 r hr (Or.inl rfl)).1) (N 2) n5
      have e83 : k_sm ((k_ahP I J T N n (Int32.ofInt (-1))).1 83) (N 2) = m_hA (m_tr N (k_ahP I J T N n (Int32.ofInt (-1))).1 (k_ahP I J T N n (Int32.ofInt (-1))).2 n).1 1 (N 2) := sm_H (fun r hr => (s1.2.2.1 r hr (Or.inl rfl)).2.2) (N 2) n5
      have e69 : k_sm ((k_ahP I J T N n (Int32.ofInt (-1))).1 69) (N 2) = m_hA (m_tr N (k_ahP I J T N n (Int32.ofInt (-1))).1 (k_ahP I J T N n (Int32.ofInt (-1))).2 n).1 0 (N 2) := sm_H (fun r hr => by rw [f0 69 _ (by omega), tm.1 143 _ (by omega)]; exact (b.1.2.2.1 r hr (Or.inl rfl)).2.2) (N 2) n5
      have e78 : k_ce ((k_ahP I J T N n (Int32.ofInt (-1))).1 78) (Int32.ofNat 2) (N 1) = m_cR (m_tr N (k_ahP I J T N n (Int32.ofInt (-1))).1 (k_ahP I J T N n (Int32.ofInt (-1))).2 n).1 1 (N 1) (Int32.ofNat 2) := ce_Rb (fun r hr => ((s1.2.1 r hr).2.2.1 (Or.inl rfl)).1) (N 1) t.1.1
      have e77 : (k_ahP I J T N n (Int32.ofInt (-1))).1 77 2 = (m_tr N (k_ahP I J T N n (Int32.ofInt (-1))).1 (k_ahP I J T N n (Int32.ofInt (-1))).2 n).1 144 1 := s1.2.2.2 rfl
      have e63 : (k_ahP I J T N n (Int32.ofInt (-1))).1 63 2 = (m_tr N (k_ahP I J T N n (Int32.ofInt (-1))).1 (k_ahP I J T N n (Int32.ofInt (-1))).2 n).1 144 0 := by rw [f0 63 _ (by omega), tm.1 144 _ (by omega)]; exact b.1.2.2.2 rfl
      unfold k_ah4 m_ah
      rw [e81, e83, e69, e78, e77, e63]
      have w5 : w0 = 0 ∨ w0 = 1 ∨ w0 = 2 ∨ w0 = 3 := by omega
      rcases w5 with rfl | rfl | rfl | rfl <;> simp only [ite_true, ite_false, Nat.reduceEqDiff, reduceIte]
  · exact op_same h r0 r2 (d_ahead_no hT r0 c (by omega)) (c_ahead_no (by rw [tk.2.1.2.2.1, ← t.2.1.2.1]; exact c) (by omega)) rfl kM_z tM_z
