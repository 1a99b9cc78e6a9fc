/-! Texts alike: a text kept. -/
theorem cp_at {A n : Nat} {I : hI} : ∀ r, r ≤ n → (∀ i, i < r → m_cp A n r I A i = I A (n + i)) ∧ (∀ i, r ≤ i → m_cp A n r I A i = I A i) := by
  intro r
  induction r with
  | zero => intro _; exact ⟨fun i hi => absurd hi (Nat.not_lt_zero i), fun _ _ => rfl⟩
  | succ r ih =>
    intro hr
    obtain ⟨i1, i2⟩ := ih (by omega)
    have es : m_cp A n (r + 1) I = am_u (m_cp A n r I) A r (m_cp A n r I A (n + r)) := rfl
    rw [es]
    refine ⟨fun i hi => ?_, fun i hi => ?_⟩
    · by_cases z : i = r
      · rw [z, am_u_at]; exact i2 _ (by omega)
      · rw [am_u_nk z]; exact i1 i (by omega)
    · rw [am_u_nk (by omega)]; exact i2 i (by omega)
theorem am_cpn {A n r a i : Nat} {I : hI} (h : a ≠ A) : m_cp A n r I a i = I a i := congrFun (m_cp_ne h) i
theorem kt_e (K : hI) : m_ktI K = m_cp 133 64 64 (m_cp 132 64 64 (m_cp 131 64 64 (m_cp 130 3 3 (m_cp 129 3 3 (m_cp 128 3 3 (m_cp 127 10 10 (m_cp 126 10 10 (m_cp 125 10 10 (m_cp 124 5 5 (m_cp 123 5 5 (m_cp 122 8 8 (m_cp 121 8 8 (m_cp 120 8 8 (m_cp 119 8 8 (m_cp 118 8 8 (m_cp 117 6 6 (m_cp 116 6 6 (m_cp 115 6 6 (m_cp 114 2 2 (m_k1 K)))))))))))))))))))) := rfl
theorem kt_133 {K : hI} {i : Nat} (h : i < 64) : m_ktI K 133 i = K 133 (64 + i) := by
  rw [kt_e, (cp_at 64 (Nat.le_refl _)).1 i h, am_cpn (by decide), am_cpn (by decide), am_cpn (by decide), am_cpn (by decide), am_cpn (by decide), am_cpn (by decide), am_cpn (by decide), am_cpn (by decide), am_cpn (by decide), am_cpn (by decide), am_cpn (by decide), am_cpn (by decide), am_cpn (by decide), am_cpn (by decide), am_cpn (by decide), am_cpn (by decide), am_cpn (by decide), am_cpn (by decide), am_cpn (by decide)]
  unfold m_k1
  rw [am_u_na (by decide), am_u_na (by decide), am_u_na (by decide), am_u_na (by decide), am_u_na (by decide)]
theorem kt_132 {K : hI} {i : Nat} (h : i < 64) : m_ktI K 132 i = K 132 (64 + i) := by
  rw [kt_e, am_cpn (by decide), (cp_at 64 (Nat.le_refl _)).1 i h, am_cpn (by decide), am_cpn (by decide), am_cpn (by decide), am_cpn (by decide), am_cpn (by decide), am_cpn (by decide), am_cpn (by decide), am_cpn (by decide), am_cpn (by decide), am_cpn (by decide), am_cpn (by decide), am_cpn (by decide), am_cpn (by decide), am_cpn (by decide), am_cpn (by decide), am_cpn (by decide), am_cpn (by decide), am_cpn (by decide)]
  unfold m_k1
  rw [am_u_na (by decide), am_u_na (by decide), am_u_na (by decide), am_u_na (by decide), am_u_na (by decide)]
theorem kt_131 {K : hI} {i : Nat} (h : i < 64) : m_ktI K 131 i = K 131 (64 + i) := by
  rw [kt_e, am_cpn (by decide), am_cpn (by decide), (cp_at 64 (Nat.le_refl _)).1 i h, am_cpn (by decide), am_cpn (by decide), am_cpn (by decide), am_cpn (by decide), am_cpn (by decide), am_cpn (by decide), am_cpn (by decide), am_cpn (by decide), am_cpn (by decide), am_cpn (by decide), am_cpn (by decide), am_cpn (by decide), am_cpn (by decide), am_cpn (by decide), am_cpn (by decide), am_cpn (by decide), am_cpn (by decide)]
  unfold m_k1
  rw [am_u_na (by decide), am_u_na (by decide), am_u_na (by decide), am_u_na (by decide), am_u_na (by decide)]
theorem kt_130 {K : hI} {i : Nat} (h : i < 3) : m_ktI K 130 i = K 130 (3 + i) := by
  rw [kt_e, am_cpn (by decide), am_cpn (by decide), am_cpn (by decide), (cp_at 3 (Nat.le_refl _)).1 i h, am_cpn (by decide), am_cpn (by decide), am_cpn (by decide), am_cpn (by decide), am_cpn (by decide), am_cpn (by decide), am_cpn (by decide), am_cpn (by decide), am_cpn (by decide), am_cpn (by decide), am_cpn (by decide), am_cpn (by decide), am_cpn (by decide), am_cpn (by decide), am_cpn (by decide), am_cpn (by decide)]
  unfold m_k1
  rw [am_u_na (by decide), am_u_na (by decide), am_u_na (by decide), am_u_na (by decide), am_u_na (by decide)]
theorem kt_129 {K : hI} {i : Nat} (h : i < 3) : m_ktI K 129 i = K 129 (3 + i) := by
  rw [kt_e, am_cpn (by decide), am_cpn (by decide), am_cpn (by decide), am_cpn (by decide), (cp_at 3 (Nat.le_refl _)).1 i h, am_cpn (by decide), am_cpn (by decide), am_cpn (by decide), am_cpn (by decide), am_cpn (by decide), am_cpn (by decide), am_cpn (by decide), am_cpn (by decide), am_cpn (by decide), am_cpn (by decide), am_cpn (by decide), am_cpn (by decide), am_cpn (by decide), am_cpn (by decide), am_cpn (by decide)]
  unfold m_k1
  rw [am_u_na (by decide), am_u_na (by decide), am_u_na (by decide), am_u_na (by decide), am_u_na (by decide)]
theorem kt_128 {K : hI} {i : Nat} (h : i < 3) : m_ktI K 128 i = K 128 (3 + i) := by
  rw [kt_e, am_cpn (by decide), am_cpn (by decide), am_cpn (by decide), am_cpn (by decide), am_cpn (by decide), (cp_at 3 (Nat.le_refl _)).1 i h, am_cpn (by decide), am_cpn (by decide), am_cpn (by decide), am_cpn (by decide), am_cpn (by decide), am_cpn (by decide), am_cpn (by decide), am_cpn (by decide), am_cpn (by decide), am_cpn (by decide), am_cpn (by decide), am_cpn (by decide), am_cpn (by decide), am_cpn (by decide)]
  unfold m_k1
  rw [am_u_na (by decide), am_u_na (by decide), am_u_na (by decide), am_u_na (by decide), am_u_na (by decide)]
theorem kt_127 {K : hI} {i : Nat} (h : i < 10) : m_ktI K 127 i = K 127 (10 + i) := by
  rw [kt_e, am_cpn (by decide), am_cpn (by decide), am_cpn (by decide), am_cpn (by decide), am_cpn (by decide), am_cpn (by decide), (cp_at 10 (Nat.le_refl _)).1 i h, am_cpn (by decide), am_cpn (by decide), am_cpn (by decide), am_cpn (by decide), am_cpn (by decide), am_cpn (by decide), am_cpn (by decide), am_cpn (by decide), am_cpn (by decide), am_cpn (by decide), am_cpn (by decide), am_cpn (by decide), am_cpn (by decide)]
  unfold m_k1
  rw [am_u_na (by decide), am_u_na (by decide), am_u_na (by decide), am_u_na (by decide), am_u_na (by decide)]
theorem kt_126 {K : hI} {i : Nat} (h : i < 10) : m_ktI K 126 i = K 126 (10 + i) := by
  rw [kt_e, am_cpn (by decide), am_cpn (by decide), am_cpn (by decide), am_cpn (by decide), am_cpn (by decide), am_cpn (by decide), am_cpn (by decide), (cp_at 10 (Nat.le_refl _)).1 i h, am_cpn (by decide), am_cpn (by decide), am_cpn (by decide), am_cpn (by decide), am_cpn (by decide), am_cpn (by decide), am_cpn (by decide), am_cpn (by decide), am_cpn (by decide), am_cpn (by decide), am_cpn (by decide), am_cpn (by decide)]
  unfold m_k1
  rw [am_u_na (by decide), am_u_na (by decide), am_u_na (by decide), am_u_na (by decide), am_u_na (by decide)]
theorem kt_125 {K : hI} {i : Nat} (h : i < 10) : m_ktI K 125 i = K 125 (10 + i) := by
  rw [kt_e, am_cpn (by decide), am_cpn (by decide), am_cpn (by decide), am_cpn (by decide), am_cpn (by decide), am_cpn (by decide), am_cpn (by decide), am_cpn (by decide), (cp_at 10 (Nat.le_refl _)).1 i h, am_cpn (by decide), am_cpn (by decide), am_cpn (by decide), am_cpn (by decide), am_cpn (by decide), am_cpn (by decide), am_cpn (by decide), am_cpn (by decide), am_cpn (by decide), am_cpn (by decide), am_cpn (by decide)]
  unfold m_k1
  rw [am_u_na (by decide), am_u_na (by decide), am_u_na (by decide), am_u_na (by decide), am_u_na (by decide)]
theorem kt_124 {K : hI} {i : Nat} (h : i < 5) : m_ktI K 124 i = K 124 (5 + i) := by
  rw [kt_e, am_cpn (by decide), am_cpn (by decide), am_cpn (by decide), am_cpn (by decide), am_cpn (by decide), am_cpn (by decide), am_cpn (by decide), am_cpn (by decide), am_cpn (by decide), (cp_at 5 (Nat.le_refl _)).1 i h, am_cpn (by decide), am_cpn (by decide), am_cpn (by decide), am_cpn (by decide), am_cpn (by decide), am_cpn (by decide), am_cpn (by decide), am_cpn (by decide), am_cpn (by decide), am_cpn (by decide)]
  unfold m_k1
  rw [am_u_na (by decide), am_u_na (by decide), am_u_na (by decide), am_u_na (by decide), am_u_na (by decide)]
theorem kt_123 {K : hI} {i : Nat} (h : i < 5) : m_ktI K 123 i = K 123 (5 + i) := by
  rw [kt_e, am_cpn (by decide), am_cpn (by decide), am_cpn (by decide), am_cpn (by decide), am_cpn (by decide), am_cpn (by decide), am_cpn (by decide), am_cpn (by decide), am_cpn (by decide), am_cpn (by decide), (cp_at 5 (Nat.le_refl _)).1 i h, am_cpn (by decide), am_cpn (by decide), am_cpn (by decide), am_cpn (by decide), am_cpn (by decide), am_cpn (by decide), am_cpn (by decide), am_cpn (by decide), am_cpn (by decide)]
  unfold m_k1
  rw [am_u_na (by decide), am_u_na (by decide), am_u_na (by decide), am_u_na (by decide), am_u_na (by decide)]
theorem kt_122 {K : hI} {i : Nat} (h : i < 8) : m_ktI K 122 i = K 122 (8 + i) := by
  rw [kt_e, am_cpn (by decide), am_cpn (by decide), am_cpn (by decide), am_cpn (by decide), am_cpn (by decide), am_cpn (by decide), am_cpn (by decide), am_cpn (by decide), am_cpn (by decide), am_cpn (by decide), am_cpn (by decide), (cp_at 8 (Nat.le_refl _)).1 i h, am_cpn (by decide), am_cpn (by decide), am_cpn (by decide), am_cpn (by decide), am_cpn (by decide), am_cpn (by decide), am_cpn (by decide), am_cpn (by decide)]
  unfold m_k1
  rw [am_u_na (by decide), am_u_na (by decide), am_u_na (by decide), am_u_na (by decide), am_u_na (by decide)]
theorem kt_121 {K : hI} {i : Nat} (h : i < 8) : m_ktI K 121 i = K 121 (8 + i) := by
  rw [kt_e, am_cpn (by decide), am_cpn (by decide), am_cpn (by decide), am_cpn (by decide), am_cpn (by decide), am_cpn (by decide), am_cpn (by decide), am_cpn (by decide), am_cpn (by decide), am_cpn (by decide), am_cpn (by decide), am_cpn (by decide), (cp_at 8 (Nat.le_refl _)).1 i h, am_cpn (by decide), am_cpn (by decide), am_cpn (by decide), am_cpn (by decide), am_cpn (by decide), am_cpn (by decide), am_cpn (by decide)]
  unfold m_k1
  rw [am_u_na (by decide), am_u_na (by decide), am_u_na (by decide), am_u_na (by decide), am_u_na (by decide)]
theorem kt_120 {K : hI} {i : Nat} (h : i < 8) : m_ktI K 120 i = K 120 (8 + i) := by
  rw [kt_e, am_cpn (by decide), am_cpn (by decide), am_cpn (by decide), am_cpn (by decide), am_cpn (by decide), am_cpn (by decide), am_cpn (by decide), am_cpn (by decide), am_cpn (by decide), am_cpn (by decide), am_cpn (by decide), am_cpn (by decide), am_cpn (by decide), (cp_at 8 (Nat.le_refl _)).1 i h, am_cpn (by decide), am_cpn (by decide), am_cpn (by decide), am_cpn (by decide), am_cpn (by decide), am_cpn (by decide)]
  unfold m_k1
  rw [am_u_na (by decide), am_u_na (by decide), am_u_na (by decide), am_u_na (by decide), am_u_na (by decide)]
theorem kt_119 {K : hI} {i : Nat} (h : i < 8) : m_ktI K 119 i = K 119 (8 + i) := by
  rw [kt_e, am_cpn (by decide), am_cpn (by decide), am_cpn (by decide), am_cpn (by decide), am_cpn (by decide), am_cpn (by decide), am_cpn (by decide), am_cpn (by decide), am_cpn (by decide), am_cpn (by decide), am_cpn (by decide), am_cpn (by decide), am_cpn (by decide), am_cpn (by decide), (cp_at 8 (Nat.le_refl _)).1 i h, am_cpn (by decide), am_cpn (by decide), am_cpn (by decide), am_cpn (by decide), am_cpn (by decide)]
  unfold m_k1
  rw [am_u_na (by decide), am_u_na (by decide), am_u_na (by decide), am_u_na (by decide), am_u_na (by decide)]
theorem kt_118 {K : hI} {i : Nat} (h : i < 8) : m_ktI K 118 i = K 118 (8 + i) := by
  rw [kt_e, am_cpn (by decide), am_cpn (by decide), am_cpn (by decide), am_cpn (by decide), am_cpn (by decide), am_cpn (by decide), am_cpn (by decide), am_cpn (by decide), am_cpn (by decide), am_cpn (by decide), am_cpn (by decide), am_cpn (by decide), am_cpn (by decide), am_cpn (by decide), am_cpn (by decide), (cp_at 8 (Nat.le_refl _)).1 i h, am_cpn (by decide), am_cpn (by decide), am_cpn (by decide), am_cpn (by decide)]
  unfold m_k1
  rw [am_u_na (by decide), am_u_na (by decide), am_u_na (by decide), am_u_na (by decide), am_u_na (by decide)]
theorem kt_117 {K : hI} {i : Nat} (h : i < 6) : m_ktI K 117 i = K 117 (6 + i) := by
  rw [kt_e, am_cpn (by decide), am_cpn (by decide), am_cpn (by decide), am_cpn (by decide), am_cpn (by decide), am_cpn (by decide), am_cpn (by decide), am_cpn (by decide), am_cpn (by decide), am_cpn (by decide), am_cpn (by decide), am_cpn (by decide), am_cpn (by decide), am_cpn (by decide), am_cpn (by decide), am_cpn (by decide), (cp_at 6 (Nat.le_refl _)).1 i h, am_cpn (by decide), am_cpn (by decide), am_cpn (by decide)]
  unfold m_k1
  rw [am_u_na (by decide), am_u_na (by decide), am_u_na (by decide), am_u_na (by decide), am_u_na (by decide)]
theorem kt_116 {K : hI} {i : Nat} (h : i < 6) : m_ktI K 116 i = K 116 (6 + i) := by
  rw [kt_e, am_cpn (by decide), am_cpn (by decide), am_cpn (by decide), am_cpn (by decide), am_cpn (by decide), am_cpn (by decide), am_cpn (by decide), am_cpn (by decide), am_cpn (by decide), am_cpn (by decide), am_cpn (by decide), am_cpn (by decide), am_cpn (by decide), am_cpn (by decide), am_cpn (by decide), am_cpn (by decide), am_cpn (by decide), (cp_at 6 (Nat.le_refl _)).1 i h, am_cpn (by decide), am_cpn (by decide)]
  unfold m_k1
  rw [am_u_na (by decide), am_u_na (by decide), am_u_na (by decide), am_u_na (by decide), am_u_na (by decide)]
theorem kt_115 {K : hI} {i : Nat} (h : i < 6) : m_ktI K 115 i = K 115 (6 + i) := by
  rw [kt_e, am_cpn (by decide), am_cpn (by decide), am_cpn (by decide), am_cpn (by decide), am_cpn (by decide), am_cpn (by decide), am_cpn (by decide), am_cpn (by decide), am_cpn (by decide), am_cpn (by decide), am_cpn (by decide), am_cpn (by decide), am_cpn (by decide), am_cpn (by decide), am_cpn (by decide), am_cpn (by decide), am_cpn (by decide), am_cpn (by decide), (cp_at 6 (Nat.le_refl _)).1 i h, am_cpn (by decide)]
  unfold m_k1
  rw [am_u_na (by decide), am_u_na (by decide), am_u_na (by decide), am_u_na (by decide), am_u_na (by decide)]
theorem kt_114 {K : hI} {i : Nat} (h : i < 2) : m_ktI K 114 i = K 114 (2 + i) := by
  rw [kt_e, am_cpn (by decide), am_cpn (by decide), am_cpn (by decide), am_cpn (by decide), am_cpn (by decide), am_cpn (by decide), am_cpn (by decide), am_cpn (by decide), am_cpn (by decide), am_cpn (by decide), am_cpn (by decide), am_cpn (by decide), am_cpn (by decide), am_cpn (by decide), am_cpn (by decide), am_cpn (by decide), am_cpn (by decide), am_cpn (by decide), am_cpn (by decide), (cp_at 2 (Nat.le_refl _)).1 i h]
  unfold m_k1
  rw [am_u_na (by decide), am_u_na (by decide), am_u_na (by decide), am_u_na (by decide), am_u_na (by decide)]
theorem kt_n {K : hI} {a i : Nat} (h : a < 114 ∨ 133 < a) : m_ktI K a i = m_k1 K a i := by
  rw [kt_e, am_cpn (by omega), am_cpn (by omega), am_cpn (by omega), am_cpn (by omega), am_cpn (by omega), am_cpn (by omega), am_cpn (by omega), am_cpn (by omega), am_cpn (by omega), am_cpn (by omega), am_cpn (by omega), am_cpn (by omega), am_cpn (by omega), am_cpn (by omega), am_cpn (by omega), am_cpn (by omega), am_cpn (by omega), am_cpn (by omega), am_cpn (by omega), am_cpn (by omega)]
theorem kt_110 {K : hI} : m_ktI K 110 12 = K 110 17 ∧ m_ktI K 110 13 = K 110 18 ∧ m_ktI K 110 14 = K 110 19 ∧ m_ktI K 110 15 = K 110 20 ∧ m_ktI K 110 16 = K 110 21 := by
  rw [kt_n (by omega), kt_n (by omega), kt_n (by omega), kt_n (by omega), kt_n (by omega)]
  unfold m_k1
  refine ⟨?_, ?_, ?_, ?_, am_u_at⟩
  · rw [am_u_nk (by decide), am_u_nk (by decide), am_u_nk (by decide), am_u_nk (by decide), am_u_at]
  · rw [am_u_nk (by decide), am_u_nk (by decide), am_u_nk (by decide), am_u_at]
  · rw [am_u_nk (by decide), am_u_nk (by decide), am_u_at]
  · rw [am_u_nk (by decide), am_u_at]
theorem kt_o {K : hI} {a i : Nat} (h : a < 114 ∨ 133 < a) (g : ¬ (a = 110 ∧ 12 ≤ i ∧ i ≤ 16)) : m_ktI K a i = K a i := by
  rw [kt_n h]
  unfold m_k1 am_u
  rw [if_neg (by omega), if_neg (by omega), if_neg (by omega), if_neg (by omega), if_neg (by omega)]
/-- begun anew, in the reference -/
theorem be_o {K : hI} {a i : Nat} (h : ¬ (138 ≤ a ∧ a ≤ 145)) (g : ¬ (a = 110 ∧ (i = 53 ∨ (63 ≤ i ∧ i ≤ 72) ∨ i = 79 ∨ i = 80 ∨ i = 84 ∨ i = 86))) : m_beI K a i = K a i := by
  have e : m_beI K a i = m_pt (m_af 0 K) a i := by
    unfold m_beI am_u
    rw [if_neg (by omega), if_neg (by omega), if_neg (by omega), if_neg (by omega)]
  rw [e]
  refine Eq.trans ?_ (simF_af 0 K a i h (by omega))
  unfold m_pt am_u
  rw [if_neg (by omega), if_neg (by omega), if_neg (by omega), if_neg (by omega), if_neg (by omega), if_neg (by omega), if_neg (by omega), if_neg (by omega), if_neg (by omega), if_neg (by omega)]
theorem be_s {K : hI} {a i : Nat} (h : a ≠ 110) : m_beI K a i = m_af 0 K a i := by
  unfold m_beI
  rw [am_u_na h, am_u_na h, am_u_na h, am_u_na h, m_pt_n a h]
theorem be_v {K : hI} : m_beI K 110 79 = Int32.ofNat 0 ∧ m_beI K 110 80 = Int32.ofInt (-1) ∧ m_beI K 110 84 = Int32.ofNat 0 ∧ m_beI K 110 86 = Int32.ofNat 0 := by
  unfold m_beI
  refine ⟨?_, ?_, ?_, am_u_at⟩
  · rw [am_u_nk (by decide), am_u_nk (by decide), am_u_nk (by decide), am_u_at]
  · rw [am_u_nk (by decide), am_u_nk (by decide), am_u_at]
  · rw [am_u_nk (by decide), am_u_at]
/-- begun anew, in the class -/
theorem sf_f {A : Nat} {I : hI} : ∀ n, (∀ i, i < n → s_for (fun r I => am_u I A r (Int32.ofNat 0)) n I A i = Int32.ofNat 0) ∧ (∀ a i, a ≠ A → s_for (fun r I => am_u I A r (Int32.ofNat 0)) n I a i = I a i) := by
  intro n
  induction n with
  | zero => exact ⟨fun i hi => absurd hi (Nat.not_lt_zero i), fun _ _ _ => rfl⟩
  | succ n ih =>
    have es : s_for (fun r I => am_u I A r (Int32.ofNat 0)) (n + 1) I = am_u (s_for (fun r I => am_u I A r (Int32.ofNat 0)) n I) A n (Int32.ofNat 0) := rfl
    rw [es]
    refine ⟨fun i hi => ?_, fun a i h => (am_u_na h).trans (ih.2 a i h)⟩
    by_cases z : i = n
    · rw [z, am_u_at]
    · rw [am_u_nk z]; exact ih.1 i (by omega)
theorem sfg_f {I : hI} : (∀ i, i < 6 → k_sfg I 94 i = Int32.ofNat 0) ∧ (∀ i, i < 300 → k_sfg I 95 i = Int32.ofNat 0) ∧ k_sfg I 88 0 = Int32.ofNat 0 ∧ k_sfg I 88 1 = Int32.ofInt (-1) ∧ (∀ a i, a ≠ 94 → a ≠ 95 → a ≠ 88 → k_sfg I a i = I a i) := by
  have a2 : ∀ X a i, a ≠ 95 → k_sf2 300 X a i = X a i := fun X a i h => (sf_f (A := 95) (I := X) 300).2 a i h
  have a1 : ∀ X a i, a ≠ 94 → k_sf1 6 X a i = X a i := fun X a i h => (sf_f (A := 94) (I := X) 6).2 a i h
  unfold k_sfg
  refine ⟨fun i hi => ?_, fun i hi => (sf_f (A := 95) 300).1 i hi, ?_, ?_, fun a i h1 h2 h3 => ?_⟩
  · rw [a2 _ _ _ (by decide)]; exact (sf_f (A := 94) 6).1 i hi
  · rw [a2 _ _ _ (by decide), a1 _ _ _ (by decide), am_u_nk (by decide), am_u_at]
  · rw [a2 _ _ _ (by decide), a1 _ _ _ (by decide), am_u_at]
  · rw [a2 _ _ _ h2, a1 _ _ _ h1, am_u_na h3, am_u_na h3]
