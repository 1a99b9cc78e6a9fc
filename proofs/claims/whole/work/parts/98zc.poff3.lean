/-! Put off (three): sets of voyages. -/
theorem and_half (x y : Nat) : x &&& y = 2 * (x / 2 &&& y / 2) + x % 2 * (y % 2) := by
  have h1 : (x &&& y) / 2 = x / 2 &&& y / 2 := Nat.and_div_two
  have h2 : (x &&& y) % 2 = x % 2 &&& y % 2 := Nat.and_mod_two_pow (n := 1)
  have h3 : x % 2 &&& y % 2 = x % 2 * (y % 2) := by
    rcases Nat.mod_two_eq_zero_or_one x with a | a <;> rcases Nat.mod_two_eq_zero_or_one y with b | b <;> rw [a, b] <;> rfl
  have h4 := Nat.div_add_mod (x &&& y) 2
  rw [h1, h2, h3] at h4
  exact h4.symm
theorem nx_m : ∀ k K A b, k ≤ K → A < 2 ^ k → b &&& A = b → (2 ^ K - 1 - (A - b)) &&& A = b := by
  intro k
  induction k with
  | zero =>
    intro K A b hk hA hb
    obtain rfl : A = 0 := by rw [Nat.pow_zero] at hA; omega
    rw [Nat.and_zero] at hb ⊢; exact hb
  | succ k ih =>
    intro K A b hk hA hb
    obtain ⟨K, rfl⟩ : ∃ K', K = K' + 1 := ⟨K - 1, by omega⟩
    have hb2 : b / 2 &&& A / 2 = b / 2 := by rw [← Nat.and_div_two, hb]
    have hle : b / 2 ≤ A / 2 := by rw [← hb2]; exact Nat.and_le_right
    have hp : 0 < 2 ^ K := Nat.pow_pos (by decide)
    have hpp : 2 ^ (K + 1) = 2 * 2 ^ K := by rw [Nat.pow_succ, Nat.mul_comm]
    have hA2 : A / 2 < 2 ^ k := by rw [Nat.pow_succ] at hA; omega
    have hAK : 2 ^ k ≤ 2 ^ K := Nat.pow_le_pow_right (by decide) (by omega)
    have i := ih K (A / 2) (b / 2) (by omega) hA2 hb2
    have hh := and_half b A
    rw [hb, hb2] at hh
    rw [and_half]
    rcases Nat.mod_two_eq_zero_or_one A with a | a <;> rcases Nat.mod_two_eq_zero_or_one b with c | c
    · rw [a, Nat.mul_zero, show (2 ^ (K + 1) - 1 - (A - b)) / 2 = 2 ^ K - 1 - (A / 2 - b / 2) by omega, i]; omega
    · rw [a, c] at hh; omega
    · rw [show (2 ^ (K + 1) - 1 - (A - b)) / 2 = 2 ^ K - 1 - (A / 2 - b / 2) by omega, i, show (2 ^ (K + 1) - 1 - (A - b)) % 2 = 0 by omega, Nat.zero_mul]; omega
    · rw [show (2 ^ (K + 1) - 1 - (A - b)) / 2 = 2 ^ K - 1 - (A / 2 - b / 2) by omega, i, show (2 ^ (K + 1) - 1 - (A - b)) % 2 = 1 by omega, a]; omega
/-- the next set within another is the next greater one -/
theorem nx_s : ∀ k K A b, k ≤ K → A < 2 ^ k → b &&& A = b → b ≠ A → ∀ z, z &&& A = z → z < ((2 ^ K - (A - b)) &&& A) → z ≤ b := by
  intro k
  induction k with
  | zero =>
    intro K A b hk hA hb hn
    obtain rfl : A = 0 := by rw [Nat.pow_zero] at hA; omega
    rw [Nat.and_zero] at hb
    exact absurd hb.symm hn
  | succ k ih =>
    intro K A b hk hA hb hn z hz hl
    obtain ⟨K, rfl⟩ : ∃ K', K = K' + 1 := ⟨K - 1, by omega⟩
    have hb2 : b / 2 &&& A / 2 = b / 2 := by rw [← Nat.and_div_two, hb]
    have hz2 : z / 2 &&& A / 2 = z / 2 := by rw [← Nat.and_div_two, hz]
    have hle : b / 2 ≤ A / 2 := by rw [← hb2]; exact Nat.and_le_right
    have hp : 0 < 2 ^ K := Nat.pow_pos (by decide)
    have hpp : 2 ^ (K + 1) = 2 * 2 ^ K := by rw [Nat.pow_succ, Nat.mul_comm]
    have hA2 : A / 2 < 2 ^ k := by rw [Nat.pow_succ] at hA; omega
    have hAK : 2 ^ k ≤ 2 ^ K := Nat.pow_le_pow_right (by decide) (by omega)
    have i := ih K (A / 2) (b / 2) (by omega) hA2 hb2
    have hh := and_half b A
    rw [hb, hb2] at hh
    have hhz := and_half z A
    rw [hz, hz2] at hhz
    rw [and_half] at hl
    rcases Nat.mod_two_eq_zero_or_one A with a | a <;> rcases Nat.mod_two_eq_zero_or_one b with c | c
    · rw [a, Nat.mul_zero, show (2 ^ (K + 1) - (A - b)) / 2 = 2 ^ K - (A / 2 - b / 2) by omega] at hl
      have := i (by omega) (z / 2) hz2 (by omega)
      rw [a, Nat.mul_zero] at hhz
      omega
    · rw [a, c] at hh; omega
    · have m := nx_m k K (A / 2) (b / 2) (by omega) hA2 hb2
      rw [show (2 ^ (K + 1) - (A - b)) / 2 = 2 ^ K - 1 - (A / 2 - b / 2) by omega, m, show (2 ^ (K + 1) - (A - b)) % 2 = 1 by omega, a] at hl
      omega
    · rw [show (2 ^ (K + 1) - (A - b)) / 2 = 2 ^ K - (A / 2 - b / 2) by omega, show (2 ^ (K + 1) - (A - b)) % 2 = 0 by omega, Nat.zero_mul] at hl
      have := i (by omega) (z / 2) hz2 (by omega)
      omega
theorem sbs_and {b A : Nat} : sbs b A ↔ b &&& A = b := by
  constructor
  · intro h
    apply Nat.eq_of_testBit_eq
    intro r
    rw [Nat.testBit_and]
    cases c : b.testBit r with
    | false => rfl
    | true => rw [h r c]; rfl
  · intro h r hr
    rw [← h, Nat.testBit_and, Bool.and_eq_true] at hr
    exact hr.2
theorem nxt_v {A b : Nat} (hA : A < 1024) (hb : sbs b A) : k_nxt A b = (2 ^ 32 - (A - b)) &&& A ∨ b = A := by
  have hle := sbs_le hb
  by_cases e : b = A
  · exact Or.inr e
  · refine Or.inl ?_
    unfold k_nxt
    rw [show (4294967296 - A + b) % 4294967296 = 2 ^ 32 - (A - b) by omega]
theorem nxt_s {A b z : Nat} (hA : A < 1024) (hb : sbs b A) (hn : b ≠ A) (hz : sbs z A) (hl : z < k_nxt A b) : z ≤ b := by
  rcases nxt_v hA hb with e | e
  · rw [e] at hl
    exact nx_s 10 32 A b (by decide) hA (sbs_and.mp hb) hn z (sbs_and.mp hz) hl
  · exact absurd e hn
theorem nxt_sub (A b : Nat) : sbs (k_nxt A b) A := sbs_and.mpr (by
  unfold k_nxt
  rw [Nat.and_assoc, Nat.and_self])
def nx_it (A : Nat) : Nat → Nat → Nat
  | 0, b => b
  | n + 1, b => nx_it A n (k_nxt A b)
set_option maxRecDepth 16384 in
theorem nx_end : ∀ A, A < 1024 → nx_it A (2 ^ k_pc A - 1) 0 = A := by decide +kernel
set_option maxRecDepth 512
/-! how many, and what they are worth -/
def pB (n : Nat) : Nat → Nat
  | 0 => 0
  | k + 1 => pB n k + (if n.testBit k = true then 1 else 0)
def vB (n : Nat) : Nat → Nat
  | 0 => 0
  | k + 1 => vB n k + (if n.testBit k = true then 2 ^ k else 0)
theorem pB_s (n k : Nat) : pB n (k + 1) = pB n k + (if n.testBit k = true then 1 else 0) := rfl
theorem vB_s (n k : Nat) : vB n (k + 1) = vB n k + (if n.testBit k = true then 2 ^ k else 0) := rfl
set_option maxRecDepth 16384 in
theorem pv_ok : ∀ n, n < 1024 → k_pc n = pB n 10 ∧ n = vB n 10 := by decide +kernel
set_option maxRecDepth 512
theorem pB_add {a b : Nat} (h : ∀ r, ¬ (a.testBit r = true ∧ b.testBit r = true)) : ∀ k, pB (a ||| b) k = pB a k + pB b k ∧ vB (a ||| b) k = vB a k + vB b k := by
  intro k
  induction k with
  | zero => exact ⟨rfl, rfl⟩
  | succ k ih =>
    have hk := h k
    rw [pB_s, pB_s, pB_s, vB_s, vB_s, vB_s, ih.1, ih.2, Nat.testBit_or]
    cases ca : a.testBit k <;> cases cb : b.testBit k
    · exact ⟨by simp, by simp⟩
    · simp only [Bool.false_or, if_true, Bool.false_eq_true, if_false]; omega
    · simp only [Bool.or_false, if_true, Bool.false_eq_true, if_false]; omega
    · exact absurd ⟨ca, cb⟩ hk
theorem pB_le {a b : Nat} (h : sbs a b) : ∀ k, pB a k ≤ pB b k := by
  intro k
  induction k with
  | zero => exact Nat.le_refl _
  | succ k ih =>
    rw [pB_s, pB_s]
    by_cases c : a.testBit k = true
    · rw [if_pos c, if_pos (h k c)]; omega
    · rw [if_neg c]; omega
theorem pB_eq {a b : Nat} (h : sbs a b) : ∀ k, pB a k = pB b k → ∀ r, r < k → a.testBit r = b.testBit r := by
  intro k
  induction k with
  | zero => intro _ r hr; exact absurd hr (Nat.not_lt_zero _)
  | succ k ih =>
    intro e r hr
    rw [pB_s, pB_s] at e
    have hl := pB_le h k
    have hk : a.testBit k = b.testBit k := by
      cases ca : a.testBit k with
      | true => rw [h k ca]
      | false =>
        cases cb : b.testBit k with
        | false => rfl
        | true => rw [ca, cb, if_neg (by decide), if_pos rfl] at e; omega
    by_cases er : r = k
    · subst er; exact hk
    · rw [hk] at e
      exact ih (by omega) r (by omega)
theorem bit_hi {a r : Nat} (h : a < 1024) (hr : 10 ≤ r) : a.testBit r = false := by
  apply Nat.testBit_lt_two_pow
  exact Nat.lt_of_lt_of_le h (Nat.pow_le_pow_right (n := 2) (by decide) hr)
theorem pc_le {a b : Nat} (ha : a < 1024) (hb : b < 1024) (h : sbs a b) : k_pc a ≤ k_pc b := by
  rw [(pv_ok a ha).1, (pv_ok b hb).1]; exact pB_le h 10
theorem pc_eq {a b : Nat} (ha : a < 1024) (hb : b < 1024) (h : sbs a b) (e : k_pc a = k_pc b) : a = b := by
  rw [(pv_ok a ha).1, (pv_ok b hb).1] at e
  apply Nat.eq_of_testBit_eq
  intro r
  by_cases hr : r < 10
  · exact pB_eq h 10 e r hr
  · rw [bit_hi ha (by omega), bit_hi hb (by omega)]
theorem or_1024 {a b : Nat} (ha : a < 1024) (hb : b < 1024) : a ||| b < 1024 := Nat.or_lt_two_pow (n := 10) ha hb
theorem pc_add {a b : Nat} (ha : a < 1024) (hb : b < 1024) (h : ∀ r, ¬ (a.testBit r = true ∧ b.testBit r = true)) : k_pc (a ||| b) = k_pc a + k_pc b ∧ a ||| b = a + b := by
  obtain ⟨x, y⟩ := pB_add h 10
  have ho := or_1024 ha hb
  rw [(pv_ok a ha).1, (pv_ok b hb).1, (pv_ok _ ho).1]
  refine ⟨x, ?_⟩
  have e1 := (pv_ok a ha).2
  have e2 := (pv_ok b hb).2
  have e3 := (pv_ok _ ho).2
  omega
theorem pc_two : ∀ v, v < 10 → k_pc (2 ^ v) = 1 := by decide +kernel
theorem pc_ins {t v : Nat} (ht : t < 1024) (hv : v < 10) (h : t.testBit v = false) : k_pc (t ||| 2 ^ v) = k_pc t + 1 := by
  rw [(pc_add ht (show 2 ^ v < 2 ^ 10 from Nat.pow_lt_pow_right (by decide) hv) (fun r z => by
    rw [Nat.testBit_two_pow, decide_eq_true_iff] at z
    rw [← z.2, h] at z; exact absurd z.1 (by decide))).1, pc_two v hv]
