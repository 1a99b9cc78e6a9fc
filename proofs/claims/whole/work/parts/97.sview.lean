/-! Class and reference: what is told alike, states alike. -/
/-- a ship that is looked at: all, or this one -/
abbrev wt (x y : Int32) : Prop := x = Int32.ofInt (-1) ∨ x = y
/-- what is told, in the class and in the reference -/
def tR (T : Nat) (N : Nat → Nat) (I K : hI) : Prop :=
  (∀ m, m < N 0 → I (T + 2) m = K 115 m ∧ I (T + 3) m = K 116 m ∧ I (T + 4) m = K 117 m) ∧
  (∀ r, r < N 1 → I (T + 6) r = K 118 r ∧ I (T + 7) r = K 119 r ∧ I (T + 8) r = K 120 r ∧ I (T + 9) r = K 121 r) ∧
  (∀ r, r < 8 → (if N 1 ≤ r then Int32.ofInt (-1) else I (T + 10) r) = K 122 r) ∧
  (∀ s, s < N 2 → I (T + 12) s = K 123 s ∧ I (T + 13) s = K 124 s) ∧
  (∀ v, v < N 3 → I (T + 14) v = K 125 v ∧ I (T + 15) v = K 126 v ∧ I (T + 16) v = K 127 v) ∧
  (I T 16 = K 114 0 ∧ I T 17 = K 114 1)
/-- neither ropes nor ships are told -/
def n0 (N : Nat → Nat) : Prop := N 1 = 0 ∧ N 2 = 0
/-- states, in the class and in the reference -/
def sR (S b : Nat) (x : Int32) (N : Nat → Nat) (I K : hI) : Prop :=
  I S 0 = K 145 b ∧
  (∀ r, r < 8 → (n0 N ∨ I (S + 3) r = K 140 (8 * b + r)) ∧ (I (S + 3) r = Int32.ofInt (-1) ∨ okn (I (S + 3) r) 5) ∧ (wt x (I (S + 3) r) → I (S + 1) r = K 138 (8 * b + r) ∧ I (S + 2) r = K 139 (8 * b + r)) ∧ (N 1 ≤ r → I (S + 1) r = 0)) ∧
  (∀ s, s < 5 → wt x (Int32.ofNat s) → I (S + 4) s = K 141 (5 * b + s) ∧ I (S + 5) s = K 142 (5 * b + s) ∧ I (S + 6) s = K 143 (5 * b + s)) ∧
  (x = Int32.ofInt (-1) → I S 2 = K 144 b)
theorem am_a0 (a : Int32) : a + Int32.ofNat 0 = a := Int32.add_zero a
theorem m_bear_s (I : hI) (b n : Nat) (s : Int32) : m_bear I b (n + 1) s = m_bear I b n s + (if I 138 (8 * b + n) = Int32.ofNat 1 ∧ I 140 (8 * b + n) = s then I 139 (8 * b + n) else Int32.ofNat 0) := rfl
theorem bear_eq1 {S b : Nat} {I K : hI} {y : Int32} (h3 : ∀ r, r < 8 → I (S + 3) r = K 140 (8 * b + r)) (h1 : ∀ r, r < 8 → I (S + 3) r = y → I (S + 1) r = K 138 (8 * b + r) ∧ I (S + 2) r = K 139 (8 * b + r)) : ∀ j, j ≤ 8 → k_bear I S y j = m_bear K b j y := by
  intro j
  induction j with
  | zero => intro _; rfl
  | succ j ih =>
    intro hj
    rw [k_bear_s, m_bear_s, ih (by omega)]
    by_cases c : I (S + 3) j = y ∧ I (S + 1) j = Int32.ofNat 1
    · have g := h1 j (by omega) c.1
      rw [if_pos c, if_pos ⟨g.1.symm.trans c.2, (h3 j (by omega)).symm.trans c.1⟩, g.2]
    · have d : ¬ (K 138 (8 * b + j) = Int32.ofNat 1 ∧ K 140 (8 * b + j) = y) := fun z => by
        have e := (h3 j (by omega)).trans z.2
        exact c ⟨e, (h1 j (by omega) e).1.trans z.1⟩
      rw [if_neg c, if_neg d, am_a0]
theorem bear_tail {S n : Nat} {I : hI} {y : Int32} (h0 : ∀ r, n ≤ r → r < 8 → I (S + 1) r = 0) : ∀ j, n + j ≤ 8 → k_bear I S y (n + j) = k_bear I S y n := by
  intro j
  induction j with
  | zero => intro _; rfl
  | succ j ih =>
    intro hj
    have e := k_bear_s I S y (n + j)
    rw [if_neg (fun z => by rw [h0 (n + j) (by omega) (by omega)] at z; exact absurd z.2 (by decide))] at e
    exact e.trans (ih (by omega))
theorem bear_eq {S b n : Nat} {I K : hI} {y : Int32} (hn : n ≤ 8) (h3 : ∀ r, r < 8 → n = 0 ∨ I (S + 3) r = K 140 (8 * b + r)) (h1 : ∀ r, r < 8 → I (S + 3) r = y → I (S + 1) r = K 138 (8 * b + r) ∧ I (S + 2) r = K 139 (8 * b + r)) (h0 : ∀ r, n ≤ r → r < 8 → I (S + 1) r = 0) : k_bear I S y 8 = m_bear K b n y := by
  have e := bear_tail (y := y) h0 (8 - n) (by omega)
  rw [show n + (8 - n) = 8 by omega] at e
  by_cases z : n = 0
  · subst z; exact e
  · rw [← bear_eq1 (fun r hr => (h3 r hr).resolve_left z) h1 n hn]; exact e
theorem sR_bear {S b : Nat} {x y : Int32} {N : Nat → Nat} {I K : hI} (hn : N 1 ≤ 8) (h : sR S b x N I K) (w : wt x y) : k_bear I S y 8 = m_bear K b (N 1) y := by
  refine bear_eq hn (fun r hr => (h.2.1 r hr).1.imp_left (fun z => z.1)) (fun r hr e => (h.2.1 r hr).2.2.1 (by rw [e]; exact w)) (fun r h1 h2 => (h.2.1 r h2).2.2.2 h1)
theorem m_my_s (I : hI) (b n : Nat) (s : Int32) (t r : Nat) : m_my I b n s t (r + 1) = m_my I b n s t r + (if (I 138 (8 * b + r) = Int32.ofNat 1 ∧ I 140 (8 * b + r) = s) ∧ I 116 (nn (I 119 r)) = Int32.ofNat t then I 120 r else Int32.ofNat 0) := rfl
theorem k_m0_at (I : hI) : ∀ n t, t < n → k_m0 n I 87 t = Int32.ofNat 0 := by
  intro n
  induction n with
  | zero => intro t h; exact absurd h (Nat.not_lt_zero t)
  | succ n ih =>
    intro t h
    show am_u (k_m0 n I) 87 n (Int32.ofNat 0) 87 t = _
    by_cases e : t = n
    · rw [e, am_u_at]
    · rw [am_u_nk e]; exact ih t (by omega)
theorem my_eq {T S b n : Nat} {I K : hI} {y : Int32} (hT : T = 9 ∨ T = 36) (hS : S = 63 ∨ S = 70 ∨ S = 77) (hn : n ≤ 8) (h3 : ∀ r, r < 8 → n = 0 ∨ I (S + 3) r = K 140 (8 * b + r)) (h1 : ∀ r, r < 8 → I (S + 3) r = y → I (S + 1) r = K 138 (8 * b + r) ∧ I (S + 2) r = K 139 (8 * b + r)) (ht : ∀ r, r < n → I (T + 3) (nn (I (T + 7) r)) = K 116 (nn (K 119 r)) ∧ I (T + 8) r = K 120 r ∧ okn (I (T + 3) (nn (I (T + 7) r))) 10) : ∀ r, r ≤ n → ∀ t, t < 10 → k_m1 T S y r (k_m0 10 I) 87 t = m_my K b n y t r := by
  intro r
  induction r with
  | zero => intro _ t h; exact k_m0_at I 10 t h
  | succ r ih =>
    intro hr t h
    have f : ∀ a, a ≠ 87 → k_m1 T S y r (k_m0 10 I) a = I a := fun a ha => (k_m1_ne ha).trans (k_m0_ne ha)
    rw [k_m1_s, m_my_s, ← ih (by omega) t h, f (S + 3) (by omega), f (S + 1) (by omega), f (T + 3) (by omega), f (T + 7) (by omega), f (T + 8) (by omega)]
    obtain ⟨g1, g2, g3⟩ := ht r (by omega)
    have h3 : I (S + 3) r = K 140 (8 * b + r) := (h3 r (by omega)).resolve_left (by omega)
    by_cases c : I (S + 3) r = y
    · have g := h1 r (by omega) c
      rw [if_pos c]
      by_cases d : I (S + 1) r = Int32.ofNat 1
      · rw [if_pos d]
        by_cases e : t = nn (I (T + 3) (nn (I (T + 7) r)))
        · rw [e, am_u_at, if_pos ⟨⟨g.1.symm.trans d, h3.symm.trans c⟩, by rw [← g1]; exact g3.1⟩, g2]
        · rw [am_u_nk e, if_neg (fun z => e (by rw [g1, z.2]; exact (nn_ofNat (by omega)).symm)), am_a0]
      · rw [if_neg d, if_neg (fun z => d (g.1.trans z.1.1)), am_a0]
    · rw [if_neg c, if_neg (fun z => c (h3.trans z.1.2)), am_a0]
theorem my_nn {b n : Nat} {K : hI} {y : Int32} {t : Nat} (hn : n ≤ 8) (ht : ∀ r, r < n → okn (K 120 r) 100) : ∀ r, r ≤ n → ∃ k, m_my K b n y t r = Int32.ofNat k ∧ k ≤ 100 * r := by
  intro r
  induction r with
  | zero => intro _; exact ⟨0, rfl, Nat.zero_le _⟩
  | succ r ih =>
    intro hr
    obtain ⟨k, e, hk⟩ := ih (by omega)
    rw [m_my_s, e]
    split
    · obtain ⟨o1, o2⟩ := ht r (by omega)
      exact ⟨k + nn (K 120 r), by rw [Int32.ofNat_add, ← o1], by omega⟩
    · exact ⟨k, am_a0 _, by omega⟩
theorem m_md_s (I : hI) (b n : Nat) (s : Int32) (t : Nat) : m_md I b n s (t + 1) = if (m_md I b n s t).2 < m_my I b n s t n then (Int32.ofNat t, m_my I b n s t n) else m_md I b n s t := rfl
theorem md_eq {b n : Nat} {X K : hI} {y : Int32} (hy : ∀ t, t < 10 → X 87 t = m_my K b n y t n) (h0 : ¬ m_my K b n y 0 n < 0) : ∀ t, t ≤ 9 → k_m2 X t ≤ t ∧ m_md K b n y (t + 1) = (Int32.ofNat (k_m2 X t), m_my K b n y (k_m2 X t) n) := by
  intro t
  induction t with
  | zero =>
    intro _
    refine ⟨Nat.le_refl _, ?_⟩
    rw [m_md_s]
    show (if Int32.ofNat 0 < m_my K b n y 0 n then (Int32.ofNat 0, m_my K b n y 0 n) else (Int32.ofNat 0, Int32.ofNat 0)) = (Int32.ofNat 0, m_my K b n y 0 n)
    split
    · rfl
    · rename_i c
      have e : m_my K b n y 0 n = Int32.ofNat 0 := Int32.le_antisymm (Int32.not_lt.mp c) (Int32.not_lt.mp h0)
      rw [e]
  | succ t ih =>
    intro ht
    obtain ⟨h1, h2⟩ := ih (by omega)
    rw [m_md_s, h2, k_m2_s, hy _ (by omega), hy _ (by omega)]
    dsimp only
    split
    · exact ⟨Nat.le_refl _, rfl⟩
    · exact ⟨by omega, rfl⟩
theorem mood_eq {T S b n : Nat} {I K : hI} {y : Int32} (hT : T = 9 ∨ T = 36) (hS : S = 63 ∨ S = 70 ∨ S = 77) (hn : n ≤ 8) (h3 : ∀ r, r < 8 → n = 0 ∨ I (S + 3) r = K 140 (8 * b + r)) (h1 : ∀ r, r < 8 → I (S + 3) r = y → I (S + 1) r = K 138 (8 * b + r) ∧ I (S + 2) r = K 139 (8 * b + r)) (ht : ∀ r, r < n → I (T + 3) (nn (I (T + 7) r)) = K 116 (nn (K 119 r)) ∧ I (T + 8) r = K 120 r ∧ okn (I (T + 3) (nn (I (T + 7) r))) 10 ∧ okn (I (T + 8) r) 100) : k_mood I T S y n = m_mood K b n y := by
  have hy := my_eq (b := b) (y := y) hT hS hn h3 h1 (fun r hr => ⟨(ht r hr).1, (ht r hr).2.1, (ht r hr).2.2.1⟩) n (Nat.le_refl _)
  obtain ⟨k, e, hk⟩ := my_nn (b := b) (K := K) (y := y) (t := 0) hn (fun r hr => by rw [← (ht r hr).2.1]; exact (ht r hr).2.2.2) n (Nat.le_refl _)
  have g := (md_eq (X := k_mI I T S y n) hy (by rw [e]; exact fun z => absurd ((am_ltN (y := 0) (by omega) (by omega)).mp z) (Nat.not_lt_zero k)) 9 (by omega)).2
  unfold k_mood m_mood
  rw [g]
