/-! Calls alike (nine): back, undo, feed. -/
theorem m_bb1_f {A i : Nat} (hA : 145 < A) (K : hI) : ∀ n, n ≤ 8 → (∀ r, r < n → m_bb1 A i n K 138 r = K A (i + r) ∧ m_bb1 A i n K 139 r = K A (i + 8 + r) ∧ m_bb1 A i n K 140 r = K A (i + 16 + r)) ∧ (∀ a j, (a < 138 ∨ 140 < a ∨ 8 ≤ j) → m_bb1 A i n K a j = K a j) := by
  intro n
  induction n with
  | zero => intro _; exact ⟨fun r hr => absurd hr (Nat.not_lt_zero r), fun _ _ _ => rfl⟩
  | succ n ih =>
    intro hn
    obtain ⟨i1, i2⟩ := ih (by omega)
    have e : m_bb1 A i (n + 1) K = am_u (am_u (am_u (m_bb1 A i n K) 138 n (m_bb1 A i n K A (i + n))) 139 n (m_bb1 A i n K A (i + 8 + n))) 140 n (m_bb1 A i n K A (i + 16 + n)) := rfl
    rw [e, i2 A _ (by omega), i2 A _ (by omega), i2 A _ (by omega)]
    refine ⟨fun r hr => ?_, fun a j h => ?_⟩
    · by_cases g : r = n
      · subst g
        refine ⟨?_, ?_, am_u_at⟩
        · rw [am_u_na (by decide), am_u_na (by decide), am_u_at]
        · rw [am_u_na (by decide), am_u_at]
      · rw [am_u_nk g, am_u_nk g, am_u_nk g, am_u_nk g, am_u_nk g, am_u_nk g, am_u_nk g, am_u_nk g, am_u_nk g]
        exact i1 r (by omega)
    · unfold am_u
      rw [if_neg (by omega), if_neg (by omega), if_neg (by omega)]; exact i2 a j h
theorem m_bb2_f {A i : Nat} (hA : 145 < A) (K : hI) : ∀ n, n ≤ 5 → (∀ r, r < n → m_bb2 A i n K 141 r = K A (i + 24 + r) ∧ m_bb2 A i n K 142 r = K A (i + 29 + r)) ∧ (∀ a j, (a < 141 ∨ 142 < a ∨ 5 ≤ j) → m_bb2 A i n K a j = K a j) := by
  intro n
  induction n with
  | zero => intro _; exact ⟨fun r hr => absurd hr (Nat.not_lt_zero r), fun _ _ _ => rfl⟩
  | succ n ih =>
    intro hn
    obtain ⟨i1, i2⟩ := ih (by omega)
    have e : m_bb2 A i (n + 1) K = am_u (am_u (m_bb2 A i n K) 141 n (m_bb2 A i n K A (i + 24 + n))) 142 n (m_bb2 A i n K A (i + 29 + n)) := rfl
    rw [e, i2 A _ (by omega), i2 A _ (by omega)]
    refine ⟨fun r hr => ?_, fun a j h => ?_⟩
    · by_cases g : r = n
      · subst g
        refine ⟨?_, am_u_at⟩
        rw [am_u_na (by decide), am_u_at]
      · rw [am_u_nk g, am_u_nk g, am_u_nk g, am_u_nk g]
        exact i1 r (by omega)
    · unfold am_u
      rw [if_neg (by omega), if_neg (by omega)]; exact i2 a j h
theorem m_bb_f {A i : Nat} (hA : 145 < A) (K : hI) : (∀ r, r < 8 → m_bb A i K 138 r = K A (i + r) ∧ m_bb A i K 139 r = K A (i + 8 + r) ∧ m_bb A i K 140 r = K A (i + 16 + r)) ∧ (∀ s, s < 5 → m_bb A i K 141 s = K A (i + 24 + s) ∧ m_bb A i K 142 s = K A (i + 29 + s)) ∧ (∀ a j, (a < 138 ∨ 142 < a) → m_bb A i K a j = K a j) := by
  obtain ⟨p1, p2⟩ := m_bb1_f (i := i) hA K 8 (by omega)
  obtain ⟨q1, q2⟩ := m_bb2_f (i := i) hA (m_bb1 A i 8 K) 5 (by omega)
  unfold m_bb
  refine ⟨fun r hr => ?_, fun s hs => ?_, fun a j h => ?_⟩
  · rw [q2 138 r (by omega), q2 139 r (by omega), q2 140 r (by omega)]; exact p1 r hr
  · rw [(q1 s hs).1, (q1 s hs).2, p2 A _ (by omega), p2 A _ (by omega)]; exact ⟨rfl, rfl⟩
  · rw [q2 a j (by omega), p2 a j (by omega)]
theorem m_br_f (K : hI) : ∀ n, n ≤ 5 → (∀ r, r < n → m_br n K 143 r = K 154 r) ∧ (∀ a j, (a ≠ 143 ∨ 5 ≤ j) → m_br n K a j = K a j) := by
  intro n
  induction n with
  | zero => intro _; exact ⟨fun r hr => absurd hr (Nat.not_lt_zero r), fun _ _ _ => rfl⟩
  | succ n ih =>
    intro hn
    obtain ⟨i1, i2⟩ := ih (by omega)
    have e : m_br (n + 1) K = am_u (m_br n K) 143 n (m_br n K 154 n) := rfl
    rw [e, i2 154 n (by omega)]
    refine ⟨fun r hr => ?_, fun a j h => ?_⟩
    · by_cases g : r = n
      · subst g; exact am_u_at
      · rw [am_u_nk g]; exact i1 r (by omega)
    · unfold am_u
      rw [if_neg (by omega)]; exact i2 a j h
theorem op_back : OPok 157 284 [] := by
  rintro I J R ⟨T, O, N, u, q, h, r0, r2⟩
  by_cases c : I 0 9 = 0
  · exact op_same h r0 r2 (d_back_no c (by omega)) (c_back_no (h.2.2.1.1.mp c) (by omega)) rfl kM_z tM_z
  · obtain ⟨c1, c2, c3⟩ := k_copy63 I
    have sf : sF 63 I (k_copy I 63 70) := sF_copy
    have fC : ∀ a i, (a < 63 ∨ 69 < a) → ¬ (a = 96 ∧ i = 0) → am_u (k_copy I 63 70) 96 0 (Int32.ofNat 0) a i = I a i := fun a i g1 g2 => by
      unfold am_u
      rw [if_neg g2]
      exact congrFun ((funext fun i => by
        unfold k_copy
        rw [congrFun (am_cq_ne (by omega)) i, congrFun (am_cq_ne (by omega)) i, congrFun (am_cq_ne (by omega)) i, congrFun (am_cq_ne (by omega)) i, congrFun (am_cq_ne (by omega)) i, congrFun (am_cq_ne (by omega)) i, am_u_na (by omega), am_u_na (by omega)]) : k_copy I 63 70 a = I a) i
    have f6 : ∀ a i, a ≤ 69 → am_u (k_copy I 63 70) 96 0 (Int32.ofNat 0) a i = k_copy I 63 70 a i := fun a i g => am_u_na (by omega)
    have hk : REL T O N u q I J (am_u (k_copy I 63 70) 96 0 (Int32.ofNat 0)) (am_u J 63 1 (J 70 1)) := REL_cc h (fun _ _ _ => rfl) (fun a i g => fC a i (by omega) (by omega)) rfl rfl (am_u_na (by decide)) (am_u_na (by decide))
    have cls := d_back (k := 20) (I := I) (J := J) (R := R) c (by omega)
    have b96 : am_u (k_copy I 63 70) 96 0 (Int32.ofNat 0) 96 0 = Int32.ofNat 0 := am_u_at
    revert cls fC f6 hk b96
    generalize am_u (k_copy I 63 70) 96 0 (Int32.ofNat 0) = B
    intro fC f6 hk cls b96
    obtain ⟨d0, dd⟩ := hk.2.2.1
    have dc : ¬ I 0 9 = 0 := c
    obtain ⟨d1, d2, d3, d4, d5, d6, d7⟩ := dd dc
    obtain ⟨p1, p2, p3⟩ := m_bb_f (A := 153) (i := 0) (by omega) (m_z B)
    obtain ⟨k1, k2⟩ := m_br_f (m_bb 153 0 (m_z B)) 5 (by omega)
    have m0 : ∀ a j, (a < 138 ∨ 143 < a) → m_ba0 B a j = m_z B a j := fun a j g => by
      unfold m_ba0
      rw [k2 a j (by omega), p3 a j (by omega)]
    have fM : ∀ a j, (a < 138 ∨ 145 < a) → ¬ (a = 110 ∧ (j = 84 ∨ j = 2)) → m_ba B a j = B a j := fun a j g1 g2 => by
      unfold m_ba
      have n1 : ¬ (a = 110 ∧ j = 84) := by omega
      have e : am_u (am_u (am_u (m_ba0 B) 144 0 (m_ba0 B 154 5)) 145 0 (m_ba0 B 154 6)) 110 84 (Int32.ofNat 0) a j = m_ba0 B a j := by
        unfold am_u; rw [if_neg n1, if_neg (by omega), if_neg (by omega)]
      rw [e, m0 a j (by omega)]; exact m_z_n (by omega)
    have fr : ∀ a j, 138 ≤ a → a ≤ 142 → m_ba B a j = m_bb 153 0 (m_z B) a j := fun a j g1 g2 => by
      unfold m_ba m_ba0
      rw [am_u_na (by omega), am_u_na (by omega), am_u_na (by omega), k2 a j (by omega)]
    have f143 : ∀ s, s < 5 → m_ba B 143 s = B 154 s := fun s hs => by
      unfold m_ba m_ba0
      rw [am_u_na (by decide), am_u_na (by decide), am_u_na (by decide), k1 s hs, p3 154 s (by omega)]; exact m_z_n (by omega)
    have f144 : m_ba B 144 0 = B 154 5 := by
      unfold m_ba
      rw [am_u_na (by decide), am_u_na (by decide), am_u_at, m0 154 5 (by omega)]; exact m_z_n (by omega)
    have f145 : m_ba B 145 0 = B 154 6 := by
      unfold m_ba
      rw [am_u_na (by decide), am_u_at, m0 154 6 (by omega)]; exact m_z_n (by omega)
    have f84 : m_ba B 110 84 = Int32.ofNat 0 := am_u_at
    have z153 : ∀ j, m_z B 153 j = B 153 j := fun j => m_z_n (by omega)
    refine op_mk (T := T) (O := O) (N := N) (u := 0) (q := q) cls (c_back (fun z => c (d0.mpr z)) (by omega)) ?_ (fun a i g => fM a i (by omega) (by omega)) ⟨am_u_na (by decide), am_u_na (by decide)⟩ ?_ r0 r2
    · rw [f145, f6 63 0 (by omega), c1 0 (Or.inl rfl)]; exact congrArg _ d4
    · obtain ⟨a, b, cc, d, e, gg, f⟩ := hk
      refine ⟨rA_c (fun a i x y => fC a i (by omega) (by omega)) (fun a i x => fM a i (by omega) (by omega)) a, ⟨⟨?_, fun r hr => ?_, fun s hs _ => ?_, fun _ => ?_⟩, ?_, ?_, ?_⟩, rC_c (fun a i x => fC a i (by omega) (by omega)) (fun a i x => fM a i (by omega) (by omega)) (am_u_na (by decide)) (am_u_nk (by decide)) cc, ⟨by omega, b96, f84, fun i hi => absurd hi (Nat.not_lt_zero i)⟩, rE_c (fun a i x y => fC a i (by omega) (by omega)) (fun a i x => fM a i (by omega) (by omega)) e, rG_c (fun a i x => fC a i (by omega) (by omega)) (fun a i x => fM a i (by omega) (by omega)) gg, rF_c a (fun a i x => fC a i (by omega) (by omega)) (fun a i x => fM a i (by omega) (by omega)) f⟩
      · rw [f6 63 0 (by omega), c1 0 (Or.inl rfl), f145]; exact d4
      · rw [show B (63 + 3) r = I 73 r from (f6 66 r (by omega)).trans (c2 r hr).2.2, show B (63 + 1) r = I 71 r from (f6 64 r (by omega)).trans (c2 r hr).1, show B (63 + 2) r = I 72 r from (f6 65 r (by omega)).trans (c2 r hr).2.1, show 8 * 0 + r = r by omega, fr 140 r (by omega) (by omega), fr 138 r (by omega) (by omega), fr 139 r (by omega) (by omega), (p1 r hr).1, (p1 r hr).2.1, (p1 r hr).2.2, z153, z153, z153, Nat.zero_add, Nat.zero_add, Nat.zero_add]
        obtain ⟨y1, y2, y3, y4, y5⟩ := d1 r hr
        exact ⟨y3, y4, fun _ => ⟨y1, y2⟩, y5⟩
      · rw [show B (63 + 4) s = I 74 s from (f6 67 s (by omega)).trans (c3 s hs).1, show B (63 + 5) s = I 75 s from (f6 68 s (by omega)).trans (c3 s hs).2.1, show B (63 + 6) s = I 76 s from (f6 69 s (by omega)).trans (c3 s hs).2.2, show 5 * 0 + s = s by omega, fr 141 s (by omega) (by omega), fr 142 s (by omega) (by omega), f143 s hs, (p2 s hs).1, (p2 s hs).2, z153, z153, Nat.zero_add, Nat.zero_add]
        exact d2 s hs
      · rw [f6 63 2 (by omega), c1 2 (Or.inr rfl), f144]; exact d3
      · rw [am_u_at, am_u_at]
        rw [am_u_na (show (110 : Nat) ≠ 63 by decide)] at d5 ⊢
        exact d5
      · refine ⟨⟨fun r hr => ?_, fun s hs => ?_⟩, ?_⟩
        · rw [show B (63 + 1) r = I 71 r from (f6 64 r (by omega)).trans (c2 r hr).1, show B (63 + 2) r = I 72 r from (f6 65 r (by omega)).trans (c2 r hr).2.1]; exact d6.1.1 r hr
        · rw [show B (63 + 4) s = I 74 s from (f6 67 s (by omega)).trans (c3 s hs).1, show B (63 + 5) s = I 75 s from (f6 68 s (by omega)).trans (c3 s hs).2.1]; exact d6.1.2 s hs
        · rw [f6 63 0 (by omega), c1 0 (Or.inl rfl)]; exact d6.2
      · refine d7.imp id (fun g r h1 h2 => ?_)
        rw [show B (63 + 3) r = I 73 r from (f6 66 r (by omega)).trans (c2 r h2).2.2]; exact g r h1 h2
