/-! Changes noted, on both sides. -/
theorem k_rm_f {u : Nat} (h : u ≤ 20) : k_rm u ≤ 19 ∧ k_rm u ≤ u ∧ u - k_rm u ≤ 1 ∧ (k_rm u < u → u = 20) := by
  unfold k_rm; split <;> omega
theorem room_f {I : hI} {u : Nat} (h : u ≤ 20) : (∀ a, 97 ≤ a → a ≤ 101 → ∀ i, i < k_rm u → k_room I u a i = I a (i + (u - k_rm u))) ∧ (∀ a i, (a < 96 ∨ 101 < a) → k_room I u a i = I a i) := by
  unfold k_room k_rm
  by_cases g : u < 20
  · rw [if_pos g, if_pos g, Nat.sub_self]
    exact ⟨fun _ _ _ _ _ => rfl, fun _ _ _ => rfl⟩
  · obtain rfl : u = 20 := by omega
    rw [if_neg g, if_neg g]
    refine ⟨fun a h1 h2 i hi => ?_, fun a i h1 => ?_⟩
    · have : a = 97 ∨ a = 98 ∨ a = 99 ∨ a = 100 ∨ a = 101 := by omega
      rw [show 20 - 19 = 1 by decide]
      rcases this with rfl | rfl | rfl | rfl | rfl <;> simp +decide [am_cq, am_u, hi, Nat.add_comm]
    · rw [congrFun (am_cq_ne (by omega)) i, congrFun (am_cq_ne (by omega)) i, congrFun (am_cq_ne (by omega)) i, congrFun (am_cq_ne (by omega)) i, congrFun (am_cq_ne (by omega)) i, am_u_na (by omega)]
theorem nr_f {I : hI} {u r : Nat} (h : u ≤ 20) : (∀ a, 97 ≤ a → a ≤ 101 → ∀ i, i < k_rm u → k_nr I 63 u r a i = I a (i + (u - k_rm u))) ∧ k_nr I 63 u r 96 0 = Int32.ofNat (k_rm u + 1) ∧ k_nr I 63 u r 97 (k_rm u) = Int32.ofNat r ∧ k_nr I 63 u r 98 (k_rm u) = I 64 r ∧ k_nr I 63 u r 99 (k_rm u) = I 65 r ∧ k_nr I 63 u r 100 (k_rm u) = I 66 r ∧ (∀ a i, (a < 96 ∨ 101 < a) → k_nr I 63 u r a i = I a i) := by
  obtain ⟨p1, p2⟩ := room_f (I := I) h
  unfold k_nr
  refine ⟨fun a h1 h2 i hi => ?_, am_u_at, ?_, ?_, ?_, ?_, fun a i h1 => ?_⟩
  · have g : i ≠ k_rm u := by omega
    rw [am_u_na (by omega), am_u_nk g, am_u_nk g, am_u_nk g, am_u_nk g]; exact p1 a h1 h2 i hi
  · rw [am_u_na (by decide), am_u_na (by decide), am_u_na (by decide), am_u_na (by decide), am_u_at]
  · rw [am_u_na (by decide), am_u_na (by decide), am_u_na (by decide), am_u_at]; exact p2 64 r (by omega)
  · rw [am_u_na (by decide), am_u_na (by decide), am_u_at]; exact p2 65 r (by omega)
  · rw [am_u_na (by decide), am_u_at]; exact p2 66 r (by omega)
  · rw [am_u_na (by omega), am_u_na (by omega), am_u_na (by omega), am_u_na (by omega), am_u_na (by omega)]; exact p2 a i h1
theorem ns_f {I : hI} {u : Nat} {x : Int32} (h : u ≤ 20) : (∀ a, 97 ≤ a → a ≤ 101 → ∀ i, i < k_rm u → k_ns I u x a i = I a (i + (u - k_rm u))) ∧ k_ns I u x 96 0 = Int32.ofNat (k_rm u + 1) ∧ k_ns I u x 97 (k_rm u) = Int32.ofInt (-1) ∧ k_ns I u x 101 (k_rm u) = x ∧ (∀ a i, (a < 96 ∨ 101 < a) → k_ns I u x a i = I a i) := by
  obtain ⟨p1, p2⟩ := room_f (I := I) h
  unfold k_ns
  refine ⟨fun a h1 h2 i hi => ?_, am_u_at, ?_, ?_, fun a i h1 => ?_⟩
  · have g : i ≠ k_rm u := by omega
    rw [am_u_na (by omega), am_u_nk g, am_u_nk g]; exact p1 a h1 h2 i hi
  · rw [am_u_na (by decide), am_u_na (by decide), am_u_at]
  · rw [am_u_na (by decide), am_u_at]
  · rw [am_u_na (by omega), am_u_na (by omega), am_u_na (by omega)]; exact p2 a i h1
theorem shf_f (K : hI) : ∀ n, (∀ j, m_shf n K 152 j = if j < n then K 152 (j + 34) else K 152 j) ∧ (∀ a j, a ≠ 152 → m_shf n K a j = K a j) := by
  intro n
  induction n with
  | zero => exact ⟨fun j => by rw [if_neg (Nat.not_lt_zero j)]; rfl, fun _ _ _ => rfl⟩
  | succ n ih =>
    obtain ⟨i1, i2⟩ := ih
    have e : m_shf (n + 1) K = am_u (m_shf n K) 152 n (m_shf n K 152 (n + 34)) := rfl
    rw [e]
    refine ⟨fun j => ?_, fun a j h => (am_u_na h).trans (i2 a j h)⟩
    by_cases g : j = n
    · subst g
      rw [am_u_at, i1, if_neg (by omega), if_pos (by omega)]
    · rw [am_u_nk g, i1]
      by_cases g2 : j < n
      · rw [if_pos g2, if_pos (by omega)]
      · rw [if_neg g2, if_neg (by omega)]
theorem rem_f {K : hI} {u : Nat} (h : u ≤ 20) (e84 : K 110 84 = Int32.ofNat u) : (∀ i, i < k_rm u → ∀ j, j < 34 → m_rem K u 152 (34 * i + j) = K 152 (34 * (i + (u - k_rm u)) + j)) ∧ (∀ j, j < 34 → m_rem K u 152 (34 * k_rm u + j) = cu K j) ∧ m_rem K u 110 84 = Int32.ofNat (k_rm u + 1) ∧ (∀ a j, a ≠ 152 → ¬ (a = 110 ∧ j = 84) → m_rem K u a j = K a j) := by
  unfold m_rem k_rm
  by_cases g : u = 20
  · subst g
    rw [if_pos rfl, if_neg (by omega)]
    obtain ⟨s1, s2⟩ := shf_f K 646
    obtain ⟨p1, p2⟩ := m_put_cu (A := 152) (i := 34 * (20 - 1)) (by omega) (am_u (m_shf 646 K) 110 84 (Int32.ofNat (20 - 1)))
    refine ⟨fun i hi j hj => ?_, fun j hj => ?_, ?_, fun a j h1 h2 => ?_⟩
    · rw [am_u_na (by decide), p2 152 _ (by omega), am_u_na (by decide), s1, if_pos (by omega), show 34 * i + j + 34 = 34 * (i + (20 - 19)) + j by omega]
    · rw [am_u_na (by decide), p1 j hj]
      exact cu_c (fun a i g1 g2 => (am_u_na (by omega)).trans (s2 a i (by omega))) j
    · rw [am_u_at, p2 110 84 (by omega), am_u_at]; rfl
    · have n1 : ¬ (a = 110 ∧ j = 84) := h2
      have e : ∀ (X : hI) (x : Int32), am_u X 110 84 x a j = X a j := fun X x => by unfold am_u; rw [if_neg n1]
      rw [e, p2 a j (Or.inl h1), e]; exact s2 a j h1
  · rw [if_neg g, if_pos (by omega), Nat.sub_self]
    obtain ⟨p1, p2⟩ := m_put_cu (A := 152) (i := 34 * u) (by omega) K
    refine ⟨fun i hi j hj => ?_, fun j hj => ?_, ?_, fun a j h1 h2 => ?_⟩
    · rw [am_u_na (by decide), p2 152 _ (by omega), Nat.add_zero]
    · rw [am_u_na (by decide), p1 j hj]
    · rw [am_u_at, p2 110 84 (by omega), e84, ← Int32.ofNat_add]
    · have e : ∀ (X : hI) (x : Int32), am_u X 110 84 x a j = X a j := fun X x => by unfold am_u; rw [if_neg h2]
      rw [e]; exact p2 a j (Or.inl h1)
/-- one change more -/
theorem rD_push {N : Nat → Nat} {u : Nat} {I I1 K K1 : hI} (d : rD N u I K) (c1 : ∀ a, 97 ≤ a → a ≤ 101 → ∀ i, i < k_rm u → I1 a i = I a (i + (u - k_rm u))) (c2 : I1 96 0 = Int32.ofNat (k_rm u + 1)) (k1 : ∀ i, i < k_rm u → ∀ j, j < 34 → K1 152 (34 * i + j) = K 152 (34 * (i + (u - k_rm u)) + j)) (k2 : ∀ j, j < 34 → K1 152 (34 * k_rm u + j) = cu K j) (k3 : K1 110 84 = Int32.ofNat (k_rm u + 1)) (ev : (I1 97 (k_rm u) = Int32.ofInt (-1) ∧ okn (I1 101 (k_rm u)) 5) ∨ (okn (I1 97 (k_rm u)) 8 ∧ nn (I1 97 (k_rm u)) < N 1 ∧ (I1 100 (k_rm u) = Int32.ofInt (-1) ∨ okn (I1 100 (k_rm u)) 5) ∧ okn (I1 98 (k_rm u)) 4 ∧ okn (I1 99 (k_rm u)) 1000)) (eu : ∀ j, j < 34 → cu K j = uE I1 (k_rm u) j (cu K1 j)) : rD N (k_rm u + 1) I1 K1 := by
  obtain ⟨d1, d2, d3, d4⟩ := d
  obtain ⟨f1, f2, f3, f4⟩ := k_rm_f d1
  refine ⟨by omega, c2, k3, fun i hi => ?_⟩
  by_cases g : i = k_rm u
  · subst g
    refine ⟨ev, fun j hj => ?_⟩
    unfold sq
    rw [if_pos (by omega), if_neg (by omega), k2 j hj]
    exact eu j hj
  · have hi2 : i < k_rm u := by omega
    have h0 := d4 (i + (u - k_rm u)) (by omega)
    refine ⟨?_, fun j hj => ?_⟩
    · rw [c1 97 (by omega) (by omega) i hi2, c1 98 (by omega) (by omega) i hi2, c1 99 (by omega) (by omega) i hi2, c1 100 (by omega) (by omega) i hi2, c1 101 (by omega) (by omega) i hi2]
      exact h0.1
    · have e1 : sq K1 (k_rm u + 1) i j = sq K u (i + (u - k_rm u)) j := by
        unfold sq
        rw [if_pos (by omega), if_pos (by omega)]; exact k1 i hi2 j hj
      have e2 : sq K1 (k_rm u + 1) (i + 1) j = sq K u (i + (u - k_rm u) + 1) j := by
        unfold sq
        rw [if_pos (by omega)]
        by_cases g2 : i + 1 < k_rm u
        · rw [if_pos (by omega), k1 (i + 1) g2 j hj, show i + 1 + (u - k_rm u) = i + (u - k_rm u) + 1 by omega]
        · rw [if_neg (by omega), show i + 1 = k_rm u by omega]; exact k2 j hj
      have e3 : ∀ x, uE I1 i j x = uE I (i + (u - k_rm u)) j x := fun x => by
        unfold uE
        rw [c1 97 (by omega) (by omega) i hi2, c1 98 (by omega) (by omega) i hi2, c1 99 (by omega) (by omega) i hi2, c1 100 (by omega) (by omega) i hi2, c1 101 (by omega) (by omega) i hi2]
      rw [e1, e2, e3]
      exact h0.2 j hj
/-- a change of one rope is undone by its entry -/
theorem uE_r {I1 K K1 : hI} {v r : Nat} (hr : r < 8) (e97 : I1 97 v = Int32.ofNat r) (e98 : I1 98 v = K 138 r) (e99 : I1 99 v = K 139 r) (e100 : I1 100 v = K 140 r) (h : ∀ a i, 138 ≤ a → a ≤ 142 → ¬ (a ≤ 140 ∧ i = r) → K1 a i = K a i) : ∀ j, j < 34 → cu K j = uE I1 v j (cu K1 j) := by
  intro j hj
  unfold uE
  rw [e97, if_neg (okn_n1 (okn_of (r := r) (m := 8) hr (by omega)) (by omega)), nn_ofNat (by omega), e98, e99, e100]
  unfold cu
  by_cases c1 : j < 8
  · rw [if_pos c1, if_pos c1]
    by_cases g : j = r
    · rw [if_pos g, g]
    · rw [if_neg g, if_neg (by omega), if_neg (by omega)]; exact (h 138 j (by omega) (by omega) (by omega)).symm
  · rw [if_neg c1, if_neg c1, if_neg (show ¬ j = r by omega)]
    by_cases c2 : j < 16
    · rw [if_pos c2, if_pos c2]
      by_cases g : j = 8 + r
      · rw [if_pos g, g, show 8 + r - 8 = r by omega]
      · rw [if_neg g, if_neg (by omega)]; exact (h 139 _ (by omega) (by omega) (by omega)).symm
    · rw [if_neg c2, if_neg c2, if_neg (show ¬ j = 8 + r by omega)]
      by_cases c3 : j < 24
      · rw [if_pos c3, if_pos c3]
        by_cases g : j = 16 + r
        · rw [if_pos g, g, show 16 + r - 16 = r by omega]
        · rw [if_neg g]; exact (h 140 _ (by omega) (by omega) (by omega)).symm
      · rw [if_neg c3, if_neg c3, if_neg (show ¬ j = 16 + r by omega)]
        by_cases c4 : j < 29
        · rw [if_pos c4, if_pos c4]; exact (h 141 _ (by omega) (by omega) (by omega)).symm
        · rw [if_neg c4, if_neg c4]; exact (h 142 _ (by omega) (by omega) (by omega)).symm
/-- a sailing is undone by its entry -/
theorem uE_s {I1 K K1 : hI} {v s : Nat} (hs : s < 5) (e97 : I1 97 v = Int32.ofInt (-1)) (e101 : I1 101 v = Int32.ofNat s) (z1 : K 141 s = 0) (z2 : K 142 s = 0) (h : ∀ a i, 138 ≤ a → a ≤ 142 → ¬ (141 ≤ a ∧ i = s) → K1 a i = K a i) : ∀ j, j < 34 → cu K j = uE I1 v j (cu K1 j) := by
  intro j hj
  unfold uE
  rw [if_pos e97, e101, nn_ofNat (by omega)]
  unfold cu
  by_cases c1 : j < 8
  · rw [if_pos c1, if_pos c1, if_neg (by omega)]; exact (h 138 _ (by omega) (by omega) (by omega)).symm
  · rw [if_neg c1, if_neg c1]
    by_cases c2 : j < 16
    · rw [if_pos c2, if_pos c2, if_neg (by omega)]; exact (h 139 _ (by omega) (by omega) (by omega)).symm
    · rw [if_neg c2, if_neg c2]
      by_cases c3 : j < 24
      · rw [if_pos c3, if_pos c3, if_neg (by omega)]; exact (h 140 _ (by omega) (by omega) (by omega)).symm
      · rw [if_neg c3, if_neg c3]
        by_cases c4 : j < 29
        · rw [if_pos c4, if_pos c4]
          by_cases g : j = 24 + s
          · rw [if_pos (Or.inl g), g, show 24 + s - 24 = s by omega]; exact z1
          · rw [if_neg (by omega)]; exact (h 141 _ (by omega) (by omega) (by omega)).symm
        · rw [if_neg c4, if_neg c4]
          by_cases g : j = 29 + s
          · rw [if_pos (Or.inr g), g, show 29 + s - 29 = s by omega]; exact z2
          · rw [if_neg (by omega)]; exact (h 142 _ (by omega) (by omega) (by omega)).symm
/-- a rope's ship changed, on both sides -/
theorem sR_3 {r : Nat} {v : Int32} {N : Nat → Nat} {I K : hI} (h : sR 63 0 (Int32.ofInt (-1)) N I K) (hv : v = Int32.ofInt (-1) ∨ okn v 5) : sR 63 0 (Int32.ofInt (-1)) N (am_u I 66 r v) (am_u K 140 r v) := by
  obtain ⟨s1, s2, s3, s4⟩ := h
  have e0 : am_u I 66 r v 63 = I 63 := am_u_ne (by decide)
  have e1 : am_u I 66 r v (63 + 1) = I 64 := am_u_ne (by decide)
  have e2 : am_u I 66 r v (63 + 2) = I 65 := am_u_ne (by decide)
  have e4 : am_u I 66 r v (63 + 4) = I 67 := am_u_ne (by decide)
  have e5 : am_u I 66 r v (63 + 5) = I 68 := am_u_ne (by decide)
  have e6 : am_u I 66 r v (63 + 6) = I 69 := am_u_ne (by decide)
  have k : ∀ a, a ≠ 140 → am_u K 140 r v a = K a := fun a g => am_u_ne g
  unfold sR
  rw [e0, e1, e2, e4, e5, e6, k 138 (by decide), k 139 (by decide), k 141 (by decide), k 142 (by decide), k 143 (by decide), k 144 (by decide), k 145 (by decide)]
  refine ⟨s1, fun q hq => ?_, s3, s4⟩
  obtain ⟨p1, p2, p3, p4⟩ := s2 q hq
  by_cases e : q = r
  · subst e
    rw [show 8 * 0 + q = q by omega] at *
    rw [show am_u I 66 q v (63 + 3) q = v from am_u_at, am_u_at]
    exact ⟨Or.inr rfl, hv, fun _ => p3 (Or.inl rfl), p4⟩
  · rw [show am_u I 66 r v (63 + 3) q = I 66 q from am_u_nk e, am_u_nk (show 8 * 0 + q ≠ r by omega)]
    exact ⟨p1, p2, p3, p4⟩
