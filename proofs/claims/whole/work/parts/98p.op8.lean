/-! Calls alike (eight): keep, back, feed. -/
theorem k_copy70 (I : hI) : (∀ j, j = 0 ∨ j = 2 → k_copy I 70 63 70 j = I 63 j) ∧ (∀ r, r < 8 → k_copy I 70 63 71 r = I 64 r ∧ k_copy I 70 63 72 r = I 65 r ∧ k_copy I 70 63 73 r = I 66 r) ∧ (∀ s, s < 5 → k_copy I 70 63 74 s = I 67 s ∧ k_copy I 70 63 75 s = I 68 s ∧ k_copy I 70 63 76 s = I 69 s) := by
  refine ⟨fun j hj => ?_, fun r hr => ⟨?_, ?_, ?_⟩, fun s hs => ⟨?_, ?_, ?_⟩⟩
  · rcases hj with rfl | rfl <;> simp +decide [k_copy, am_cq, am_u]
  all_goals simp +decide [k_copy, am_cq, am_u, *]
theorem k_copy63 (I : hI) : (∀ j, j = 0 ∨ j = 2 → k_copy I 63 70 63 j = I 70 j) ∧ (∀ r, r < 8 → k_copy I 63 70 64 r = I 71 r ∧ k_copy I 63 70 65 r = I 72 r ∧ k_copy I 63 70 66 r = I 73 r) ∧ (∀ s, s < 5 → k_copy I 63 70 67 s = I 74 s ∧ k_copy I 63 70 68 s = I 75 s ∧ k_copy I 63 70 69 s = I 76 s) := by
  refine ⟨fun j hj => ?_, fun r hr => ⟨?_, ?_, ?_⟩, fun s hs => ⟨?_, ?_, ?_⟩⟩
  · rcases hj with rfl | rfl <;> simp +decide [k_copy, am_cq, am_u]
  all_goals simp +decide [k_copy, am_cq, am_u, *]
theorem m_pu1_f {A i : Nat} (hA : 145 < A) (K : hI) : ∀ n, n ≤ 8 → (∀ r, r < n → m_pu1 A i n K A (i + r) = K 138 r ∧ m_pu1 A i n K A (i + 8 + r) = K 139 r ∧ m_pu1 A i n K A (i + 16 + r) = K 140 r) ∧ (∀ a j, (a ≠ A ∨ j < i ∨ i + 24 ≤ j) → m_pu1 A i n K a j = K a j) := by
  intro n
  induction n with
  | zero => intro _; exact ⟨fun r hr => absurd hr (Nat.not_lt_zero r), fun _ _ _ => rfl⟩
  | succ n ih =>
    intro hn
    obtain ⟨i1, i2⟩ := ih (by omega)
    have e : m_pu1 A i (n + 1) K = am_u (am_u (am_u (m_pu1 A i n K) A (i + n) (m_pu1 A i n K 138 n)) A (i + 8 + n) (m_pu1 A i n K 139 n)) A (i + 16 + n) (m_pu1 A i n K 140 n) := rfl
    rw [e, i2 138 n (by omega), i2 139 n (by omega), i2 140 n (by omega)]
    refine ⟨fun r hr => ?_, fun a j h => ?_⟩
    · by_cases g : r = n
      · subst g
        refine ⟨?_, ?_, am_u_at⟩
        · rw [am_u_nk (by omega), am_u_nk (by omega), am_u_at]
        · rw [am_u_nk (by omega), am_u_at]
      · refine ⟨?_, ?_, ?_⟩
        · rw [am_u_nk (by omega), am_u_nk (by omega), am_u_nk (by omega)]; exact (i1 r (by omega)).1
        · rw [am_u_nk (by omega), am_u_nk (by omega), am_u_nk (by omega)]; exact (i1 r (by omega)).2.1
        · rw [am_u_nk (by omega), am_u_nk (by omega), am_u_nk (by omega)]; exact (i1 r (by omega)).2.2
    · unfold am_u
      rw [if_neg (by omega), if_neg (by omega), if_neg (by omega)]; exact i2 a j h
theorem m_pu2_f {A i : Nat} (hA : 145 < A) (K : hI) : ∀ n, n ≤ 5 → (∀ r, r < n → m_pu2 A i n K A (i + 24 + r) = K 141 r ∧ m_pu2 A i n K A (i + 29 + r) = K 142 r) ∧ (∀ a j, (a ≠ A ∨ j < i + 24 ∨ i + 34 ≤ j) → m_pu2 A i n K a j = K a j) := by
  intro n
  induction n with
  | zero => intro _; exact ⟨fun r hr => absurd hr (Nat.not_lt_zero r), fun _ _ _ => rfl⟩
  | succ n ih =>
    intro hn
    obtain ⟨i1, i2⟩ := ih (by omega)
    have e : m_pu2 A i (n + 1) K = am_u (am_u (m_pu2 A i n K) A (i + 24 + n) (m_pu2 A i n K 141 n)) A (i + 29 + n) (m_pu2 A i n K 142 n) := rfl
    rw [e, i2 141 n (by omega), i2 142 n (by omega)]
    refine ⟨fun r hr => ?_, fun a j h => ?_⟩
    · by_cases g : r = n
      · subst g
        refine ⟨?_, am_u_at⟩
        rw [am_u_nk (by omega), am_u_at]
      · refine ⟨?_, ?_⟩
        · rw [am_u_nk (by omega), am_u_nk (by omega)]; exact (i1 r (by omega)).1
        · rw [am_u_nk (by omega), am_u_nk (by omega)]; exact (i1 r (by omega)).2
    · unfold am_u
      rw [if_neg (by omega), if_neg (by omega)]; exact i2 a j h
/-- a state remembered: as cu says, place by place -/
theorem m_put_cu {A i : Nat} (hA : 145 < A) (K : hI) : (∀ j, j < 34 → m_put A i K A (i + j) = cu K j) ∧ (∀ a j, (a ≠ A ∨ j < i ∨ i + 34 ≤ j) → m_put A i K a j = K a j) := by
  obtain ⟨p1, p2⟩ := m_pu1_f (i := i) hA K 8 (by omega)
  obtain ⟨q1, q2⟩ := m_pu2_f (i := i) hA (m_pu1 A i 8 K) 5 (by omega)
  refine ⟨fun j hj => ?_, fun a j h => ?_⟩
  · unfold cu m_put
    by_cases c1 : j < 8
    · rw [if_pos c1, q2 A _ (by omega)]; exact (p1 j c1).1
    · rw [if_neg c1]
      by_cases c2 : j < 16
      · rw [if_pos c2, q2 A _ (by omega)]
        have e := (p1 (j - 8) (by omega)).2.1
        rwa [show i + 8 + (j - 8) = i + j by omega] at e
      · rw [if_neg c2]
        by_cases c3 : j < 24
        · rw [if_pos c3, q2 A _ (by omega)]
          have e := (p1 (j - 16) (by omega)).2.2
          rwa [show i + 16 + (j - 16) = i + j by omega] at e
        · rw [if_neg c3]
          by_cases c4 : j < 29
          · rw [if_pos c4]
            have e := (q1 (j - 24) (by omega)).1
            rw [show i + 24 + (j - 24) = i + j by omega] at e
            exact e.trans (p2 141 _ (by omega))
          · rw [if_neg c4]
            have e := (q1 (j - 29) (by omega)).2
            rw [show i + 29 + (j - 29) = i + j by omega] at e
            exact e.trans (p2 142 _ (by omega))
  · unfold m_put
    rw [q2 a j (by omega), p2 a j (by omega)]
theorem m_kr_f (K : hI) : ∀ n, n ≤ 5 → (∀ r, r < n → m_kr n K 154 r = K 143 r) ∧ (∀ a j, (a ≠ 154 ∨ 5 ≤ j) → m_kr n K a j = K a j) := by
  intro n
  induction n with
  | zero => intro _; exact ⟨fun r hr => absurd hr (Nat.not_lt_zero r), fun _ _ _ => rfl⟩
  | succ n ih =>
    intro hn
    obtain ⟨i1, i2⟩ := ih (by omega)
    have e : m_kr (n + 1) K = am_u (m_kr n K) 154 n (m_kr n K 143 n) := rfl
    rw [e, i2 143 n (by omega)]
    refine ⟨fun r hr => ?_, fun a j h => ?_⟩
    · by_cases g : r = n
      · subst g; exact am_u_at
      · rw [am_u_nk g]; exact i1 r (by omega)
    · unfold am_u
      rw [if_neg (by omega)]; exact i2 a j h
theorem op_keep : OPok 156 283 [] := by
  rintro I J R ⟨T, O, N, u, q, h, r0, r2⟩
  obtain ⟨c1, c2, c3⟩ := k_copy70 I
  have sf : sF 70 I (k_copy I 70 63) := sF_copy
  have fC : ∀ a i, (a < 70 ∨ 76 < a) → ¬ (a = 0 ∧ i = 9) → am_u (k_copy I 70 63) 0 9 (Int32.ofNat 1) a i = I a i := fun a i g1 g2 => by
    unfold am_u
    rw [if_neg g2]
    exact congrFun ((funext fun i => by
      unfold k_copy
      rw [congrFun (am_cq_ne (by omega)) i, congrFun (am_cq_ne (by omega)) i, congrFun (am_cq_ne (by omega)) i, congrFun (am_cq_ne (by omega)) i, congrFun (am_cq_ne (by omega)) i, congrFun (am_cq_ne (by omega)) i, am_u_na (by omega), am_u_na (by omega)]) : k_copy I 70 63 a = I a) i
  have f7 : ∀ a i, 70 ≤ a → am_u (k_copy I 70 63) 0 9 (Int32.ofNat 1) a i = k_copy I 70 63 a i := fun a i g => am_u_na (by omega)
  have hk : REL T O N u q I J (am_u (k_copy I 70 63) 0 9 (Int32.ofNat 1)) (am_u J 70 1 (J 63 1)) := REL_cc h (fun _ _ _ => rfl) (fun a i g => fC a i (by omega) (by omega)) rfl rfl (am_u_na (by decide)) (am_u_na (by decide))
  have cls := d_keep (k := 20) (I := I) (J := J) (R := R) (by omega)
  revert cls fC f7 hk
  generalize hB : am_u (k_copy I 70 63) 0 9 (Int32.ofNat 1) = B
  intro fC f7 hk cls
  have b09 : B 0 9 = Int32.ofNat 1 := by rw [← hB]; exact am_u_at
  have b := hk.2.1
  obtain ⟨p1, p2⟩ := m_put_cu (A := 153) (i := 0) (by omega) (am_u (m_z B) 110 86 (Int32.ofNat 1))
  obtain ⟨k1, k2⟩ := m_kr_f (m_put 153 0 (am_u (m_z B) 110 86 (Int32.ofNat 1))) 5 (by omega)
  have fz : ∀ a j, ¬ (a = 110 ∧ (j = 86 ∨ j = 2)) → am_u (m_z B) 110 86 (Int32.ofNat 1) a j = B a j := fun a j g => by
    unfold m_z am_u; rw [if_neg (by omega), if_neg (by omega)]
  have fM : ∀ a j, a ≠ 153 → a ≠ 154 → ¬ (a = 110 ∧ (j = 86 ∨ j = 2)) → m_ke B a j = B a j := fun a j g1 g2 g3 => by
    unfold m_ke
    rw [am_u_na g2, am_u_na g2, k2 a j (Or.inl g2), p2 a j (Or.inl g1)]; exact fz a j g3
  have f153 : ∀ j, j < 34 → m_ke B 153 j = cu B j := fun j hj => by
    unfold m_ke
    rw [am_u_na (by decide), am_u_na (by decide), k2 153 j (by omega)]
    have e := p1 j hj
    rw [Nat.zero_add] at e
    rw [e]
    exact cu_c (fun a i g1 g2 => fz a i (by omega)) j
  have f154 : ∀ s, s < 5 → m_ke B 154 s = B 143 s := fun s hs => by
    unfold m_ke
    rw [am_u_nk (by omega), am_u_nk (by omega), k1 s hs, p2 143 s (by omega)]; exact fz 143 s (by omega)
  have f5 : m_ke B 154 5 = B 144 0 := by
    unfold m_ke
    rw [am_u_nk (by decide), am_u_at, k2 144 0 (by omega), p2 144 0 (by omega)]; exact fz 144 0 (by omega)
  have f6 : m_ke B 154 6 = B 145 0 := by
    unfold m_ke
    rw [am_u_at, k2 145 0 (by omega), p2 145 0 (by omega)]; exact fz 145 0 (by omega)
  have f86 : m_ke B 110 86 = Int32.ofNat 1 := by
    unfold m_ke
    rw [am_u_na (by decide), am_u_na (by decide), k2 110 86 (by omega), p2 110 86 (by omega)]; exact am_u_at
  refine op_mk (T := T) (O := O) (N := N) (u := u) (q := q) cls (c_keep (by omega)) ?_ (fun a i g => fM a i (by omega) (by omega) (by omega)) ⟨am_u_na (by decide), am_u_na (by decide)⟩ ?_ r0 r2
  · rw [fM 145 0 (by decide) (by decide) (by omega), fC 63 0 (by omega) (by omega)]; exact congrArg _ hk.2.1.1.1
  · obtain ⟨a, b, cc, d, e, gg, f⟩ := hk
    refine ⟨rA_c (fun a i x y => fC a i (by omega) (by omega)) (fun a i x => fM a i (by omega) (by omega) (by omega)) a, rB_c (fun a i x y => fC a i (by omega) (by omega)) (fun a i x y => fM a i (by omega) (by omega) (by omega)) (am_u_na (by decide)) (am_u_nk (by decide)) b, ⟨?_, fun _ => ⟨fun r hr => ?_, fun s hs => ?_, ?_, ?_, ?_, ?_, ?_⟩⟩, rD_c (fun a i x y => fC a i (by omega) (by omega)) (fun a i x => fM a i (by omega) (by omega) (by omega)) d, rE_c (fun a i x y => fC a i (by omega) (by omega)) (fun a i x => fM a i (by omega) (by omega) (by omega)) e, rG_c (fun a i x => fC a i (by omega) (by omega)) (fun a i x => fM a i (by omega) (by omega) (by omega)) gg, rF_c a (fun a i x => fC a i (by omega) (by omega)) (fun a i x => fM a i (by omega) (by omega) (by omega)) f⟩
    · rw [b09, f86]
    · obtain ⟨y1, y2, y3, y4⟩ := rB_r b hr
      rw [f7 71 r (by omega), f7 72 r (by omega), f7 73 r (by omega), (c2 r hr).1, (c2 r hr).2.1, (c2 r hr).2.2, f153 r (by omega), f153 (8 + r) (by omega), f153 (16 + r) (by omega)]
      unfold cu
      rw [if_pos hr, if_neg (show ¬ 8 + r < 8 by omega), if_pos (show 8 + r < 16 by omega), if_neg (show ¬ 16 + r < 8 by omega), if_neg (show ¬ 16 + r < 16 by omega), if_pos (show 16 + r < 24 by omega), show 8 + r - 8 = r by omega, show 16 + r - 16 = r by omega]
      exact ⟨y1, y2, y3, y4, fun z => (b.1.2.1 r hr).2.2.2 z⟩
    · obtain ⟨y1, y2, y3⟩ := rB_s b hs
      rw [f7 74 s (by omega), f7 75 s (by omega), f7 76 s (by omega), (c3 s hs).1, (c3 s hs).2.1, (c3 s hs).2.2, f153 (24 + s) (by omega), f153 (29 + s) (by omega), f154 s hs]
      unfold cu
      rw [if_neg (show ¬ 24 + s < 8 by omega), if_neg (show ¬ 24 + s < 16 by omega), if_neg (show ¬ 24 + s < 24 by omega), if_pos (show 24 + s < 29 by omega), if_neg (show ¬ 29 + s < 8 by omega), if_neg (show ¬ 29 + s < 16 by omega), if_neg (show ¬ 29 + s < 24 by omega), if_neg (show ¬ 29 + s < 29 by omega), show 24 + s - 24 = s by omega, show 29 + s - 29 = s by omega]
      exact ⟨y1, y2, y3⟩
    · rw [f7 70 2 (by omega), c1 2 (Or.inr rfl), f5]; exact b.1.2.2.2 rfl
    · rw [f7 70 0 (by omega), c1 0 (Or.inl rfl), f6]; exact b.1.1
    · rw [am_u_at, am_u_at]
      exact b.2.1
    · refine ⟨⟨fun r hr => ?_, fun s hs => ?_⟩, ?_⟩
      · rw [show B (70 + 1) r = I 64 r from (f7 71 r (by omega)).trans (c2 r hr).1, show B (70 + 2) r = I 65 r from (f7 72 r (by omega)).trans (c2 r hr).2.1]; exact h.2.1.2.2.1.1.1 r hr
      · rw [show B (70 + 4) s = I 67 s from (f7 74 s (by omega)).trans (c3 s hs).1, show B (70 + 5) s = I 68 s from (f7 75 s (by omega)).trans (c3 s hs).2.1]; exact h.2.1.2.2.1.1.2 s hs
      · rw [f7 70 0 (by omega), c1 0 (Or.inl rfl)]; exact h.2.1.2.2.1.2
    · refine h.2.1.2.2.2.imp id (fun g r h1 h2 => ?_)
      rw [show B (70 + 3) r = I 66 r from (f7 73 r (by omega)).trans (c2 r h2).2.2]; exact g r h1 h2
