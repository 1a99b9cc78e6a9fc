/-! Class and reference: storms, ships, a day. -/
theorem am_lowN (y : Int64) : ∃ m, m < 2147483648 ∧ (y &&& 2147483647) = Int64.ofNat m := by
  refine ⟨(y.toBitVec &&& (2147483647 : Int64).toBitVec).toNat, ?_, ?_⟩
  · rw [BitVec.toNat_and]
    exact Nat.lt_of_le_of_lt Nat.and_le_right (by decide)
  · apply Int64.toBitVec_inj.mp
    show y.toBitVec &&& (2147483647 : Int64).toBitVec = BitVec.ofNat 64 _
    rw [BitVec.ofNat_toNat, BitVec.setWidth_eq]
theorem nm_eq (y : Int64) : m_nm (y &&& 2147483647) = ((y &&& 2147483647) / 65536).toInt32 - ((y &&& 2147483647) / 65536).toInt32 / Int32.ofNat 100 * Int32.ofNat 100 := by
  obtain ⟨m, hm, e⟩ := am_lowN y
  have h6 : (65536 : Int64) = Int64.ofNat 65536 := rfl
  unfold m_nm
  rw [e, h6, am_divL (by omega) (by omega) (by omega), am_i2l (by omega), am_remL (by omega) (by omega) (by omega), Int64.toInt32_ofNat', Int64.toInt32_ofNat', am_remN (by omega) (by omega) (by omega)]
theorem st_eq {x : Int32} {T S b : Nat} {N : Nat → Nat} {I K : hI} {J L : hJ} (d : dR x T N I K) (j : I 84 4 = 0 → J S 1 = L 110 62) : (if k_st I J T S = 0 then Int32.ofNat 0 else Int32.ofNat 1) = m_st K L ∧ (I 84 4 = 0 → k_stJ I J T S S 1 = m_stJ K L 110 62) := by
  have e16 := d.1.2.2.2.2.2.1
  obtain ⟨o1, o2⟩ := d.2.1.2.2.2.2.2
  have c7 := d.2.2.2.1.2.2.2.2.2.2.1
  have c8 := d.2.2.2.1.2.2.2.2.2.2.2
  have hdr : I 84 4 = 0 → k_dr J S = m_dr L := fun g => by unfold k_dr m_dr; rw [j g]
  rw [← e16] at c7
  unfold k_st k_stJ m_st m_stJ
  rw [← e16]
  generalize hq : nn (I T 16) = q at o1 o2
  rw [o1] at c7
  rw [o1]
  clear hq
  have z0 : Int32.ofNat q = 0 ↔ q = 0 := am_eqN (y := 0) (by omega) (by omega)
  have zH : Int32.ofNat q = Int32.ofNat 100 ↔ q = 100 := am_eqN (by omega) (by omega)
  have l0 : 0 < Int32.ofNat q ↔ 0 < q := am_ltN (x := 0) (by omega) (by omega)
  have lH : Int32.ofNat q < Int32.ofNat 100 ↔ q < 100 := am_ltN (by omega) (by omega)
  have l5 : Int32.ofNat q < Int32.ofNat 50 ↔ q < 50 := am_ltN (by omega) (by omega)
  have d0 : (Int32.ofNat 0 : Int32) = 0 := rfl
  have d1 : (Int32.ofNat 1 : Int32) = 1 := rfl
  have d2 : ¬ (1 : Int32) = 0 := by decide
  simp only [z0, zH, l0, lH, l5] at c7 ⊢
  rcases c8 with ⟨a1, a2, a3, a4⟩ | ⟨a1, a2⟩
  · have hdr := hdr a1
    have j := j a1
    have e' : (k_dr J S / 65536).toInt32 - (k_dr J S / 65536).toInt32 / Int32.ofNat 100 * Int32.ofNat 100 = m_nm (m_dr L) := by
      rw [hdr]; exact (nm_eq _).symm
    rw [e', hdr]
    generalize m_dr L = D
    by_cases g0 : q = 0
    · subst g0; simp [a1, a3, a4, j, d0]
    · by_cases gH : q = 100
      · subst gH; simp [a1, a3, a4, j, d1]
      · have h1 : 0 < q := by omega
        have h2 : q < 100 := by omega
        have h3 : ¬ (¬ 0 < q ∨ ¬ q < 100) := by omega
        have h4 : ¬ (¬ K 110 65 = 0 ∨ q = 0) := fun z => z.elim (fun y => y a3) g0
        rw [if_pos a1, if_pos a1, if_neg (not_not_intro a4), if_neg (not_not_intro a4), if_neg h3, if_neg h3, if_neg h4, if_neg h4, if_neg gH, if_neg gH, if_neg a2, if_neg a2, am_u_at, am_u_at]
        refine ⟨?_, fun _ => rfl⟩
        by_cases h : m_nm D < Int32.ofNat q
        · rw [if_pos h, if_neg d2]; rfl
        · rw [if_neg h, if_pos rfl]; rfl
  · rw [if_neg a1, if_neg a1, c7]
    refine ⟨?_, fun g => absurd g a1⟩
    · by_cases g6 : K 110 66 = 0
      · by_cases g5 : K 110 65 = 0
        · by_cases g0 : q = 0
          · subst g0; simp [g6, g5, d0]
          · by_cases gH : q = 100
            · subst gH; simp [g6, g5, d0, d1, d2]
            · by_cases gL : q < 50
              · simp [g6, g5, g0, gH, gL, a2, d0, d1, d2]
              · simp [g6, g5, g0, gH, gL, a2, d0, d1, d2]
        · simp [g6, g5, d0, d1, d2]
      · simp [g6, d0, d1, d2]
/-- the names of a ship, and its pull -/
theorem pull_eq {x z : Int32} {T S b s : Nat} {N : Nat → Nat} {I K : hI} {J L : hJ} (hT : T = 9 ∨ T = 36) (hS : S = 63 ∨ S = 70 ∨ S = 77) (d : dR x T N I K) (h : sR S b x N I K) (hs : s < N 2) (w : wt x (Int32.ofNat s)) (hz : K 110 63 = z) (z01 : z = 0 ∨ z = 1) : k_shC I J T S s N z = m_asP K L b (N 1) s := by
  have hn := d.2.2.2.2.2.1
  have e13 := (d.1.2.2.2.1 s hs).2
  have f : ∀ a, a ≠ 87 → k_mI I T S (Int32.ofNat s) (N 1) a = I a := fun a ha => k_mI_ne ha
  have ez : z.toInt64 = (if K 110 63 = 0 then 0 else 1) := by
    rw [hz]
    rcases z01 with rfl | rfl
    · rfl
    · rfl
  have hwo : (Int32.ofNat 1 + z) * I (T + 13) s = (if K 110 63 = 0 then K 124 s else Int32.ofNat 2 * K 124 s) := by
    rw [hz, e13]
    rcases z01 with rfl | rfl
    · rw [if_pos rfl]; exact Int32.one_mul _
    · rw [if_neg (by decide)]; rfl
  unfold k_shC k_pu m_asP
  by_cases t : 0 < I (T + 24) 0
  · rw [if_pos t]
    refine bl_eq (w := 2) d.2.2.1 (by omega) (by omega) (fun a i u v => congrFun (f a (by omega)) i) (fun _ _ _ _ => rfl) (fun _ i hi => ?_) hwo
    unfold k_puJ m_asJ0 m_layS
    rw [f (T + 13) (by omega), f S (by omega)]
    have hb : k_bear (k_mI I T S (Int32.ofNat s) (N 1)) S (Int32.ofNat s) 8 = m_bear K b (N 1) (Int32.ofNat s) := sR_bear hn (sR_c (fun a i u v => congrFun (f a (by omega)) i) (fun _ _ _ _ => rfl) h) w
    have hm : k_mood I T S (Int32.ofNat s) (N 1) = m_mood K b (N 1) (Int32.ofNat s) := by
      refine mood_eq hT hS hn (fun r hr => (h.2.1 r hr).1.imp_left (fun z => z.1)) (fun r hr e => (h.2.1 r hr).2.2.1 (by rw [e]; exact w)) (fun r hr => ?_)
      obtain ⟨e1, e2, e3, e4⟩ := d.1.2.1 r hr
      obtain ⟨y1, y2, y3, y4⟩ := d.2.1.1 r hr
      exact ⟨by rw [(d.1.1 _ y1.2).2.1, e2], e3, d.2.1.2.1 _ (by have := y1.2; have := d.2.2.2.2.1; omega), y2.1⟩
    exact lay_eq rfl rfl (by rw [hm]) (by rw [e13]) (by rw [hb]) ez (by rw [h.1]) ⟨0, rfl⟩ ⟨0, rfl⟩ ⟨_, rfl⟩ ⟨_, rfl⟩ ⟨_, rfl⟩ sm6_01 ⟨_, rfl⟩ i hi
  · rw [if_neg t]
    exact bl_eq (w := 2) d.2.2.1 (by omega) (by omega) (fun _ _ _ _ => rfl) (fun _ _ _ _ => rfl) (fun g => absurd (((d.2.2.1 2 (by omega)).1).mpr g) t) hwo
theorem we_eq {x z : Int32} {T S b r : Nat} {N : Nat → Nat} {I K : hI} {J L : hJ} (d : dR x T N I K) (h : sR S b x N I K) (hr : r < N 1) (w : wt x (I (S + 3) r)) (hz : K 110 63 = z) (z01 : z = 0 ∨ z = 1) : k_wv T S (N 5) r z (I, J) = m_wx K L b (N 1) r := by
  have hn := d.2.2.2.2.2.1
  have ez : z.toInt64 = (if K 110 63 = 0 then 0 else 1) := by
    rw [hz]
    rcases z01 with rfl | rfl
    · rfl
    · rfl
  obtain ⟨v1, v2⟩ := (h.2.1 r (by omega)).2.2.1 w
  unfold k_wv m_wx k_we
  dsimp only
  rw [v2]
  refine congrArg (fun q => K 139 (8 * b + r) - q) ?_
  refine bl_eq (w := 1) d.2.2.1 (by omega) (by omega) (fun _ _ _ _ => rfl) (fun _ _ _ _ => rfl) (fun g i hi => ?_) ?_
  · have t : 0 < I (T + 21) 0 := ((d.2.2.1 1 (by omega)).1).mpr g
    unfold k_weJ m_wJ0
    rw [if_pos t]
    exact nameR d h hr w ez v2 i hi
  · rw [hz]
    rcases z01 with rfl | rfl
    · rfl
    · rfl
theorem m_blI_f {K : hI} {L : hJ} {w : Nat} : ∀ a i, (a ≠ 110 ∨ i ≠ 53) → m_blI K L w a i = K a i := by
  intro a i h
  unfold m_blI; split
  · rfl
  · rcases h with h | h
    · exact am_u_na h
    · exact am_u_nk h
theorem m_asS_1 {c : Int32} {b n s r : Nat} {p : hI × hJ} (h : p.1 138 (8 * b + r) = Int32.ofNat 1 ∧ p.1 140 (8 * b + r) = Int32.ofNat s) : m_asS c b n s r p = (if c = 0 then (am_u p.1 138 (8 * b + r) (Int32.ofNat 3), p.2) else (m_wI p.1 p.2 b n r, m_wJ p.1 p.2 b n r)) := if_pos h
theorem m_asS_0 {c : Int32} {b n s r : Nat} {p : hI × hJ} (h : ¬ (p.1 138 (8 * b + r) = Int32.ofNat 1 ∧ p.1 140 (8 * b + r) = Int32.ofNat s)) : m_asS c b n s r p = p := if_neg h
/-- ropes of a ship that isn't looked at -/
theorem asL_no {x c : Int32} {S b s : Nat} {N : Nat → Nat} {I : hI} {p : hI × hJ} (hn : N 1 ≤ 8) (w : ¬ wt x (Int32.ofNat s)) (h : sR S b x N I p.1) : ∀ j, j ≤ N 1 → sR S b x N I (m_asL c b (N 1) s j p).1 := by
  intro j
  induction j with
  | zero => intro _; exact h
  | succ j ih =>
    intro hj
    have h1 := ih (by omega)
    show sR S b x N I (m_asS c b (N 1) s j (m_asL c b (N 1) s j p)).1
    revert h1
    generalize m_asL c b (N 1) s j p = q
    intro h1
    by_cases g : q.1 138 (8 * b + j) = Int32.ofNat 1 ∧ q.1 140 (8 * b + j) = Int32.ofNat s
    · have w2 : ¬ wt x (I (S + 3) j) := by rw [(h1.2.1 j (by omega)).1.resolve_left (fun z => by have := z.1; omega), g.2]; exact w
      rw [m_asS_1 g]
      split
      · exact sR_1K h1 w2
      · show sR S b x N I (m_wI q.1 q.2 b (N 1) j)
        have h2 : sR S b x N I (m_blI q.1 (m_wJ0 q.1 q.2 b (N 1) j) 1) := sR_c (fun _ _ _ _ => rfl) (fun a i u v => m_blI_f a i (by omega)) h1
        unfold m_wI
        repeat' split
        · exact sR_2K h2 w2
        · exact sR_1K (sR_2K h2 w2) w2
        · exact h1
    · rw [m_asS_0 g]; exact h1
theorem asE_no {x c : Int32} {S b s : Nat} {N : Nat → Nat} {I K : hI} (w : ¬ wt x (Int32.ofNat s)) (h : sR S b x N I K) : sR S b x N I (m_asE K c b s) := by
  unfold m_asE
  repeat' split
  · exact sR_5K (sR_4K (sR_5K h w) w) w
  · exact sR_6K (sR_4K (sR_5K h w) w) w
  · exact sR_5K h w
/-- a ship lost -/
theorem loL_eq {x : Int32} {S b s : Nat} {N : Nat → Nat} {I : hI} {p : hI × hJ} (hn : N 1 ≤ 8) (w : wt x (Int32.ofNat s)) (h : sR S b x N I p.1) : ∀ j, j ≤ N 1 → sR S b x N (k_loL S s j I) (m_asL (Int32.ofNat 0) b (N 1) s j p).1 := by
  intro j
  induction j with
  | zero => intro _; exact h
  | succ j ih =>
    intro hj
    have h1 := ih (by omega)
    show sR S b x N (k_loS S s j (k_loL S s j I)) (m_asS (Int32.ofNat 0) b (N 1) s j (m_asL (Int32.ofNat 0) b (N 1) s j p)).1
    revert h1
    generalize m_asL (Int32.ofNat 0) b (N 1) s j p = q
    generalize k_loL S s j I = A
    intro h1
    obtain ⟨p1, p2, p3, p4⟩ := h1.2.1 j (by omega)
    have p1 := p1.resolve_left (fun z => by have := z.1; omega)
    unfold k_loS
    by_cases g : A (S + 3) j = Int32.ofNat s
    · have v := p3 (by rw [g]; exact w)
      rw [if_pos g]
      by_cases u : A (S + 1) j = Int32.ofNat 1
      · rw [if_pos u, m_asS_1 ⟨v.1.symm.trans u, p1.symm.trans g⟩, if_pos (show Int32.ofNat 0 = 0 from rfl)]
        exact sR_1 h1 hj
      · rw [if_neg u, m_asS_0 (fun z => u (v.1.trans z.1))]; exact h1
    · rw [if_neg g, m_asS_0 (fun z => g (p1.trans z.2))]; exact h1
theorem loL_cm {S s : Nat} {I : hI} {a : Nat} (h : a ≠ S + 1) : ∀ j, k_loL S s j I a = I a := fun j => k_loL_ne h
theorem k_loL_c1 {S s : Nat} {I I1 : hI} (h1 : I1 (S + 1) = I (S + 1)) (h3 : I1 (S + 3) = I (S + 3)) : ∀ j, k_loL S s j I1 (S + 1) = k_loL S s j I (S + 1) := by
  intro j
  induction j with
  | zero => exact h1
  | succ j ih =>
    show k_loS S s j (k_loL S s j I1) (S + 1) = k_loS S s j (k_loL S s j I) (S + 1)
    have e3 : k_loL S s j I1 (S + 3) = k_loL S s j I (S + 3) := by rw [loL_cm (by omega), loL_cm (by omega), h3]
    unfold k_loS
    rw [e3, ih]
    split
    · split
      · funext i
        by_cases e : i = j
        · subst e; rw [am_u_at, am_u_at]
        · rw [am_u_nk e, am_u_nk e, ih]
      · exact ih
    · exact ih
theorem lose_eq {x : Int32} {S b s : Nat} {N : Nat → Nat} {I : hI} {p : hI × hJ} (hn : N 1 ≤ 8) (w : wt x (Int32.ofNat s)) (h : sR S b x N I p.1) : sR S b x N (k_lose I S s (N 1)) (m_asE (m_asL (Int32.ofNat 0) b (N 1) s (N 1) p).1 (Int32.ofNat 0) b s) := by
  have h1 := loL_eq hn w h (N 1) (Nat.le_refl _)
  revert h1
  generalize (m_asL (Int32.ofNat 0) b (N 1) s (N 1) p).1 = K
  intro h1
  have h2 : sR S b x N (am_u (am_u (k_loL S s (N 1) I) (S + 4) s (Int32.ofNat 2)) (S + 5) s (Int32.ofNat 0)) (am_u (am_u K 141 (5 * b + s) (Int32.ofNat 2)) 142 (5 * b + s) (Int32.ofNat 0)) := sR_5 (sR_4 h1)
  refine sR_c (fun a i u v => ?_) (fun a i u v => ?_) h2
  · unfold k_lose
    by_cases e1 : a = S + 1
    · subst e1
      rw [am_u_na (by omega), am_u_na (by omega)]
      exact congrFun (k_loL_c1 ((am_u_ne (by omega)).trans (am_u_ne (by omega))) ((am_u_ne (by omega)).trans (am_u_ne (by omega))) (N 1)) i
    · rw [loL_cm e1]
      by_cases e5 : a = S + 5
      · subst e5
        by_cases ei : i = s
        · subst ei; rw [am_u_at, am_u_at]
        · rw [am_u_nk ei, am_u_nk ei, am_u_nk ei, am_u_nk ei, loL_cm (by omega)]
      · rw [am_u_na e5, am_u_na e5]
        by_cases e4 : a = S + 4
        · subst e4
          by_cases ei : i = s
          · subst ei; rw [am_u_at, am_u_at]
          · rw [am_u_nk ei, am_u_nk ei, loL_cm (by omega)]
        · rw [am_u_na e4, am_u_na e4, loL_cm e1]
  · unfold m_asE
    rw [if_pos (show Int32.ofNat 0 = 0 from rfl)]
    by_cases e5 : a = 142
    · subst e5
      by_cases ei : i = 5 * b + s
      · subst ei; rw [am_u_at, am_u_at]
      · rw [am_u_nk ei, am_u_nk ei, am_u_nk ei, am_u_nk ei, am_u_nk ei]
    · rw [am_u_na e5, am_u_na e5]
      by_cases e4 : a = 141
      · subst e4
        by_cases ei : i = 5 * b + s
        · subst ei; rw [am_u_at, am_u_at]
        · rw [am_u_nk ei, am_u_nk ei, am_u_nk ei]
      · rw [am_u_na e4, am_u_na e4, am_u_na e5]
theorem spend_eq {x : Int32} {S b s : Nat} {N : Nat → Nat} {I K : hI} (hs : s < 5) (w : wt x (Int32.ofNat s)) (h : sR S b x N I K) : sR S b x N (k_spend I S s) (m_asE K (Int32.ofNat 1) b s) := by
  obtain ⟨v4, v5, v6⟩ := h.2.2.1 s hs w
  unfold k_spend m_asE
  rw [if_neg (show ¬ Int32.ofNat 1 = 0 by decide), v5, v6]
  split
  · exact sR_6 (sR_4 (sR_5 h))
  · exact sR_5 h
