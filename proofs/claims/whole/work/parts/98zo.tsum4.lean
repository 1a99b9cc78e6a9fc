/-! Texts alike: a law's sum read. -/
theorem sg_cases {K : hI} {kc vc : Int32} (t : tkR kc vc (K 110 8) (K 110 9)) : ((k_rk kc = 0 ∨ kc = Int32.ofNat 23) ∧ m_sgk K = 0) ∨ ∃ x, bin x ∧ kc = Int32.ofNat x ∧ m_sgk K = Int32.ofNat (cod x) := by
  unfold m_sgk
  revert t
  generalize K 110 8 = kr
  generalize K 110 9 = wr
  intro t
  rcases t with ⟨h1, h2⟩ | ⟨r, hr, h1, h2, h3⟩ | ⟨h1, h2, h3⟩ | ⟨h1, h2, h3⟩ | ⟨n, hn, h1, h2, h3⟩ | ⟨n, hn, h1, h2, h3⟩ | ⟨h1, h2⟩
  · subst h1 h2; left; simp +decide
  · subst h1 h2 h3
    have key : ∀ r, r < 21 → (((k_rk (Int32.ofNat (10 + pw r)) = 0 ∨ Int32.ofNat (10 + pw r) = Int32.ofNat 23) ∧ (if Int32.ofNat 1 = Int32.ofNat 1 ∧ Int32.ofNat r = Int32.ofNat 11 then Int32.ofNat 3 else if Int32.ofNat 1 = Int32.ofNat 1 ∧ Int32.ofNat r = Int32.ofNat 12 then Int32.ofNat 4 else if Int32.ofNat 1 = Int32.ofNat 5 then Int32.ofNat (5 + nn (Int32.ofNat r)) else if Int32.ofNat 1 = Int32.ofNat 4 ∧ Int32.ofNat r = Int32.ofNat 43 then Int32.ofNat 11 else if Int32.ofNat 1 = Int32.ofNat 4 ∧ Int32.ofNat r = Int32.ofNat 45 then Int32.ofNat 12 else if Int32.ofNat 1 = Int32.ofNat 4 ∧ Int32.ofNat r = Int32.ofNat 42 then Int32.ofNat 13 else if Int32.ofNat 1 = Int32.ofNat 4 ∧ Int32.ofNat r = Int32.ofNat 47 then Int32.ofNat 14 else Int32.ofNat 0) = 0) ∨ r = 11 ∨ r = 12) := by decide
    rcases key r hr with h | rfl | rfl
    · exact Or.inl h
    · exact Or.inr ⟨22, Or.inr (Or.inl rfl), rfl, rfl⟩
    · exact Or.inr ⟨21, Or.inl rfl, rfl, rfl⟩
  · subst h1 h2; left; simp +decide
  · subst h1 h2; left; simp +decide
  · subst h1 h2 h3
    rcases hn with rfl | rfl | rfl | rfl | rfl | rfl | rfl | rfl
    · left; decide
    · left; decide
    · left; decide
    · exact Or.inr ⟨49, Or.inr (Or.inr ⟨by omega, by omega⟩), rfl, rfl⟩
    · exact Or.inr ⟨50, Or.inr (Or.inr ⟨by omega, by omega⟩), rfl, rfl⟩
    · exact Or.inr ⟨51, Or.inr (Or.inr ⟨by omega, by omega⟩), rfl, rfl⟩
    · exact Or.inr ⟨52, Or.inr (Or.inr ⟨by omega, by omega⟩), rfl, rfl⟩
    · left; decide
  · subst h1 h2 h3
    refine Or.inr ⟨43 + n, Or.inr (Or.inr ⟨by omega, by omega⟩), rfl, ?_⟩
    have : n = 0 ∨ n = 1 ∨ n = 2 ∨ n = 3 ∨ n = 4 ∨ n = 5 := by omega
    rcases this with rfl | rfl | rfl | rfl | rfl | rfl <;> rfl
  · subst h1 h2; left; simp +decide
theorem LR_close {A f h o c n : Nat} {I K : hI} (hA : 8 < A) (r : LR A f I K (h + 1) o c n 0) (top : I 7 h = Int32.ofNat 41) : LR A f (am_u (am_u I 6 2 (Int32.ofNat h)) 6 3 (Int32.ofNat (o - 1))) (am_u (am_u K 110 45 (Int32.ofNat h)) 110 47 (Int32.ofNat (o - 1))) h (o - 1) c n 0 := by
  obtain ⟨⟨⟨c1, c1'⟩, ⟨c2, c2'⟩, ⟨c3, c3'⟩, ⟨c4, c4'⟩, ⟨c5, c5'⟩, c6, c7⟩, s, ⟨l1, l2, l3, l4, l5⟩, k⟩ := r
  rw [no_s, if_pos top] at l4
  rw [nb_s, if_pos (Or.inl top)] at l5
  have f : ∀ b, b ≠ 6 → am_u (am_u I 6 2 (Int32.ofNat h)) 6 3 (Int32.ofNat (o - 1)) b = I b := fun b hb => (am_u_ne hb).trans (am_u_ne hb)
  have g : ∀ a i, a ≠ 110 → am_u (am_u K 110 45 (Int32.ofNat h)) 110 47 (Int32.ofNat (o - 1)) a i = K a i := fun a i ha => (am_u_na ha).trans (am_u_na ha)
  refine ⟨⟨⟨?_, ?_⟩, ⟨am_u_at, am_u_at⟩, ⟨?_, ?_⟩, ⟨?_, ?_⟩, ⟨?_, ?_⟩, ?_, ?_⟩, LSt_c (fun i _ => ⟨congrFun (f 7 (by decide)) i, congrFun (f 8 (by decide)) i⟩) (fun i _ => g 134 i (by decide)) (fun i hi => s i (by omega)), ⟨l1, by omega, by omega, ?_, ?_⟩, LK_c (fun i _ => ⟨congrFun (f _ (by omega)) i, congrFun (f _ (by omega)) i⟩) (fun a i u v _ => g a _ (by omega)) (fun t _ => g 135 t (by decide)) k⟩
  · rw [am_u_nk (by decide), am_u_at]
  · rw [am_u_nk (by decide), am_u_at]
  · rw [am_u_nk (by decide), am_u_nk (by decide)]; exact c3
  · rw [am_u_nk (by decide), am_u_nk (by decide)]; exact c3'
  · rw [f A (by omega)]; exact c4
  · rw [am_u_nk (by decide), am_u_nk (by decide)]; exact c4'
  · rw [am_u_nk (by decide), am_u_nk (by decide)]; exact c5
  · rw [am_u_nk (by decide), am_u_nk (by decide)]; exact c5'
  · rw [am_u_nk (by decide), am_u_nk (by decide), am_u_nk (by decide), am_u_nk (by decide)]; exact c6
  · rw [f (A + 1) (by omega), am_u_nk (by decide), am_u_nk (by decide)]; exact c7
  · rw [f 7 (by decide)]; omega
  · rw [f 7 (by decide), f (A + 1) (by omega)]; exact l5
theorem m_wr_n {K : hI} {x : Int32} {a i : Nat} (h : ¬ (a = 110 ∧ (i = 4 ∨ i = 5))) : m_wr K x a i = K a i := by
  unfold m_wr am_u; rw [if_neg (by omega), if_neg (by omega)]
theorem lt1_41 {x : Nat} (h : hx x) (g : k_rk (Int32.ofNat x) < Int32.ofNat 1) : x = 41 := Classical.byContradiction fun z => rk_pos x h z g
theorem rk_w {x : Nat} (h : bin x) : ∃ w, 1 ≤ w ∧ w ≤ 6 ∧ k_tsW (Int32.ofNat x) = Int32.ofNat w ∧ m_sgl (Int32.ofNat (cod x)) = Int32.ofNat w ∧ ¬ (k_rk (Int32.ofNat x) = 0 ∨ Int32.ofNat x = Int32.ofNat 23) ∧ ¬ Int32.ofNat (cod x) = 0 ∧ ((if Int32.ofNat x = Int32.ofNat 21 ∨ Int32.ofNat x = Int32.ofNat 22 then Int32.ofNat 1 else Int32.ofNat 0) = (if m_rk (Int32.ofNat (cod x)) < Int32.ofNat 3 then Int32.ofNat 1 else Int32.ofNat 0)) ∧ ¬ Int32.ofNat x = Int32.ofNat 40 ∧ ¬ Int32.ofNat x = Int32.ofNat 0 := by
  have key : ∀ x, x < 53 → (x = 21 ∨ x = 22 ∨ (43 ≤ x ∧ x ≤ 52)) → 1 ≤ nn (k_tsW (Int32.ofNat x)) ∧ nn (k_tsW (Int32.ofNat x)) ≤ 6 ∧ k_tsW (Int32.ofNat x) = Int32.ofNat (nn (k_tsW (Int32.ofNat x))) ∧ m_sgl (Int32.ofNat (cod x)) = Int32.ofNat (nn (k_tsW (Int32.ofNat x))) ∧ ¬ (k_rk (Int32.ofNat x) = 0 ∨ Int32.ofNat x = Int32.ofNat 23) ∧ ¬ Int32.ofNat (cod x) = 0 ∧ ((if Int32.ofNat x = Int32.ofNat 21 ∨ Int32.ofNat x = Int32.ofNat 22 then Int32.ofNat 1 else Int32.ofNat 0) = (if m_rk (Int32.ofNat (cod x)) < Int32.ofNat 3 then Int32.ofNat 1 else Int32.ofNat 0)) ∧ ¬ Int32.ofNat x = Int32.ofNat 40 ∧ ¬ Int32.ofNat x = Int32.ofNat 0 := by decide
  exact ⟨_, key x (bin_lt h).1 h⟩
/-- after a value: a sign, or the end -/
theorem ts_eq {A f st h o c n : Nat} {I K : hI} (hA : 8 < A) (r : LR A f I K h o c n 0) (cu : cur I K) : (I 3 4 = Int32.ofNat 40 ∧ o = 0 ∧ m_sumP K ∧ ∃ n', ¬ (k_tc I A h o).1 = 0 ∧ (k_tc I A h o).2 3 4 = Int32.ofNat 40 ∧ LR A f (k_tc I A h o).2 (m_bi (Int32.ofNat 1) h (sh (I (A + 1)) n) (f + n) K) 0 0 c n' 0 ∧ FR A f I (k_tc I A h o).2 K (m_bi (Int32.ofNat 1) h (sh (I (A + 1)) n) (f + n) K) ∧ FT I (k_tc I A h o).2 K (m_bi (Int32.ofNat 1) h (sh (I (A + 1)) n) (f + n) K)) ∨ (¬ m_sumP K ∧ TK A f st I K (if I 3 4 = Int32.ofNat 42 ∨ I 3 4 = Int32.ofNat 40 then k_tc I A h o else k_ts I A h c) (m_sg K h (sh (I (A + 1)) n) (f + n) o c)) := by
  have r' := r
  obtain ⟨⟨⟨c1, c1'⟩, ⟨c2, c2'⟩, ⟨c3, c3'⟩, ⟨c4, c4'⟩, ⟨c5, c5'⟩, c6, c7⟩, s, ⟨l1, l2, l3, l4, l5⟩, ⟨k1, k2⟩⟩ := r
  have cu' := cu
  obtain ⟨u1, u2, u3⟩ := cu
  obtain ⟨t41, t42, t40, t23, t2, t3, t0⟩ := tk_cases u3
  have nn1 := no_nb (I 7) h
  have o0 : I 6 3 = 0 ↔ o = 0 := by rw [c2]; exact am_eqN (y := 0) (by omega) (by omega)
  have oP : 0 < Int32.ofNat o ↔ 0 < o := am_ltN (x := 0) (by omega) (by omega)
  obtain ⟨h1, n1, r1, r2, r3, r4, r5, r6, r7, r8, r9⟩ := rel_eq (w := 1) hA (by omega) (by omega) h n I K r'
  by_cases x42 : I 3 4 = Int32.ofNat 42
  · right
    have np : ¬ m_sumP K := fun z => by
      have := t40.mpr z.1
      rw [x42] at this; exact absurd this (by decide)
    refine ⟨np, ?_⟩
    rw [if_pos (Or.inl x42)]
    unfold k_tc m_sg
    rw [if_pos x42]
    by_cases oz : o = 0
    · have sk : m_sgk K = 0 := by
        rcases sg_cases u3 with z | ⟨x, b, e, _⟩
        · exact z.2
        · rw [x42] at e
          have := (am_eqN (by omega) (by have := (bin_lt b).1; omega)).mp e
          unfold bin at b; omega
      rw [if_pos (o0.mpr oz), if_neg (fun z => by have := oP.mp z.2; omega), if_pos sk]
      exact TK_bl u2
    · have hp : 0 < h1 := by
        refine Nat.pos_of_ne_zero (fun z => ?_)
        subst z
        have := r5.2.2.1.2.2.2.1
        have z0 : no (k_rel A (Int32.ofNat 1) h I 7) 0 = 0 := rfl
        omega
      obtain ⟨h2, rfl⟩ : ∃ h2, h1 = h2 + 1 := ⟨h1 - 1, by omega⟩
      have top : k_rel A (Int32.ofNat 1) h I 7 h2 = Int32.ofNat 41 := by
        obtain ⟨x, x1, x2, x3, x4⟩ := r5.2.1 h2 (by omega)
        rcases r4 with z | z
        · omega
        · rw [Nat.add_sub_cancel, ← r8 h2, x4] at z
          rw [x2, lt1_41 x1 z]
      rw [if_neg (fun z => oz (o0.mp z)), if_pos ⟨t42.mp x42, oP.mpr (by omega)⟩]
      unfold m_sg0
      rw [r1, r2]
      have L := LR_close hA r5 top
      rw [show h2 + 1 - 1 = h2 by omega]
      refine TK_go ⟨fun z => ?_, fun z => ?_⟩ (Nat.zero_le _) L ⟨⟨fun b i a1 a2 a3 a4 a5 => ?_, fun a i a1 a2 a3 a4 => ?_⟩, ⟨fun i => ?_, fun i a b => ?_⟩⟩
      · rw [am_u_na (by decide), am_u_na (by decide), r7.1, x42] at z
        exact absurd z (by decide)
      · rw [am_u_na (by decide), am_u_na (by decide), r7.1, x42] at z
        exact absurd z (by decide)
      · rw [am_u_na a2, am_u_na a2]; exact r6.1 b i a1 a2 a3 a4 a5
      · have e : am_u (am_u (m_bi (Int32.ofNat 1) h (sh (I (A + 1)) n) (f + n) K) 110 45 (Int32.ofNat h2)) 110 47 (Int32.ofNat (o - 1)) a i = m_bi (Int32.ofNat 1) h (sh (I (A + 1)) n) (f + n) K a i := by
          unfold am_u; rw [if_neg (by omega), if_neg (by omega)]
        rw [e]; exact r6.2 a i a1 a2 a3 a4
      · rw [am_u_na (by decide), am_u_na (by decide)]; exact r7.1 i
      · rw [am_u_nk (by omega), am_u_nk (by omega)]; exact r7.2 i a b
  · by_cases x40 : I 3 4 = Int32.ofNat 40
    · by_cases oz : o = 0
      · left
        have h0 : h1 = 0 := by
          rcases r4 with z | z
          · exact z
          · refine Classical.byContradiction (fun y => ?_)
            obtain ⟨x, x1, x2, x3, x4⟩ := s (h1 - 1) (by omega)
            rw [x4] at z
            exact no_0 (g := I 7) h (by omega) (h1 - 1) (by omega) (by rw [x2, lt1_41 x1 z])
        subst h0 oz
        have et : k_tc I A h 0 = (1, k_rel A (Int32.ofNat 1) h I) := by
          unfold k_tc; rw [if_neg x42, if_pos (o0.mpr rfl)]
        rw [et]
        exact ⟨x40, rfl, ⟨t40.mp x40, c5', by rw [c2']; decide⟩, n1, fun z => absurd (show (1 : Int32) = 0 from z) (by decide), (r7.1 4).trans x40, r5, r6, r7⟩
      · right
        refine ⟨fun z => z.2.2 (by rw [c2']; exact oP.mpr (by omega)), ?_⟩
        rw [if_pos (Or.inr x40)]
        unfold k_tc m_sg
        have sk : m_sgk K = 0 := by
          rcases sg_cases u3 with z | ⟨x, b, e, _⟩
          · exact z.2
          · rw [x40] at e
            have := (am_eqN (by omega) (by have := (bin_lt b).1; omega)).mp e
            unfold bin at b; omega
        rw [if_neg x42, if_neg (fun z => oz (o0.mp z)), if_neg (fun z => x42 (t42.mpr z.1)), if_pos sk]
        exact TK_bl u2
    · right
      refine ⟨fun z => x40 (t40.mpr z.1), ?_⟩
      rw [if_neg (fun z => z.elim x42 x40)]
      unfold k_ts m_sg
      rw [if_neg (show ¬ ((K 110 8 = Int32.ofNat 4 ∧ K 110 9 = Int32.ofNat 41) ∧ 0 < Int32.ofNat o) from fun z => x42 (t42.mpr z.1))]
      rcases sg_cases u3 with ⟨z1, z2⟩ | ⟨x, b, e1, e2⟩
      · rw [if_pos z1, if_pos z2]; exact TK_bl u2
      · obtain ⟨w, w1, w2, w3, w4, w5, w6, w7, w8, w9⟩ := rk_w b
        rw [e1, e2, if_neg w5, if_neg w6]
        unfold k_ts1 m_sg1 k_ts2
        rw [w3, w4]
        obtain ⟨h1, n1, r1, r2, r3, r4, r5, r6, r7, r8, r9⟩ := rel_eq (w := w) hA w1 w2 h n I K r'
        rw [r1, r2]
        have rk := rk_cod x (Or.inr (Or.inr b))
        have pe : k_tsP (k_rel A (Int32.ofNat w) h I) h1 (Int32.ofNat x) ↔ (m_rk (Int32.ofNat (cod x)) = Int32.ofNat 4 ∧ 0 < Int32.ofNat h1 ∧ m_rk (m_bi (Int32.ofNat w) h (sh (I (A + 1)) n) (f + n) K 134 (h1 - 1)) = Int32.ofNat 4) := by
          unfold k_tsP
          rw [rk]
          constructor
          · rintro ⟨a1, a2, a3⟩
            have hp : 0 < h1 := (am_ltN (x := 0) (by omega) (by omega)).mp a2
            obtain ⟨y, y1, y2, y3, y4⟩ := r5.2.1 (h1 - 1) (by omega)
            exact ⟨a1, a2, by rw [y3, rk_cod y y1, ← y4]; exact a3⟩
          · rintro ⟨a1, a2, a3⟩
            have hp : 0 < h1 := (am_ltN (x := 0) (by omega) (by omega)).mp a2
            obtain ⟨y, y1, y2, y3, y4⟩ := r5.2.1 (h1 - 1) (by omega)
            exact ⟨a1, a2, by rw [y4, ← rk_cod y y1, ← y3]; exact a3⟩
        have cu1 := cur_F r7 cu'
        have x34 : k_rel A (Int32.ofNat w) h I 3 4 = Int32.ofNat x := (r7.1 4).trans e1
        revert r5 r6 r7 pe cu1 x34
        generalize k_rel A (Int32.ofNat w) h I = X
        generalize m_bi (Int32.ofNat w) h (sh (I (A + 1)) n) (f + n) K = Y
        intro r5 r6 r7 pe cu1 x34
        by_cases g : k_tsP X h1 (Int32.ofNat x)
        · rw [if_pos g, if_pos (pe.mp g)]
          exact Or.inl ⟨rfl, rfl, FL_bl cu1.2.1, FR_tr r6 FR_bl⟩
        · rw [if_neg g, if_neg (fun z => g (pe.mpr z))]
          unfold k_hk
          have r5' := r5
          obtain ⟨⟨⟨d1, d1'⟩, ⟨d2, d2'⟩, ⟨d3, d3'⟩, ⟨d4, d4'⟩, ⟨d5, d5'⟩, d6, d7⟩, s', ⟨m1, m2, m3, m4, m5⟩, _⟩ := r5
          by_cases c64 : c < 64
          · rw [if_pos c64, if_neg (show ¬ c = 64 by omega)]
            have e34 : am_u (am_u X 6 5 (Int32.ofNat 1)) 6 6 (if Int32.ofNat x = Int32.ofNat 21 ∨ Int32.ofNat x = Int32.ofNat 22 then Int32.ofNat 1 else Int32.ofNat 0) 3 4 = Int32.ofNat x := by
              rw [am_u_na (by decide), am_u_na (by decide)]; exact x34
            rw [e34, w7]
            generalize (if m_rk (Int32.ofNat (cod x)) < Int32.ofNat 3 then Int32.ofNat 1 else Int32.ofNat 0) = fl
            unfold k_ho
            have nn2 := no_nb (X 7) h1
            rw [if_pos (show h1 < 72 by omega)]
            have a6 : A ≠ 6 := by omega
            have a7 : A ≠ 7 := by omega
            have a8 : A ≠ 8 := by omega
            have b6 : A + 1 ≠ 6 := by omega
            have b7 : A + 1 ≠ 7 := by omega
            have b8 : A + 1 ≠ 8 := by omega
            obtain ⟨F1, F2⟩ := FR_of (A := A) (f := f) (I := X) (I' := am_u (am_u (am_u (am_u (am_u (am_u X 6 5 (Int32.ofNat 1)) 6 6 fl) 6 4 (Int32.ofNat (c + 1))) 7 h1 (Int32.ofNat x)) 8 h1 (k_rk (Int32.ofNat x))) 6 2 (Int32.ofNat (h1 + 1))) (K := Y) (K' := am_u (am_u (am_u (am_u (am_u Y 110 48 (Int32.ofNat (c + 1))) 134 h1 (Int32.ofNat (cod x))) 110 45 (Int32.ofNat (h1 + 1))) 110 49 (Int32.ofNat 1)) 110 50 fl) (fun b i g1 g2 g3 _ => by rw [am_u_na g1, am_u_na g3, am_u_na g2, am_u_na g1, am_u_na g1, am_u_na g1]) (fun a i g1 _ _ g4 => by unfold am_u; rw [if_neg (by omega), if_neg (by omega), if_neg (by omega), if_neg (by omega), if_neg (by omega)]) hA
            refine TK_go (h := h1 + 1) (o := o) (c := c + 1) (n := n1) (d := 1) ⟨fun z => w8 (x34.symm.trans ((F2.1 4).symm.trans z)), fun z => w9 (x34.symm.trans ((F2.1 4).symm.trans z))⟩ (by omega) (LR_push r5' (Or.inr (Or.inr b)) (fun i => ?_) (fun i => ?_) (fun b i g1 g2 => ?_) (fun i => ?_) (fun a i g1 => ?_) ⟨⟨?_, ?_⟩, ⟨?_, ?_⟩, ⟨?_, ?_⟩, ⟨?_, ?_⟩, ⟨?_, ?_⟩, ?_, ?_⟩ ⟨by omega, m2, by omega, by rw [if_neg (bin_lt b).2.1]; rfl, by rw [if_neg (fun z => z.elim (bin_lt b).2.1 (bin_lt b).2.2)]; omega⟩) ⟨FR_tr r6 F1, FT_tr r7 F2⟩
            · rw [am_u_na (by decide), am_u_na (by decide)]
              by_cases z : i = h1
              · rw [z, am_u_at, if_pos rfl]
              · rw [am_u_nk z, if_neg z, am_u_na (by decide), am_u_na (by decide), am_u_na (by decide)]
            · rw [am_u_na (by decide)]
              by_cases z : i = h1
              · rw [z, am_u_at, if_pos rfl]
              · rw [am_u_nk z, if_neg z, am_u_na (by decide), am_u_na (by decide), am_u_na (by decide), am_u_na (by decide)]
            · rw [am_u_na (by omega), am_u_na (by omega), am_u_na (by omega), am_u_na (by omega), am_u_na (by omega), am_u_na (by omega)]
            · rw [am_u_na (by decide), am_u_na (by decide), am_u_na (by decide)]
              by_cases z : i = h1
              · rw [z, am_u_at, if_pos rfl]
              · rw [am_u_nk z, if_neg z, am_u_na (by decide)]
            · rw [am_u_na (by omega), am_u_na (by omega), am_u_na (by omega), am_u_na (by omega), am_u_na (by omega)]
            · rw [am_u_at]
            · rw [am_u_nk (by decide), am_u_nk (by decide), am_u_at]
            · rw [am_u_nk (by decide), am_u_na (by decide), am_u_na (by decide), am_u_nk (by decide), am_u_nk (by decide), am_u_nk (by decide)]; exact d2
            · rw [am_u_nk (by decide), am_u_nk (by decide), am_u_nk (by decide), am_u_na (by decide), am_u_nk (by decide)]; exact d2'
            · rw [am_u_nk (by decide), am_u_na (by decide), am_u_na (by decide), am_u_at]
            · rw [am_u_nk (by decide), am_u_nk (by decide), am_u_nk (by decide), am_u_na (by decide), am_u_at]
            · rw [am_u_na a6, am_u_na a8, am_u_na a7, am_u_na a6, am_u_na a6, am_u_na a6]; exact d4
            · rw [am_u_nk (by decide), am_u_nk (by decide), am_u_nk (by decide), am_u_na (by decide), am_u_nk (by decide)]; exact d4'
            · rw [am_u_nk (by decide), am_u_na (by decide), am_u_na (by decide), am_u_nk (by decide), am_u_nk (by decide), am_u_at]
            · rw [am_u_nk (by decide), am_u_at]
            · rw [am_u_nk (by decide), am_u_na (by decide), am_u_na (by decide), am_u_nk (by decide), am_u_at, am_u_at]
            · rw [am_u_ne b6, am_u_ne b8, am_u_ne b7, am_u_ne b6, am_u_ne b6, am_u_ne b6, am_u_nk (by decide), am_u_nk (by decide), am_u_nk (by decide), am_u_na (by decide), am_u_nk (by decide)]; exact d7
          · rw [if_neg c64, if_pos (show c = 64 by omega)]
            refine Or.inl ⟨rfl, rfl, FL_bl ?_, ⟨fun b i a1 a2 a3 a4 a5 => ?_, fun a i a1 a2 a3 a4 => (m_wr_n (by omega)).trans (r6.2 a i a1 a2 a3 a4)⟩⟩
            · rw [am_u_na (by decide), am_u_na (by decide)]; exact cu1.2.1
            · show u_bl _ _ b i = _
              unfold u_bl
              rw [am_u_na a1, am_u_na a1, am_u_na a2, am_u_na a2]; exact r6.1 b i a1 a2 a3 a4 a5

theorem u_tok_n {I : hI} {b i : Nat} (h : b ≠ 3) : u_tok I b i = I b i := by
  unfold u_tok u_tk u_3 am_u
  rw [if_neg (by omega), if_neg (by omega), if_neg (by omega), if_neg (by omega)]
theorem m_tok_n {K : hI} {a i : Nat} (h : ¬ (a = 110 ∧ 7 ≤ i ∧ i ≤ 10)) : m_tok K a i = K a i := by
  unfold m_tok m_tk m_t3 am_u
  rw [if_neg (by omega), if_neg (by omega), if_neg (by omega), if_neg (by omega)]
theorem LR_tok {A f h o c n d : Nat} {I K : hI} (hA : 8 < A) (r : LR A f I K h o c n d) : LR A f (u_tok I) (m_tok K) h o c n d := by
  have f1 : ∀ b, b ≠ 3 → u_tok I b = I b := fun b hb => funext fun i => u_tok_n hb
  have f2 : ∀ a, a ≠ 110 → m_tok K a = K a := fun a ha => funext fun i => m_tok_n (by omega)
  have f3 : ∀ i, 11 ≤ i → m_tok K 110 i = K 110 i := fun i hi => m_tok_n (by omega)
  obtain ⟨⟨⟨c1, c1'⟩, ⟨c2, c2'⟩, ⟨c3, c3'⟩, ⟨c4, c4'⟩, ⟨c5, c5'⟩, c6, c7⟩, s, l, k⟩ := r
  refine ⟨⟨⟨?_, ?_⟩, ⟨?_, ?_⟩, ⟨?_, ?_⟩, ⟨?_, ?_⟩, ⟨?_, ?_⟩, ?_, ?_⟩, LSt_c (fun i _ => ⟨congrFun (f1 7 (by decide)) i, congrFun (f1 8 (by decide)) i⟩) (fun i _ => congrFun (f2 134 (by decide)) i) s, ?_, LK_c (fun i _ => ⟨congrFun (f1 _ (by omega)) i, congrFun (f1 _ (by omega)) i⟩) (fun a i u v _ => congrFun (f2 a (by omega)) _) (fun t _ => congrFun (f2 135 (by decide)) t) k⟩
  · rw [f1 6 (by decide)]; exact c1
  · rw [f3 45 (by decide)]; exact c1'
  · rw [f1 6 (by decide)]; exact c2
  · rw [f3 47 (by decide)]; exact c2'
  · rw [f1 6 (by decide)]; exact c3
  · rw [f3 48 (by decide)]; exact c3'
  · rw [f1 A (by omega)]; exact c4
  · rw [f3 21 (by decide)]; exact c4'
  · rw [f1 6 (by decide)]; exact c5
  · rw [f3 49 (by decide)]; exact c5'
  · rw [f1 6 (by decide), f3 50 (by decide)]; exact c6
  · rw [f1 (A + 1) (by omega), f3 46 (by decide)]; exact c7
  · unfold LN
    rw [f1 (A + 1) (by omega), f1 7 (by decide)]; exact l
theorem FR_tok {A f : Nat} {I K : hI} : FR A f I (u_tok I) K (m_tok K) := ⟨fun b i h _ _ _ _ => u_tok_n h, fun a i _ _ _ h => m_tok_n (by omega)⟩
/-- what a sum read comes to -/
def RS (A f st : Nat) (I K : hI) (p q : Int32 × hI) : Prop :=
  (p.1 = 0 ∧ q.1 = 0 ∧ FL p.2 q.2 ∧ FR A f I p.2 K q.2) ∨
  (¬ p.1 = 0 ∧ ¬ q.1 = 0 ∧ p.2 3 4 = Int32.ofNat 40 ∧ cur p.2 q.2 ∧ bse st p.2 q.2 ∧ FR A f I p.2 K q.2 ∧ ∃ c n, LR A f p.2 q.2 0 0 c n 0)
theorem ri_eq {A f st : Nat} (hA : 8 < A) : ∀ j m I K h o c n d, bse st I K → bse st (u_tok I) K → cur (u_tok I) K → LR A f (u_tok I) K h o c n d → d ≤ 1 → st - nn (I 3 3) < j → st - nn (I 3 3) < m → RS A f st I K (k_ri A j I) (m_sumL m K) := by
  intro j
  induction j with
  | zero => intro m I K h o c n d _ _ _ _ _ hj; exact absurd hj (Nat.not_lt_zero _)
  | succ j ih =>
    intro m I K h o c n d b0 b cu r hd hj hm
    obtain ⟨m, rfl⟩ : ∃ m', m = m' + 1 := ⟨m - 1, by omega⟩
    have r' := r
    obtain ⟨⟨⟨c1, c1'⟩, ⟨c2, c2'⟩, ⟨c3, c3'⟩, ⟨c4, c4'⟩, ⟨c5, c5'⟩, c6, c7⟩, s, ⟨l1, l2, l3, l4, l5⟩, _⟩ := r
    have nb1 := no_nb (u_tok I 7) h
    have shl := sh_le (u_tok I (A + 1)) n
    have e2 : nn (u_tok I 6 2) = h := by rw [c1, nn_ofNat (by omega)]
    have e3 : nn (u_tok I 6 3) = o := by rw [c2, nn_ofNat (by omega)]
    have e4 : nn (u_tok I 6 4) = c := by rw [c3, nn_ofNat (by omega)]
    have w2 : nn (K 110 45) = h := by rw [c1', nn_ofNat (by omega)]
    have w3 : nn (K 110 47) = o := by rw [c2', nn_ofNat (by omega)]
    have w4 : nn (K 110 48) = c := by rw [c3', nn_ofNat (by omega)]
    have w5 : nn (K 110 21) = f + n := by rw [c4', nn_ofNat (by omega)]
    have w6 : nn (K 110 46) = sh (u_tok I (A + 1)) n := by rw [c7, nn_ofNat (by omega)]
    have gt := tok_gt b0
    have F0 : FR A f I (u_tok I) K K := ⟨fun b i h _ _ _ _ => u_tok_n h, fun _ _ _ _ _ _ => rfl⟩
    have go : ∀ p q : Int32 × hI, k_take (u_tok I) A = p → m_sumS K = q → ¬ m_sumP K → TK A f st (u_tok I) K p q → RS A f st I K (k_ri A (j + 1) I) (m_sumL (m + 1) K) := by
      intro p q ep eq np t
      rw [m_sumL_s, @if_neg _ (m_sumD K) np, eq]
      rcases t with ⟨t1, t2, t3, t4⟩ | ⟨t1, t2, ⟨t3, t0⟩, K', h', o', c', n', d', t4, t5, t6, t7, t8⟩
      · rw [k_ri1 (by rw [ep]; exact t1), ep, if_pos t2]
        exact Or.inl ⟨t1, rfl, t3, FR_tr F0 t4⟩
      · rw [k_ri3 (by rw [ep]; exact t1) (by rw [ep]; exact t3), ep, if_neg t2, t4]
        have bx := bse_F hA t7 t8 b
        have cx := cur_F t8 cu
        obtain ⟨cy, by'⟩ := tok_al bx cx.1
        have e33 : p.2 3 3 = u_tok I 3 3 := t8.1 3
        have e34 : p.2 3 4 = u_tok I 3 4 := t8.1 4
        have lt : nn (I 3 3) < nn (p.2 3 3) ∧ nn (p.2 3 3) ≤ st := by
          rw [e33]
          rcases gt with z | z
          · exact absurd (e34.trans z) t0
          · exact z
        have b1 : bse st p.2 (m_tok K') := bse_c (fun _ _ _ => rfl) (fun a i h => m_tok_n (by omega)) bx
        have R := ih m p.2 (m_tok K') h' o' c' n' d' b1 by' cy (LR_tok hA t6) t5 (by omega) (by omega)
        have F2 : FR A f I p.2 K (m_tok K') := FR_tr F0 (FR_tr t7 ⟨fun _ _ _ _ _ _ _ => rfl, fun a i _ _ _ h => m_tok_n (by omega)⟩)
        rcases R with ⟨R1, R2, R3, R4⟩ | ⟨R1, R2, R3, R4, R5, R6, R7⟩
        · exact Or.inl ⟨R1, R2, R3, FR_tr F2 R4⟩
        · exact Or.inr ⟨R1, R2, R3, R4, R5, FR_tr F2 R6, R7⟩
    have : d = 0 ∨ d = 1 := by omega
    rcases this with rfl | rfl
    · have z5 : u_tok I 6 5 = 0 := c5
      have et : k_take (u_tok I) A = (if u_tok I 3 4 = Int32.ofNat 42 ∨ u_tok I 3 4 = Int32.ofNat 40 then k_tc (u_tok I) A h o else k_ts (u_tok I) A h c) := by
        unfold k_take; rw [if_pos z5, e2, e3, e4]
      have es : m_sumS K = m_sg K h (sh (u_tok I (A + 1)) n) (f + n) o c := by
        unfold m_sumS; rw [if_pos (show K 110 49 = 0 from c5'), w2, w3, w4, w5, w6]
      rcases ts_eq (st := st) hA r' cu with ⟨x40, oz, mp, n', y1, y2, y3, y4, y5⟩ | ⟨np, t⟩
      · rw [if_pos (Or.inr x40)] at et
        rw [k_ri2 (by rw [et]; exact y2), et, m_sumL_s, @if_pos _ (m_sumD K) mp, w2, w5, w6]
        exact Or.inr ⟨y1, fun z => absurd (show (1 : Int32) = 0 from z) (by decide), y2, cur_F y5 cu, bse_F hA y4 y5 b, FR_tr F0 y4, c, n', y3⟩
      · exact go _ _ et es np t
    · have z5 : ¬ u_tok I 6 5 = 0 := by rw [c5]; decide
      have et : k_take (u_tok I) A = k_tv (u_tok I) A h o c := by
        unfold k_take; rw [if_neg z5, e2, e3, e4]
      have es : m_sumS K = m_leaf K h (sh (u_tok I (A + 1)) n) (f + n) o c := by
        unfold m_sumS; rw [if_neg (show ¬ K 110 49 = 0 by rw [c5']; decide), w2, w3, w4, w5, w6]
      exact go _ _ et es (fun z => absurd (c5'.symm.trans z.2.1) (by decide)) (tv_eq (st := st) hA r' cu)
