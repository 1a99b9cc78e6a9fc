/-! Class and reference: a day. -/
theorem jG_w {I : hI} {J : hJ} {b n r : Nat} : jG J (m_wJ I J b n r) := by
  unfold m_wJ; split
  · exact jG_tr jG_lay jG_blJ
  · exact jG_rf J
theorem jG_asL {c : Int32} {b n s : Nat} {p : hI × hJ} : ∀ j, jG p.2 (m_asL c b n s j p).2 := by
  intro j
  induction j with
  | zero => exact jG_rf _
  | succ j ih =>
    refine jG_tr ih ?_
    show jG _ (m_asS c b n s j (m_asL c b n s j p)).2
    unfold m_asS
    repeat' split
    · exact jG_rf _
    · exact jG_w
    · exact jG_rf _
theorem jF_wrL {T S x n1 : Nat} {z : Int32} {p : hI × hJ} : ∀ n, jF p.2 (k_wrL T S x n1 z n p).2 := by
  intro n
  induction n with
  | zero => exact jF_rf _
  | succ n ih =>
    refine jF_tr ih ?_
    show jF _ (k_wrS T S x n1 z n (k_wrL T S x n1 z n p)).2
    unfold k_wrS
    repeat' split
    · exact jF_we
    · exact jF_we
    · exact jF_rf _
    · exact jF_rf _
theorem m_wI_63 {K : hI} {L : hJ} {b n r : Nat} : m_wI K L b n r 110 63 = K 110 63 := by
  unfold m_wI
  repeat' split
  · exact (am_u_na (by decide)).trans (m_blI_f _ _ (Or.inr (by decide)))
  · exact (am_u_na (by decide)).trans ((am_u_na (by decide)).trans (m_blI_f _ _ (Or.inr (by decide))))
  · rfl
theorem m_asL_63 {c : Int32} {b n s : Nat} {p : hI × hJ} : ∀ j, (m_asL c b n s j p).1 110 63 = p.1 110 63 := by
  intro j
  induction j with
  | zero => rfl
  | succ j ih =>
    refine Eq.trans ?_ ih
    show (m_asS c b n s j (m_asL c b n s j p)).1 110 63 = _
    unfold m_asS
    repeat' split
    · dsimp only
      exact am_u_na (by decide)
    · exact m_wI_63
    · rfl
theorem m_asE_63 {K : hI} {c : Int32} {b s : Nat} : m_asE K c b s 110 63 = K 110 63 := by
  unfold m_asE
  repeat' split
  · exact (am_u_na (by decide)).trans ((am_u_na (by decide)).trans (am_u_na (by decide)))
  · exact (am_u_na (by decide)).trans ((am_u_na (by decide)).trans (am_u_na (by decide)))
  · exact am_u_na (by decide)
/-- one rope worn -/
theorem wrS_eq {x z : Int32} {T S b s r : Nat} {N : Nat → Nat} {p p' : hI × hJ} (hT : T = 9 ∨ T = 36) (hS : S = 63 ∨ S = 70 ∨ S = 77) (d : dR x T N p.1 p'.1) (h : sR S b x N p.1 p'.1) (hr : r < N 1) (w : wt x (Int32.ofNat s)) (hz : p'.1 110 63 = z) (z01 : z = 0 ∨ z = 1) (hw : p'.1 110 67 = 0) : dR x T N (k_wrS T S s (N 5) z r p).1 (m_asS (Int32.ofNat 1) b (N 1) s r p').1 ∧ sR S b x N (k_wrS T S s (N 5) z r p).1 (m_asS (Int32.ofNat 1) b (N 1) s r p').1 := by
  have hn := d.2.2.2.2.2.1
  obtain ⟨p1, p2, p3, p4⟩ := h.2.1 r (by omega)
  have p1 := p1.resolve_left (fun z => by have := z.1; omega)
  unfold k_wrS
  by_cases g : p.1 (S + 3) r = Int32.ofNat s
  · have w2 : wt x (p.1 (S + 3) r) := by rw [g]; exact w
    have v := p3 w2
    rw [if_pos g]
    by_cases u : p.1 (S + 1) r = Int32.ofNat 1
    · rw [if_pos u, m_asS_1 ⟨v.1.symm.trans u, p1.symm.trans g⟩, if_neg (show ¬ Int32.ofNat 1 = 0 by decide)]
      have e : k_wv T S (N 5) r z p = m_wx p'.1 p'.2 b (N 1) r := we_eq (J := p.2) d h hr w2 hz z01
      have h2 : sR S b x N p.1 (m_blI p'.1 (m_wJ0 p'.1 p'.2 b (N 1) r) 1) := sR_c (fun _ _ _ _ => rfl) (fun a i u v => m_blI_f a i (by omega)) h
      show dR x T N _ (m_wI p'.1 p'.2 b (N 1) r) ∧ sR S b x N _ (m_wI p'.1 p'.2 b (N 1) r)
      have fw : simF p'.1 (m_wI p'.1 p'.2 b (N 1) r) := simF_w
      revert fw
      unfold m_wI
      rw [if_pos hw, e]
      intro fw
      by_cases c : 0 < m_wx p'.1 p'.2 b (N 1) r
      · rw [if_pos c, if_pos c] at *
        exact ⟨dR_s hT hS (sF_u (by omega)) fw d, sR_2 h2 hr⟩
      · rw [if_neg c, if_neg c] at *
        rw [am_u_uu]
        exact ⟨dR_s hT hS (sF_tr (sF_u (by omega)) (sF_u (by omega))) fw d, sR_1 (sR_2 h2 hr) hr⟩
    · rw [if_neg u, m_asS_0 (fun z => u (v.1.trans z.1))]; exact ⟨d, h⟩
  · rw [if_neg g, m_asS_0 (fun z => g (p1.trans z.2))]; exact ⟨d, h⟩
theorem wrL_eq {x z : Int32} {T S b s : Nat} {N : Nat → Nat} {p p' : hI × hJ} (hT : T = 9 ∨ T = 36) (hS : S = 63 ∨ S = 70 ∨ S = 77) (d : dR x T N p.1 p'.1) (h : sR S b x N p.1 p'.1) (w : wt x (Int32.ofNat s)) (hz : p'.1 110 63 = z) (z01 : z = 0 ∨ z = 1) (hw : p'.1 110 67 = 0) : ∀ j, j ≤ N 1 → dR x T N (k_wrL T S s (N 5) z j p).1 (m_asL (Int32.ofNat 1) b (N 1) s j p').1 ∧ sR S b x N (k_wrL T S s (N 5) z j p).1 (m_asL (Int32.ofNat 1) b (N 1) s j p').1 := by
  intro j
  induction j with
  | zero => intro _; exact ⟨d, h⟩
  | succ j ih =>
    intro hj
    obtain ⟨i1, i2⟩ := ih (by omega)
    have f := simF_asL (c := Int32.ofNat 1) (b := b) (n := N 1) (s := s) j p'
    exact wrS_eq hT hS i1 i2 hj w ((m_asL_63 j).trans hz) z01 ((f 110 67 (by omega) (by omega)).trans hw)
theorem asL_nw {b n s : Nat} {p : hI × hJ} (hw : ¬ p.1 110 67 = 0) : ∀ j, m_asL (Int32.ofNat 1) b n s j p = p := by
  intro j
  induction j with
  | zero => rfl
  | succ j ih =>
    show m_asS (Int32.ofNat 1) b n s j (m_asL (Int32.ofNat 1) b n s j p) = p
    rw [ih]
    unfold m_asS m_wI m_wJ
    rw [if_neg (show ¬ Int32.ofNat 1 = 0 by decide), if_neg hw, if_neg hw]
    split <;> rfl
/-- one ship -/
theorem sim_p2S {x z : Int32} {T S b s : Nat} {N : Nat → Nat} {p p' : hI × hJ} (hT : T = 9 ∨ T = 36) (hS : S = 63 ∨ S = 70 ∨ S = 77) (h : sim x T S b N p p') (hz : p'.1 110 63 = z) (z01 : z = 0 ∨ z = 1) (hs : s < N 2) : sim x T S b N (k_p2S T S N z s p) (m_d3S b (N 1) s p') ∧ (m_d3S b (N 1) s p').1 110 63 = z := by
  obtain ⟨d, r, j⟩ := h
  have hn := d.2.2.2.2.2.1
  have h5 := d.2.2.2.2.2.2.1
  have c8 := d.2.2.2.1.1
  have fS : simF p'.1 (m_asI p'.1 p'.2 b (N 1) s) := simF_as
  have j1 : (m_as1 p'.1 p'.2 b (N 1) s).2 110 62 = p'.2 110 62 := jG_tr (jG_tr jG_lay jG_blJ) (jG_asL (p := m_as0 p'.1 p'.2 b (N 1) s) (N 1)) 110 62 (by decide) (by decide)
  have k0 : ∀ a i, (a ≠ 110 ∨ i ≠ 53) → (m_as0 p'.1 p'.2 b (N 1) s).1 a i = p'.1 a i := fun a i h => m_blI_f a i h
  have z3 : (m_asI p'.1 p'.2 b (N 1) s) 110 63 = z := (m_asE_63.trans ((m_asL_63 (N 1)).trans (k0 110 63 (Or.inr (by decide))))).trans hz
  have r0 : sR S b x N p.1 (m_as0 p'.1 p'.2 b (N 1) s).1 := sR_c (fun _ _ _ _ => rfl) (fun a i u v => k0 a i (by omega)) r
  unfold k_p2S m_d3S
  rw [c8]
  by_cases w : wt x (Int32.ofNat s)
  · obtain ⟨v4, v5, v6⟩ := r.2.2.1 s (by omega) w
    by_cases g : p.1 (S + 4) s = Int32.ofNat 1
    · rw [if_pos g, if_pos w, if_pos (v4.symm.trans g)]
      refine ⟨?_, z3⟩
      have eP := pull_eq (J := p.2) (L := p'.2) hT hS d r hs w hz z01
      have eB : k_bear p.1 S (Int32.ofNat s) 8 = m_bear (m_as0 p'.1 p'.2 b (N 1) s).1 b (N 1) (Int32.ofNat s) := sR_bear hn r0 w
      rw [eP, eB]
      have fP : sF S p.1 (k_puI p.1 T S s (N 1)) := sF_puI
      have rP : sR S b x N (k_puI p.1 T S s (N 1)) (m_as0 p'.1 p'.2 b (N 1) s).1 := by
        refine sR_c (fun a i u v => ?_) (fun _ _ _ _ => rfl) r0
        unfold k_puI
        split
        · exact congrFun (k_mI_ne (by omega)) i
        · rfl
      by_cases c : m_bear (m_as0 p'.1 p'.2 b (N 1) s).1 b (N 1) (Int32.ofNat s) < m_asP p'.1 p'.2 b (N 1) s
      · have cc : m_asC p'.1 p'.2 b (N 1) s = Int32.ofNat 0 := if_pos c
        rw [if_pos c]
        refine ⟨dR_s hT hS (sF_tr fP sF_lose) fS d, ?_, ?_⟩
        · show sR S b x N (k_lose (k_puI p.1 T S s (N 1)) S s (N 1)) (m_asE (m_as1 p'.1 p'.2 b (N 1) s).1 (m_asC p'.1 p'.2 b (N 1) s) b s)
          unfold m_as1
          rw [cc]
          exact lose_eq hn w rP
        · intro g4
          show (k_pu p.1 p.2 T S s (N 1) (N 6) z).2 S 1 = (m_as1 p'.1 p'.2 b (N 1) s).2 110 62
          have f4 : sF S p.1 (k_lose (k_puI p.1 T S s (N 1)) S s (N 1)) := sF_tr fP sF_lose
          rw [jF_pu S 1 (by omega) (by omega), j1]; exact j ((f4 84 4 (by omega) (by omega) (by omega)).symm.trans g4)
      · have cc : m_asC p'.1 p'.2 b (N 1) s = Int32.ofNat 1 := if_neg c
        rw [if_neg c]
        have c5 := d.2.2.2.1.2.2.2.2.1
        have f849 : k_puI p.1 T S s (N 1) 84 9 = p.1 84 9 := fP 84 9 (by omega) (by omega) (by omega)
        have f67 : (m_as0 p'.1 p'.2 b (N 1) s).1 110 67 = p'.1 110 67 := k0 110 67 (Or.inr (by decide))
        have dP : dR x T N (k_puI p.1 T S s (N 1)) (m_as0 p'.1 p'.2 b (N 1) s).1 := dR_s hT hS fP (simF_bl p'.1 _ 2) d
        refine ⟨dR_s hT hS (sF_tr (sF_tr fP sF_wr) sF_spend) fS d, ?_, ?_⟩
        · show sR S b x N (k_spend (k_shW p.1 p.2 T S s N z).1 S s) (m_asE (m_as1 p'.1 p'.2 b (N 1) s).1 (m_asC p'.1 p'.2 b (N 1) s) b s)
          rw [cc]
          refine spend_eq (by omega) w ?_
          unfold k_shW k_wr m_as1
          rw [cc, f849]
          by_cases y : p.1 84 9 = 0
          · rw [if_pos y, asL_nw (by rw [f67]; exact c5.mp y)]
            exact rP
          · rw [if_neg y]
            exact (wrL_eq (p := (k_puI p.1 T S s (N 1), (k_pu p.1 p.2 T S s (N 1) (N 6) z).2)) hT hS dP rP w ((k0 110 63 (Or.inr (by decide))).trans hz) z01 (by rw [f67]; exact Decidable.byContradiction fun q => y (c5.mpr q)) (N 1) (Nat.le_refl _)).2
        · intro g4
          show (k_shW p.1 p.2 T S s N z).2 S 1 = (m_as1 p'.1 p'.2 b (N 1) s).2 110 62
          have f4 : sF S p.1 (k_spend (k_shW p.1 p.2 T S s N z).1 S s) := sF_tr (sF_tr fP sF_wr) sF_spend
          rw [j1]
          refine Eq.trans ?_ (j ((f4 84 4 (by omega) (by omega) (by omega)).symm.trans g4))
          unfold k_shW k_wr
          split
          · exact jF_pu S 1 (by omega) (by omega)
          · exact (jF_wrL (p := (k_puI p.1 T S s (N 1), (k_pu p.1 p.2 T S s (N 1) (N 6) z).2)) (N 1) S 1 (by omega) (by omega)).trans (jF_pu S 1 (by omega) (by omega))
    · rw [if_neg g, if_neg (fun q => g (v4.trans q))]
      exact ⟨⟨d, r, j⟩, hz⟩
  · have hk : (if p.1 (S + 4) s = Int32.ofNat 1 then (if x = Int32.ofInt (-1) ∨ x = Int32.ofNat s then (if k_bear p.1 S (Int32.ofNat s) 8 < k_shC p.1 p.2 T S s N z then (k_lose (k_puI p.1 T S s (N 1)) S s (N 1), (k_pu p.1 p.2 T S s (N 1) (N 6) z).2) else (k_spend (k_shW p.1 p.2 T S s N z).1 S s, (k_shW p.1 p.2 T S s N z).2)) else p) else p) = p := by
      by_cases g : p.1 (S + 4) s = Int32.ofNat 1
      · rw [if_pos g, if_neg w]
      · rw [if_neg g]
    rw [hk]
    split
    · refine ⟨⟨dR_s hT hS (sF_rf S _) fS d, ?_, ?_⟩, z3⟩
      · exact asE_no w (asL_no hn w r0 (N 1) (Nat.le_refl _))
      · intro g4
        show _ = (m_as1 p'.1 p'.2 b (N 1) s).2 110 62
        rw [j1]; exact j g4
    · exact ⟨⟨d, r, j⟩, hz⟩
theorem sim_p2 {x z : Int32} {T S b : Nat} {N : Nat → Nat} {p p' : hI × hJ} (hT : T = 9 ∨ T = 36) (hS : S = 63 ∨ S = 70 ∨ S = 77) (h : sim x T S b N p p') (hz : p'.1 110 63 = z) (z01 : z = 0 ∨ z = 1) : ∀ s, s ≤ N 2 → sim x T S b N (k_p2 T S N z s p) (m_d3 b (N 1) s p') ∧ (m_d3 b (N 1) s p').1 110 63 = z := by
  intro s
  induction s with
  | zero => intro _; exact ⟨h, hz⟩
  | succ s ih =>
    intro hs
    obtain ⟨i1, i2⟩ := ih (by omega)
    exact sim_p2S hT hS i1 i2 z01 hs
theorem sim_day {x : Int32} {T S b : Nat} {N : Nat → Nat} {p p' : hI × hJ} (hT : T = 9 ∨ T = 36) (hS : S = 63 ∨ S = 70 ∨ S = 77) (h : sim x T S b N p p') : sim x T S b N (k_day T S N p) (m_day N b p') := by
  obtain ⟨d1, r1, j1⟩ := sim_p1 hT hS h (N 1) (Nat.le_refl _)
  obtain ⟨d2, r2⟩ := sim_sv hT hS d1 r1 (N 3) (Nat.le_refl _)
  have fv : sF S (k_p1 T S (N 4) (N 1) p).1 (k_svL T S (N 3) (k_p1 T S (N 4) (N 1) p).1) := sF_sv
  have e := st_eq (b := b) d2 (fun g4 => j1 ((fv 84 4 (by omega) (by omega) (by omega)).symm.trans g4))
  have z01 := m_st01 (m_p2 p'.1 p'.2 b N).1 (m_p2 p'.1 p'.2 b N).2
  have h3 : sim x T S b N (k_d3 T S N p) (m_p3 p'.1 p'.2 b N) := ⟨dR_s hT hS (sF_rf S _) (simF_u (by omega)) d2, sR_c (fun _ _ _ _ => rfl) (fun a i u v => am_u_na (by omega)) r2, e.2⟩
  have z3 : (m_p3 p'.1 p'.2 b N).1 110 63 = m_st (m_p2 p'.1 p'.2 b N).1 (m_p2 p'.1 p'.2 b N).2 := by unfold m_p3; dsimp only; exact am_u_at
  obtain ⟨⟨d4, r4, j4⟩, _⟩ := sim_p2 hT hS h3 z3 z01 (N 2) (Nat.le_refl _)
  have ez : k_dz T S N p = m_st (m_p2 p'.1 p'.2 b N).1 (m_p2 p'.1 p'.2 b N).2 := e.1
  have e4 : k_d4 T S N p = k_p2 T S N (m_st (m_p2 p'.1 p'.2 b N).1 (m_p2 p'.1 p'.2 b N).2) (N 2) (k_d3 T S N p) := by unfold k_d4; rw [ez]
  refine ⟨?_, ?_, ?_⟩
  · show dR x T N (am_u (k_d4 T S N p).1 S 0 _) _
    rw [e4]
    exact dR_s hT hS (sF_u (by omega)) (simF_u (by omega)) d4
  · show sR S b x N (am_u (k_d4 T S N p).1 S 0 ((k_d4 T S N p).1 S 0 + Int32.ofNat 1)) _
    rw [e4]
    exact sR_day r4
  · intro g4
    have g5 : (k_d4 T S N p).1 84 4 = 0 := (am_u_na (by omega)).symm.trans g4
    show (k_d4 T S N p).2 S 1 = _
    rw [e4] at g5 ⊢
    exact j4 g5
theorem sim_days {x : Int32} {T S b : Nat} {N : Nat → Nat} {p p' : hI × hJ} (hT : T = 9 ∨ T = 36) (hS : S = 63 ∨ S = 70 ∨ S = 77) (h : sim x T S b N p p') : ∀ n, sim x T S b N (k_days T S N n p) (m_days N b n p') := by
  intro n
  induction n with
  | zero => exact h
  | succ n ih => exact sim_day hT hS ih
