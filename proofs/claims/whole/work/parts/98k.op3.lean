/-! Calls alike (three): loses, homes. -/
/-- no ship that is looked at sails any more -/
def nsl (T S : Nat) (N : Nat → Nat) (I : hI) : Prop := ∀ y, y < N 2 → wt (I 84 8) (Int32.ofNat y) → ¬ I (S + 4) y = Int32.ofNat 1 ∧ (I (S + 4) y = 0 → I T 15 < I S 0)
theorem nsl_of {I : hI} {T S : Nat} {N : Nat → Nat} (h : k_cs I T S (N 2) 0 = 0) : nsl T S N I := by
  intro y hy w
  have c := k_cs_0 (N 2) 0 h y (Nat.zero_le _) (by omega)
  refine ⟨fun z => c ⟨Or.inr z, w⟩, fun z => ?_⟩
  exact Decidable.byContradiction fun g => c ⟨Or.inl ⟨z, g⟩, w⟩
theorem nsl_sv {T S : Nat} {N : Nat → Nat} {I : hI} (hT : T = 9 ∨ T = 36) (hS : S = 63 ∨ S = 70 ∨ S = 77) (q : tqs I T N) (l : ∀ v, v < N 3 → ¬ I T 15 < I (T + 15) v) (h : nsl T S N I) : ∀ n, n ≤ N 3 → (∀ a i, a ≠ S → k_svL T S n I a i = I a i) ∧ k_svL T S n I S 0 = I S 0 := by
  intro n
  induction n with
  | zero => intro _; exact ⟨fun _ _ _ => rfl, rfl⟩
  | succ n ih =>
    intro hn
    obtain ⟨i1, i2⟩ := ih (by omega)
    show (∀ a i, a ≠ S → k_svS T S n (k_svL T S n I) a i = I a i) ∧ k_svS T S n (k_svL T S n I) S 0 = I S 0
    revert i1 i2
    generalize k_svL T S n I = A
    intro i1 i2
    unfold k_svS
    by_cases c : k_svP A T S n
    · rw [if_pos c]
      by_cases w : A 84 8 = Int32.ofInt (-1) ∨ A 84 8 = Int32.ofNat (nn (A (T + 14) n))
      · rw [if_pos w]
        have o := (q.2.2.2.2.1 n (by omega)).1
        rw [i1 (T + 14) n (by omega)] at w ⊢
        rw [i1 84 8 (by omega)] at w
        have g := h _ o.2 w
        have ce : A (T + 15) n = A S 0 := c.1
        rw [i1 (T + 15) n (by omega), i2] at ce
        rw [if_neg (show ¬ A (S + 4) (nn (I (T + 14) n)) = 0 from fun z => by rw [i1 (S + 4) _ (by omega)] at z; exact l n (by omega) (by rw [ce]; exact g.2 z))]
        exact ⟨fun a i ha => (am_u_na ha).trans (i1 a i ha), (am_u_nk (by decide)).trans i2⟩
      · rw [if_neg w]; exact ⟨i1, i2⟩
    · rw [if_neg c]; exact ⟨i1, i2⟩
theorem nsl_p2 {T S : Nat} {N : Nat → Nat} {z : Int32} {p : hI × hJ} (h : nsl T S N p.1) : ∀ s, s ≤ N 2 → k_p2 T S N z s p = p := by
  intro s
  induction s with
  | zero => intro _; rfl
  | succ s ih =>
    intro hs
    show k_p2S T S N z s (k_p2 T S N z s p) = p
    rw [ih (by omega)]
    unfold k_p2S
    by_cases w : p.1 84 8 = Int32.ofInt (-1) ∨ p.1 84 8 = Int32.ofNat s
    · rw [if_neg (h s (by omega) w).1]
    · rw [if_neg w]; split <;> rfl
theorem nsl_day {T S dd : Nat} {N : Nat → Nat} {p : hI × hJ} (hT : T = 9 ∨ T = 36) (hS : S = 63 ∨ S = 70 ∨ S = 77) (hn : N 1 ≤ 8) (q : tqs p.1 T N) (l : ∀ v, v < N 3 → ¬ p.1 T 15 < p.1 (T + 15) v) (hd : dd < 1000000) (e0 : p.1 S 0 = Int32.ofNat dd) (h : nsl T S N p.1) : nsl T S N (k_day T S N p).1 ∧ (∀ i, (k_day T S N p).1 (S + 4) i = p.1 (S + 4) i ∧ (k_day T S N p).1 (S + 6) i = p.1 (S + 6) i) := by
  have e1 : ∀ r, ∀ a i, a ≠ S + 1 → a ≠ S + 2 → (k_p1 T S (N 4) r p).1 a i = p.1 a i := by
    intro r
    induction r with
    | zero => intro a i _ _; rfl
    | succ r ih =>
      intro a i h1 h2
      refine Eq.trans ?_ (ih a i h1 h2)
      show (k_p1S T S (N 4) r (k_p1 T S (N 4) r p)).1 a i = _
      unfold k_p1S
      split
      · exact (am_u_na h1).trans (am_u_na h2)
      · rfl
  have n1 : nsl T S N (k_p1 T S (N 4) (N 1) p).1 := fun y hy w => by
    rw [e1 _ 84 8 (by omega) (by omega)] at w
    rw [e1 _ (S + 4) y (by omega) (by omega), e1 _ T 15 (by omega) (by omega), e1 _ S 0 (by omega) (by omega)]; exact h y hy w
  have sv := nsl_sv hT hS (tqs_c (fun a i u v => e1 (N 1) a i (by omega) (by omega)) q) (fun v hv => by rw [e1 _ T 15 (by omega) (by omega), e1 _ (T + 15) v (by omega) (by omega)]; exact l v hv) n1 (N 3) (Nat.le_refl _)
  have f2 : ∀ a i, a ≠ S → a ≠ S + 1 → a ≠ S + 2 → (k_d3 T S N p).1 a i = p.1 a i := fun a i h0 h1 h2 => (sv.1 a i h0).trans (e1 _ a i h1 h2)
  have f0 : (k_d3 T S N p).1 S 0 = p.1 S 0 := sv.2.trans (e1 _ S 0 (by omega) (by omega))
  have n3 : nsl T S N (k_d3 T S N p).1 := fun y hy w => by
    rw [f2 84 8 (by omega) (by omega) (by omega)] at w
    rw [f2 (S + 4) y (by omega) (by omega) (by omega), f2 T 15 (by omega) (by omega) (by omega), f0]; exact h y hy w
  have e4 : k_d4 T S N p = k_d3 T S N p := nsl_p2 n3 (N 2) (Nat.le_refl _)
  have f3 : ∀ a i, a ≠ S → a ≠ S + 1 → a ≠ S + 2 → (k_day T S N p).1 a i = p.1 a i := fun a i h0 h1 h2 => by
    unfold k_day; dsimp only; rw [am_u_na h0, e4]; exact f2 a i h0 h1 h2
  have e5 := k_day_0 (T := T) (N := N) (p := p) hS
  refine ⟨fun y hy w => ?_, fun i => ⟨f3 _ _ (by omega) (by omega) (by omega), f3 _ _ (by omega) (by omega) (by omega)⟩⟩
  rw [f3 84 8 (by omega) (by omega) (by omega)] at w
  obtain ⟨g1, g2⟩ := h y hy w
  rw [f3 (S + 4) y (by omega) (by omega) (by omega), f3 T 15 (by omega) (by omega) (by omega), e5, e0]
  refine ⟨g1, fun z => ?_⟩
  have g3 := g2 z
  rw [e0] at g3
  refine Int32.lt_trans g3 ?_
  rw [← Int32.ofNat_add]
  exact (am_ltN (by omega) (by omega)).mpr (by omega)
/-- what a row of days in a trial rests on -/
def trk (T dd : Nat) (N : Nat → Nat) (p : hI × hJ) : Prop := (∀ v, v < N 3 → ¬ p.1 T 15 < p.1 (T + 15) v) ∧ p.1 77 0 = Int32.ofNat dd
theorem trk_day {T dd : Nat} {N : Nat → Nat} {p : hI × hJ} (hT : T = 9 ∨ T = 36) (h : trk T dd N p) : trk T (dd + 1) N (k_day T 77 N p) := by
  refine ⟨fun v hv => ?_, ?_⟩
  · rw [sF_day T 15 (by omega) (by omega) (by omega), sF_day (T + 15) v (by omega) (by omega) (by omega)]; exact h.1 v hv
  · rw [k_day_0 (Or.inr (Or.inr rfl)), h.2, ← Int32.ofNat_add]
theorem los_no {x : Int32} {T s : Nat} {N : Nat → Nat} (hT : T = 9 ∨ T = 36) (hs : s < N 2) (w : wt x (Int32.ofNat s)) : ∀ (j i dd : Nat) (p p' : hI × hJ), dd + j < 100000 → sim x T 77 1 N p p' → trk T dd N p → nsl T 77 N p.1 → ¬ p.1 81 s = Int32.ofNat 2 → (m_los N s j i p').1 = Int32.ofInt (-2) := by
  intro j
  induction j with
  | zero => intro i dd p p' _ _ _ _ _; rfl
  | succ j ih =>
    intro i dd p p' hd h k n g
    have h5 := h.1.2.2.2.2.2.2.1
    have e := (h.2.1.2.2.1 s (by omega) w).1
    rw [show 5 * 1 + s = 5 + s by omega] at e
    rw [m_los_s, if_neg (fun z => g (e.trans z))]
    obtain ⟨n1, n2⟩ := nsl_day hT (Or.inr (Or.inr rfl)) h.1.2.2.2.2.2.1 h.1.2.1 k.1 (by omega) k.2 n
    exact ih (i + 1) (dd + 1) (k_day T 77 N p) (m_day N 1 p') (by omega) (sim_day hT (Or.inr (Or.inr rfl)) h) (trk_day hT k) n1 (by rw [(n2 s).1]; exact g)
theorem los_eq {x : Int32} {T s : Nat} {N : Nat → Nat} (hT : T = 9 ∨ T = 36) (hs : s < N 2) (w : wt x (Int32.ofNat s)) : ∀ (j i dd : Nat) (p p' : hI × hJ), dd + j < 90000 → sim x T 77 1 N p p' → trk T dd N p → ¬ p.1 81 s = Int32.ofNat 2 → (k_los T N s j (i + 1) p).1 = (m_los N s j (i + 1) (m_day N 1 p')).1 := by
  intro j
  induction j with
  | zero => intro i dd p p' _ _ _ _; rfl
  | succ j ih =>
    intro i dd p p' hd h k g
    have h5 := h.1.2.2.2.2.2.2.1
    have h1 := sim_day hT (Or.inr (Or.inr rfl)) h
    have k1 := trk_day hT k
    rw [k_los_s]
    by_cases c : k_cs p.1 T 77 (N 2) 0 = 0
    · rw [if_pos c]
      obtain ⟨n1, n2⟩ := nsl_day hT (Or.inr (Or.inr rfl)) h.1.2.2.2.2.2.1 h.1.2.1 k.1 (by omega) k.2 (nsl_of c)
      exact (los_no hT hs w (j + 1) (i + 1) (dd + 1) (k_day T 77 N p) (m_day N 1 p') (by omega) h1 k1 n1 (by rw [(n2 s).1]; exact g)).symm
    · rw [if_neg c, m_los_s]
      have e := (h1.2.1.2.2.1 s (by omega) w).1
      rw [show 5 * 1 + s = 5 + s by omega] at e
      rw [← e]
      by_cases f : (k_day T 77 N p).1 81 s = Int32.ofNat 2
      · rw [if_pos f, if_pos f]
      · rw [if_neg f, if_neg f]
        exact ih (i + 1) (dd + 1) (k_day T 77 N p) (m_day N 1 p') (by omega) h1 k1 f
theorem los_f {T s : Nat} {N : Nat → Nat} : ∀ (j i : Nat) (p : hI × hJ), sF 77 p.1 (k_los T N s j i p).2.1 ∧ (∀ a i', a ≠ 85 → a ≠ 86 → a ≠ 77 → (k_los T N s j i p).2.2 a i' = p.2 a i') := by
  intro j
  induction j with
  | zero => intro i p; exact ⟨sF_rf _ _, fun _ _ _ _ _ => rfl⟩
  | succ j ih =>
    intro i p
    rw [k_los_s]
    split
    · exact ⟨sF_rf _ _, fun _ _ _ _ _ => rfl⟩
    · split
      · exact ⟨sF_day, fun a i' h1 h2 h3 => jD_day (Or.inr (Or.inr rfl)) a i' h1 h2 (by omega)⟩
      · obtain ⟨g1, g2⟩ := ih (i + 1) (k_day T 77 N p)
        exact ⟨sF_tr sF_day g1, fun a i' h1 h2 h3 => (g2 a i' h1 h2 h3).trans (jD_day (Or.inr (Or.inr rfl)) a i' h1 h2 (by omega))⟩
theorem mlos_f {s : Nat} {N : Nat → Nat} : ∀ (j i : Nat) (p : hI × hJ), tM p.1 (m_los N s j i p).2.1 ∧ (p.1 110 64 = 0 → ∀ a i', a ≠ 136 → a ≠ 137 → (m_los N s j i p).2.2 a i' = p.2 a i') := by
  intro j
  induction j with
  | zero => intro i p; exact ⟨tM_rf _, fun _ _ _ _ _ => rfl⟩
  | succ j ih =>
    intro i p
    rw [m_los_s]
    split
    · exact ⟨tM_rf _, fun _ _ _ _ _ => rfl⟩
    · obtain ⟨g1, g2⟩ := ih (i + 1) (m_day N 1 p)
      exact ⟨tM_tr tM_day g1, fun z a i' h1 h2 => (g2 ((simF_day N 1 p 110 64 (by omega) (by omega)).trans z) a i' h1 h2).trans (jM_day a i' h1 h2 (Or.inr z))⟩
theorem trk_0 {T O u q : Nat} {N : Nat → Nat} {x b : Int32} {I K : hI} {J J0 L : hJ} (h : REL T O N u q I J K L) : ∃ dd, dd ≤ 9000 ∧ trk T dd N (k_stt I T x b, J0) := by
  obtain ⟨hT, _⟩ := rA_hT h.1
  obtain ⟨t, _, _⟩ := rA_ctk h.1
  have tl := h.1.2.2.2.2.2.2.2.2.2
  have o := h.2.1.2.2.1.2
  refine ⟨nn (I 63 0), by have := o.2; omega, fun v hv => ?_, ?_⟩
  · show ¬ k_stt I T x b T 15 < k_stt I T x b (T + 15) v
    rw [tC_stt T 15 (by omega), tC_stt (T + 15) v (by omega)]
    refine tl v ?_
    rw [t.2.1.2.2, nn_ofNat (by have := t.1.2.2; omega)]; exact hv
  · show k_stt I T x b 77 0 = _
    rw [show k_stt I T x b 77 0 = k_copy I 77 63 77 0 from (am_u_na (by decide)).trans (congrFun (k_db_n 77 (by decide)) 0), (k_copy_f I).1 0 (Or.inl rfl)]
    exact o.1
theorem op_loses (y : Int32) : OPok 125 247 [.int y] := by
  rintro I J R ⟨T, O, N, u, q, h, r0, r2⟩
  obtain ⟨hT, _⟩ := rA_hT h.1
  obtain ⟨t, m0, l0⟩ := rA_ctk h.1
  have tk := h.1.2.2.2.2.1
  have n5 := t.1.2.1
  by_cases c : ¬ y < 0 ∧ y < I (T + 11) 1
  · obtain ⟨s, hs, rfl⟩ := am_oneN t.2.1.2.1 (by omega) c
    by_cases g : I 67 s = Int32.ofNat 2
    · have b := h.2.1
      have e0 : (m_los N s 200 0 (m_lt (m_z I), J)) = (Int32.ofNat 0, m_lt (m_z I), J) := by
        rw [m_los_s]
        refine if_pos ?_
        show m_lt (m_z I) 141 (5 + s) = _
        rw [((m_lt_f (m_z I)).2.1 s (by omega)).1, m_z_n (by omega), ← (rB_s b (by omega)).1]; exact g
      have m := c_loses (k := 20) (J := J) (R := R) tk hs (by omega)
      rw [e0] at m
      exact op_same h r0 r2 (d_loses_0 hT r0 t hs g (by omega)) m rfl (kM_tM (tM_tr tM_z tM_lt)) (tM_tr tM_z tM_lt)
    · have p0 : (k_stt I T (Int32.ofNat s) (Int32.ofNat 1), am_u J 77 1 (J 63 1)) = (k_stt I T (Int32.ofNat s) (Int32.ofNat 1), am_u J 77 1 (J 63 1)) := rfl
      have lf := los_f (T := T) (s := s) (N := N) 199 1 (k_stt I T (Int32.ofNat s) (Int32.ofNat 1), am_u J 77 1 (J 63 1))
      have cls := d_loses (k := 20) (J := J) hT r0 t hs g (by omega)
      have tc : tC I (k_los T N s 199 1 (k_stt I T (Int32.ofNat s) (Int32.ofNat 1), am_u J 77 1 (J 63 1))).2.1 := tC_tr tC_stt (tC_s lf.1)
      have jj : ∀ a i, a ≠ 85 → a ≠ 86 → a ≠ 77 → (k_los T N s 199 1 (k_stt I T (Int32.ofNat s) (Int32.ofNat 1), am_u J 77 1 (J 63 1))).2.2 a i = J a i := fun a i h1 h2 h3 => (lf.2 a i h1 h2 h3).trans (am_u_na h3)
      obtain ⟨dd, hdd, tr0⟩ := trk_0 (x := Int32.ofNat s) (b := Int32.ofNat 1) (J0 := am_u J 77 1 (J 63 1)) h
      have le := fun (p' : hI × hJ) (sm : sim (Int32.ofNat s) T 77 1 N (k_stt I T (Int32.ofNat s) (Int32.ofNat 1), am_u J 77 1 (J 63 1)) p') (g2 : ¬ k_stt I T (Int32.ofNat s) (Int32.ofNat 1) 81 s = Int32.ofNat 2) => los_eq hT hs (Or.inr rfl) 199 0 dd _ p' (by omega) sm tr0 g2
      revert lf cls tc jj le
      generalize k_los T N s 199 1 (k_stt I T (Int32.ofNat s) (Int32.ofNat 1), am_u J 77 1 (J 63 1)) = Y
      intro lf cls tc jj le
      have hk := REL_k h tc (jj _ _ (by decide) (by decide) (by decide)) (jj _ _ (by decide) (by decide) (by decide))
      have tk1 := hk.1.2.2.2.2.1
      have sm := sim_trial (x := Int32.ofNat s) (y := 0) (Or.inr rfl) hk.1 hk.2.1.1 (K1 := m_lt (m_z Y.2.1)) (fun _ _ _ => rfl) (by rw [m_lt_110, if_neg (by decide)]) (J := am_u J 77 1 (J 63 1)) (L := Y.2.2) (by rw [am_u_at]; exact hk.2.1.2.1)
      have mf := mlos_f (s := s) (N := N) 200 0 (m_lt (m_z Y.2.1), Y.2.2)
      have tm : tM Y.2.1 (m_los N s 200 0 (m_lt (m_z Y.2.1), Y.2.2)).2.1 := tM_tr tM_z (tM_tr tM_lt mf.1)
      have jm : ∀ a i, a ≠ 136 → a ≠ 137 → (m_los N s 200 0 (m_lt (m_z Y.2.1), Y.2.2)).2.2 a i = Y.2.2 a i := mf.2 (m_lt_110 (K := m_z Y.2.1))
      have g2 : ¬ k_stt I T (Int32.ofNat s) (Int32.ofNat 1) 81 s = Int32.ofNat 2 := by
        rw [show k_stt I T (Int32.ofNat s) (Int32.ofNat 1) 81 s = k_copy I 77 63 81 s from (am_u_na (by decide)).trans (congrFun (k_db_n 81 (by decide)) s), ((k_copy_f I).2.2 s (by omega)).1]; exact g
      refine op_mk cls (c_loses tk1 hs (by omega)) ?_ (kM_tM tm) ⟨jm _ _ (by decide) (by decide), jm _ _ (by decide) (by decide)⟩ (REL_t hk tc tm (jj _ _ (by decide) (by decide) (by decide)) (jj _ _ (by decide) (by decide) (by decide)) (jm _ _ (by decide) (by decide)) (jm _ _ (by decide) (by decide))) ((am_u_na (by decide)).trans r0) ((am_u_na (by decide)).trans r2)
      have e := (sm.2.1.2.2.1 s (by omega) (Or.inr rfl)).1
      rw [le _ sm g2]
      have e2 : m_los N s 200 0 (m_lt (m_z Y.2.1), Y.2.2) = m_los N s 199 (0 + 1) (m_day N 1 (m_lt (m_z Y.2.1), Y.2.2)) := by
        rw [m_los_s]
        refine if_neg (fun z => g2 ?_)
        rw [show 5 * 1 + s = 5 + s by omega] at e
        exact e.trans z
      rw [e2]
  · exact op_same h r0 r2 (d_loses_no hT r0 c (by omega)) (c_loses_no (by rw [tk.2.1.2.2.1, ← t.2.1.2.1]; exact c) (by omega)) rfl kM_z tM_z
theorem m_hom_f {s : Nat} {N : Nat → Nat} : ∀ (j i : Nat) (p : hI × hJ), tM p.1 (m_hom N s j i p).2.1 ∧ (p.1 110 64 = 0 → ∀ a i', a ≠ 136 → a ≠ 137 → (m_hom N s j i p).2.2 a i' = p.2 a i') := by
  intro j
  induction j with
  | zero => intro i p; exact ⟨tM_rf _, fun _ _ _ _ _ => rfl⟩
  | succ j ih =>
    intro i p
    rw [m_hom_s]
    split
    · exact ⟨tM_rf _, fun _ _ _ _ _ => rfl⟩
    · obtain ⟨g1, g2⟩ := ih (i + 1) (m_day N 1 p)
      exact ⟨tM_tr tM_day g1, fun z a i' h1 h2 => (g2 ((simF_day N 1 p 110 64 (by omega) (by omega)).trans z) a i' h1 h2).trans (jM_day a i' h1 h2 (Or.inr z))⟩
theorem k_hom_f {T s : Nat} {N : Nat → Nat} : ∀ (j i : Nat) (p : hI × hJ), sF 77 p.1 (k_hom T N s j i p).2.1 ∧ (∀ a i', a ≠ 85 → a ≠ 86 → a ≠ 77 → (k_hom T N s j i p).2.2 a i' = p.2 a i') := by
  intro j
  induction j with
  | zero => intro i p; exact ⟨sF_rf _ _, fun _ _ _ _ _ => rfl⟩
  | succ j ih =>
    intro i p
    rw [k_hom_s]
    split
    · exact ⟨sF_rf _ _, fun _ _ _ _ _ => rfl⟩
    · split
      · exact ⟨sF_day, fun a i' h1 h2 h3 => jD_day (Or.inr (Or.inr rfl)) a i' h1 h2 (by omega)⟩
      · obtain ⟨g1, g2⟩ := ih (i + 1) (k_day T 77 N p)
        exact ⟨sF_tr sF_day g1, fun a i' h1 h2 h3 => (g2 a i' h1 h2 h3).trans (jD_day (Or.inr (Or.inr rfl)) a i' h1 h2 (by omega))⟩
theorem hom_no {x : Int32} {T s : Nat} {N : Nat → Nat} (hT : T = 9 ∨ T = 36) (hs : s < N 2) (w : wt x (Int32.ofNat s)) : ∀ (j i dd : Nat) (p p' : hI × hJ), dd + j < 100000 → sim x T 77 1 N p p' → trk T dd N p → nsl T 77 N p.1 → p.1 69 s = p'.1 143 s → ¬ p.1 69 s < p.1 83 s → (m_hom N s j i p').1 = Int32.ofInt (-2) := by
  intro j
  induction j with
  | zero => intro i dd p p' _ _ _ _ _ _; rfl
  | succ j ih =>
    intro i dd p p' hd h k n ee g
    have h5 := h.1.2.2.2.2.2.2.1
    have e := (h.2.1.2.2.1 s (by omega) w).2.2
    rw [show 5 * 1 + s = 5 + s by omega] at e
    rw [m_hom_s, if_neg (fun z => g (by rw [ee]; exact (e ▸ z : p'.1 143 s < p.1 83 s)))]
    obtain ⟨n1, n2⟩ := nsl_day hT (Or.inr (Or.inr rfl)) h.1.2.2.2.2.2.1 h.1.2.1 k.1 (by omega) k.2 n
    have f9 : (k_day T 77 N p).1 69 s = p.1 69 s := sF_day 69 s (by omega) (by omega) (by omega)
    have f3 : (m_day N 1 p').1 143 s = p'.1 143 s := tM_day.1 143 s (by omega)
    exact ih (i + 1) (dd + 1) (k_day T 77 N p) (m_day N 1 p') (by omega) (sim_day hT (Or.inr (Or.inr rfl)) h) (trk_day hT k) n1 (by rw [f9, f3]; exact ee) (by rw [f9, (n2 s).2]; exact g)
theorem hom_eq {x : Int32} {T s : Nat} {N : Nat → Nat} (hT : T = 9 ∨ T = 36) (hs : s < N 2) (w : wt x (Int32.ofNat s)) : ∀ (j i dd : Nat) (p p' : hI × hJ), dd + j < 90000 → sim x T 77 1 N p p' → trk T dd N p → p.1 69 s = p'.1 143 s → ¬ p.1 69 s < p.1 83 s → (k_hom T N s j (i + 1) p).1 = (m_hom N s j (i + 1) (m_day N 1 p')).1 := by
  intro j
  induction j with
  | zero => intro i dd p p' _ _ _ _ _; rfl
  | succ j ih =>
    intro i dd p p' hd h k ee g
    have h5 := h.1.2.2.2.2.2.2.1
    have h1 := sim_day hT (Or.inr (Or.inr rfl)) h
    have k1 := trk_day hT k
    have f9 : (k_day T 77 N p).1 69 s = p.1 69 s := sF_day 69 s (by omega) (by omega) (by omega)
    have f3 : (m_day N 1 p').1 143 s = p'.1 143 s := tM_day.1 143 s (by omega)
    have ee1 : (k_day T 77 N p).1 69 s = (m_day N 1 p').1 143 s := by rw [f9, f3]; exact ee
    rw [k_hom_s]
    by_cases c : k_cs p.1 T 77 (N 2) 0 = 0
    · rw [if_pos c]
      obtain ⟨n1, n2⟩ := nsl_day hT (Or.inr (Or.inr rfl)) h.1.2.2.2.2.2.1 h.1.2.1 k.1 (by omega) k.2 (nsl_of c)
      exact (hom_no hT hs w (j + 1) (i + 1) (dd + 1) (k_day T 77 N p) (m_day N 1 p') (by omega) h1 k1 n1 ee1 (by rw [f9, (n2 s).2]; exact g)).symm
    · rw [if_neg c, m_hom_s]
      have e := (h1.2.1.2.2.1 s (by omega) w).2.2
      rw [show 5 * 1 + s = 5 + s by omega] at e
      have e' : (k_day T 77 N p).1 83 s = (m_day N 1 p').1 143 (5 + s) := e
      rw [← e', ← ee1]
      by_cases f : (k_day T 77 N p).1 69 s < (k_day T 77 N p).1 83 s
      · rw [if_pos f, if_pos f]
      · rw [if_neg f, if_neg f]
        exact ih (i + 1) (dd + 1) (k_day T 77 N p) (m_day N 1 p') (by omega) h1 k1 ee1 f
theorem op_homes (y : Int32) : OPok 126 248 [.int y] := by
  rintro I J R ⟨T, O, N, u, q, h, r0, r2⟩
  obtain ⟨hT, _⟩ := rA_hT h.1
  obtain ⟨t, m0, l0⟩ := rA_ctk h.1
  have tk := h.1.2.2.2.2.1
  have n5 := t.1.2.1
  by_cases c : ¬ y < 0 ∧ y < I (T + 11) 1
  · obtain ⟨s, hs, rfl⟩ := am_oneN t.2.1.2.1 (by omega) c
    have lf := k_hom_f (T := T) (s := s) (N := N) 199 1 (k_stt I T (Int32.ofNat s) (Int32.ofNat 1), am_u J 77 1 (J 63 1))
    have cls := d_homes (k := 20) (J := J) hT r0 t hs (by omega)
    have tc : tC I (k_hom T N s 199 1 (k_stt I T (Int32.ofNat s) (Int32.ofNat 1), am_u J 77 1 (J 63 1))).2.1 := tC_tr tC_stt (tC_s lf.1)
    have jj : ∀ a i, a ≠ 85 → a ≠ 86 → a ≠ 77 → (k_hom T N s 199 1 (k_stt I T (Int32.ofNat s) (Int32.ofNat 1), am_u J 77 1 (J 63 1))).2.2 a i = J a i := fun a i h1 h2 h3 => (lf.2 a i h1 h2 h3).trans (am_u_na h3)
    obtain ⟨dd, hdd, tr0⟩ := trk_0 (x := Int32.ofNat s) (b := Int32.ofNat 1) (J0 := am_u J 77 1 (J 63 1)) h
    have le := fun (p' : hI × hJ) (sm : sim (Int32.ofNat s) T 77 1 N (k_stt I T (Int32.ofNat s) (Int32.ofNat 1), am_u J 77 1 (J 63 1)) p') (g1 : k_stt I T (Int32.ofNat s) (Int32.ofNat 1) 69 s = p'.1 143 s) (g2 : ¬ k_stt I T (Int32.ofNat s) (Int32.ofNat 1) 69 s < k_stt I T (Int32.ofNat s) (Int32.ofNat 1) 83 s) => hom_eq hT hs (Or.inr rfl) 199 0 dd _ p' (by omega) sm tr0 g1 g2
    revert lf cls tc jj le
    generalize k_hom T N s 199 1 (k_stt I T (Int32.ofNat s) (Int32.ofNat 1), am_u J 77 1 (J 63 1)) = Y
    intro lf cls tc jj le
    have hk := REL_k h tc (jj _ _ (by decide) (by decide) (by decide)) (jj _ _ (by decide) (by decide) (by decide))
    have tk1 := hk.1.2.2.2.2.1
    have sm := sim_trial (x := Int32.ofNat s) (y := 0) (Or.inr rfl) hk.1 hk.2.1.1 (K1 := m_lt (m_z Y.2.1)) (fun _ _ _ => rfl) (by rw [m_lt_110, if_neg (by decide)]) (J := am_u J 77 1 (J 63 1)) (L := Y.2.2) (by rw [am_u_at]; exact hk.2.1.2.1)
    have mf := m_hom_f (s := s) (N := N) 200 0 (m_lt (m_z Y.2.1), Y.2.2)
    have tm : tM Y.2.1 (m_hom N s 200 0 (m_lt (m_z Y.2.1), Y.2.2)).2.1 := tM_tr tM_z (tM_tr tM_lt mf.1)
    have jm : ∀ a i, a ≠ 136 → a ≠ 137 → (m_hom N s 200 0 (m_lt (m_z Y.2.1), Y.2.2)).2.2 a i = Y.2.2 a i := mf.2 (m_lt_110 (K := m_z Y.2.1))
    have e83 : k_stt I T (Int32.ofNat s) (Int32.ofNat 1) 83 s = I 69 s := by
      rw [show k_stt I T (Int32.ofNat s) (Int32.ofNat 1) 83 s = k_copy I 77 63 83 s from (am_u_na (by decide)).trans (congrFun (k_db_n 83 (by decide)) s), ((k_copy_f I).2.2 s (by omega)).2.2]
    have e69 : k_stt I T (Int32.ofNat s) (Int32.ofNat 1) 69 s = I 69 s := tC_stt 69 s (by omega)
    have e143 : m_lt (m_z Y.2.1) 143 s = Y.2.1 143 s := (tM_tr tM_z tM_lt).1 143 s (by omega)
    have b := (rB_s hk.2.1 (show s < 5 by omega)).2.2
    have g1 : k_stt I T (Int32.ofNat s) (Int32.ofNat 1) 69 s = m_lt (m_z Y.2.1) 143 s := by rw [e69, e143]; exact b
    have g2 : ¬ k_stt I T (Int32.ofNat s) (Int32.ofNat 1) 69 s < k_stt I T (Int32.ofNat s) (Int32.ofNat 1) 83 s := by rw [e69, e83]; exact Int32.lt_irrefl
    refine op_mk cls (c_homes tk1 hs (by omega)) ?_ (kM_tM tm) ⟨jm _ _ (by decide) (by decide), jm _ _ (by decide) (by decide)⟩ (REL_t hk tc tm (jj _ _ (by decide) (by decide) (by decide)) (jj _ _ (by decide) (by decide) (by decide)) (jm _ _ (by decide) (by decide)) (jm _ _ (by decide) (by decide))) ((am_u_na (by decide)).trans r0) ((am_u_na (by decide)).trans r2)
    have e := (sm.2.1.2.2.1 s (by omega) (Or.inr rfl)).2.2
    rw [le _ sm g1 g2]
    have e2 : m_hom N s 200 0 (m_lt (m_z Y.2.1), Y.2.2) = m_hom N s 199 (0 + 1) (m_day N 1 (m_lt (m_z Y.2.1), Y.2.2)) := by
      rw [m_hom_s]
      refine if_neg (fun z => g2 ?_)
      rw [show 5 * 1 + s = 5 + s by omega] at e
      have e' : k_stt I T (Int32.ofNat s) (Int32.ofNat 1) 83 s = m_lt (m_z Y.2.1) 143 (5 + s) := e
      rw [g1, e']; exact z
    rw [e2]
  · exact op_same h r0 r2 (d_homes_no hT r0 c (by omega)) (c_homes_no (by rw [tk.2.1.2.2.1, ← t.2.1.2.1]; exact c) (by omega)) rfl kM_z tM_z
