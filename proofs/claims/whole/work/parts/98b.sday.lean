/-! Class and reference: a day, first half. -/
/-- longs that stay: in the class, in the reference -/
def jF (J J1 : hJ) : Prop := ∀ a i, a ≠ 85 → a ≠ 86 → J1 a i = J a i
def jG (L L1 : hJ) : Prop := ∀ a i, a ≠ 136 → a ≠ 137 → L1 a i = L a i
theorem jF_rf (J : hJ) : jF J J := fun _ _ _ _ => rfl
theorem jF_tr {J J1 J2 : hJ} (h : jF J J1) (g : jF J1 J2) : jF J J2 := fun a i x y => (g a i x y).trans (h a i x y)
theorem jF_u {J : hJ} {a k : Nat} {x : Int64} (h : a = 85 ∨ a = 86) : jF J (am_u J a k x) := fun b i h1 h2 => am_u_na (by omega)
theorem jG_rf (J : hJ) : jG J J := fun _ _ _ _ => rfl
theorem jG_tr {J J1 J2 : hJ} (h : jG J J1) (g : jG J1 J2) : jG J J2 := fun a i x y => (g a i x y).trans (h a i x y)
theorem jG_u {J : hJ} {a k : Nat} {x : Int64} (h : a = 136 ∨ a = 137) : jG J (am_u J a k x) := fun b i h1 h2 => am_u_na (by omega)
theorem jF_val {I : hI} {A : Nat} : ∀ (j i h : Nat) (J : hJ), jF J (k_val I A j i h J).2 := by
  intro j
  induction j with
  | zero => intro i h J; exact jF_rf J
  | succ j ih =>
    intro i h J
    rw [k_val_s]
    repeat' split
    · exact jF_rf J
    · exact jF_rf J
    · exact jF_rf J
    · exact jF_tr (jF_u (Or.inr rfl)) (ih _ _ _)
    · exact jF_rf J
theorem jF_lay {J : hJ} {a b c d e f g : Int64} : jF J (k_lay J a b c d e f g) := by
  have h : ∀ {J : hJ} {i : Nat} {x : Int64}, jF J (am_u J 85 i x) := fun {J i x} => jF_u (Or.inl rfl)
  exact jF_tr (jF_tr (jF_tr (jF_tr (jF_tr (jF_tr h h) h) h) h) h) h
theorem jG_lay {J : hJ} {a b c d e f g : Int64} : jG J (m_lay J a b c d e f g) := by
  have h : ∀ {J : hJ} {i : Nat} {x : Int64}, jG J (am_u J 136 i x) := fun {J i x} => jG_u (Or.inl rfl)
  exact jG_tr (jG_tr (jG_tr (jG_tr (jG_tr (jG_tr h h) h) h) h) h) h
theorem jG_lw {I : hI} {J : hJ} {f r : Nat} : jG J (m_lw I J f r).2 := by
  induction r with
  | zero => exact jG_rf J
  | succ r ih => exact jG_tr ih (jG_u (Or.inr rfl))
theorem jG_blJ {I : hI} {J : hJ} {w : Nat} : jG J (m_blJ I J w) := by
  unfold m_blJ; split
  · exact jG_rf J
  · exact jG_lw
theorem jF_tw {I : hI} {J : hJ} {T S r n : Nat} : jF J (k_tw I J T S r n).2 := by
  refine jF_tr ?_ (jF_val _ _ _ _)
  unfold k_twJ; split
  · exact jF_tr jF_lay (jF_u (Or.inl rfl))
  · exact jF_rf J
theorem jF_we {I : hI} {J : hJ} {T S r n : Nat} {z : Int32} : jF J (k_we I J T S r n z).2 := by
  refine jF_tr ?_ (jF_val _ _ _ _)
  unfold k_weJ; split
  · exact jF_lay
  · exact jF_rf J
theorem jF_pu {I : hI} {J : hJ} {T S x n m : Nat} {z : Int32} : jF J (k_pu I J T S x n m z).2 := by
  unfold k_pu; split
  · exact jF_tr jF_lay (jF_val _ _ _ _)
  · exact jF_val _ _ _ _
/-- class and reference alike at one point of a day -/
def sim (x : Int32) (T S b : Nat) (N : Nat → Nat) (p p' : hI × hJ) : Prop := dR x T N p.1 p'.1 ∧ sR S b x N p.1 p'.1 ∧ (p.1 84 4 = 0 → p.2 S 1 = p'.2 110 62)
theorem dR_s {x : Int32} {T S : Nat} {N : Nat → Nat} {I I1 K K1 : hI} (hT : T = 9 ∨ T = 36) (hS : S = 63 ∨ S = 70 ∨ S = 77) (h1 : sF S I I1) (h2 : simF K K1) (d : dR x T N I K) : dR x T N I1 K1 := dR_c hT (fun a i h => h1 a i (by omega) (by omega) (by omega)) (fun a i h => h2 a i (by omega) (by omega)) d
theorem m_tI_f {K : hI} : simF K (m_tI K) := simF_u (by omega)
theorem tw_eq {x : Int32} {T S b r : Nat} {N : Nat → Nat} {I K : hI} {J L : hJ} (hT : T = 9 ∨ T = 36) (hS : S = 63 ∨ S = 70 ∨ S = 77) (d : dR x T N I K) (s : sR S b x N I K) (hr : r < N 1) (w : wt x (I (S + 3) r)) : k_cut (k_tw I J T S r (N 4)).1 (Int32.ofNat 999) (k_mkP I T r) = m_tw K L b (N 1) r := by
  have d1 : dR x T N I (m_tI K) := dR_s hT hS (sF_rf S I) m_tI_f d
  have s1 : sR S b x N I (m_tI K) := sR_c (fun _ _ _ _ => rfl) (fun a i u v => am_u_na (by omega)) s
  obtain ⟨e1, e2, e3, e4⟩ := d.1.2.1 r hr
  have o := (d.2.1.1 r hr).1
  have ev := even_eq d1 o.2
  refine bl_eq (w := 0) (K2 := m_tI K) d.2.2.1 (by omega) (by omega) (fun _ _ _ _ => rfl) (fun a i u v => am_u_na (by omega)) (fun h i hi => ?_) ?_
  · have h0 : 0 < I (T + 18) 0 := ((d.2.2.1 0 (by omega)).1).mpr h
    have hj : k_twJ I J T S r = am_u (k_layR I J T S r (I 84 5)) 85 3 0 := if_pos h0
    rw [hj]
    refine nameT d1 s1 hr w ?_ i hi
    rw [d.2.2.2.1.2.2.2.2.2.2.1]
    show _ = (if am_u K 110 63 _ 110 63 = 0 then (0 : Int64) else 1)
    rw [am_u_at]
    by_cases g : ¬ K 110 66 = 0 ∨ (K 110 65 = 0 ∧ ¬ K 114 0 < Int32.ofNat 50)
    · rw [if_pos g, if_neg (by decide)]; rfl
    · rw [if_neg g, if_pos (by decide)]; rfl
  · unfold k_mkP
    rw [ev, e2, e3]
theorem sim_p1S {x : Int32} {T S b r : Nat} {N : Nat → Nat} {p p' : hI × hJ} (hT : T = 9 ∨ T = 36) (hS : S = 63 ∨ S = 70 ∨ S = 77) (h : sim x T S b N p p') (hr : r < N 1) : sim x T S b N (k_p1S T S (N 4) r p) (m_d1S b (N 1) r p') := by
  obtain ⟨d, s, j⟩ := h
  have hn := d.2.2.2.2.2.1
  obtain ⟨e1, e2, e3, e4⟩ := d.1.2.1 r hr
  obtain ⟨w1, w2, w3, w4⟩ := s.2.1 r (by omega)
  have c8 := d.2.2.2.1.1
  have fJ : (m_twJ p'.1 p'.2 b (N 1) r) 110 62 = p'.2 110 62 := jG_tr jG_lay jG_blJ 110 62 (by decide) (by decide)
  have fK : ∀ a i, 138 ≤ a → a ≤ 145 → m_twI p'.1 p'.2 b (N 1) r a i = p'.1 a i := fun a i u v => by
    refine (am_u_na (by omega)).trans ?_
    unfold m_blI
    split
    · exact am_u_na (by omega)
    · exact (am_u_na (by omega)).trans (am_u_na (by omega))
  have fG : simF p'.1 (m_mkI p'.1 p'.2 b (N 1) r) := simF_mk
  unfold k_p1S m_d1S
  by_cases w : wt x (p.1 (S + 3) r)
  · obtain ⟨v1, v2⟩ := w3 w
    by_cases c : p.1 (T + 9) r = p.1 S 0 ∧ p.1 (S + 1) r = 0
    · have c1 : k_due p.1 T S r := ⟨c, by rw [c8]; exact w⟩
      have m1 : p'.1 121 r = p'.1 145 b := by rw [← e4, ← s.1]; exact c.1
      have m2 : p'.1 138 (8 * b + r) = 0 := by rw [← v1]; exact c.2
      rw [if_pos c1, if_pos m1, if_pos m2]
      refine ⟨dR_s hT hS (sF_tr (sF_u (by omega)) (sF_u (by omega))) fG d, ?_, ?_⟩
      · show sR S b x N (k_mk p.1 p.2 T S r (N 4)) (m_mkI p'.1 p'.2 b (N 1) r)
        unfold k_mk m_mkI
        rw [tw_eq (L := p'.2) hT hS d s hr w]
        exact sR_1 (sR_2 (sR_c (fun _ _ _ _ => rfl) fK s) hr) hr
      · intro g4
        show (k_tw p.1 p.2 T S r (N 4)).2 S 1 = (m_twJ p'.1 p'.2 b (N 1) r) 110 62
        have f4 : sF S p.1 (k_mk p.1 p.2 T S r (N 4)) := sF_tr (sF_u (by omega)) (sF_u (by omega))
        rw [jF_tw S 1 (by omega) (by omega), fJ]; exact j ((f4 84 4 (by omega) (by omega) (by omega)).symm.trans g4)
    · have c1 : ¬ k_due p.1 T S r := fun z => c z.1
      rw [if_neg c1]
      by_cases m1 : p'.1 121 r = p'.1 145 b
      · rw [if_pos m1, if_neg (fun z => c ⟨by rw [e4, s.1]; exact m1, by rw [v1]; exact z⟩)]
        exact ⟨d, s, j⟩
      · rw [if_neg m1]; exact ⟨d, s, j⟩
  · have c1 : ¬ k_due p.1 T S r := fun z => w (by have := z.2; rw [c8] at this; exact this)
    rw [if_neg c1]
    split
    · split
      · refine ⟨dR_s hT hS (sF_rf S _) fG d, ?_, ?_⟩
        · exact sR_1K (sR_2K (sR_c (fun _ _ _ _ => rfl) fK s) w) w
        · intro g4
          show _ = (m_twJ p'.1 p'.2 b (N 1) r) 110 62
          rw [fJ]; exact j g4
      · exact ⟨d, s, j⟩
    · exact ⟨d, s, j⟩
theorem sim_p1 {x : Int32} {T S b : Nat} {N : Nat → Nat} {p p' : hI × hJ} (hT : T = 9 ∨ T = 36) (hS : S = 63 ∨ S = 70 ∨ S = 77) (h : sim x T S b N p p') : ∀ r, r ≤ N 1 → sim x T S b N (k_p1 T S (N 4) r p) (m_d1 b (N 1) r p') := by
  intro r
  induction r with
  | zero => intro _; exact h
  | succ r ih => intro hr; exact sim_p1S hT hS (ih (by omega)) hr
/-- voyages -/
theorem sim_svS {x : Int32} {T S b v : Nat} {N : Nat → Nat} {I K : hI} (hT : T = 9 ∨ T = 36) (hS : S = 63 ∨ S = 70 ∨ S = 77) (d : dR x T N I K) (s : sR S b x N I K) (hv : v < N 3) : dR x T N (k_svS T S v I) (m_d2S b v K) ∧ sR S b x N (k_svS T S v I) (m_d2S b v K) := by
  obtain ⟨e1, e2, e3⟩ := d.1.2.2.2.2.1 v hv
  have o := (d.2.1.2.2.2.2.1 v hv).1
  have h2 := d.2.2.2.2.2.2.1
  have o2 := o.2
  have c8 := d.2.2.2.1.1
  have c6 := d.2.2.2.1.2.2.2.2.2.1 v hv
  have es : Int32.ofNat (nn (I (T + 14) v)) = I (T + 14) v := o.1.symm
  have eK : nn (K 125 v) = nn (I (T + 14) v) := by rw [e1]
  unfold k_svS m_d2S
  rw [eK, es, c8, ← e2, ← s.1, ← e1, ← e3]
  generalize hsh : nn (I (T + 14) v) = sh
  have o3 : sh < 5 := by omega
  have es2 : I (T + 14) v = Int32.ofNat sh := by rw [← hsh]; exact o.1
  by_cases w : wt x (I (T + 14) v)
  · have c6w := c6 w
    rw [← e1] at c6w
    obtain ⟨v4, v5, v6⟩ := s.2.2.1 sh o3 (by rw [← es2]; exact w)
    by_cases c : I (T + 15) v = I S 0
    · rw [if_pos c]
      by_cases u : (I 84 6 >>> (Int32.ofNat v &&& 31)) &&& Int32.ofNat 1 = 0
      · obtain ⟨u1, u2⟩ := c6w.mp u
        rw [if_pos (show k_svP I T S v from ⟨c, u⟩), if_pos w, if_neg u1, if_neg u2, ← v4]
        by_cases g : I (S + 4) sh = 0
        · rw [if_pos g, if_pos g]
          refine ⟨dR_c hT (fun a i h => ?_) (fun a i h => (am_u_na (by omega)).trans (am_u_na (by omega))) d, ?_⟩
          · rcases h with h | h
            · exact (am_u_na (by omega)).trans ((am_u_na (by omega)).trans (am_u_na (by omega)))
            · exact (am_u_nk h.2).trans ((am_u_na (by omega)).trans (am_u_na (by omega)))
          · exact sR_c (fun a i u v => am_u_na (by omega)) (fun _ _ _ _ => rfl) (sR_5 (sR_4 s))
        · rw [if_neg g, if_neg g]
          refine ⟨dR_c hT (fun a i h => am_u_na (by omega)) (fun a i h => am_u_na (by omega)) d, ?_⟩
          by_cases y : x = Int32.ofInt (-1)
          · rw [← s.2.2.2 y]; exact sR_ref s
          · exact sR_refI (sR_refK s y) y
      · rw [if_neg (show ¬ k_svP I T S v from fun z => u z.2)]
        by_cases u1 : I (T + 14) v = K 110 69
        · rw [if_pos u1]; exact ⟨d, s⟩
        · rw [if_neg u1, if_pos (Decidable.byContradiction fun u2 => u (c6w.mpr ⟨u1, u2⟩))]; exact ⟨d, s⟩
    · rw [if_neg c, if_neg (show ¬ k_svP I T S v from fun z => c z.1)]; exact ⟨d, s⟩
  · have hk : (@ite _ (k_svP I T S v) (k_svD I T S v) (if x = Int32.ofInt (-1) ∨ x = I (T + 14) v then (if I (S + 4) sh = 0 then am_u (am_u (am_u I (S + 4) sh (Int32.ofNat 1)) (S + 5) sh (I (T + 16) v)) 84 7 (I 84 7 ||| Int32.ofNat (2 ^ v)) else am_u I S 2 (I S 2 + Int32.ofNat 1)) else I) I) = I := by
      by_cases c : k_svP I T S v
      · rw [if_pos c, if_neg w]
      · rw [if_neg c]
    rw [hk]
    have y : ¬ x = Int32.ofInt (-1) := fun z => w (Or.inl z)
    have w2 : ¬ wt x (Int32.ofNat sh) := by rw [← es2]; exact w
    repeat' split
    · exact ⟨d, s⟩
    · exact ⟨d, s⟩
    · exact ⟨dR_c hT (fun _ _ _ => rfl) (fun a i h => (am_u_na (by omega)).trans (am_u_na (by omega))) d, sR_5K (sR_4K s w2) w2⟩
    · exact ⟨dR_c hT (fun _ _ _ => rfl) (fun a i h => am_u_na (by omega)) d, sR_refK s y⟩
    · exact ⟨d, s⟩
theorem sim_sv {x : Int32} {T S b : Nat} {N : Nat → Nat} {I K : hI} (hT : T = 9 ∨ T = 36) (hS : S = 63 ∨ S = 70 ∨ S = 77) (d : dR x T N I K) (s : sR S b x N I K) : ∀ v, v ≤ N 3 → dR x T N (k_svL T S v I) (m_d2 b v K) ∧ sR S b x N (k_svL T S v I) (m_d2 b v K) := by
  intro v
  induction v with
  | zero => intro _; exact ⟨d, s⟩
  | succ v ih => intro hv; have i := ih (by omega); exact sim_svS hT hS i.1 i.2 hv
