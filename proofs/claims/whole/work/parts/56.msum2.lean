/-! The reference: a whole sum. -/
theorem sm_c {I I' : hI} {W H K C d : Nat} (h : ∀ a i, a = 134 ∨ (a = 110 ∧ (i = 21 ∨ i = 45 ∨ i = 46 ∨ i = 47 ∨ i = 48)) → I' a i = I a i) (s : sm I W H K C d) : sm I' W H K C d := by
  have e : I' 134 = I 134 := funext fun i => h 134 i (by omega)
  unfold sm at s ⊢
  rw [e, h 110 45 (by omega), h 110 46 (by omega), h 110 21 (by omega), h 110 47 (by omega), h 110 48 (by omega)]
  exact s
theorem sm_tok {I : hI} {W H K C d : Nat} (s : sm I W H K C d) : sm (m_tok I) W H K C d := sm_c (fun a i z => m_tok_f (by omega)) s
theorem cb_p {I : hI} {W : Nat} {x : Int32} : cb (am_u I 134 W x 134) (W + 1) = cb (I 134) W + (if 3 ≤ nn x then 1 else 0) := by
  show cb (am_u I 134 W x 134) W + (if 3 ≤ nn (am_u I 134 W x 134 W) then 1 else 0) = _
  rw [am_u_at, cb_c (fun i hi => am_u_nk (by omega))]
theorem cz_p {I : hI} {W : Nat} {x : Int32} : cz (am_u I 134 W x 134) (W + 1) = cz (I 134) W + (if nn x = 0 then 1 else 0) := by
  show cz (am_u I 134 W x 134) W + (if nn (am_u I 134 W x 134 W) = 0 then 1 else 0) = _
  rw [am_u_at, cz_c (fun i hi => am_u_nk (by omega))]
theorem en_p {I : hI} {W : Nat} {x : Int32} (h : ∀ i, i < W → okn (I 134 i) 15 ∧ nn (I 134 i) ≠ 1) (hx : okn x 15 ∧ nn x ≠ 1) : ∀ i, i < W + 1 → okn (am_u I 134 W x 134 i) 15 ∧ nn (am_u I 134 W x 134 i) ≠ 1 := by
  intro i hi
  by_cases e : i = W
  · subst e; rw [am_u_at]; exact hx
  · rw [am_u_nk e]; exact h i (by omega)
/-- what a step of the sum leaves: read on, wants as d says -/
def smX (I : hI) : Prop := ∃ W H K C d, sm I W H K C d ∧ I 110 49 = Int32.ofNat d ∧ d ≤ 1
theorem smX_tok {I : hI} (h : smX I) : smX (m_tok I) := by
  obtain ⟨W, H, K, C, d, h1, h2, h3⟩ := h
  exact ⟨W, H, K, C, d, sm_tok h1, (m_tok_f (by omega)).trans h2, h3⟩
theorem leaf_ok {I : hI} {W H K C : Nat} (s : sm I W H K C 1) (h49 : I 110 49 = Int32.ofNat 1) (h : ¬ (m_leaf I W H K (cz (I 134) W) C).1 = 0) : ∃ X, (m_leaf I W H K (cz (I 134) W) C).2 = m_tok X ∧ smX X ∧ (∀ f st, pv I f st → pv X f st) ∧ X 110 7 = I 110 7 ∧ ¬ I 110 8 = 0 := by
  obtain ⟨⟨s1, s2, s3, s4, s5⟩, s6, s7, s8, s9, s10⟩ := s
  have d40 : ∀ {x y : Nat}, x ≠ y → x < 100 → y < 100 → ¬ Int32.ofNat x = Int32.ofNat y := fun h a b e => h ((am_eqN (by omega) (by omega)).mp e)
  unfold m_leaf at h ⊢
  split at h
  · rename_i c1
    rw [if_pos c1]
    split at h
    · exact absurd rfl h
    · rename_i c2
      rw [if_neg c2]
      refine ⟨_, rfl, ⟨W + 1, H, K, C, 1, ⟨⟨?_, ?_, ?_, ?_, ?_⟩, ?_, ?_, s8, ?_, ?_⟩, ?_, Nat.le_refl _⟩, fun f st g => pv_u (by omega) (by omega) (pv_u (by omega) (by omega) (pv_u (by omega) (by omega) (pv_u (by omega) (by omega) g))), ?_, fun z => by rw [c1.1] at z; exact absurd z (by decide)⟩
      · rw [am_u_nk (by decide), am_u_at]
      · rw [am_u_nk (by decide), am_u_nk (by decide), am_u_na (by decide), am_u_nk (by decide)]; exact s2
      · rw [am_u_nk (by decide), am_u_nk (by decide), am_u_na (by decide), am_u_nk (by decide)]; exact s3
      · rw [am_u_nk (by decide), am_u_nk (by decide), am_u_na (by decide), am_u_at]
        rw [am_u_ne (by decide), am_u_ne (by decide), cz_p, if_pos (by decide), am_u_ne (by decide)]
      · rw [am_u_nk (by decide), am_u_nk (by decide), am_u_na (by decide), am_u_nk (by decide)]; exact s5
      · rw [am_u_ne (by decide), am_u_ne (by decide), cb_p, if_neg (by decide), am_u_ne (by decide)]; exact s6
      · rw [am_u_ne (by decide), am_u_ne (by decide), cz_p, if_pos (by decide), am_u_ne (by decide)]; omega
      · rw [am_u_ne (by decide), am_u_ne (by decide), cz_p, if_pos (by decide), am_u_ne (by decide)]; omega
      · rw [am_u_ne (by decide), am_u_ne (by decide)]
        refine en_p ?_ ⟨okn_of (by decide) (by decide), by decide⟩
        rw [am_u_ne (by decide)]; exact s10
      · rw [am_u_nk (by decide), am_u_nk (by decide), am_u_na (by decide), am_u_nk (by decide)]; exact h49
      · rw [am_u_nk (by decide), am_u_nk (by decide), am_u_na (by decide), am_u_nk (by decide)]
  · rename_i c1
    rw [if_neg c1]
    split at h
    · rename_i c2
      rw [if_pos c2]
      split at h
      · exact absurd rfl h
      · rename_i c3
        rw [if_neg c3]
        refine ⟨_, rfl, ⟨W + 1, H, K, C + 1, 1, ⟨⟨?_, ?_, ?_, ?_, ?_⟩, ?_, ?_, by omega, ?_, ?_⟩, ?_, Nat.le_refl _⟩, fun f st g => pv_u (by omega) (by omega) (pv_u (by omega) (by omega) (pv_u (by omega) (by omega) g)), ?_, fun z => by rw [c2.1.1] at z; exact absurd z (by decide)⟩
        · rw [am_u_at]
        · rw [am_u_nk (by decide), am_u_na (by decide), am_u_nk (by decide)]; exact s2
        · rw [am_u_nk (by decide), am_u_na (by decide), am_u_nk (by decide)]; exact s3
        · rw [am_u_nk (by decide), am_u_na (by decide), am_u_nk (by decide), am_u_ne (by decide), cz_p, if_neg (by decide), am_u_ne (by decide)]; exact s4
        · rw [am_u_nk (by decide), am_u_na (by decide), am_u_at]
        · rw [am_u_ne (by decide), cb_p, if_neg (by decide), am_u_ne (by decide)]; exact s6
        · rw [am_u_ne (by decide), cz_p, if_neg (by decide), am_u_ne (by decide)]; omega
        · rw [am_u_ne (by decide), cz_p, if_neg (by decide), am_u_ne (by decide)]; exact s9
        · rw [am_u_ne (by decide)]
          refine en_p ?_ ⟨okn_of (by decide) (by decide), by decide⟩
          rw [am_u_ne (by decide)]; exact s10
        · rw [am_u_nk (by decide), am_u_na (by decide), am_u_nk (by decide)]; exact h49
        · rw [am_u_nk (by decide), am_u_na (by decide), am_u_nk (by decide)]
    · rename_i c2
      rw [if_neg c2]
      split at h
      · exact absurd rfl h
      · rename_i c3
        rw [if_neg c3]
        split at h
        · exact absurd rfl h
        · rename_i c4
          rw [if_neg c4]
          split at h
          · exact absurd rfl h
          · rename_i c5
            rw [if_neg c5]
            have k0 : ¬ I 110 8 = 0 := by
              intro z
              have h1 : m_nmt I < 0 := by
                unfold m_nmt
                rw [if_neg (fun y => by rw [y.1] at z; exact absurd z (by decide))]
                decide
              exact c3 ⟨h1, fun y => by rw [y] at z; exact absurd z (by decide)⟩
            refine ⟨_, rfl, ⟨W, H + 1, K + 1, C + 1, 0, ⟨⟨?_, ?_, ?_, ?_, ?_⟩, ?_, ?_, by omega, ?_, ?_⟩, ?_, by omega⟩, fun f st g => pv_u (by omega) (by omega) (pv_gr (pv_u (by omega) (by omega) g)), ?_, k0⟩
            · rw [am_u_nk (by decide), m_gr_f (by omega) (by omega) (by omega), am_u_nk (by decide)]; exact s1
            · rw [am_u_nk (by decide), m_gr46]
            · rw [am_u_nk (by decide), m_gr21]
            · rw [am_u_nk (by decide), m_gr_f (by omega) (by omega) (by omega), am_u_nk (by decide), am_u_ne (by decide), show m_gr (am_u I 110 48 (Int32.ofNat (C + 1))) K H (if m_nmt I < 0 then Int32.ofNat 0 else Int32.ofNat 1) (if m_nmt I < 0 then I 110 9 else m_nmt I) (Int32.ofNat 0) 134 = I 134 from funext fun i => (m_gr_f (by omega) (by omega) (by omega)).trans (am_u_na (by decide))]; exact s4
            · rw [am_u_nk (by decide), m_gr_f (by omega) (by omega) (by omega), am_u_at]
            · rw [am_u_ne (by decide), show m_gr (am_u I 110 48 (Int32.ofNat (C + 1))) K H (if m_nmt I < 0 then Int32.ofNat 0 else Int32.ofNat 1) (if m_nmt I < 0 then I 110 9 else m_nmt I) (Int32.ofNat 0) 134 = I 134 from funext fun i => (m_gr_f (by omega) (by omega) (by omega)).trans (am_u_na (by decide))]; omega
            · rw [am_u_ne (by decide), show m_gr (am_u I 110 48 (Int32.ofNat (C + 1))) K H (if m_nmt I < 0 then Int32.ofNat 0 else Int32.ofNat 1) (if m_nmt I < 0 then I 110 9 else m_nmt I) (Int32.ofNat 0) 134 = I 134 from funext fun i => (m_gr_f (by omega) (by omega) (by omega)).trans (am_u_na (by decide))]; omega
            · rw [am_u_ne (by decide), show m_gr (am_u I 110 48 (Int32.ofNat (C + 1))) K H (if m_nmt I < 0 then Int32.ofNat 0 else Int32.ofNat 1) (if m_nmt I < 0 then I 110 9 else m_nmt I) (Int32.ofNat 0) 134 = I 134 from funext fun i => (m_gr_f (by omega) (by omega) (by omega)).trans (am_u_na (by decide))]; exact s9
            · rw [am_u_ne (by decide), show m_gr (am_u I 110 48 (Int32.ofNat (C + 1))) K H (if m_nmt I < 0 then Int32.ofNat 0 else Int32.ofNat 1) (if m_nmt I < 0 then I 110 9 else m_nmt I) (Int32.ofNat 0) 134 = I 134 from funext fun i => (m_gr_f (by omega) (by omega) (by omega)).trans (am_u_na (by decide))]; exact s10
            · rw [am_u_at]
            · rw [am_u_nk (by decide), m_gr_f (by omega) (by omega) (by omega), am_u_nk (by decide)]
theorem rk_lt1 {x : Int32} (hx : okn x 15 ∧ nn x ≠ 1) (h : m_rk x < Int32.ofNat 1) : nn x = 0 := by
  obtain ⟨⟨e, hl⟩, h1⟩ := hx
  have : ∀ w : Fin 15, m_rk (Int32.ofNat w.val) < Int32.ofNat 1 → w.val = 0 ∨ w.val = 1 := by decide
  have h2 := this ⟨nn x, hl⟩ (by rw [← e]; exact h)
  dsimp only at h2
  omega
theorem sgk_ok {I : hI} (v : tv I) (h : ¬ m_sgk I = 0) : (okn (m_sgk I) 15 ∧ 3 ≤ nn (m_sgk I)) ∧ (∃ l, m_sgl (m_sgk I) = Int32.ofNat l ∧ 1 ≤ l ∧ l ≤ 6) ∧ ¬ I 110 8 = 0 := by
  have key : ∀ w : Fin 15, 3 ≤ w.val → ∃ l : Fin 7, m_sgl (Int32.ofNat w.val) = Int32.ofNat l.val ∧ 1 ≤ l.val := by decide
  have go : ∀ w, m_sgk I = Int32.ofNat w → 3 ≤ w → w < 15 → (okn (m_sgk I) 15 ∧ 3 ≤ nn (m_sgk I)) ∧ (∃ l, m_sgl (m_sgk I) = Int32.ofNat l ∧ 1 ≤ l ∧ l ≤ 6) := by
    intro w e h3 h15
    rw [e]
    obtain ⟨l, hl, h1⟩ := key ⟨w, h15⟩ h3
    exact ⟨⟨okn_of h15 (by decide), by rw [nn_ofNat (by omega)]; exact h3⟩, ⟨l.val, hl, h1, by omega⟩⟩
  have nz : ∀ y : Nat, I 110 8 = Int32.ofNat y → 0 < y → y < 10 → ¬ I 110 8 = 0 := fun y e h0 h9 z => by
    have := (am_eqN (y := 0) (by omega) (by omega)).mp (e.symm.trans z)
    omega
  unfold m_sgk at h
  split at h
  · rename_i c; exact ⟨(go 3 (by unfold m_sgk; rw [if_pos c]) (by decide) (by decide)).1, (go 3 (by unfold m_sgk; rw [if_pos c]) (by decide) (by decide)).2, nz 1 c.1 (by decide) (by decide)⟩
  · rename_i n1
    split at h
    · rename_i c; have e : m_sgk I = Int32.ofNat 4 := by unfold m_sgk; rw [if_neg n1, if_pos c]
      exact ⟨(go 4 e (by decide) (by decide)).1, (go 4 e (by decide) (by decide)).2, nz 1 c.1 (by decide) (by decide)⟩
    · rename_i n2
      split at h
      · rename_i c
        have e : m_sgk I = Int32.ofNat (5 + nn (I 110 9)) := by unfold m_sgk; rw [if_neg n1, if_neg n2, if_pos c]
        have h6 := (v.1 c).2
        exact ⟨(go _ e (by omega) (by omega)).1, (go _ e (by omega) (by omega)).2, nz 5 c (by decide) (by decide)⟩
      · rename_i n3
        split at h
        · rename_i c; have e : m_sgk I = Int32.ofNat 11 := by unfold m_sgk; rw [if_neg n1, if_neg n2, if_neg n3, if_pos c]
          exact ⟨(go 11 e (by decide) (by decide)).1, (go 11 e (by decide) (by decide)).2, nz 4 c.1 (by decide) (by decide)⟩
        · rename_i n4
          split at h
          · rename_i c; have e : m_sgk I = Int32.ofNat 12 := by unfold m_sgk; rw [if_neg n1, if_neg n2, if_neg n3, if_neg n4, if_pos c]
            exact ⟨(go 12 e (by decide) (by decide)).1, (go 12 e (by decide) (by decide)).2, nz 4 c.1 (by decide) (by decide)⟩
          · rename_i n5
            split at h
            · rename_i c; have e : m_sgk I = Int32.ofNat 13 := by unfold m_sgk; rw [if_neg n1, if_neg n2, if_neg n3, if_neg n4, if_neg n5, if_pos c]
              exact ⟨(go 13 e (by decide) (by decide)).1, (go 13 e (by decide) (by decide)).2, nz 4 c.1 (by decide) (by decide)⟩
            · rename_i n6
              split at h
              · rename_i c; have e : m_sgk I = Int32.ofNat 14 := by unfold m_sgk; rw [if_neg n1, if_neg n2, if_neg n3, if_neg n4, if_neg n5, if_neg n6, if_pos c]
                exact ⟨(go 14 e (by decide) (by decide)).1, (go 14 e (by decide) (by decide)).2, nz 4 c.1 (by decide) (by decide)⟩
              · exact absurd rfl h
theorem sign_ok {I : hI} {W H K C : Nat} (v : tv I) (s : sm I W H K C 0) (h49 : I 110 49 = Int32.ofNat 0) (h : ¬ (m_sg I W H K (cz (I 134) W) C).1 = 0) : ∃ X, (m_sg I W H K (cz (I 134) W) C).2 = m_tok X ∧ smX X ∧ (∀ f st, pv I f st → pv X f st) ∧ X 110 7 = I 110 7 ∧ ¬ I 110 8 = 0 := by
  have s0 := sm_sw0 s
  obtain ⟨⟨s1, s2, s3, s4, s5⟩, s6, s7, s8, s9, s10⟩ := s
  have hW : W < 96 := by omega
  unfold m_sg at h ⊢
  split at h
  · rename_i c1
    rw [if_pos c1]
    have hB : 1 ≤ cz (I 134) W := am_pos (by omega) c1.2
    obtain ⟨q, qc⟩ := bi_ok (l := 1) (by decide) (by decide) W H K I s0
    have ez := bi_cz (l := 1) (by decide) (by decide) s0
    have e134 : m_bi (Int32.ofNat 1) W H K I 134 = I 134 := funext qc
    have hw := m_biW_le (Int32.ofNat 1) I W
    have hz := cz_le (I 134) (m_biW (Int32.ofNat 1) W I)
    have ht := (m_biW_top (Int32.ofNat 1) I W).resolve_left (by omega)
    have ht0 : nn (I 134 (m_biW (Int32.ofNat 1) W I - 1)) = 0 := rk_lt1 (s10 _ (by omega)) ht.2
    obtain ⟨w, hw1⟩ : ∃ w, m_biW (Int32.ofNat 1) W I = w + 1 := ⟨m_biW (Int32.ofNat 1) W I - 1, by omega⟩
    obtain ⟨q1, q2, q3, q4, q5, q6, q7, q8⟩ := q
    rw [e134] at q4 q5 q7 q8
    rw [hw1] at q4 q5 q7 q8 ez hz ht0 q2 q3
    rw [Nat.add_sub_cancel] at ht0
    have zb : cb (I 134) (w + 1) = cb (I 134) w := by
      show cb (I 134) w + (if 3 ≤ nn (I 134 w) then 1 else 0) = _
      rw [ht0]; rfl
    have zz : cz (I 134) (w + 1) = cz (I 134) w + 1 := by
      show cz (I 134) w + (if nn (I 134 w) = 0 then 1 else 0) = _
      rw [if_pos ht0]
    unfold m_sg0
    rw [hw1, Nat.add_sub_cancel]
    refine ⟨_, rfl, ⟨w, cb (I 134) (w + 1) + 1, K + W - (w + 1), C, 0, ⟨⟨?_, ?_, ?_, ?_, ?_⟩, ?_, ?_, s8, ?_, ?_⟩, ?_, by omega⟩, fun f st g => pv_u (by omega) (by omega) (pv_u (by omega) (by omega) (pv_bi g)), ?_, fun z => by rw [c1.1.1] at z; exact absurd z (by decide)⟩
    · rw [am_u_nk (by decide), am_u_at]
    · rw [am_u_nk (by decide), am_u_nk (by decide)]; exact q2
    · rw [am_u_nk (by decide), am_u_nk (by decide)]; exact q3
    · rw [am_u_at, am_u_ne (by decide), am_u_ne (by decide), e134]; exact congrArg Int32.ofNat (by omega)
    · rw [am_u_nk (by decide), am_u_nk (by decide), m_bi_f (by omega) (by omega) (by omega)]; exact s5
    · rw [am_u_ne (by decide), am_u_ne (by decide), e134, zb]
    · rw [am_u_ne (by decide), am_u_ne (by decide), e134]; omega
    · rw [am_u_ne (by decide), am_u_ne (by decide), e134]; omega
    · rw [am_u_ne (by decide), am_u_ne (by decide), e134]; exact fun i hi => s10 i (by omega)
    · rw [am_u_nk (by decide), am_u_nk (by decide), m_bi_f (by omega) (by omega) (by omega)]; exact h49
    · rw [am_u_nk (by decide), am_u_nk (by decide), m_bi_f (by omega) (by omega) (by omega)]
  · rename_i c1
    rw [if_neg c1]
    split at h
    · exact absurd rfl h
    · rename_i c2
      rw [if_neg c2]
      obtain ⟨⟨ko, k3⟩, ⟨l, el, l1, l6⟩, k8⟩ := sgk_ok v c2
      unfold m_sg1 at h ⊢
      rw [el] at h ⊢
      split at h
      · exact absurd rfl h
      · rename_i c3
        rw [if_neg c3]
        split at h
        · exact absurd rfl h
        · rename_i c4
          rw [if_neg c4]
          obtain ⟨q, qc⟩ := bi_ok l1 l6 W H K I s0
          have ez := bi_cz l1 l6 s0
          have e134 : m_bi (Int32.ofNat l) W H K I 134 = I 134 := funext qc
          have hw := m_biW_le (Int32.ofNat l) I W
          obtain ⟨q1, q2, q3, q4, q5, q6, q7, q8⟩ := q
          rw [e134] at q4 q5 q7 q8
          have u134 : ∀ (a : Int32) (x y z : Int32) (b : Int32), am_u (am_u (am_u (am_u (am_u (m_bi (Int32.ofNat l) W H K I) 110 48 a) 134 (m_biW (Int32.ofNat l) W I) x) 110 45 y) 110 49 z) 110 50 b 134 = am_u (am_u (m_bi (Int32.ofNat l) W H K I) 110 48 a) 134 (m_biW (Int32.ofNat l) W I) x 134 := by
            intro a x y z b
            rw [am_u_ne (by decide), am_u_ne (by decide), am_u_ne (by decide)]
          have v134 : ∀ a : Int32, am_u (m_bi (Int32.ofNat l) W H K I) 110 48 a 134 = I 134 := fun a => (am_u_ne (by decide)).trans e134
          refine ⟨_, rfl, ⟨m_biW (Int32.ofNat l) W I + 1, cb (I 134) (m_biW (Int32.ofNat l) W I) + 1, K + W - m_biW (Int32.ofNat l) W I, C + 1, 1, ⟨⟨?_, ?_, ?_, ?_, ?_⟩, ?_, ?_, by omega, ?_, ?_⟩, ?_, Nat.le_refl _⟩, fun f st g => pv_u (by omega) (by omega) (pv_u (by omega) (by omega) (pv_u (by omega) (by omega) (pv_u (by omega) (by omega) (pv_u (by omega) (by omega) (pv_bi g))))), ?_, k8⟩
          · rw [am_u_nk (by decide), am_u_nk (by decide), am_u_at]
          · rw [am_u_nk (by decide), am_u_nk (by decide), am_u_nk (by decide), am_u_na (by decide), am_u_nk (by decide)]; exact q2
          · rw [am_u_nk (by decide), am_u_nk (by decide), am_u_nk (by decide), am_u_na (by decide), am_u_nk (by decide)]; exact q3
          · rw [am_u_nk (by decide), am_u_nk (by decide), am_u_nk (by decide), am_u_na (by decide), am_u_nk (by decide), m_bi_f (by omega) (by omega) (by omega), u134, cz_p, v134, if_neg (by omega), ez]; exact s4
          · rw [am_u_nk (by decide), am_u_nk (by decide), am_u_nk (by decide), am_u_na (by decide), am_u_at]
          · rw [u134, cb_p, v134, if_pos k3]
          · rw [u134, cz_p, v134, if_neg (by omega)]; omega
          · rw [u134, cz_p, v134, if_neg (by omega)]; omega
          · rw [u134]
            refine en_p ?_ ⟨ko, by omega⟩
            rw [v134]
            exact fun i hi => s10 i (by omega)
          · rw [am_u_nk (by decide), am_u_at]
          · rw [am_u_nk (by decide), am_u_nk (by decide), am_u_nk (by decide), am_u_na (by decide), am_u_nk (by decide), m_bi_f (by omega) (by omega) (by omega)]
theorem t_w_gt {f : Nat → Int32} {st a : Nat} (h : a < st) (hs : smP f st a) : a < t_w f st (st - a) a := by
  obtain ⟨j, hj⟩ : ∃ j, st - a = j + 1 := ⟨st - a - 1, by omega⟩
  rw [hj, t_w_s, if_pos hs]
  have := t_w_le f st j (a + 1)
  omega
theorem t_d_gt {f : Nat → Int32} {st a : Nat} {w : Int32} (h : a < st) (hs : dgP f st a) : a < (t_d f st (st - a) a w).1 := by
  obtain ⟨j, hj⟩ : ∃ j, st - a = j + 1 := ⟨st - a - 1, by omega⟩
  rw [hj, t_d_s, if_pos hs]
  have := t_d_le f st j (a + 1) (if Int32.ofNat 99999 < w then w else Int32.ofNat 10 * w + f a - Int32.ofNat 48)
  omega
theorem sgn_gt {f : Nat → Int32} {st a : Nat} : a < (sgn f st a).1 := by
  unfold sgn
  repeat' split
  all_goals (dsimp only; omega)
theorem t_one_gt {f : Nat → Int32} {st a : Nat} {w : Int32} (h : a < st) : a < (t_one f st a w).1 := by
  unfold t_one
  rw [if_neg (by omega)]
  split
  · rename_i c
    have := t_w_gt h c
    repeat' split
    all_goals exact this
  · split
    · rename_i c; exact t_d_gt h c
    · exact sgn_gt
theorem m_wd_ok (f : Nat → Int32) (a b : Nat) : ∀ j k, k + j ≤ 21 → m_wd f a b j k < 0 ∨ okn (m_wd f a b j k) 21 := by
  intro j
  induction j with
  | zero => intro k _; exact Or.inl (show Int32.ofInt (-1) < 0 by decide)
  | succ j ih =>
    intro k h
    rw [m_wd_s]
    split
    · exact Or.inr (okn_of (by omega) (by decide))
    · exact ih _ (by omega)
theorem sgn_k {f : Nat → Int32} {st a : Nat} : ((sgn f st a).2.1 = Int32.ofNat 5 → okn (sgn f st a).2.2 6) ∧ ¬ (sgn f st a).2.1 = Int32.ofNat 1 := by
  unfold sgn
  repeat' split
  all_goals dsimp only
  all_goals first | exact ⟨fun _ => okn_of (by decide) (by decide), by decide⟩ | exact ⟨fun z => absurd z (by decide), by decide⟩
theorem t_one_tv {f : Nat → Int32} {st a : Nat} {w : Int32} : ((t_one f st a w).2.1 = Int32.ofNat 5 → okn (t_one f st a w).2.2 6) ∧ ((t_one f st a w).2.1 = Int32.ofNat 1 → okn (t_one f st a w).2.2 21) := by
  unfold t_one
  split
  · dsimp only; exact ⟨fun z => absurd z (by decide), fun z => absurd z (by decide)⟩
  · split
    · split
      · split
        · dsimp only; exact ⟨fun z => absurd z (by decide), fun z => absurd z (by decide)⟩
        · dsimp only; exact ⟨fun z => absurd z (by decide), fun z => absurd z (by decide)⟩
      · rename_i c
        dsimp only
        exact ⟨fun z => absurd z (by decide), fun _ => (m_wd_ok f a _ 21 0 (by decide)).resolve_left c⟩
    · split
      · dsimp only; exact ⟨fun z => absurd z (by decide), fun z => absurd z (by decide)⟩
      · exact ⟨sgn_k.1, fun z => absurd z sgn_k.2⟩
theorem m_tok_8 (I : hI) : m_tok I 110 8 = (t_one (I 111) (nn (I 110 6)) (t_at (I 111) (nn (I 110 6)) (nn (I 110 7))) (I 110 9)).2.1 := by
  unfold m_tok m_tk m_t3
  rw [if_neg (by decide), if_pos ⟨rfl, rfl⟩]
theorem m_tok_9 (I : hI) : m_tok I 110 9 = (t_one (I 111) (nn (I 110 6)) (t_at (I 111) (nn (I 110 6)) (nn (I 110 7))) (I 110 9)).2.2 := by
  unfold m_tok m_tk m_t3
  rw [if_neg (by decide), if_neg (by decide), if_pos ⟨rfl, rfl⟩]
theorem m_tok_7 (I : hI) : m_tok I 110 7 = Int32.ofNat (t_one (I 111) (nn (I 110 6)) (t_at (I 111) (nn (I 110 6)) (nn (I 110 7))) (I 110 9)).1 := by
  unfold m_tok m_tk m_t3
  rw [if_pos ⟨rfl, rfl⟩]
theorem tv_tok (I : hI) : tv (m_tok I) := by
  unfold tv
  rw [m_tok_8, m_tok_9]
  exact t_one_tv
/-- how much is left to read -/
def mu (I : hI) (st : Nat) : Nat := (st - nn (I 110 7)) + (if I 110 8 = 0 then 0 else 1)
theorem mu_tok {X I : hI} {f : Nat → Int32} {st : Nat} (g : pv X f st) (h7 : X 110 7 = I 110 7) (h8 : ¬ I 110 8 = 0) : mu (m_tok X) st < mu I st := by
  have e6 := pv_nn g
  have g5 := g.2.2.2.2
  have g4 := g.2.2.2.1
  unfold mu
  rw [if_neg h8, m_tok_7, m_tok_8, e6, ← h7]
  have la := t_at_le (f := X 111) (st := st) (p := nn (X 110 7)) (by have := g5.2; omega)
  have lo := t_one_le (f := X 111) (w := X 110 9) la.2
  rw [nn_ofNat (by omega)]
  by_cases e : t_at (X 111) st (nn (X 110 7)) = st
  · have e0 : t_one (X 111) st (t_at (X 111) st (nn (X 110 7))) (X 110 9) = (t_at (X 111) st (nn (X 110 7)), Int32.ofNat 0, X 110 9) := by unfold t_one; rw [if_pos e]
    rw [e0]
    dsimp only
    rw [if_pos (show Int32.ofNat 0 = 0 from rfl), e]
    omega
  · have := t_one_gt (f := X 111) (w := X 110 9) (show t_at (X 111) st (nn (X 110 7)) < st by omega)
    split <;> omega
def m_sumS (I : hI) : Int32 × hI := if I 110 49 = 0 then m_sg I (nn (I 110 45)) (nn (I 110 46)) (nn (I 110 21)) (nn (I 110 47)) (nn (I 110 48)) else m_leaf I (nn (I 110 45)) (nn (I 110 46)) (nn (I 110 21)) (nn (I 110 47)) (nn (I 110 48))
def m_sumP (I : hI) : Prop := (I 110 8 = Int32.ofNat 4 ∧ I 110 9 = Int32.ofNat 59) ∧ I 110 49 = 0 ∧ ¬ 0 < I 110 47
def m_sumD (I : hI) : Decidable (m_sumP I) := inferInstanceAs (Decidable (_ ∧ _))
def m_sumL : Nat → hI → Int32 × hI
  | 0, I => (0, I)
  | n + 1, I => @ite _ (m_sumP I) (m_sumD I) (1, m_bi (Int32.ofNat 1) (nn (I 110 45)) (nn (I 110 46)) (nn (I 110 21)) I) (if (m_sumS I).1 = 0 then (0, (m_sumS I).2) else m_sumL n (m_sumS I).2)
theorem m_sumL_s (n : Nat) (I : hI) : m_sumL (n + 1) I = @ite _ (m_sumP I) (m_sumD I) (1, m_bi (Int32.ofNat 1) (nn (I 110 45)) (nn (I 110 46)) (nn (I 110 21)) I) (if (m_sumS I).1 = 0 then (0, (m_sumS I).2) else m_sumL n (m_sumS I).2) := rfl
theorem c_leaf {k : Nat} {I : hI} {J : hJ} {R : hR} {f : Nat → Int32} {st : Nat} (g : pv I f st) {W H K C : Nat} (s : sm I W H K C 1) (hk : 3 ≤ k) : ct k 203 [.ref 110] I J R (some (.int (m_leaf I W H K (cz (I 134) W) C).1)) (m_leaf I W H K (cz (I 134) W) C).2 J R := by
  by_cases h : C = 64
  · exact c_leaf1 g s h hk
  · exact c_leaf0 g s (by have := s.2.2.2.1; omega) hk
theorem c_signs {k : Nat} {I : hI} {J : hJ} {R : hR} {f : Nat → Int32} {st : Nat} (g : pv I f st) (v : tv I) {W H K C : Nat} (s : sm I W H K C 0) (hk : 4 ≤ k) : ct k 204 [.ref 110] I J R (some (.int (m_sg I W H K (cz (I 134) W) C).1)) (m_sg I W H K (cz (I 134) W) C).2 J R := by
  by_cases h : C = 64
  · exact c_signs1 g v s h hk
  · exact c_signs0 g v s (by have := s.2.2.2.1; omega) hk
theorem lz_sum {k : Nat} {J : hJ} {R : hR} {f : Nat → Int32} {st : Nat} (hk : 4 ≤ k) : ∀ (n : Nat) (I : hI), smX I → pv I f st → tv I → mu I st < n → wz k 12 (some .boolean) am_c205 25 [.ref 110] [] I J R (some (.int (m_sumL n I).1), am_hp (m_sumL n I).2 J R) := by
  intro n
  induction n with
  | zero => intro I _ _ _ h; omega
  | succ n ih =>
    intro I x g v hm
    obtain ⟨W, H, K, C, d, s, h49, hd⟩ := x
    have b2 := s.2.2.1
    have b3 := s.2.2.2.1
    have b4 := s.2.2.2.2.1
    have b1 := s.2.1
    have b5 := cb_le (I 134) W
    have e45 : nn (I 110 45) = W := by rw [s.1.1, nn_ofNat (by omega)]
    have e46 : nn (I 110 46) = H := by rw [s.1.2.1, nn_ofNat (by omega)]
    have e21 : nn (I 110 21) = K := by rw [s.1.2.2.1, nn_ofNat (by omega)]
    have e47 : nn (I 110 47) = cz (I 134) W := by rw [s.1.2.2.2.1, nn_ofNat (by omega)]
    have e48 : nn (I 110 48) = C := by rw [s.1.2.2.2.2, nn_ofNat (by omega)]
    have hd2 : d = 0 ∨ d = 1 := by omega
    rcases hd2 with rfl | rfl
    · have hS : m_sumS I = m_sg I W H K (cz (I 134) W) C := by unfold m_sumS; rw [if_pos (show I 110 49 = 0 from h49), e45, e46, e21, e47, e48]
      have go : ∀ (n0 : ¬ m_sumP I), wz k 12 (some .boolean) am_c205 48 [.ref 110] [] I J R (some (.int (m_sumL (n + 1) I).1), am_hp (m_sumL (n + 1) I).2 J R) := by
        intro n0
        rw [m_sumL_s, if_neg n0, hS]
        refine w_aload_n rfl rfl rfl ?_
        refine w_gf (t := .int 0) (v := .int _) rfl rfl rfl sp110 rfl (congrArg Value.int h49) rfl ?_
        refine w_if_eq (t := 65) (f := 55) rfl rfl rfl (fun c52 => ?_) (fun c52 => absurd c52 (by decide))
        clear c52
        refine w_aload_n rfl rfl rfl ?_
        refine w_cv (q := am_m204) (as := []) (rest := []) (st' := [_]) rfl rfl rfl rfl rfl rfl sp110 rfl rfl rfl rfl (c_signs g v s (by omega)) rfl rfl ?_
        refine w_if_ne (t := 25) (f := 72) rfl rfl rfl (fun c69 => ?_) (fun c69 => ?_)
        · obtain ⟨X, e1, e2, e3, e4, e5⟩ := sign_ok v s h49 c69
          rw [if_neg c69]
          rw [e1]
          exact ih _ (smX_tok e2) (pv_tok (e3 _ _ g)) (tv_tok X) (by have := mu_tok (e3 _ _ g) e4 e5; omega)
        · refine w_iconst (x := Int32.ofNat 0) rfl rfl (by decide) ?_
          exact w_bret rfl (by decide) (by rw [if_pos c69] <;> rfl) (by rw [if_pos c69]) rfl rfl
      refine w_aload_n rfl rfl rfl ?_
      refine w_bipush (x := Int32.ofNat 59) rfl rfl (by decide) ?_
      refine w_cv (q := am_m178) (as := [_]) (rest := []) (st' := [_]) rfl rfl rfl rfl rfl rfl sp110 rfl rfl rfl rfl (c_isSign (by omega)) rfl rfl ?_
      refine w_if_eqB (t := 48) (f := 34) rfl rfl rfl (fun c31 => ?_) (fun c31 => ?_)
      · exact go (fun z => by first | exact c31 z.1 | exact z.2.2 (by rw [s.1.2.2.2.1]; exact c45))
      · refine w_aload_n rfl rfl rfl ?_
        refine w_gf (t := .int 0) (v := .int _) rfl rfl rfl sp110 rfl (congrArg Value.int h49) rfl ?_
        refine w_if_ne (t := 48) (f := 41) rfl rfl rfl (fun c38 => absurd c38 (by decide)) (fun c38 => ?_)
        clear c38
        refine w_aload_n rfl rfl rfl ?_
        refine w_gf (t := .int 0) (v := .int _) rfl rfl rfl sp110 rfl (congrArg Value.int s.1.2.2.2.1) rfl ?_
        refine w_if_le (t := 74) (f := 48) rfl rfl rfl (fun c45 => ?_) (fun c45 => ?_)
        · have n0 : m_sumP I := And.intro c31 (And.intro h49 (by rw [s.1.2.2.2.1]; exact c45))
          rw [m_sumL_s, if_pos n0, e45, e46, e21]
          refine w_aload_n rfl rfl rfl ?_
          refine w_iconst (x := Int32.ofNat 1) rfl rfl (by decide) ?_
          refine w_cv (q := am_m199) (as := [_]) (rest := []) (st' := []) rfl rfl rfl rfl rfl rfl sp110 rfl rfl rfl rfl (c_bind (by decide) (by decide) (sm_sw0 s) (by omega)) rfl rfl ?_
          refine w_iconst (x := Int32.ofNat 1) rfl rfl (by decide) ?_
          exact w_bret rfl (by decide) rfl rfl rfl rfl
        · exact go (fun z => by first | exact c31 z.1 | exact z.2.2 (by rw [s.1.2.2.2.1]; exact c45))
    · have hS : m_sumS I = m_leaf I W H K (cz (I 134) W) C := by unfold m_sumS; rw [if_neg (by rw [h49]; decide), e45, e46, e21, e47, e48]
      have n0 : ¬ m_sumP I := fun z => absurd (h49.symm.trans z.2.1) (by decide)
      rw [m_sumL_s, if_neg n0, hS]
      refine w_aload_n rfl rfl rfl ?_
      refine w_bipush (x := Int32.ofNat 59) rfl rfl (by decide) ?_
      refine w_cv (q := am_m178) (as := [_]) (rest := []) (st' := [_]) rfl rfl rfl rfl rfl rfl sp110 rfl rfl rfl rfl (c_isSign (by omega)) rfl rfl ?_
      refine w_if_eqB (t := 48) (f := 34) rfl rfl rfl (fun c31 => ?_) (fun c31 => ?_)
      · refine w_aload_n rfl rfl rfl ?_
        refine w_gf (t := .int 0) (v := .int _) rfl rfl rfl sp110 rfl (congrArg Value.int h49) rfl ?_
        refine w_if_eq (t := 65) (f := 55) rfl rfl rfl (fun c52 => absurd c52 (by decide)) (fun c52 => ?_)
        clear c52
        refine w_aload_n rfl rfl rfl ?_
        refine w_cv (q := am_m203) (as := []) (rest := []) (st' := [_]) rfl rfl rfl rfl rfl rfl sp110 rfl rfl rfl rfl (c_leaf g s (by omega)) rfl rfl ?_
        refine w_if_eq (t := 72) (f := 62) rfl rfl rfl (fun c59 => ?_) (fun c59 => ?_)
        · refine w_iconst (x := Int32.ofNat 0) rfl rfl (by decide) ?_
          exact w_bret rfl (by decide) (by rw [if_pos c59] <;> rfl) (by rw [if_pos c59]) rfl rfl
        · refine w_goto (pc' := 25) rfl rfl ?_
          obtain ⟨X, e1, e2, e3, e4, e5⟩ := leaf_ok s h49 c59
          rw [if_neg c59]
          rw [e1]
          exact ih _ (smX_tok e2) (pv_tok (e3 _ _ g)) (tv_tok X) (by have := mu_tok (e3 _ _ g) e4 e5; omega)
      · refine w_aload_n rfl rfl rfl ?_
        refine w_gf (t := .int 0) (v := .int _) rfl rfl rfl sp110 rfl (congrArg Value.int h49) rfl ?_
        refine w_if_ne (t := 48) (f := 41) rfl rfl rfl (fun c38 => ?_) (fun c38 => absurd c38 (by decide))
        clear c38
        refine w_aload_n rfl rfl rfl ?_
        refine w_gf (t := .int 0) (v := .int _) rfl rfl rfl sp110 rfl (congrArg Value.int h49) rfl ?_
        refine w_if_eq (t := 65) (f := 55) rfl rfl rfl (fun c52 => absurd c52 (by decide)) (fun c52 => ?_)
        clear c52
        refine w_aload_n rfl rfl rfl ?_
        refine w_cv (q := am_m203) (as := []) (rest := []) (st' := [_]) rfl rfl rfl rfl rfl rfl sp110 rfl rfl rfl rfl (c_leaf g s (by omega)) rfl rfl ?_
        refine w_if_eq (t := 72) (f := 62) rfl rfl rfl (fun c59 => ?_) (fun c59 => ?_)
        · refine w_iconst (x := Int32.ofNat 0) rfl rfl (by decide) ?_
          exact w_bret rfl (by decide) (by rw [if_pos c59] <;> rfl) (by rw [if_pos c59]) rfl rfl
        · refine w_goto (pc' := 25) rfl rfl ?_
          obtain ⟨X, e1, e2, e3, e4, e5⟩ := leaf_ok s h49 c59
          rw [if_neg c59]
          rw [e1]
          exact ih _ (smX_tok e2) (pv_tok (e3 _ _ g)) (tv_tok X) (by have := mu_tok (e3 _ _ g) e4 e5; omega)
/-- the start of a sum -/
def m_su0 (I : hI) : hI := am_u (am_u (am_u (am_u (am_u I 110 45 (Int32.ofNat 0)) 110 46 (Int32.ofNat 0)) 110 47 (Int32.ofNat 0)) 110 49 (Int32.ofNat 1)) 110 50 (Int32.ofNat 1)
def m_sum (I : hI) : Int32 × hI := m_sumL 800 (m_su0 I)
theorem c_sumRead {k : Nat} {I : hI} {J : hJ} {R : hR} {f : Nat → Int32} {st : Nat} (g : pv I f st) (v : tv I) {K : Nat} (hK : K ≤ 64) (h21 : I 110 21 = Int32.ofNat K) (h48 : I 110 48 = Int32.ofNat K) (hk : 5 ≤ k) : ct k 205 [.ref 110] I J R (some (.int (m_sum I).1)) ((m_sum I).2) J R := by
  obtain ⟨k, rfl⟩ : ∃ k', k = k' + 1 := ⟨k - 1, by omega⟩
  refine ct_of (q := am_m205) (L := [_]) rfl rfl rfl rfl rfl rfl ?_
  refine w_aload_n rfl rfl rfl ?_
  refine w_iconst (x := Int32.ofNat 0) rfl rfl (by decide) ?_
  refine w_pf rfl rfl rfl sp110 rfl rfl rfl ?_
  refine w_aload_n rfl rfl rfl ?_
  refine w_iconst (x := Int32.ofNat 0) rfl rfl (by decide) ?_
  refine w_pf rfl rfl rfl sp110 rfl rfl rfl ?_
  refine w_aload_n rfl rfl rfl ?_
  refine w_iconst (x := Int32.ofNat 0) rfl rfl (by decide) ?_
  refine w_pf rfl rfl rfl sp110 rfl rfl rfl ?_
  refine w_aload_n rfl rfl rfl ?_
  refine w_iconst (x := Int32.ofNat 1) rfl rfl (by decide) ?_
  refine w_pf rfl rfl rfl sp110 rfl rfl rfl ?_
  refine w_aload_n rfl rfl rfl ?_
  refine w_iconst (x := Int32.ofNat 1) rfl rfl (by decide) ?_
  refine w_pf rfl rfl rfl sp110 rfl rfl rfl ?_
  refine lz_sum (f := f) (st := st) (by omega) 800 (m_su0 I) ⟨0, 0, K, K, 1, ⟨⟨rfl, rfl, h21, rfl, h48⟩, rfl, rfl, hK, Nat.zero_le _, fun i hi => absurd hi (by omega)⟩, rfl, Nat.le_refl _⟩ (pv_u (by omega) (by omega) (pv_u (by omega) (by omega) (pv_u (by omega) (by omega) (pv_u (by omega) (by omega) (pv_u (by omega) (by omega) g))))) v ?_
  have g4 := g.2.2.2.1
  unfold mu
  split <;> omega
