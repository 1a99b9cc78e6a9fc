/-! Texts alike: any line, all lines. -/
theorem lw_cases {kc vc kr wr : Int32} (t : tkR kc vc kr wr) : (∃ w, w < 3 ∧ kc = Int32.ofNat (18 + w) ∧ kr = Int32.ofNat 1 ∧ wr = Int32.ofNat (8 + w)) ∨ ((¬ kc = Int32.ofNat 18 ∧ ¬ kc = Int32.ofNat 19 ∧ ¬ kc = Int32.ofNat 20) ∧ ¬ (kr = Int32.ofNat 1 ∧ ¬ wr < Int32.ofNat 8 ∧ ¬ Int32.ofNat 10 < wr)) := by
  rcases t with ⟨h1, h2⟩ | ⟨r, hr, h1, h2, h3⟩ | ⟨h1, h2, h3⟩ | ⟨h1, h2, h3⟩ | ⟨n, hn, h1, h2, h3⟩ | ⟨n, hn, h1, h2, h3⟩ | ⟨h1, h2⟩
  · subst h1 h2
    exact Or.inr ⟨by decide, fun z => absurd z.1 (by decide)⟩
  · subst h1 h2 h3
    have key : ∀ r, r < 21 → (8 ≤ r ∧ r < 11) ∨ ((¬ Int32.ofNat (10 + pw r) = Int32.ofNat 18 ∧ ¬ Int32.ofNat (10 + pw r) = Int32.ofNat 19 ∧ ¬ Int32.ofNat (10 + pw r) = Int32.ofNat 20) ∧ ¬ (¬ Int32.ofNat r < Int32.ofNat 8 ∧ ¬ Int32.ofNat 10 < Int32.ofNat r)) := by decide
    rcases key r hr with ⟨a, b⟩ | ⟨a, b⟩
    · refine Or.inl ⟨r - 8, by omega, ?_, rfl, by rw [show 8 + (r - 8) = r by omega]⟩
      unfold pw
      rw [if_neg (by omega), if_neg (by omega), show 18 + (r - 8) = 10 + r by omega]
    · exact Or.inr ⟨a, fun z => b z.2⟩
  · subst h1 h2
    exact Or.inr ⟨by decide, fun z => absurd z.1 (by decide)⟩
  · subst h1 h2
    exact Or.inr ⟨by decide, fun z => absurd z.1 (by decide)⟩
  · subst h1 h2 h3
    refine Or.inr ⟨?_, fun z => absurd z.1 (by decide)⟩
    rcases hn with rfl | rfl | rfl | rfl | rfl | rfl | rfl | rfl <;> decide
  · subst h1 h2 h3
    refine Or.inr ⟨?_, fun z => absurd z.1 (by decide)⟩
    have key : ∀ n, n < 6 → (¬ Int32.ofNat (43 + n) = Int32.ofNat 18 ∧ ¬ Int32.ofNat (43 + n) = Int32.ofNat 19 ∧ ¬ Int32.ofNat (43 + n) = Int32.ofNat 20) := by decide
    exact key n hn
  · subst h1 h2
    exact Or.inr ⟨by decide, fun z => absurd z.1 (by decide)⟩
theorem ln_cases {kc vc kr wr : Int32} (t : tkR kc vc kr wr) : (∃ r, r < 8 ∧ kc = Int32.ofNat (10 + r) ∧ kr = Int32.ofNat 1 ∧ wr = Int32.ofNat r) ∨ ((∀ j, j < 8 → ¬ kc = Int32.ofNat (10 + j)) ∧ ¬ (kr = Int32.ofNat 1 ∧ ¬ Int32.ofNat 7 < wr)) := by
  rcases t with ⟨h1, h2⟩ | ⟨r, hr, h1, h2, h3⟩ | ⟨h1, h2, h3⟩ | ⟨h1, h2, h3⟩ | ⟨n, hn, h1, h2, h3⟩ | ⟨n, hn, h1, h2, h3⟩ | ⟨h1, h2⟩
  · subst h1 h2
    exact Or.inr ⟨by decide, fun z => absurd z.1 (by decide)⟩
  · subst h1 h2 h3
    have key : ∀ r, r < 21 → (r < 8 ∧ pw r = r) ∨ ((∀ j, j < 8 → ¬ Int32.ofNat (10 + pw r) = Int32.ofNat (10 + j)) ∧ Int32.ofNat 7 < Int32.ofNat r) := by decide
    rcases key r hr with ⟨a, b⟩ | ⟨a, b⟩
    · exact Or.inl ⟨r, a, by rw [b], rfl, rfl⟩
    · exact Or.inr ⟨a, fun z => z.2 b⟩
  · subst h1 h2
    exact Or.inr ⟨by decide, fun z => absurd z.1 (by decide)⟩
  · subst h1 h2
    exact Or.inr ⟨by decide, fun z => absurd z.1 (by decide)⟩
  · subst h1 h2 h3
    refine Or.inr ⟨?_, fun z => absurd z.1 (by decide)⟩
    rcases hn with rfl | rfl | rfl | rfl | rfl | rfl | rfl | rfl <;> decide
  · subst h1 h2 h3
    refine Or.inr ⟨?_, fun z => absurd z.1 (by decide)⟩
    have key : ∀ n, n < 6 → (∀ j, j < 8 → ¬ Int32.ofNat (43 + n) = Int32.ofNat (10 + j)) := by decide
    exact key n hn
  · subst h1 h2
    exact Or.inr ⟨by decide, fun z => absurd z.1 (by decide)⟩
theorem LNR_t {T st : Nat} {K K1 : hI} {p r : Int32 × hI} (m : mF K K1) (h : LNR T st K1 p r) : LNR T st K p r := by
  rcases h with ⟨h1, h2, h3, h4⟩ | ⟨h1, h2, h3, h4, h5⟩
  · exact Or.inl ⟨h1, h2, h3, mF_tr m h4⟩
  · exact Or.inr ⟨h1, h2, h3, mF_tr m h4, h5⟩
theorem law_eq {T st : Nat} {e : Nat → Nat} {I K : hI} (h9 : T = 9 ∨ T = 36) (b : bse st I K) (c : cur I K) (d : DT T e I K) : LNR T st K (k_lwr I T (e 4 + e 5 + e 6)) (m_lwL K) := by
  have N := nx_kw b c
  have d1 : DT T e (u_tok I) (m_tok K) := DT_e (by omega) e3_tok eT_tok d
  refine LNR_t (mF_e eT_tok) ?_
  unfold k_lwr m_lwL
  rcases lw_cases N.2.2.2.2 with ⟨w, hw, e1, e2, e3⟩ | ⟨⟨e1, e2, e3⟩, e4⟩
  · have key : ∀ w, w < 3 → ¬ Int32.ofNat (8 + w) < Int32.ofNat 8 ∧ ¬ Int32.ofNat 10 < Int32.ofNat (8 + w) := by decide
    have p : m_lwP K := ⟨e2, by show ¬ m_tok K 110 9 < _ ∧ ¬ _ < m_tok K 110 9; rw [e3]; exact key w hw⟩
    have el : lk K = 3 + w := by
      show 3 + nn (m_tok K 110 9) - 8 = _
      rw [e3, nn_ofNat (by omega)]; omega
    rw [@if_pos _ (m_lwPD K) p]
    have L := lwr_eq h9 hw N.2.1 N.2.2 d1 (lk K) el
    have ek : (if u_tok I 3 4 = Int32.ofNat 18 then k_lwr1 (u_tok I) (T + 18) (e 4 + e 5 + e 6) else if u_tok I 3 4 = Int32.ofNat 19 then k_lwr1 (u_tok I) (T + 21) (e 4 + e 5 + e 6) else if u_tok I 3 4 = Int32.ofNat 20 then k_lwr1 (u_tok I) (T + 24) (e 4 + e 5 + e 6) else (0, u_bl (u_tok I) (Int32.ofNat 1))) = k_lwr1 (u_tok I) (T + 18 + 3 * w) (e 4 + e 5 + e 6) := by
      rw [e1]
      have : w = 0 ∨ w = 1 ∨ w = 2 := by omega
      rcases this with rfl | rfl | rfl
      · rw [if_pos rfl]
      · rw [if_neg (by decide), if_pos rfl]
      · rw [if_neg (by decide), if_neg (by decide), if_pos rfl]
    rw [ek]
    exact L
  · rw [if_neg e1, if_neg e2, if_neg e3, @if_neg _ (m_lwPD K) e4]
    exact Or.inl ⟨rfl, rfl, FL_nx N, mF_e eT_wr⟩
theorem line_eq {T st : Nat} {e : Nat → Nat} {I K : hI} (h9 : T = 9 ∨ T = 36) (b : bse st I K) (c : cur I K) (d : DT T e I K) : LNR T st K (k_one I T e) (m_ln K (e 0) (e 1) (e 2) (e 3)) := by
  unfold k_one m_ln
  rcases ln_cases c.2.2 with ⟨r, hr, e1, e2, e3⟩ | ⟨e1, e2⟩
  · have n7 : ∀ r, r < 8 → ¬ Int32.ofNat 7 < Int32.ofNat r := by decide
    rw [if_pos (show K 110 8 = Int32.ofNat 1 ∧ ¬ Int32.ofNat 7 < K 110 9 from ⟨e2, by rw [e3]; exact n7 r hr⟩)]
    have : r = 0 ∨ r = 1 ∨ r = 2 ∨ r = 3 ∨ r = 4 ∨ r = 5 ∨ r = 6 ∨ r = 7 := by omega
    rcases this with rfl | rfl | rfl | rfl | rfl | rfl | rfl | rfl
    · rw [if_neg (by rw [e1]; decide), if_pos e3]
      have : k_line I T e = k_mkr I T (e 0) := by unfold k_line; rw [if_pos e1]
      rw [this]; exact semi_eq h9 (mk_eq h9 b c d)
    · rw [if_neg (by rw [e1]; decide), if_neg (by rw [e3]; decide), if_pos e3]
      have : k_line I T e = k_rp I T (e 1) (e 0) := by unfold k_line; rw [if_neg (by rw [e1]; decide), if_pos e1]
      rw [this]; exact semi_eq h9 (rp_eq h9 b c d)
    · rw [if_neg (by rw [e1]; decide), if_neg (by rw [e3]; decide), if_neg (by rw [e3]; decide), if_pos e3]
      have : k_line I T e = k_sp I T (e 2) := by unfold k_line; rw [if_neg (by rw [e1]; decide), if_neg (by rw [e1]; decide), if_pos e1]
      rw [this]; exact semi_eq h9 (sp_eq h9 b c d)
    · rw [if_neg (by rw [e1]; decide), if_neg (by rw [e3]; decide), if_neg (by rw [e3]; decide), if_neg (by rw [e3]; decide), if_pos e3]
      have : k_line I T e = k_rg I T (e 1) (e 2) := by unfold k_line; rw [if_neg (by rw [e1]; decide), if_neg (by rw [e1]; decide), if_neg (by rw [e1]; decide), if_pos e1]
      rw [this]; exact semi_eq h9 (rg_eq h9 b c d)
    · rw [if_neg (by rw [e1]; decide), if_neg (by rw [e3]; decide), if_neg (by rw [e3]; decide), if_neg (by rw [e3]; decide), if_neg (by rw [e3]; decide), if_pos e3]
      have : k_line I T e = k_slc I T (e 3) (e 2) := by unfold k_line; rw [if_neg (by rw [e1]; decide), if_neg (by rw [e1]; decide), if_neg (by rw [e1]; decide), if_neg (by rw [e1]; decide), if_pos e1]
      rw [this]; exact semi_eq h9 (sl_eq h9 b c d)
    · rw [if_neg (by rw [e1]; decide), if_neg (by rw [e3]; decide), if_neg (by rw [e3]; decide), if_neg (by rw [e3]; decide), if_neg (by rw [e3]; decide), if_neg (by rw [e3]; decide), if_pos e3]
      have : k_line I T e = k_sto I T := by unfold k_line; rw [if_neg (by rw [e1]; decide), if_neg (by rw [e1]; decide), if_neg (by rw [e1]; decide), if_neg (by rw [e1]; decide), if_neg (by rw [e1]; decide), if_pos e1]
      rw [this]; exact semi_eq h9 (sto_eq h9 b c d)
    · rw [if_neg (by rw [e1]; decide), if_neg (by rw [e3]; decide), if_neg (by rw [e3]; decide), if_neg (by rw [e3]; decide), if_neg (by rw [e3]; decide), if_neg (by rw [e3]; decide), if_neg (by rw [e3]; decide), if_pos e3]
      have : k_line I T e = k_see I T := by unfold k_line; rw [if_neg (by rw [e1]; decide), if_neg (by rw [e1]; decide), if_neg (by rw [e1]; decide), if_neg (by rw [e1]; decide), if_neg (by rw [e1]; decide), if_neg (by rw [e1]; decide), if_pos e1]
      rw [this]; exact semi_eq h9 (see_eq h9 b c d)
    · rw [if_pos e1, if_neg (by rw [e3]; decide), if_neg (by rw [e3]; decide), if_neg (by rw [e3]; decide), if_neg (by rw [e3]; decide), if_neg (by rw [e3]; decide), if_neg (by rw [e3]; decide), if_neg (by rw [e3]; decide)]
      exact law_eq h9 b c d
  · rw [if_neg (e1 7 (by omega)), if_neg e2]
    have : k_line I T e = (0, u_bl I (Int32.ofNat 1)) := by
      unfold k_line
      rw [if_neg (e1 0 (by omega)), if_neg (e1 1 (by omega)), if_neg (e1 2 (by omega)), if_neg (e1 3 (by omega)), if_neg (e1 4 (by omega)), if_neg (e1 5 (by omega)), if_neg (e1 6 (by omega))]
    rw [this, k_bd0 rfl]
    exact Or.inl ⟨rfl, rfl, FL_bl c.2.1, mF_e eT_wr⟩
theorem cI_D {T : Nat} {e : Nat → Nat} {I K : hI} (d : DT T e I K) : cI I T 0 = e 0 ∧ cI I T 1 = e 1 ∧ cI I T 2 = e 2 ∧ cI I T 3 = e 3 ∧ cI I T 4 = e 4 ∧ cI I T 5 = e 5 ∧ cI I T 6 = e 6 := by
  obtain ⟨d1, d2, d3, d4, d5, d6⟩ := d
  have b := d6.1
  refine ⟨?_, ?_, ?_, ?_, ?_, ?_, ?_⟩
  · show nn (I (T + 1) 1) = _; rw [d1.2.1, nn_ofNat (by have := d1.1; omega)]
  · show nn (I (T + 5) 1) = _; rw [d2.2.1, nn_ofNat (by have := d2.1; omega)]
  · show nn (I (T + 11) 1) = _; rw [d3.2.1, nn_ofNat (by have := d3.1; omega)]
  · show nn (I T 11) = _; rw [d4.2.1, nn_ofNat (by have := d4.1; omega)]
  · show nn (I (T + 18 + 3 * 0) 0) = _; rw [(d6.2.2.2.1 0 (by omega)).1, nn_ofNat (by show e 4 < _; omega)]
  · show nn (I (T + 18 + 3 * 1) 0) = _; rw [(d6.2.2.2.1 1 (by omega)).1, nn_ofNat (by show e 5 < _; omega)]
  · show nn (I (T + 18 + 3 * 2) 0) = _; rw [(d6.2.2.2.1 2 (by omega)).1, nn_ofNat (by show e 6 < _; omega)]
theorem k_one_D {T : Nat} {e : Nat → Nat} {I K : hI} (d : DT T e I K) : k_one I T (cI I T) = k_one I T e := by
  obtain ⟨e0, e1, e2, e3, e4, e5, e6⟩ := cI_D d
  unfold k_one k_line
  rw [e0, e1, e2, e3, e4, e5, e6]
theorem lnX_D {T : Nat} {e : Nat → Nat} {I K : hI} (d : DT T e I K) : m_lnX K = m_ln K (e 0) (e 1) (e 2) (e 3) ∧ rc K (e 0) (e 1) (e 2) (e 3) (e 4 + e 5 + e 6) := by
  obtain ⟨d1, d2, d3, d4, d5, d6⟩ := d
  have a1 := d1.1
  have a2 := d2.1
  have a3 := d3.1
  have a4 := d4.1
  refine ⟨?_, ⟨d1.2.2.1, a1⟩, ⟨d2.2.2.1, a2⟩, ⟨d3.2.2.1, a3⟩, ⟨d4.2.2.1, a4⟩, d6.2.1, d6.2.2.1, d6.1⟩
  unfold m_lnX
  rw [d1.2.2.1, d2.2.2.1, d3.2.2.1, d4.2.2.1, nn_ofNat (by omega), nn_ofNat (by omega), nn_ofNat (by omega), nn_ofNat (by omega)]
theorem DT_0 {T : Nat} {e : Nat → Nat} {I K : hI} {x : Int32} (h9 : T = 9 ∨ T = 36) (d : DT T e I K) : DT T e (am_u I T 0 x) K := ⟨D1_c (fun b i u v => am_u_na (by omega)) (fun _ _ _ => rfl) d.1, D2_c (fun b i u v => am_u_na (by omega)) (fun _ _ _ => rfl) d.2.1, D3_c (fun b i u v => am_u_na (by omega)) (fun _ _ _ => rfl) d.2.2.1, D4_c (fun b i u => by unfold am_u; rw [if_neg (by omega)]) (fun _ _ _ => rfl) d.2.2.2.1, D5_c (fun b i u => by unfold am_u; rw [if_neg (by omega)]) (fun _ _ _ => rfl) d.2.2.2.2.1, D6_c (fun b i u v => am_u_na (by omega)) (fun _ _ _ => rfl) d.2.2.2.2.2⟩
/-- what a text read comes to -/
def TXR (T : Nat) (K : hI) (p : Int32 × hI) (q : Option Nat × hI) : Prop := (p.1 = 0 ∧ q.1 = none ∧ FL p.2 q.2 ∧ mF K q.2) ∨ (¬ p.1 = 0 ∧ FL p.2 q.2 ∧ mF K q.2 ∧ ∃ l e, q.1 = some l ∧ p.2 T 0 = Int32.ofNat l ∧ DT T e p.2 q.2 ∧ rc q.2 (e 0) (e 1) (e 2) (e 3) (e 4 + e 5 + e 6) ∧ bI01 q.2)
