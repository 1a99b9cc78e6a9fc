/-! Texts alike: all lines. -/
theorem bd_P {p : Int32 × hI} {f : hI → Int32 × hI} {P : hI → Prop} (a : P p.2) (b : ∀ Y, P Y → P (f Y).2) : P (k_bd p f).2 := by
  unfold k_bd
  split
  · exact a
  · exact b _ a
theorem one_T0 {T st : Nat} {e : Nat → Nat} {I K : hI} {x : Int32} (h9 : T = 9 ∨ T = 36) (b : bse st I K) (d : DT T e I K) (h : I T 0 = x) : (k_one I T e).2 T 0 = x := by
  have nw : ∀ (Y : hI) A m n, T < A → Y T 0 = x → (k_new Y A m n).2 T 0 = x := fun Y A m n hA hy => by rw [fr_new (by omega) (by omega) (by omega)]; exact hy
  have nu : ∀ (Y : hI) lo hi, Y T 0 = x → (k_num Y lo hi).2 T 0 = x := fun Y lo hi hy => by rw [fr_num (by omega)]; exact hy
  have tl : ∀ (Y : hI) A n, Y T 0 = x → (k_told Y A n).2 T 0 = x := fun Y A n hy => by rw [fr_told (by omega)]; exact hy
  have uu : ∀ (Y : hI) a k v, (a ≠ T ∨ k ≠ 0) → Y T 0 = x → am_u Y a k v T 0 = x := fun Y a k v hh hy => by unfold am_u; rw [if_neg (by omega)]; exact hy
  have bl : ∀ (Y : hI) v, Y T 0 = x → u_bl Y v T 0 = x := fun Y v hy => by rw [u_bl_ne (by omega)]; exact hy
  have se : ∀ (Y : hI), Y T 0 = x → (k_semi Y).2 T 0 = x := fun Y hy => by rw [fr_semi (by omega)]; exact hy
  have tk : ∀ (Y : hI), Y T 0 = x → u_tok Y T 0 = x := fun Y hy => by rw [u_tok_n (by omega)]; exact hy
  unfold k_one
  by_cases g : I 3 4 = Int32.ofNat 17
  · rw [if_pos g]
    have b1 := tok_al (K := am_u K 110 7 (I 3 3)) (bse_c (K := K) (fun _ _ _ => rfl) (fun a i h => by unfold am_u; rw [if_neg (by omega)]) b) am_u_at.symm
    obtain ⟨s1, s2, _, _, _, s6, _⟩ := b1.2
    have lw : ∀ w, w < 3 → (k_lwr1 (u_tok I) (T + 18 + 3 * w) (e 4 + e 5 + e 6)).2 T 0 = x := by
      intro w hw
      unfold k_lwr1
      by_cases z : 0 < u_tok I (T + 18 + 3 * w) 0
      · rw [if_pos z]; exact bl _ _ (tk _ h)
      · rw [if_neg z]
        have l0 : u_tok I (T + 18 + 3 * w) 0 = Int32.ofNat (e (4 + w)) := (u_tok_n (by omega)).trans (d.2.2.2.2.2.2.2.2.1 w hw).1
        have s64 := d.2.2.2.2.2.1
        have n0 : e (4 + w) ≤ 64 := by
          have : w = 0 ∨ w = 1 ∨ w = 2 := by omega
          rcases this with rfl | rfl | rfl
          · show e 4 ≤ 64; omega
          · show e 5 ≤ 64; omega
          · show e 6 ≤ 64; omega
        have A0 : lwA (T + 18 + 3 * w) := by unfold lwA; omega
        have k := (k_rdI_e (c := e 4 + e 5 + e 6) A0 s1 s2 s6.1 (by have := s6.2; omega) (am_zer l0 n0 z) s64).1
        rw [k.1 T (by omega) (by omega) (by omega) (by omega) (by omega)]
        exact tk _ h
    unfold k_lwr
    split
    · exact lw 0 (by omega)
    · split
      · exact lw 1 (by omega)
      · split
        · exact lw 2 (by omega)
        · exact bl _ _ (tk _ h)
  · rw [if_neg g]
    refine bd_P (P := fun Y => Y T 0 = x) ?_ (fun Y hy => se Y hy)
    unfold k_line
    split
    · exact bd_P (P := fun Y => Y T 0 = x) (nw _ _ _ _ (by omega) h) fun Y hy => bd_P (P := fun Y => Y T 0 = x) (nu _ _ _ hy) fun Y hy => bd_P (P := fun Y => Y T 0 = x) (nu _ _ _ (uu _ _ _ _ (by omega) hy)) fun Y hy => uu _ _ _ _ (by omega) hy
    · split
      · exact bd_P (P := fun Y => Y T 0 = x) (nw _ _ _ _ (by omega) h) fun Y hy => bd_P (P := fun Y => Y T 0 = x) (tl _ _ _ hy) fun Y hy => bd_P (P := fun Y => Y T 0 = x) (nu _ _ _ (uu _ _ _ _ (by omega) (uu _ _ _ _ (by omega) hy))) fun Y hy => bd_P (P := fun Y => Y T 0 = x) (nu _ _ _ (uu _ _ _ _ (by omega) hy)) fun Y hy => uu _ _ _ _ (by omega) hy
      · split
        · exact bd_P (P := fun Y => Y T 0 = x) (nw _ _ _ _ (by omega) h) fun Y hy => bd_P (P := fun Y => Y T 0 = x) (nu _ _ _ hy) fun Y hy => uu _ _ _ _ (by omega) hy
        · split
          · refine bd_P (P := fun Y => Y T 0 = x) (tl _ _ _ h) fun Y hy => ?_
            unfold k_rg1
            split
            · exact bd_P (P := fun Y => Y T 0 = x) (tl _ _ _ hy) fun Y hy => uu _ _ _ _ (by omega) hy
            · exact bl _ _ hy
          · split
            · unfold k_slc
              split
              · exact bd_P (P := fun Y => Y T 0 = x) (tl _ _ _ h) fun Y hy => bd_P (P := fun Y => Y T 0 = x) (nu _ _ _ (uu _ _ _ _ (by omega) hy)) fun Y hy => bd_P (P := fun Y => Y T 0 = x) (nu _ _ _ (uu _ _ _ _ (by omega) hy)) fun Y hy => uu _ _ _ _ (by omega) (uu _ _ _ _ (by omega) (uu _ _ _ _ (by omega) hy))
              · exact bl _ _ h
            · split
              · unfold k_sto
                split
                · exact bd_P (P := fun Y => Y T 0 = x) (nu _ _ _ h) fun Y hy => uu _ _ _ _ (by omega) (uu _ _ _ _ (by omega) hy)
                · exact bl _ _ h
              · split
                · unfold k_see
                  split
                  · exact bd_P (P := fun Y => Y T 0 = x) (nu _ _ _ h) fun Y hy => uu _ _ _ _ (by omega) (uu _ _ _ _ (by omega) hy)
                  · exact bl _ _ h
                · exact bl _ _ h
theorem tx_eq {T st : Nat} {f : Nat → Int32} (h9 : T = 9 ∨ T = 36) : ∀ j n l I K e, nx st I K → DT T e I K → I T 0 = Int32.ofNat l → pv K f st → bI01 K → mu K st < j → mu K st < n → TXR T K (k_all T j I) (m_txR n l K) := by
  intro j
  induction j with
  | zero => intro n l I K e _ _ _ _ _ hj; exact absurd hj (Nat.not_lt_zero _)
  | succ j ih =>
    intro n l I K e N d h0 pk b01 hj hn
    obtain ⟨n, rfl⟩ : ∃ n', n = n' + 1 := ⟨n - 1, by omega⟩
    obtain ⟨_, _, _, _, _, _, t0⟩ := tk_cases N.2.2.2.2
    have d1 : DT T e (u_tok I) K := DT_e (by omega) e3_tok eT_rf d
    obtain ⟨x1, x2⟩ := lnX_D d
    rw [m_txR_s, x1]
    by_cases g : u_tok I 3 4 = 0
    · rw [k_all_e g, if_pos (show K 110 8 = 0 from t0.mp g)]
      exact Or.inr ⟨i01, N.2.1.2.2.2.2.2.2, mF_rf, l, e, rfl, (u_tok_n (by omega)).trans h0, d1, x2, b01⟩
    · rw [if_neg (show ¬ K 110 8 = 0 from fun z => g (t0.mpr z))]
      have L := line_eq h9 N.2.1 N.2.2 d1
      have T0 := one_T0 h9 N.2.1 d1 ((u_tok_n (by omega)).trans h0)
      have ek := k_one_D d1
      rcases L with ⟨L1, L2, L3, L4⟩ | ⟨L1, L2, L3, L4, e', L5⟩
      · rw [k_all_0 g ek L1, if_pos L2]
        exact Or.inl ⟨L1, rfl, L3, L4⟩
      · rw [k_all_1 g ek L1, if_neg L2, T0, ← Int32.ofNat_add]
        obtain ⟨X, q1, q2, q3, q4⟩ := ln_ok x2 pk b01 L2
        have mx : mu (m_tok X) st < mu X st := mu_tok q2.1 rfl q4
        have ml := q2.2.1
        rw [q1] at L3 L4 L5 ⊢
        have R := ih n (l + 1) (am_u (k_one (u_tok I) T e).2 T 0 (Int32.ofNat (l + 1))) (m_tok X) e' (nx_c L3 (fun b i u => am_u_na (by omega)) (fun _ _ _ => rfl)) (DT_0 h9 L5) am_u_at (pv_tok q2.1) (b01_c (p8_tok p8_rf) q3) (by omega) (by omega)
        rcases R with ⟨R1, R2, R3, R4⟩ | ⟨R1, R2, R3, R4⟩
        · exact Or.inl ⟨R1, R2, R3, mF_tr L4 R4⟩
        · exact Or.inr ⟨R1, R2, mF_tr L4 R3, R4⟩
