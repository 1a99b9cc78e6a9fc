/-! Calls alike (seventeen): allot. -/
theorem REL_w {T O : Nat} {N : Nat → Nat} {u q : Nat} {I I1 K K1 : hI} {J L : hJ} (h : REL T O N u q I J K L) (c : ∀ a i, a < 102 → I1 a i = I a i) (m : ∀ a i, a < 146 ∨ 148 < a → ¬ (a = 110 ∧ (i = 2 ∨ (74 ≤ i ∧ i ≤ 78))) → K1 a i = K a i) : REL T O N u q I1 J K1 L := by
  obtain ⟨a, b, cc, d, e, g, f⟩ := h
  exact ⟨rA_c (fun a i x y => c a i (by omega)) (fun a i x => m a i (by omega) (by omega)) a, rB_c (fun a i x y => c a i (by omega)) (fun a i x y => m a i (by omega) (by omega)) rfl rfl b, rC_c (fun a i x => c a i (by omega)) (fun a i x => m a i (by omega) (by omega)) rfl rfl cc, rD_c (fun a i x y => c a i (by omega)) (fun a i x => m a i (by omega) (by omega)) d, rE_c (fun a i x y => c a i (by omega)) (fun a i x => m a i (by omega) (by omega)) e, rG_c (fun a i x => c a i (by omega)) (fun a i x => m a i (by omega) (by omega)) g, rF_c a (fun a i x => c a i (by omega)) (fun a i x => m a i (by omega) (by omega)) f⟩
theorem l5_s (n : Nat) (K : hI) : m_l5 (n + 1) K = m_l5S n (m_l5 n K) := rfl
theorem l5_n {K : hI} : ∀ n a i, a ≠ 146 → ¬ (a = 110 ∧ i = 74) → m_l5 n K a i = K a i := by
  intro n
  induction n with
  | zero => intro a i h1 h2; show am_u K 110 74 (Int32.ofNat 0) a i = K a i; unfold am_u; rw [if_neg (by omega)]
  | succ n ih =>
    intro a i h1 h2
    rw [l5_s]
    unfold m_l5S
    split
    · split
      · exact ih a i h1 h2
      · have e : ∀ (X : hI) (v : Int32), am_u X 110 74 v a i = X a i := fun X v => by unfold am_u; rw [if_neg h2]
        rw [e, am_u_na h1]; exact ih a i h1 h2
    · exact ih a i h1 h2
theorem l5_full {K : hI} {r : Nat} (h : nn (m_l5 r K 110 74) = 5) : ∀ j, m_l5 (r + j) K = m_l5 r K := by
  intro j
  induction j with
  | zero => rfl
  | succ j ih =>
    rw [← Nat.add_assoc, l5_s, ih]
    unfold m_l5S
    split
    · first | rfl | rw [if_pos h]
    · rfl
theorem g1_v {I0 K : hI} {n : Nat} (hn : n ≤ 8) (fr : ∀ r, r < n → (k_fr I0 63 r ↔ (K 138 r = Int32.ofNat 1 ∧ K 140 r < 0))) : ∀ j r c I, r + j = n → (∀ a i, a ≠ 102 → a ≠ 103 → a ≠ 104 → I a i = I0 a i) → nn (m_l5 r K 110 74) = c → c ≤ 5 → (∀ k, k < c → I 103 k = m_l5 r K 146 k ∧ okn (m_l5 r K 146 k) 8 ∧ I 104 k = I0 65 (nn (m_l5 r K 146 k))) → nn (m_l5 n K 110 74) = (k_g1 63 j r c I).1 ∧ ∀ k, k < (k_g1 63 j r c I).1 → (k_g1 63 j r c I).2 103 k = m_l5 n K 146 k ∧ okn (m_l5 n K 146 k) 8 ∧ (k_g1 63 j r c I).2 104 k = I0 65 (nn (m_l5 n K 146 k)) := by
  intro j
  induction j with
  | zero =>
    intro r c I e f h1 h2 h3
    obtain rfl : r = n := by omega
    exact ⟨h1, h3⟩
  | succ j ih =>
    intro r c I e f h1 h2 h3
    rw [k_g1_s]
    by_cases c5 : c < 5
    · rw [if_pos c5]
      have fr1 : k_fr I 63 r ↔ (K 138 r = Int32.ofNat 1 ∧ K 140 r < 0) := by
        rw [← fr r (by omega)]
        show (I 64 r = _ ∧ I 66 r = _) ↔ (I0 64 r = _ ∧ I0 66 r = _)
        rw [f 64 r (by decide) (by decide) (by decide), f 66 r (by decide) (by decide) (by decide)]
      have es : m_l5 (r + 1) K = m_l5S r (m_l5 r K) := rfl
      unfold m_l5S at es
      rw [l5_n r 138 r (by decide) (by omega), l5_n r 140 r (by decide) (by omega), h1] at es
      by_cases g : k_fr I 63 r
      · rw [if_pos g]
        rw [if_pos (fr1.mp g), if_neg (by omega)] at es
        have e65 : I 65 r = I0 65 r := f 65 r (by decide) (by decide) (by decide)
        refine ih (r + 1) (c + 1) _ (by omega) (fun a i x y z => ?_) ?_ (by omega) (fun k hk => ?_)
        · rw [am_u_na x, am_u_na z, am_u_na y]; exact f a i x y z
        · rw [es, am_u_at, nn_ofNat (by omega)]
        · have e3 : am_u (am_u (am_u I 103 c (Int32.ofNat r)) 104 c (I (63 + 2) r)) 102 2 (Int32.ofNat (c + 1)) 103 k = am_u I 103 c (Int32.ofNat r) 103 k := (am_u_na (by decide)).trans (am_u_na (by decide))
          have e4 : am_u (am_u (am_u I 103 c (Int32.ofNat r)) 104 c (I (63 + 2) r)) 102 2 (Int32.ofNat (c + 1)) 104 k = am_u (am_u I 103 c (Int32.ofNat r)) 104 c (I (63 + 2) r) 104 k := am_u_na (by decide)
          have e6 : m_l5 (r + 1) K 146 k = am_u (m_l5 r K) 146 c (Int32.ofNat r) 146 k := by rw [es]; exact am_u_na (by decide)
          rw [e3, e4, e6]
          by_cases ek : k = c
          · subst ek
            rw [am_u_at, am_u_at, am_u_at, nn_ofNat (by omega)]
            exact ⟨rfl, okn_of (by omega) (by decide), e65⟩
          · rw [am_u_nk ek, am_u_nk ek, am_u_nk ek, am_u_na (by decide)]; exact h3 k (by omega)
      · rw [if_neg g]
        rw [if_neg (fun z => g (fr1.mpr z))] at es
        refine ih (r + 1) c I (by omega) f (by rw [es]; exact h1) h2 (fun k hk => ?_)
        rw [es]; exact h3 k hk
    · rw [if_neg c5]
      have e5 := l5_full (K := K) (r := r) (by omega) (j + 1)
      rw [e] at e5
      rw [e5]; exact ⟨h1, h3⟩
theorem k_bear_c {I I1 : hI} {S : Nat} {y : Int32} (h : ∀ a i, S + 1 ≤ a → a ≤ S + 3 → I1 a i = I a i) : ∀ n, k_bear I1 S y n = k_bear I S y n := by
  intro n
  induction n with
  | zero => rfl
  | succ n ih => rw [k_bear_s, k_bear_s, ih, h (S + 1) _ (by omega) (by omega), h (S + 2) _ (by omega) (by omega), h (S + 3) _ (by omega) (by omega)]
theorem k_bear_N {I : hI} {S : Nat} {y : Int32} (h : ∀ r, r < 8 → okn (I (S + 2) r) 1000) : ∀ n, n ≤ 8 → ∃ b, b ≤ 1000 * n ∧ k_bear I S y n = Int32.ofNat b := by
  intro n
  induction n with
  | zero => intro _; exact ⟨0, Nat.le_refl _, rfl⟩
  | succ n ih =>
    intro hn
    obtain ⟨b, b1, b2⟩ := ih (by omega)
    rw [k_bear_s]
    split
    · obtain ⟨h1, h2⟩ := h n (by omega)
      exact ⟨b + nn (I (S + 2) n), by omega, by rw [b2, Int32.ofNat_add, ← h1]⟩
    · exact ⟨b, by omega, b2⟩
theorem g2_v {I0 : hI} {T ns : Nat} {so : Nat → Nat} {h : Nat → Bool} {be lo : Nat → Nat} (hT : T = 9 ∨ T = 36) (bd : (∀ s, be s < 10000) ∧ (∀ s, lo s < 1000)) (v : ∀ s, s < ns → (I0 67 s = 0 ↔ h s = true) ∧ k_bear I0 63 (Int32.ofNat s) 8 = Int32.ofNat (be s) ∧ I0 (T + 13) s = Int32.ofNat (lo s)) : ∀ j r I, r + j = ns → (∀ a i, a ≠ 102 → a ≠ 105 → a ≠ 106 → I a i = I0 a i) → (∀ s, s < r → h s = true → I 105 (al_cnt h s) = Int32.ofNat s ∧ I 106 (al_cnt h s) = Int32.ofInt (((be s + al_sum ns so s 0 0 : Nat) : Int) - (lo s : Int))) → I 102 8 = Int32.ofNat (al_bor ns so h be lo 0 0 r) → (k_g2 T 63 j r (al_cnt h r) I).1 = al_cnt h ns ∧ (∀ s, s < ns → h s = true → (k_g2 T 63 j r (al_cnt h r) I).2 105 (al_cnt h s) = Int32.ofNat s ∧ (k_g2 T 63 j r (al_cnt h r) I).2 106 (al_cnt h s) = Int32.ofInt (((be s + al_sum ns so s 0 0 : Nat) : Int) - (lo s : Int))) ∧ (k_g2 T 63 j r (al_cnt h r) I).2 102 8 = Int32.ofNat (al_bor ns so h be lo 0 0 ns) := by
  intro j
  induction j with
  | zero =>
    intro r I e f h1 h2
    obtain rfl : r = ns := by omega
    exact ⟨rfl, h1, h2⟩
  | succ j ih =>
    intro r I e f h1 h2
    obtain ⟨v1, v2, v3⟩ := v r (by omega)
    rw [k_g2_s, show I (63 + 4) r = I0 67 r from f 67 r (by decide) (by decide) (by decide)]
    by_cases g : h r = true
    · rw [if_pos (v1.mpr g), ← al_cnt1 g]
      have fn : ∀ a i, a ≠ 102 → a ≠ 105 → a ≠ 106 → k_gsI T 63 r (al_cnt h r) I a i = I a i := fun a i x y z => congrFun (k_gsI_ne x y z) i
      have eb : k_bear (am_u I 105 (al_cnt h r) (Int32.ofNat r)) 63 (Int32.ofNat r) 8 = Int32.ofNat (be r) := by
        rw [k_bear_c (I := I0) (fun a i x y => by rw [am_u_na (by omega)]; exact f a i (by omega) (by omega) (by omega)), v2]
      have ev : k_bear (am_u I 105 (al_cnt h r) (Int32.ofNat r)) 63 (Int32.ofNat r) 8 - I (T + 13) r = Int32.ofInt (((be r + al_sum ns so r 0 0 : Nat) : Int) - (lo r : Int)) := by
        rw [eb, f (T + 13) r (by omega) (by omega) (by omega), v3, ← Int32.ofInt_eq_ofNat, ← Int32.ofInt_eq_ofNat, ← Int32.ofInt_sub]
        rfl
      refine ih (r + 1) _ (by omega) (fun a i x y z => (fn a i x y z).trans (f a i x y z)) (fun s hs hs2 => ?_) ?_
      · have e5 : k_gsI T 63 r (al_cnt h r) I 105 (al_cnt h s) = am_u I 105 (al_cnt h r) (Int32.ofNat r) 105 (al_cnt h s) := (am_u_na (by decide)).trans ((am_u_na (by decide)).trans (am_u_na (by decide)))
        have e6 : k_gsI T 63 r (al_cnt h r) I 106 (al_cnt h s) = am_u (am_u I 105 (al_cnt h r) (Int32.ofNat r)) 106 (al_cnt h r) (Int32.ofInt (((be r + al_sum ns so r 0 0 : Nat) : Int) - (lo r : Int))) 106 (al_cnt h s) := by
          unfold k_gsI; rw [ev]; exact (am_u_na (by decide)).trans (am_u_na (by decide))
        rw [e5, e6]
        by_cases es : s = r
        · rw [es, am_u_at, am_u_at]; exact ⟨rfl, rfl⟩
        · have nc := al_cnt_ne hs2 g es
          rw [am_u_nk nc, am_u_nk nc, am_u_na (by decide)]
          exact h1 s (by omega) hs2
      · unfold k_gsI
        rw [am_u_nk (by decide), am_u_at, ev, h2, sg_tm g (bd.1 r) (bd.2 r) (Nat.zero_le _), al_bor_s, Int32.ofNat_add]
    · rw [if_neg (fun z => g (v1.mp z)), ← al_cnt0 g]
      refine ih (r + 1) I (by omega) f (fun s hs hs2 => ?_) ?_
      · by_cases es : s = r
        · subst es; exact absurd hs2 g
        · exact h1 s (by omega) hs2
      · have : al_tm ns so h be lo 0 0 r = 0 := by unfold al_tm; rw [if_neg (fun z => g z.1)]
        rw [h2, al_bor_s, this]; rfl
theorem sho_eq {I K : hI} {x ns F b w : Nat} (h1 : ∀ k, k < F → I 103 k = K 146 k) (h2 : ∀ k, k < F → I 108 k = al_ch ns F b k) (h3 : ∀ k, k < F → K 147 k = Int32.ofNat (al_dg ns F b k)) (h4 : ∀ k, k < F → al_dg ns F b k < 1000) (hns : ns ≤ 5) : ∀ j r, r + j = F → k_sho I (Int32.ofNat w) j r = m_afd K ns w j r := by
  intro j
  induction j with
  | zero => intro r _; rfl
  | succ j ih =>
    intro r e
    rw [k_sho_s, m_afd_s, h1 r (by omega), h2 r (by omega), h3 r (by omega), ih (r + 1) (by omega)]
    have g := h4 r (by omega)
    have eq := am_eqN (x := al_dg ns F b r) (y := ns) (by omega) (by omega)
    unfold al_ch
    split
    · by_cases c : al_dg ns F b r = ns
      · rw [if_pos c, if_pos (eq.mpr c)]
      · rw [if_neg c, if_neg (fun z => c (eq.mp z))]
    · rfl
theorem al_dg_lt {ns : Nat} : ∀ j c k, al_dg ns j c k < ns + 1 := by
  intro j
  induction j with
  | zero => intro c k; exact Nat.succ_pos _
  | succ j ih =>
    intro c k
    rw [al_dg_s]
    split
    · exact Nat.mod_lt _ (by omega)
    · exact ih _ _
theorem so_n {T S n1 n2 : Nat} {I : hI} (h : n2 ≤ 5) {a i : Nat} (g : a < 102 ∨ 108 < a) : k_so T S n1 n2 I a i = I a i := by
  have p := (k_pF_pl (k_ga T S n1 n2 I).2.1 (k_ga T S n1 n2 I).1 0 (k_so0 T S n1 n2 I)).1 a (by omega) (by omega) (by omega) (by omega)
  have q1 := k_g1_h S n1 0 0 (am_u I 102 2 (Int32.ofNat 0)) (by omega) am_u_at
  have q2 := k_g2_h T S n2 0 0 (am_u (am_u (k_g1 S n1 0 0 (am_u I 102 2 (Int32.ofNat 0))).2 102 5 (Int32.ofNat 0)) 102 8 (Int32.ofNat 0)) ((am_u_nk (by decide)).trans am_u_at)
  refine (congrFun p i).trans ?_
  show am_u (am_u (am_u (k_ga T S n1 n2 I).2.2 102 9 (Int32.ofNat 0)) 102 10 (Int32.ofInt (-1))) 102 11 (Int32.ofNat 0) a i = I a i
  rw [am_u_na (by omega), am_u_na (by omega), am_u_na (by omega)]
  refine (congrFun (q2.2.2.1 a (by omega) (by omega) (by omega)) i).trans ?_
  rw [am_u_na (by omega), am_u_na (by omega)]
  refine (congrFun (q1.2.2 a (by omega) (by omega) (by omega)) i).trans ?_
  rw [am_u_na (by omega)]
theorem allotI_n {N : Nat → Nat} {K : hI} {w a i : Nat} (h : a < 146 ∨ 148 < a) (g : ¬ (a = 110 ∧ (i = 2 ∨ (74 ≤ i ∧ i ≤ 78)))) : m_allotI N K w a i = K a i := by
  have e0 : m_a0 N K a i = K a i := (l5_n (N 1) a i (by omega) (by omega)).trans (m_z_n (by omega))
  have e1 : (m_a1 N K).2 a i = K a i := (rwF_al N _ (m_a0 N K) a i (by omega) (by omega)).trans e0
  unfold m_allotI
  split
  · exact e1
  · exact (rwF_ly N _ (m_a1 N K).2 a i (by omega) (by omega)).trans e1
theorem rB_fr2 {T O : Nat} {N : Nat → Nat} {u q : Nat} {I K : hI} {J L : hJ} (h : REL T O N u q I J K L) (hn : N 1 ≤ 8) : ∀ r, r < N 1 → (k_fr I 63 r ↔ (m_z K 138 r = Int32.ofNat 1 ∧ m_z K 140 r < 0)) := fun r hr => by
  obtain ⟨e1, e2, e3, e4⟩ := rB_r h.2.1 (show r < 8 by omega)
  have e3 := e3.resolve_left (fun z => by have := z.1; omega)
  rw [m_z_n (by omega), m_z_n (by omega), ← e1, ← e3]
  show (I 64 r = _ ∧ I 66 r = _) ↔ _
  refine ⟨fun w => ⟨w.1, ?_⟩, fun w => ⟨w.1, ?_⟩⟩
  · rw [w.2]; decide
  · rcases e4 with e | e
    · exact e
    · have w2 := w.2
      rw [e.1, show (0 : Int32) = Int32.ofNat 0 from rfl, am_ltN (by have := e.2; omega) (by omega)] at w2
      exact absurd w2 (Nat.not_lt_zero _)
theorem allot_eq {T O : Nat} {N : Nat → Nat} {u q : Nat} {I K : hI} {J L : hJ} (hT : T = 9 ∨ T = 36) (hn : N 1 ≤ 8) (hns : N 2 ≤ 5) (h : REL T O N u q I J K L) {w : Nat} : k_alt I T N w = m_allot N K w := by
  have tr := h.1.2.2.2.2.2.1
  have tq := h.1.2.2.1
  have b := h.2.1
  have z0 : m_l5 0 (m_z K) 110 74 = Int32.ofNat 0 := by
    show am_u (m_z K) 110 74 (Int32.ofNat 0) 110 74 = _
    exact am_u_at
  obtain ⟨g1, g2⟩ := g1_v (I0 := I) hn (rB_fr2 h hn) (N 1) 0 0 (am_u I 102 2 (Int32.ofNat 0)) (Nat.zero_add _) (fun a i x _ _ => am_u_na x) (by rw [z0]; rfl) (by omega) (fun k hk => absurd hk (Nat.not_lt_zero _))
  have q1 := k_g1_h 63 (N 1) 0 0 (am_u I 102 2 (Int32.ofNat 0)) (by omega) am_u_at
  have eF : (k_ga T 63 (N 1) (N 2) I).1 = (k_g1 63 (N 1) 0 0 (am_u I 102 2 (Int32.ofNat 0))).1 := rfl
  have e2 : (k_ga T 63 (N 1) (N 2) I).2 = k_g2 T 63 (N 2) 0 0 (am_u (am_u (k_g1 63 (N 1) 0 0 (am_u I 102 2 (Int32.ofNat 0))).2 102 5 (Int32.ofNat 0)) 102 8 (Int32.ofNat 0)) := rfl
  have gh := k_ga_h (T := T) (S := 63) (n1 := N 1) (I := I) hns
  generalize hG : (k_g1 63 (N 1) 0 0 (am_u I 102 2 (Int32.ofNat 0))).2 = G at g2 q1 e2
  generalize hF : (k_g1 63 (N 1) 0 0 (am_u I 102 2 (Int32.ofNat 0))).1 = F at g1 g2 q1 eF
  have k0 : ∀ a i, a ≠ 146 → a ≠ 110 → m_l5 (N 1) (m_z K) a i = K a i := fun a i x y => (l5_n (N 1) a i x (by omega)).trans (m_z_n (by omega))
  have fk := fok_l5 (m_z K) (N 1) hn
  unfold k_alt k_so m_allot m_a2 m_a1 m_a0
  generalize hK : m_l5 (N 1) (m_z K) = K0 at g1 g2 k0 fk
  have hF5 : F ≤ 5 := q1.1
  -- the numbers
  obtain ⟨so, hso⟩ : ∃ so : Nat → Nat, so = fun k => if k < F then nn (I 65 (nn (K0 146 k))) else 0 := ⟨_, rfl⟩
  obtain ⟨hb, hhb⟩ : ∃ hb : Nat → Bool, hb = fun s => decide (I 67 s = 0) := ⟨_, rfl⟩
  obtain ⟨be, hbe⟩ : ∃ be : Nat → Nat, be = fun s => if s < N 2 then nn (k_bear I 63 (Int32.ofNat s) 8) else 0 := ⟨_, rfl⟩
  obtain ⟨lo, hlo⟩ : ∃ lo : Nat → Nat, lo = fun s => if s < N 2 then nn (I (T + 13) s) else 0 := ⟨_, rfl⟩
  have sok : ∀ r, r < 8 → okn (I 65 r) 1000 := fun r hr => (b.2.2.1.1.1 r hr).2
  have bso : ∀ k, so k < 1000 := fun k => by
    rw [hso]; dsimp only
    split
    · next hk => exact (sok _ (g2 k hk).2.1.2).2
    · decide
  have bN : ∀ s, ∃ y, y ≤ 8000 ∧ k_bear I 63 (Int32.ofNat s) 8 = Int32.ofNat y := fun s => k_bear_N (I := I) (S := 63) (y := Int32.ofNat s) sok 8 (Nat.le_refl _)
  have bbe : ∀ s, be s < 10000 := fun s => by
    rw [hbe]; dsimp only
    split
    · obtain ⟨y, y1, y2⟩ := bN s
      rw [y2, nn_ofNat (by omega)]; omega
    · decide
  have blo : ∀ s, lo s < 1000 := fun s => by
    rw [hlo]; dsimp only
    split
    · next hs => exact (tq.2.2.2.1 s hs).2
    · decide
  have ebe : ∀ s, s < N 2 → k_bear I 63 (Int32.ofNat s) 8 = Int32.ofNat (be s) := fun s hs => by
    rw [hbe]; dsimp only
    rw [if_pos hs]
    obtain ⟨y, y1, y2⟩ := bN s
    rw [y2, nn_ofNat (by omega)]
  have elo : ∀ s, s < N 2 → I (T + 13) s = Int32.ofNat (lo s) := fun s hs => by
    rw [hlo]; dsimp only
    rw [if_pos hs]; exact (tq.2.2.2.1 s hs).1
  have ehb : ∀ s, I 67 s = 0 ↔ hb s = true := fun s => by rw [hhb]; exact decide_eq_true_iff.symm
  have eso : ∀ k, k < F → I 65 (nn (K0 146 k)) = Int32.ofNat (so k) := fun k hk => by
    rw [hso]; dsimp only
    rw [if_pos hk]; exact (sok _ (g2 k hk).2.1.2).1
  have aK : alK N (N 2) F so hb be lo K0 := by
    refine ⟨⟨hns, hF5, rfl, bso, bbe, blo⟩, g1, fun k hk => ?_, fun s hs => ?_⟩
    · rw [k0 139 _ (by decide) (by decide), ← (rB_r b (g2 k hk).2.1.2).2.1]; exact eso k hk
    · rw [k0 141 _ (by decide) (by decide), k0 124 _ (by decide) (by decide), m_bear_c (fun a i x y => k0 a i (by omega) (by omega)), ← (rB_s b (show s < 5 by omega)).1, ← (tr.2.2.2.1 s hs).2, ← sR_bear hn b.1 (Or.inl rfl)]
      exact ⟨ehb s, ebe s hs, elo s hs⟩
  obtain ⟨p1, p2, p3⟩ := g2_v (I0 := G) (T := T) (ns := N 2) (so := so) (h := hb) (be := be) (lo := lo) hT ⟨bbe, blo⟩ (fun s hs => by
    have f : ∀ a i, a < 102 → G a i = I a i := fun a i x => (congrFun (q1.2.2 a (by omega) (by omega) (by omega)) i).trans (am_u_na (by omega))
    rw [f 67 s (by decide), f (T + 13) s (by omega), k_bear_c (fun a i x y => f a i (by omega))]
    exact ⟨ehb s, ebe s hs, elo s hs⟩) (N 2) 0 (am_u (am_u G 102 5 (Int32.ofNat 0)) 102 8 (Int32.ofNat 0)) (Nat.zero_add _) (fun a i x _ _ => (am_u_na x).trans (am_u_na x)) (fun s hs => absurd hs (Nat.not_lt_zero _)) am_u_at
  have eC : al_cnt hb 0 = 0 := rfl
  rw [eC, ← e2] at p1 p2 p3
  have q2 := k_g2_h T 63 (N 2) 0 0 (am_u (am_u G 102 5 (Int32.ofNat 0)) 102 8 (Int32.ofNat 0)) ((am_u_nk (by decide)).trans am_u_at)
  rw [← e2] at q2
  have hB : ((N 2 + 1) ^ F : Nat) ≤ 7776 := Nat.le_trans (Nat.pow_le_pow_left (show N 2 + 1 ≤ 6 by omega) _) (Nat.le_trans (Nat.pow_le_pow_right (by decide) hF5) (by decide))
  have eA : al_cnt hb (N 2) = (k_ga T 63 (N 1) (N 2) I).2.1 := p1.symm
  have a0 : alC (N 2) F so hb be lo (m_al N (0 * (N 2 + 1) ^ F) K0).1 0 0 (k_so0 T 63 (N 1) (N 2) I) := by
    rw [Nat.zero_mul]
    have s0 : ∀ a i, ¬ (a = 102 ∧ 9 ≤ i) → k_so0 T 63 (N 1) (N 2) I a i = (k_ga T 63 (N 1) (N 2) I).2.2 a i := fun a i x => by
      unfold k_so0 am_u; rw [if_neg (by omega), if_neg (by omega), if_neg (by omega)]
    refine ⟨⟨?_, ?_⟩, fun k hk => ?_, fun s hs hs2 => ?_, ?_, ?_, fun k hk => absurd hk (Nat.not_lt_zero _), trivial, ⟨?_, ?_⟩, Or.inl ⟨rfl, rfl⟩⟩
    · rw [s0 _ _ (by decide), gh.2.2.1, eF]
    · rw [s0 _ _ (by decide), gh.2.2.2, eA]
    · rw [s0 _ _ (by omega), q2.2.2.1 104 (by decide) (by decide) (by decide), am_u_na (by decide), am_u_na (by decide), (g2 k hk).2.2]; exact eso k hk
    · rw [s0 _ _ (by omega), s0 _ _ (by omega)]; exact p2 s hs hs2
    · rw [s0 _ _ (by decide)]; exact p3
    · show am_u (am_u (am_u (k_ga T 63 (N 1) (N 2) I).2.2 102 9 (Int32.ofNat 0)) 102 10 (Int32.ofInt (-1))) 102 11 (Int32.ofNat 0) 102 9 = _
      rw [am_u_nk (by decide), am_u_nk (by decide), am_u_at]; rfl
    · show am_u (am_u (am_u (k_ga T 63 (N 1) (N 2) I).2.2 102 9 (Int32.ofNat 0)) 102 10 (Int32.ofInt (-1))) 102 11 (Int32.ofNat 0) 102 10 = _
      rw [am_u_nk (by decide), am_u_at]; rfl
    · show am_u (am_u (am_u (k_ga T 63 (N 1) (N 2) I).2.2 102 9 (Int32.ofNat 0)) 102 10 (Int32.ofInt (-1))) 102 11 (Int32.ofNat 0) 102 11 = _
      rw [am_u_at]; rfl
  have a1 := pl_ok aK F 0 0 (k_so0 T 63 (N 1) (N 2) I) (Nat.zero_add _) (by rw [Nat.zero_add, Nat.one_mul]; omega) a0
  rw [Nat.zero_add, Nat.one_mul, eA] at a1
  have bs := m_al_best N K0 hns fk
  have pf := (k_pF_pl (k_ga T 63 (N 1) (N 2) I).2.1 F 0 (k_so0 T 63 (N 1) (N 2) I)).1 103 (by decide) (by decide) (by decide) (by decide)
  rw [eF, g1]
  rw [g1] at bs
  obtain ⟨_, _, _, _, _, _, _, ⟨c9, c10⟩, c11⟩ := a1
  by_cases w8 : w = 8
  · rw [if_pos w8, if_pos w8]; exact c9
  · rw [if_neg w8, if_neg w8]
    by_cases w9 : w = 9
    · rw [if_pos w9, if_pos w9]; exact c10
    · rw [if_neg w9, if_neg w9]
      rcases c11 with ⟨z1, _⟩ | ⟨bb, z1, z2, z3, z4⟩
      · exfalso
        rw [z1] at bs
        have := bs.1
        revert this; decide
      · have en : nn (m_al N ((N 2 + 1) ^ F) K0).1.1 = bb := by rw [z1, nn_ofNat (by omega)]
        obtain ⟨l1, _⟩ := ly_v (c := bb) (alK_c (rwF_al N ((N 2 + 1) ^ F) K0) aK)
        obtain ⟨y1, _, _, y4⟩ := l1 z3
        rw [en, if_neg (by rw [y1]; decide)]
        refine sho_eq (x := 0) (b := bb) (fun k hk => ?_) z4 y4 (fun k _ => by have := al_dg_lt (ns := N 2) F bb k; omega) hns F 0 (Nat.zero_add _)
        have r1 : (m_ly N bb (m_al N ((N 2 + 1) ^ F) K0).2).2 146 k = K0 146 k := (rwF_ly N bb _ 146 k (by omega) (by omega)).trans (rwF_al N _ K0 146 k (by omega) (by omega))
        rw [r1, pf]
        show am_u (am_u (am_u (k_ga T 63 (N 1) (N 2) I).2.2 102 9 (Int32.ofNat 0)) 102 10 (Int32.ofInt (-1))) 102 11 (Int32.ofNat 0) 103 k = _
        rw [am_u_na (by decide), am_u_na (by decide), am_u_na (by decide), q2.2.2.1 103 (by decide) (by decide) (by decide), am_u_na (by decide), am_u_na (by decide)]
        exact (g2 k hk).1
theorem op_allot (x : Int32) : OPok 133 257 [.int x] := by
  rintro I J R ⟨T, O, N, u, q, h, r0, r2⟩
  obtain ⟨hT, _⟩ := rA_hT h.1
  obtain ⟨t, m0, l0⟩ := rA_ctk h.1
  by_cases c : ¬ x < Int32.ofNat 0 ∧ ¬ Int32.ofNat 9 < x
  · obtain ⟨ex, _, hw⟩ := am_btN (by omega) (by omega) c.1 c.2
    generalize nn x = w at ex hw
    subst ex
    have hn := t.1.1
    have hns : N 2 ≤ 5 := t.1.2.1
    have cls := d_allot (k := 20) (J := J) (R := R) hT r0 t hw (by omega)
    have so_f := fun a i g => so_n (T := T) (S := 63) (n1 := N 1) (I := I) hns (a := a) (i := i) g
    have hk : REL T O N u q I J (k_so T 63 (N 1) (N 2) I) J := REL_cc h (fun _ _ _ => rfl) (fun a i g => so_f a i (by omega)) rfl rfl rfl rfl
    have hv : k_alt I T N w = m_allot N (k_so T 63 (N 1) (N 2) I) w := allot_eq hT hn hns hk
    refine op_mk (T := T) (O := O) (N := N) (u := u) (q := q) cls (c_allot hk.1.2.2.2.2.1 hw (by omega)) (by rw [hv]) (fun a i g => allotI_n (by omega) (by omega)) ⟨rfl, rfl⟩ (REL_w hk (fun a i g => so_f a i (by omega)) (fun a i g1 g2 => allotI_n g1 g2)) r0 r2
  · exact op_same h r0 r2 (d_allot_no c (by omega)) (c_allot_no c (by omega)) rfl kM_z tM_z
