/-! Class and reference: states begun anew alike; what a trial leaves as it is. -/
theorem k_be1_f {I : hI} {S T m : Nat} (hT : T = 9 ∨ T = 36) (hS : S = 63 ∨ S = 70 ∨ S = 77) : ∀ n r, r < n → k_be1 I S T m n (S + 1) r = Int32.ofNat 0 ∧ k_be1 I S T m n (S + 2) r = Int32.ofNat 0 ∧ k_be1 I S T m n (S + 3) r = (if m ≤ r then Int32.ofInt (-1) else I (T + 10) r) := by
  intro n
  induction n with
  | zero => intro r h; exact absurd h (Nat.not_lt_zero r)
  | succ n ih =>
    intro r h
    have eT : k_be1 I S T m n (T + 10) = I (T + 10) := k_be1_ne (by omega)
    rw [k_be1_s, eT]
    by_cases g : r = n
    · subst g
      refine ⟨?_, ?_, am_u_at⟩
      · rw [am_u_na (by omega), am_u_na (by omega), am_u_at]
      · rw [am_u_na (by omega), am_u_at]
    · rw [am_u_nk g, am_u_nk g, am_u_nk g, am_u_nk g, am_u_nk g, am_u_nk g, am_u_nk g, am_u_nk g, am_u_nk g]
      exact ih r (by omega)
theorem k_be2_f {I : hI} {S : Nat} : ∀ n r, r < n → k_be2 I S n (S + 4) r = Int32.ofNat 0 ∧ k_be2 I S n (S + 5) r = Int32.ofNat 0 ∧ k_be2 I S n (S + 6) r = Int32.ofNat 0 := by
  intro n
  induction n with
  | zero => intro r h; exact absurd h (Nat.not_lt_zero r)
  | succ n ih =>
    intro r h
    have e : k_be2 I S (n + 1) = am_u (am_u (am_u (k_be2 I S n) (S + 4) n (Int32.ofNat 0)) (S + 5) n (Int32.ofNat 0)) (S + 6) n (Int32.ofNat 0) := rfl
    rw [e]
    by_cases g : r = n
    · subst g
      refine ⟨?_, ?_, am_u_at⟩
      · rw [am_u_na (by omega), am_u_na (by omega), am_u_at]
      · rw [am_u_na (by omega), am_u_at]
    · rw [am_u_nk g, am_u_nk g, am_u_nk g, am_u_nk g, am_u_nk g, am_u_nk g, am_u_nk g, am_u_nk g, am_u_nk g]
      exact ih r (by omega)
theorem m_af1_f {K : hI} {b : Nat} : ∀ n r, r < n → m_af1 b n K 138 (8 * b + r) = Int32.ofNat 0 ∧ m_af1 b n K 139 (8 * b + r) = Int32.ofNat 0 ∧ m_af1 b n K 140 (8 * b + r) = K 122 r := by
  intro n
  induction n with
  | zero => intro r h; exact absurd h (Nat.not_lt_zero r)
  | succ n ih =>
    intro r h
    have f : ∀ n, m_af1 b n K 122 = K 122 := by
      intro n
      induction n with
      | zero => rfl
      | succ n ih =>
        have e : m_af1 b (n + 1) K = am_u (am_u (am_u (m_af1 b n K) 138 (8 * b + n) (Int32.ofNat 0)) 139 (8 * b + n) (Int32.ofNat 0)) 140 (8 * b + n) (m_af1 b n K 122 n) := rfl
        rw [e, am_u_ne (by decide), am_u_ne (by decide), am_u_ne (by decide)]; exact ih
    have e : m_af1 b (n + 1) K = am_u (am_u (am_u (m_af1 b n K) 138 (8 * b + n) (Int32.ofNat 0)) 139 (8 * b + n) (Int32.ofNat 0)) 140 (8 * b + n) (m_af1 b n K 122 n) := rfl
    rw [e, f]
    by_cases g : r = n
    · subst g
      refine ⟨?_, ?_, am_u_at⟩
      · rw [am_u_na (by decide), am_u_na (by decide), am_u_at]
      · rw [am_u_na (by decide), am_u_at]
    · have g2 : 8 * b + r ≠ 8 * b + n := by omega
      rw [am_u_nk g2, am_u_nk g2, am_u_nk g2, am_u_nk g2, am_u_nk g2, am_u_nk g2, am_u_nk g2, am_u_nk g2, am_u_nk g2]
      exact ih r (by omega)
theorem m_af2_f {K : hI} {b : Nat} : ∀ n r, r < n → m_af2 b n K 141 (5 * b + r) = Int32.ofNat 0 ∧ m_af2 b n K 142 (5 * b + r) = Int32.ofNat 0 ∧ m_af2 b n K 143 (5 * b + r) = Int32.ofNat 0 := by
  intro n
  induction n with
  | zero => intro r h; exact absurd h (Nat.not_lt_zero r)
  | succ n ih =>
    intro r h
    have e : m_af2 b (n + 1) K = am_u (am_u (am_u (m_af2 b n K) 141 (5 * b + n) (Int32.ofNat 0)) 142 (5 * b + n) (Int32.ofNat 0)) 143 (5 * b + n) (Int32.ofNat 0) := rfl
    rw [e]
    by_cases g : r = n
    · subst g
      refine ⟨?_, ?_, am_u_at⟩
      · rw [am_u_na (by decide), am_u_na (by decide), am_u_at]
      · rw [am_u_na (by decide), am_u_at]
    · have g2 : 5 * b + r ≠ 5 * b + n := by omega
      rw [am_u_nk g2, am_u_nk g2, am_u_nk g2, am_u_nk g2, am_u_nk g2, am_u_nk g2, am_u_nk g2, am_u_nk g2, am_u_nk g2]
      exact ih r (by omega)
theorem m_af2_ne {K : hI} {b n a : Nat} (h : a ≠ 141 ∧ a ≠ 142 ∧ a ≠ 143) : m_af2 b n K a = K a := by
  induction n with
  | zero => rfl
  | succ n ih => exact (am_u_ne h.2.2).trans ((am_u_ne h.2.1).trans ((am_u_ne h.1).trans ih))
theorem begin_eq {S b T : Nat} {N : Nat → Nat} {I K : hI} (hT : T = 9 ∨ T = 36) (hS : S = 63 ∨ S = 70 ∨ S = 77) (h5 : N 2 ≤ 5) (t : tR T N I K) (q : tqs I T N) : sR S b (Int32.ofInt (-1)) N (k_begin I S T (N 1)) (m_af b K) ∧ hL S (k_begin I S T (N 1)) ∧ wN S N (k_begin I S T (N 1)) := by
  have i0 : ∀ j, j = 0 ∨ j = 2 → k_begin I S T (N 1) S j = Int32.ofNat 0 := fun j hj => by
    unfold k_begin
    rw [k_be2_ne (by omega), k_be1_ne (by omega)]
    rcases hj with rfl | rfl
    · rw [am_u_nk (by decide), am_u_at]
    · rw [am_u_at]
  have i1 : ∀ r, r < 8 → k_begin I S T (N 1) (S + 1) r = Int32.ofNat 0 ∧ k_begin I S T (N 1) (S + 2) r = Int32.ofNat 0 ∧ k_begin I S T (N 1) (S + 3) r = (if N 1 ≤ r then Int32.ofInt (-1) else I (T + 10) r) := fun r hr => by
    unfold k_begin
    rw [k_be2_ne (by omega), k_be2_ne (by omega), k_be2_ne (by omega)]
    have e : am_u (am_u I S 0 (Int32.ofNat 0)) S 2 (Int32.ofNat 0) (T + 10) = I (T + 10) := (am_u_ne (by omega)).trans (am_u_ne (by omega))
    rw [← e]
    exact k_be1_f hT hS 8 r hr
  have i2 : ∀ s, s < 5 → k_begin I S T (N 1) (S + 4) s = Int32.ofNat 0 ∧ k_begin I S T (N 1) (S + 5) s = Int32.ofNat 0 ∧ k_begin I S T (N 1) (S + 6) s = Int32.ofNat 0 := fun s hs => k_be2_f 5 s hs
  have k1 : ∀ r, r < 8 → m_af b K 138 (8 * b + r) = Int32.ofNat 0 ∧ m_af b K 139 (8 * b + r) = Int32.ofNat 0 ∧ m_af b K 140 (8 * b + r) = K 122 r := fun r hr => by
    unfold m_af
    rw [am_u_na (by decide), am_u_na (by decide), am_u_na (by decide), am_u_na (by decide), am_u_na (by decide), am_u_na (by decide), m_af2_ne (by decide), m_af2_ne (by decide), m_af2_ne (by decide)]
    exact m_af1_f 8 r hr
  have k2 : ∀ s, s < 5 → m_af b K 141 (5 * b + s) = Int32.ofNat 0 ∧ m_af b K 142 (5 * b + s) = Int32.ofNat 0 ∧ m_af b K 143 (5 * b + s) = Int32.ofNat 0 := fun s hs => by
    unfold m_af
    rw [am_u_na (by decide), am_u_na (by decide), am_u_na (by decide), am_u_na (by decide), am_u_na (by decide), am_u_na (by decide)]
    exact m_af2_f 5 s hs
  refine ⟨⟨?_, fun r hr => ?_, fun s hs _ => ?_, fun _ => ?_⟩, ⟨⟨fun r hr => ⟨by rw [(i1 r hr).1]; exact okn_of (by omega) (by omega), by rw [(i1 r hr).2.1]; exact okn_of (by omega) (by omega)⟩, fun s hs => ⟨by rw [(i2 s hs).1]; exact okn_of (by omega) (by omega), fun _ => (i2 s hs).2.1⟩⟩, by rw [i0 0 (Or.inl rfl)]; exact okn_mono (okn_of (m := 5) (by omega) (by omega)) (by omega)⟩, Or.inr fun r h1 h2 => by rw [(i1 r h2).2.2, if_pos h1]⟩
  · rw [i0 0 (Or.inl rfl)]; exact am_u_at.symm
  · rw [(i1 r hr).1, (i1 r hr).2.1, (i1 r hr).2.2, (k1 r hr).1, (k1 r hr).2.1, (k1 r hr).2.2, t.2.2.1 r hr]
    refine ⟨Or.inr rfl, ?_, fun _ => ⟨rfl, rfl⟩, fun _ => rfl⟩
    rw [← t.2.2.1 r hr]
    split
    · exact Or.inl rfl
    · exact (q.1 r (by omega)).2.2.2.imp id (fun o => okn_mono o h5)
  · rw [(i2 s hs).1, (i2 s hs).2.1, (i2 s hs).2.2, (k2 s hs).1, (k2 s hs).2.1, (k2 s hs).2.2]; exact ⟨rfl, rfl, rfl⟩
  · rw [i0 2 (Or.inr rfl)]; exact ((am_u_na (by decide)).trans am_u_at).symm
/-- a maker's other even, tried -/
theorem sim_wo {T O m e : Nat} {N : Nat → Nat} {I K : hI} {J L : hJ} (a : rA T O N I K) : sim (Int32.ofInt (-1)) T 77 1 N (k_wo0 T N m e I, J) (m_le K (Int32.ofNat m) (Int32.ofNat e), L) := by
  obtain ⟨hT, _⟩ := rA_hT a
  have gB : sF 77 I (k_begin I 77 T (N 1)) := sF_begin
  have g0 : ∀ a, a ≠ 84 → k_wo0 T N m e I a = k_begin I 77 T (N 1) a := fun a h => (am_u_ne h).trans ((am_u_ne h).trans (k_db_n a h))
  have gT : ∀ a i, 9 ≤ a → a < 63 → k_wo0 T N m e I a i = I a i := fun a i u v => (congrFun (g0 a (by omega)) i).trans (gB a i (by omega) (by omega) (by omega))
  have k0 : ∀ a, a ≠ 110 → m_le K (Int32.ofNat m) (Int32.ofNat e) a = m_af 1 K a := fun a h => (am_u_ne h).trans ((am_u_ne h).trans (m_pt_n a h))
  have fA : simF K (m_af 1 K) := simF_af 1 K
  have kT : ∀ a i, 112 ≤ a → a ≤ 133 → m_le K (Int32.ofNat m) (Int32.ofNat e) a i = K a i := fun a i u v => (congrFun (k0 a (by omega)) i).trans (fA a i (by omega) (by omega))
  obtain ⟨t4, t5, t6, t8, t9, t10, t11, t12⟩ := k_db84 (k_begin I 77 T (N 1)) T (Int32.ofNat 1)
  obtain ⟨u4, u5, u6, u7, u8, u9, u10, u11, u12⟩ := m_pt110 (m_af 1 K)
  have g84 : ∀ j, j ≠ 11 → j ≠ 12 → k_wo0 T N m e I 84 j = k_db (k_begin I 77 T (N 1)) T (Int32.ofNat 1) 84 j := fun j h h2 => (am_u_nk h2).trans (am_u_nk h)
  have k110 : ∀ j, j ≠ 70 → j ≠ 71 → m_le K (Int32.ofNat m) (Int32.ofNat e) 110 j = m_pt (m_af 1 K) 110 j := fun j h h2 => (am_u_nk h2).trans (am_u_nk h)
  have ck : cR (Int32.ofInt (-1)) T N (k_wo0 T N m e I) (m_le K (Int32.ofNat m) (Int32.ofNat e)) := by
    refine cR_pl (b := Int32.ofNat 1) (Or.inr rfl) ?_ ?_ ?_ ((g84 4 (by decide) (by decide)).trans t4) ?_ ((g84 6 (by decide) (by decide)).trans t6) ((g84 8 (by decide) (by decide)).trans t8) ((g84 9 (by decide) (by decide)).trans t9) ((g84 10 (by decide) (by decide)).trans t10) ?_ ?_ ?_ ((k110 65 (by decide) (by decide)).trans u5) ((k110 66 (by decide) (by decide)).trans u6) ((k110 67 (by decide) (by decide)).trans u7) ((k110 68 (by decide) (by decide)).trans u8) ((k110 69 (by decide) (by decide)).trans u9) ((k110 72 (by decide) (by decide)).trans u12)
    · rw [gT T 16 (by omega) (by omega), kT 114 0 (by omega) (by omega)]; exact a.2.2.2.2.2.1.2.2.2.2.2.1
    · rw [gT T 16 (by omega) (by omega)]; exact a.2.2.1.2.2.2.2.2
    · intro v hv
      rw [kT 125 v (by omega) (by omega), ← (a.2.2.2.2.2.1.2.2.2.2.1 v hv).1]
      exact okn_mono (a.2.2.1.2.2.2.2.1 v hv).1 a.2.1.1.2.2.1
    · rw [g84 5 (by decide) (by decide), t5]
      unfold k_pst
      rw [gT T 16 (by omega) (by omega), gB T 16 (by omega) (by omega) (by omega)]
    · unfold k_wo0 m_le
      rw [am_u_nk (show (11 : Nat) ≠ 12 by decide), am_u_at, am_u_nk (show (70 : Nat) ≠ 71 by decide), am_u_at]
    · unfold k_wo0 m_le
      rw [am_u_at, am_u_at]
    · rw [k110 64 (by decide) (by decide), u4, if_neg (by decide)]
  refine ⟨dR_of a gT kT ck, ?_, fun z => absurd (((g84 4 (by decide) (by decide)).trans t4).symm.trans z) (by decide)⟩
  refine sR_c (fun a i u v => congrFun (g0 a (by omega)) i) (fun a i u v => congrFun (k0 a (by omega)) i) (begin_eq hT (Or.inr (Or.inr rfl)) a.2.1.1.2.2.1 a.2.2.2.2.2.1 a.2.2.1).1
/-- lost, by a maker's other even, so many days on -/
def RL (N : Nat → Nat) (K : hI) (m e s d : Nat) : Prop := (m_days N 1 d (m_le K (Int32.ofNat m) (Int32.ofNat e), fun _ _ => 0)).1 141 (5 + s) = Int32.ofNat 2
theorem RL_c {T O : Nat} {N : Nat → Nat} {I K K1 : hI} (a : rA T O N I K) (a1 : rA T O N I K1) {m e s d : Nat} (hs : s < 5) : RL N K1 m e s d ↔ RL N K m e s d := by
  obtain ⟨hT, _⟩ := rA_hT a
  have h := (sim_days hT (Or.inr (Or.inr rfl)) (sim_wo (m := m) (e := e) (J := fun _ _ => 0) (L := fun _ _ => 0) a) d).2.1.2.2.1 s hs (Or.inl rfl)
  have h1 := (sim_days hT (Or.inr (Or.inr rfl)) (sim_wo (m := m) (e := e) (J := fun _ _ => 0) (L := fun _ _ => 0) a1) d).2.1.2.2.1 s hs (Or.inl rfl)
  unfold RL
  have e1 := h.1
  have e2 := h1.1
  rw [show 5 * 1 + s = 5 + s by omega] at e1 e2
  rw [← e1, ← e2]
/-- losses that were worked out -/
def rF (N : Nat → Nat) (I K : hI) : Prop := (∀ m, m < N 0 → ¬ I 94 m = 0 → ∀ e, e < 10 → ∀ s, s < 5 → ∀ d, 1 ≤ d → d ≤ 60 → (k_lb I m e s (Int32.ofNat d) ↔ RL N K m e s d)) ∧ (∀ m, m < N 0 → I 94 m = 0 → ∀ e, e < 10 → ∀ s, s < 5 → I 95 (k_cl m e s) = 0)
/-- all that holds between calls -/
def REL (T O : Nat) (N : Nat → Nat) (u q : Nat) (I : hI) (J : hJ) (K : hI) (L : hJ) : Prop := rA T O N I K ∧ rB N I J K L ∧ rC N I J K L ∧ rD N u I K ∧ rE q I K ∧ rG I K ∧ rF N I K
theorem rF_c {T O : Nat} {N : Nat → Nat} {I I1 K K1 : hI} (a : rA T O N I K) (h1 : ∀ a i, (9 ≤ a ∧ a < 63) ∨ a = 94 ∨ a = 95 → I1 a i = I a i) (h2 : ∀ a i, (112 ≤ a ∧ a ≤ 133) ∨ (a = 110 ∧ 12 ≤ i ∧ i ≤ 16) → K1 a i = K a i) (f : rF N I K) : rF N I1 K1 := by
  have a1 : rA T O N I K1 := rA_c (fun _ _ _ _ => rfl) h2 a
  refine ⟨fun m hm h94 e he s hs d d1 d2 => ?_, fun m hm h94 e he s hs => ?_⟩
  · rw [h1 94 m (by omega)] at h94
    rw [RL_c a a1 hs, ← f.1 m hm h94 e he s hs d d1 d2]
    unfold k_lb
    rw [h1 95 _ (by omega)]
  · rw [h1 94 m (by omega)] at h94
    rw [h1 95 _ (by omega)]
    exact f.2 m hm h94 e he s hs
/-- what a trial leaves as it is, in the reference -/
def tM (K K1 : hI) : Prop := (∀ a i, (138 ≤ a ∧ a ≤ 140 ∧ i < 8) ∨ (141 ≤ a ∧ a ≤ 143 ∧ i < 5) ∨ (144 ≤ a ∧ a ≤ 145 ∧ i = 0) → K1 a i = K a i) ∧ (∀ a i, a < 138 ∨ 145 < a → ¬ (a = 110 ∧ (i = 2 ∨ i = 53 ∨ (63 ≤ i ∧ i ≤ 72))) → K1 a i = K a i)
theorem tM_rf (K : hI) : tM K K := ⟨fun _ _ _ => rfl, fun _ _ _ _ => rfl⟩
theorem tM_tr {K K1 K2 : hI} (h : tM K K1) (g : tM K1 K2) : tM K K2 := ⟨fun a i x => (g.1 a i x).trans (h.1 a i x), fun a i x y => (g.2 a i x y).trans (h.2 a i x y)⟩
theorem tM_u {K : hI} {a k : Nat} {x : Int32} (h : (a = 110 ∧ (k = 2 ∨ k = 53 ∨ (63 ≤ k ∧ k ≤ 72))) ∨ (138 ≤ a ∧ a ≤ 140 ∧ 8 ≤ k) ∨ (141 ≤ a ∧ a ≤ 143 ∧ 5 ≤ k) ∨ (144 ≤ a ∧ a ≤ 145 ∧ k = 1)) : tM K (am_u K a k x) := by
  refine ⟨fun b i g => ?_, fun b i g f => ?_⟩ <;> (unfold am_u; rw [if_neg (by omega)])
theorem tM_for {f : Nat → hI → hI} (h : ∀ r I, tM I (f r I)) (n : Nat) (I : hI) : tM I (s_for f n I) := by
  induction n with
  | zero => exact tM_rf I
  | succ n ih => exact tM_tr ih (h n _)
theorem tM_blI {K : hI} {L : hJ} {w : Nat} : tM K (m_blI K L w) := by
  unfold m_blI; split
  · exact tM_rf K
  · exact tM_u (by omega)
theorem tM_mk {K : hI} {L : hJ} {n r : Nat} : tM K (m_mkI K L 1 n r) := tM_tr (tM_tr (tM_tr (tM_tr (tM_u (by omega)) tM_blI) (tM_u (by omega))) (tM_u (by omega))) (tM_u (by omega))
theorem tM_w {K : hI} {L : hJ} {n r : Nat} : tM K (m_wI K L 1 n r) := by
  unfold m_wI
  repeat' split
  · exact tM_tr tM_blI (tM_u (by omega))
  · exact tM_tr (tM_tr tM_blI (tM_u (by omega))) (tM_u (by omega))
  · exact tM_rf K
theorem tM_asL {c : Int32} {n s : Nat} {p : hI × hJ} : ∀ j, tM p.1 (m_asL c 1 n s j p).1 := by
  intro j
  induction j with
  | zero => exact tM_rf _
  | succ j ih =>
    refine tM_tr ih ?_
    show tM _ (m_asS c 1 n s j (m_asL c 1 n s j p)).1
    unfold m_asS
    repeat' split
    · exact tM_u (by omega)
    · exact tM_w
    · exact tM_rf _
theorem tM_asE {K : hI} {c : Int32} {s : Nat} : tM K (m_asE K c 1 s) := by
  unfold m_asE
  repeat' split
  · exact tM_tr (tM_tr (tM_u (by omega)) (tM_u (by omega))) (tM_u (by omega))
  · exact tM_tr (tM_tr (tM_u (by omega)) (tM_u (by omega))) (tM_u (by omega))
  · exact tM_u (by omega)
theorem tM_day {N : Nat → Nat} {p : hI × hJ} : tM p.1 (m_day N 1 p).1 := by
  have h1 : ∀ r, tM p.1 (m_d1 1 (N 1) r p).1 := by
    intro r
    induction r with
    | zero => exact tM_rf _
    | succ r ih =>
      refine tM_tr ih ?_
      show tM _ (m_d1S 1 (N 1) r (m_d1 1 (N 1) r p)).1
      unfold m_d1S
      repeat' split
      · exact tM_mk
      · exact tM_rf _
      · exact tM_rf _
  have h2 : ∀ K, tM K (m_d2 1 (N 3) K) := fun K => tM_for (fun v K => by
    unfold m_d2S
    repeat' split
    · exact tM_rf _
    · exact tM_rf _
    · exact tM_tr (tM_u (by omega)) (tM_u (by omega))
    · exact tM_u (by omega)
    · exact tM_rf _) (N 3) K
  have h3 : ∀ s (p : hI × hJ), tM p.1 (m_d3 1 (N 1) s p).1 := by
    intro s p
    induction s with
    | zero => exact tM_rf _
    | succ s ih =>
      refine tM_tr ih ?_
      show tM _ (m_d3S 1 (N 1) s (m_d3 1 (N 1) s p)).1
      unfold m_d3S
      split
      · exact tM_tr (tM_tr tM_blI (tM_asL (p := m_as0 _ _ 1 (N 1) s) (N 1))) tM_asE
      · exact tM_rf _
  exact tM_tr (tM_tr (tM_tr (tM_tr (h1 (N 1)) (h2 _)) (tM_u (by omega))) (h3 (N 2) _)) (tM_u (by omega))
theorem tM_days {N : Nat → Nat} {p : hI × hJ} : ∀ n, tM p.1 (m_days N 1 n p).1 := by
  intro n
  induction n with
  | zero => exact tM_rf _
  | succ n ih => exact tM_tr ih tM_day
theorem tM_pt {K : hI} : tM K (m_pt K) := tM_tr (tM_tr (tM_tr (tM_tr (tM_tr (tM_tr (tM_tr (tM_tr (tM_tr (tM_u (by omega)) (tM_u (by omega))) (tM_u (by omega))) (tM_u (by omega))) (tM_u (by omega))) (tM_u (by omega))) (tM_u (by omega))) (tM_u (by omega))) (tM_u (by omega))) (tM_u (by omega))
theorem tM_z {K : hI} : tM K (m_z K) := tM_u (by omega)
theorem tM_lt {K : hI} : tM K (m_lt K) := tM_tr (tM_tr (tM_tr (tM_for (fun r K => tM_tr (tM_tr (tM_u (by omega)) (tM_u (by omega))) (tM_u (by omega))) 8 K) (tM_for (fun r K => tM_tr (tM_tr (tM_u (by omega)) (tM_u (by omega))) (tM_u (by omega))) 5 _)) (tM_tr (tM_u (by omega)) (tM_u (by omega)))) tM_pt
theorem tM_le {K : hI} {m e : Int32} : tM K (m_le K m e) := tM_tr (tM_tr (tM_tr (tM_tr (tM_tr (tM_tr (tM_for (fun r K => tM_tr (tM_tr (tM_u (by omega)) (tM_u (by omega))) (tM_u (by omega))) 8 K) (tM_for (fun r K => tM_tr (tM_tr (tM_u (by omega)) (tM_u (by omega))) (tM_u (by omega))) 5 _)) (tM_u (by omega))) (tM_u (by omega))) tM_pt) (tM_u (by omega))) (tM_u (by omega))
/-- what a trial leaves as it is, in the class -/
def tC (I I1 : hI) : Prop := ∀ a i, a < 77 ∨ 87 < a → I1 a i = I a i
theorem sR_c0 {S : Nat} {x : Int32} {N : Nat → Nat} {I I1 K K1 : hI} (h1 : ∀ a i, S ≤ a → a ≤ S + 6 → I1 a i = I a i) (h2 : tM K K1) (h : sR S 0 x N I K) : sR S 0 x N I1 K1 := by
  obtain ⟨s1, s2, s3, s4⟩ := h
  have f : ∀ j i, j ≤ 6 → I1 (S + j) i = I (S + j) i := fun j i hj => h1 _ _ (by omega) (by omega)
  have f0 : ∀ i, I1 S i = I S i := fun i => h1 _ _ (by omega) (by omega)
  refine ⟨by rw [f0, h2.1 145 _ (by omega)]; exact s1, fun r hr => ?_, fun s hs w => ?_, fun e => by rw [f0, h2.1 144 _ (by omega)]; exact s4 e⟩
  · rw [f 3 _ (by omega), f 1 _ (by omega), f 2 _ (by omega), h2.1 140 _ (by omega), h2.1 138 _ (by omega), h2.1 139 _ (by omega)]; exact s2 r hr
  · rw [f 4 _ (by omega), f 5 _ (by omega), f 6 _ (by omega), h2.1 141 _ (by omega), h2.1 142 _ (by omega), h2.1 143 _ (by omega)]; exact s3 s hs w
theorem rD_c0 {N : Nat → Nat} {u : Nat} {I I1 K K1 : hI} (h1 : ∀ a i, 96 ≤ a → a ≤ 101 → I1 a i = I a i) (h2 : tM K K1) (h : rD N u I K) : rD N u I1 K1 := by
  obtain ⟨d1, d2, d3, d4⟩ := h
  refine ⟨d1, by rw [h1 96 0 (by omega) (by omega)]; exact d2, by rw [h2.2 110 84 (by omega) (by omega)]; exact d3, fun i hi => ?_⟩
  have ec : ∀ j, j < 34 → cu K1 j = cu K j := fun j hj => by
    unfold cu
    by_cases c1 : j < 8
    · rw [if_pos c1, if_pos c1]; exact h2.1 _ _ (by omega)
    · rw [if_neg c1, if_neg c1]
      by_cases c2 : j < 16
      · rw [if_pos c2, if_pos c2]; exact h2.1 _ _ (by omega)
      · rw [if_neg c2, if_neg c2]
        by_cases c3 : j < 24
        · rw [if_pos c3, if_pos c3]; exact h2.1 _ _ (by omega)
        · rw [if_neg c3, if_neg c3]
          by_cases c4 : j < 29
          · rw [if_pos c4, if_pos c4]; exact h2.1 _ _ (by omega)
          · rw [if_neg c4, if_neg c4]; exact h2.1 _ _ (by omega)
  have e : ∀ i j, j < 34 → sq K1 u i j = sq K u i j := fun i j hj => by
    unfold sq
    rw [h2.2 152 _ (by omega) (by omega), ec j hj]
  have e2 : ∀ j x, uE I1 i j x = uE I i j x := fun j x => by
    unfold uE
    rw [h1 97 _ (by omega) (by omega), h1 98 _ (by omega) (by omega), h1 99 _ (by omega) (by omega), h1 100 _ (by omega) (by omega), h1 101 _ (by omega) (by omega)]
  rw [h1 97 _ (by omega) (by omega), h1 98 _ (by omega) (by omega), h1 99 _ (by omega) (by omega), h1 100 _ (by omega) (by omega), h1 101 _ (by omega) (by omega)]
  exact ⟨(d4 i hi).1, fun j hj => by rw [e _ _ hj, e _ _ hj, e2]; exact (d4 i hi).2 j hj⟩
/-- after a trial -/
theorem REL_t {T O : Nat} {N : Nat → Nat} {u q : Nat} {I I1 K K1 : hI} {J J1 L L1 : hJ} (h : REL T O N u q I J K L) (c : tC I I1) (m : tM K K1) (j1 : J1 63 1 = J 63 1) (j2 : J1 70 1 = J 70 1) (l1 : L1 110 62 = L 110 62) (l2 : L1 110 89 = L 110 89) : REL T O N u q I1 J1 K1 L1 := by
  obtain ⟨a, b, cc, d, e, g, f⟩ := h
  refine ⟨rA_c (fun a i x y => c a i (by omega)) (fun a i x => m.2 a i (by omega) (by omega)) a, ⟨sR_c0 (fun a i x y => c a i (by omega)) m b.1, by rw [j1, l1]; exact b.2.1, hL_c (fun a i x y => c a i (by omega)) b.2.2.1, wN_c (fun a i x y => c a i (by omega)) b.2.2.2⟩, rC_c (fun a i x => c a i (by omega)) (fun a i x => m.2 a i (by omega) (by omega)) j2 l2 cc, rD_c0 (fun a i x y => c a i (by omega)) m d, rE_c (fun a i x y => c a i (by omega)) (fun a i x => m.2 a i (by omega) (by omega)) e, rG_c (fun a i x => c a i (by omega)) (fun a i x => m.2 a i (by omega) (by omega)) g, rF_c a (fun a i x => c a i (by omega)) (fun a i x => m.2 a i (by omega) (by omega)) f⟩
