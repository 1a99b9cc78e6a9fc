/-! Texts alike: where a text begins, and what stays. -/
theorem m_lw_c {K K' : hI} {L : hJ} {f : Nat} (h : ∀ a i, 131 ≤ a → a ≤ 133 → i < 64 → K' a i = K a i) : ∀ r, f + r ≤ 64 → m_lw K' L f r = m_lw K L f r := by
  intro r
  induction r with
  | zero => intro _; unfold m_lw; simp only [s_for]
  | succ r ih =>
    intro hr
    have e := ih (by omega)
    have v : ∀ x J, m_val (am_u K' 110 53 x) J (f + r) = m_val (am_u K 110 53 x) J (f + r) := fun x J => by
      have r1 : ∀ a, 131 ≤ a → a ≤ 133 → am_u K' 110 53 x a (f + r) = am_u K 110 53 x a (f + r) := fun a u w => by
        rw [am_u_na (by omega), am_u_na (by omega)]; exact h a _ u w (by omega)
      have r0 : am_u K' 110 53 x 110 53 = am_u K 110 53 x 110 53 := by rw [am_u_at, am_u_at]
      unfold m_val
      rw [r1 131 (by omega) (by omega), r1 132 (by omega) (by omega), r1 133 (by omega) (by omega), r0]
    rw [m_lw_s, m_lw_s, e, v]
theorem LQ_h {T : Nat} {N : Nat → Nat} {I K K1 : hI} (q : LQ T N I K) (lo : ∀ w, w < 3 → ¬ K 128 w = 0 → lok K w) (h : ∀ a i, 128 ≤ a → a ≤ 133 → kept a i → K1 a i = K a i) : LQ T N I K1 := by
  intro w hw
  obtain ⟨q1, q2, q3⟩ := q w hw
  have k3 : ∀ a, 128 ≤ a → a ≤ 130 → K1 a w = K a w := fun a u v => h a w u (by omega) (by unfold kept; omega)
  rw [k3 128 (by omega) (by omega)]
  refine ⟨q1, q2, fun g I2 K2 J L a1 a2 a3 => ?_⟩
  have l := lo w hw g
  have r := q3 g I2 (fun a i => if 128 ≤ a ∧ a ≤ 133 then K a i else K2 a i) J L a1 (fun a i u v => if_pos ⟨u, v⟩) a3
  have e129 : K2 129 w = K 129 w := (a2 129 w (by omega) (by omega)).trans (k3 129 (by omega) (by omega))
  have e130 : K2 130 w = K 130 w := (a2 130 w (by omega) (by omega)).trans (k3 130 (by omega) (by omega))
  have f1 : lf K2 w = lf K w ∧ ln K2 w = ln K w := by unfold lf ln; rw [e129, e130]; exact ⟨rfl, rfl⟩
  have f2 : lf (fun a i => if 128 ≤ a ∧ a ≤ 133 then K a i else K2 a i) w = lf K w ∧ ln (fun a i => if 128 ≤ a ∧ a ≤ 133 then K a i else K2 a i) w = ln K w := by
    unfold lf ln
    dsimp only
    rw [if_pos (by omega), if_pos (by omega)]; exact ⟨rfl, rfl⟩
  have es : m_ls K2 L w = m_ls (fun a i => if 128 ≤ a ∧ a ≤ 133 then K a i else K2 a i) L w := by
    unfold m_ls
    rw [f1.1, f1.2, f2.1, f2.2]
    refine m_lw_c (fun a i u v x => ?_) _ l.2.2.2.1
    show K2 a i = if 128 ≤ a ∧ a ≤ 133 then K a i else K2 a i
    rw [if_pos (by omega), a2 a i (by omega) v]
    exact h a i (by omega) v (by unfold kept; omega)
  have el : m_law K2 L w = m_law (fun a i => if 128 ≤ a ∧ a ≤ 133 then K a i else K2 a i) L w := by
    unfold m_law
    rw [es, f1.1, f1.2, f2.1, f2.2]
  rw [es, el]; exact r
theorem lok_h {K K1 : hI} {w : Nat} (hw : w < 3) (h : ∀ a i, 128 ≤ a → a ≤ 133 → kept a i → K1 a i = K a i) (l : lok K w) : lok K1 w := by
  have k3 : ∀ a, 128 ≤ a → a ≤ 130 → K1 a w = K a w := fun a u v => h a w u (by omega) (by unfold kept; omega)
  have f1 : lf K1 w = lf K w ∧ ln K1 w = ln K w := by unfold lf ln; rw [k3 129 (by omega) (by omega), k3 130 (by omega) (by omega)]; exact ⟨rfl, rfl⟩
  have b := l.2.2.2.1
  unfold lok at l ⊢
  rw [f1.1, f1.2, k3 129 (by omega) (by omega), k3 130 (by omega) (by omega)]
  exact ⟨l.1, l.2.1, l.2.2.1, l.2.2.2.1, fun i hi => kok_c3 (fun a u v => h a i (by omega) v (by unfold kept; omega)) (l.2.2.2.2 i hi)⟩
/-- what is told stays, whatever was begun beside it -/
theorem rA_h {T O : Nat} {N : Nat → Nat} {I I1 K K1 : hI} (f : ∀ a i, T ≤ a → a ≤ T + 26 → I1 a i = I a i) (th : thk I1 O) (h2 : ∀ a i, (112 ≤ a ∧ a ≤ 133) ∨ (a = 110 ∧ 12 ≤ i ∧ i ≤ 16) → kept a i → K1 a i = K a i) (h : rA T O N I K) : rA T O N I1 K1 := by
  obtain ⟨a1, a2, a3, a4, a5, a6, a7, a8, a9, a10⟩ := h
  have hl : ∀ a i, 128 ≤ a → a ≤ 133 → kept a i → K1 a i = K a i := fun a i u v k => h2 a i (by omega) k
  obtain ⟨⟨n0, n1, n2, n3⟩, ⟨o0, o1, o2, o3⟩, o4, o5, o6⟩ := a5
  have c110 : ∀ i, 12 ≤ i → i ≤ 16 → K1 110 i = K 110 i := fun i u v => h2 110 i (by omega) (by unfold kept; omega)
  have e128 : ∀ w, w < 3 → K1 128 w = K 128 w := fun w hw => hl 128 w (by omega) (by omega) (by unfold kept; omega)
  refine ⟨a1, tsz_c f a2, tqs_c f a3, th, ⟨⟨n0, n1, n2, n3⟩, ⟨?_, ?_, ?_, ?_⟩, fun r hr => ?_, fun v hv => ?_, fun w hw g => ?_⟩, ?_, LQ_h (LQ_c (fun a i u v => f a i (by omega) (by omega)) (fun _ _ _ _ => rfl) a7) (fun w hw g => o6 w hw g) hl, ?_, fun i hi => ?_, ?_⟩
  · rw [c110 12 (by omega) (by omega)]; exact o0
  · rw [c110 13 (by omega) (by omega)]; exact o1
  · rw [c110 14 (by omega) (by omega)]; exact o2
  · rw [c110 15 (by omega) (by omega)]; exact o3
  · rw [h2 119 r (by omega) (by unfold kept; omega)]; exact o4 r hr
  · rw [h2 125 v (by omega) (by unfold kept; omega)]; exact o5 v hv
  · rw [e128 w hw] at g
    exact lok_h hw hl (o6 w hw g)
  · obtain ⟨t1, t2, t3, t4, t5, t6⟩ := tR_c f (fun _ _ _ _ => rfl) a6
    refine ⟨fun m hm => ?_, fun r hr => ?_, fun r hr => ?_, fun s hs => ?_, fun v hv => ?_, ?_⟩
    · rw [h2 115 m (by omega) (by unfold kept; omega), h2 116 m (by omega) (by unfold kept; omega), h2 117 m (by omega) (by unfold kept; omega)]; exact t1 m hm
    · rw [h2 118 r (by omega) (by unfold kept; omega), h2 119 r (by omega) (by unfold kept; omega), h2 120 r (by omega) (by unfold kept; omega), h2 121 r (by omega) (by unfold kept; omega)]; exact t2 r hr
    · rw [h2 122 r (by omega) (by unfold kept; omega)]; exact t3 r hr
    · rw [h2 123 s (by omega) (by unfold kept; omega), h2 124 s (by omega) (by unfold kept; omega)]; exact t4 s hs
    · rw [h2 125 v (by omega) (by unfold kept; omega), h2 126 v (by omega) (by unfold kept; omega), h2 127 v (by omega) (by unfold kept; omega)]; exact t5 v hv
    · rw [h2 114 0 (by omega) (by unfold kept; omega), h2 114 1 (by omega) (by unfold kept; omega)]; exact t6
  · rw [c110 16 (by omega) (by omega)]; exact a8
  · rw [h2 112 i (by omega) (by unfold kept; omega)]; exact a9 i hi
  · intro v
    rw [f T 11 (by omega) (by omega), f T 15 (by omega) (by omega), f (T + 15) v (by omega) (by omega)]
    exact a10 v
theorem mF_for {g : Nat → hI → hI} (h : ∀ r K, mF K (g r K)) (n : Nat) (K : hI) : mF K (s_for g n K) := by
  induction n with
  | zero => exact mF_rf
  | succ n ih => exact mF_tr ih (h n _)
theorem mF_pl {K : hI} : mF K (m_pl K) := by
  have h0 : mF K (m_pl0 K) := by
    intro a i k
    unfold kept at k
    unfold m_pl0 am_u
    rw [if_neg (by omega), if_neg (by omega), if_neg (by omega), if_neg (by omega), if_neg (by omega), if_neg (by omega)]
  have h1 : ∀ X, mF X (m_pl1 2 X) := fun X => mF_for (fun r K => mF_tr (mF_u (a := 113) (k := r) (x := Int32.ofNat 0) (by unfold kept; omega)) (mF_u (a := 114) (k := 2 + r) (by unfold kept; omega))) 2 X
  have h2 : ∀ X, mF X (m_pl2 8 X) := fun X => mF_for (fun r K => by exact mF_u (a := 122) (k := 8 + r) (by unfold kept; omega)) 8 X
  have h3 : ∀ X, mF X (m_pl3 3 X) := fun X => mF_for (fun r K => by exact mF_u (a := 128) (k := 3 + r) (by unfold kept; omega)) 3 X
  exact mF_tr (mF_tr (mF_tr h0 (h1 _)) (h2 _)) (h3 _)
/-- where a text begins, in the reference -/
theorem tx2_f {K : hI} {n : Nat} : (∀ a i, kept a i → ¬ (a = 110 ∧ (i = 1 ∨ i = 2)) → m_tx2 K n a i = K a i) ∧ m_tx2 K n 110 1 = Int32.ofNat 0 := by
  have t1 : ∀ a i, kept a i → ¬ (a = 110 ∧ (i = 1 ∨ i = 2)) → m_tx1 K n a i = K a i := fun a i k h => by
    unfold kept at k
    unfold m_tx1 m_z am_u
    rw [if_neg (by omega), if_neg (by omega), if_neg (by omega), if_neg (by omega), if_neg (by omega), if_neg (by omega)]
  refine ⟨fun a i k h => ?_, ?_⟩
  · have e := mF_tr (mF_pl (K := m_tx1 K n)) (mF_e (eT_tok (X := m_pl (m_tx1 K n)))) a i k
    exact e.trans (t1 a i k h)
  · unfold m_tx2
    rw [m_tok_n (by omega), m_pl_f (by omega) (by omega)]; rfl
theorem clr_v {I : hI} {T : Nat} (h9 : T = 9 ∨ T = 36) : k_clr I T T 0 = Int32.ofNat 0 ∧ k_clr I T (T + 1) 1 = Int32.ofNat 0 ∧ k_clr I T (T + 5) 1 = Int32.ofNat 0 ∧ k_clr I T (T + 11) 1 = Int32.ofNat 0 ∧ k_clr I T T 11 = Int32.ofNat 0 ∧ k_clr I T T 16 = Int32.ofNat 0 ∧ k_clr I T T 17 = Int32.ofNat 0 ∧ k_clr I T (T + 18) 0 = Int32.ofNat 0 ∧ k_clr I T (T + 21) 0 = Int32.ofNat 0 ∧ k_clr I T (T + 24) 0 = Int32.ofNat 0 := by
  rcases h9 with rfl | rfl <;> (unfold k_clr; refine ⟨?_, ?_, ?_, ?_, ?_, ?_, ?_, ?_, ?_, ?_⟩ <;> rfl)
theorem tx_start {I K : hI} {O n : Nat} (h9 : O = 9 ∨ O = 36) (hn : n ≤ 700) (ch : ∀ i, i < n → I 1 i = K 111 i) (wd4 : ∀ r, r < 21 → I 4 r = wk r) (hW : ∀ i, i < 106 → K 112 i = Int32.ofNat (wd i)) : TXR O (m_tx2 K n) (k_txt I O n) (m_tx K n) := by
  have f0 : ∀ b i, b ≠ 2 → b ≠ 3 → k_tx0 I O n b i = k_clr I O b i := fun b i h2 h3 => (am_u_na h3).trans ((am_u_na h3).trans ((am_u_na h3).trans ((am_u_na h3).trans ((am_u_na h2).trans (am_u_na h2)))))
  have fc : ∀ b i, b < 9 → k_clr I O b i = I b i := fun b i h => by
    unfold k_clr
    rw [am_u_na (by omega), am_u_na (by omega), am_u_na (by omega), am_u_na (by omega), am_u_na (by omega), am_u_na (by omega), am_u_na (by omega), am_u_na (by omega), am_u_na (by omega), am_u_na (by omega), am_u_na (by omega)]
  obtain ⟨v0, v1, v5, v11, v3, v16, v17, v18, v21, v24⟩ := clr_v (I := I) h9
  have y111 : ∀ i, m_pl (m_tx1 K n) 111 i = K 111 i := fun i => m_pl_f (by omega) (by omega)
  have bs : bse n (k_tx0 I O n) (m_pl (m_tx1 K n)) := by
    refine ⟨hn, rfl, (m_pl_f (by omega) (by omega)).trans rfl, fun i hi => ?_, fun r hr => ?_, ?_, ?_, ?_⟩
    · rw [f0 1 i (by decide) (by decide), fc 1 i (by decide), y111]; exact ch i hi
    · rw [f0 4 r (by decide) (by decide), fc 4 r (by decide)]; exact wd4 r hr
    · exact okn_of (r := 0) (by omega) (by omega)
    · rw [m_pl_f (by omega) (by omega)]; rfl
    · rw [m_pl_f (by omega) (by omega)]; rfl
  have e7 : k_tx0 I O n 3 3 = m_pl (m_tx1 K n) 110 7 := by rw [m_pl_f (by omega) (by omega)]; rfl
  obtain ⟨t1, t2⟩ := tok_al bs e7
  have N : nx n (k_tx0 I O n) (m_tx2 K n) := ⟨bse_c (fun _ _ _ => rfl) (fun a i u => m_tok_n (by omega)) bs, t2, t1⟩
  have D : DT O (fun _ => 0) (k_tx0 I O n) (m_pl (m_tx1 K n)) := by
    have q := m_pl_rc (m_tx1 K n)
    refine ⟨⟨Nat.zero_le _, (f0 _ _ (by omega) (by omega)).trans v1, q.1.1, fun m hm => absurd hm (Nat.not_lt_zero m)⟩, ⟨Nat.zero_le _, (f0 _ _ (by omega) (by omega)).trans v5, q.2.1.1, fun m hm => absurd hm (Nat.not_lt_zero m), fun r _ hr => ?_⟩, ⟨Nat.zero_le _, (f0 _ _ (by omega) (by omega)).trans v11, q.2.2.1.1, fun m hm => absurd hm (Nat.not_lt_zero m)⟩, ⟨Nat.zero_le _, (f0 _ _ (by omega) (by omega)).trans v3, q.2.2.2.1.1, fun m hm => absurd hm (Nat.not_lt_zero m)⟩, ⟨⟨?_, ?_⟩, ?_, ?_⟩, ⟨by decide, q.2.2.2.2.1, q.2.2.2.2.2.1, fun w hw => ⟨?_, Or.inl ⟨rfl, ?_⟩⟩, fun i hi => absurd hi (Nat.not_lt_zero i)⟩⟩
    · have : r = 0 ∨ r = 1 ∨ r = 2 ∨ r = 3 ∨ r = 4 ∨ r = 5 ∨ r = 6 ∨ r = 7 := by omega
      rcases this with rfl | rfl | rfl | rfl | rfl | rfl | rfl | rfl <;> rfl
    · exact ((f0 _ _ (by omega) (by omega)).trans v16).trans rfl
    · exact ((f0 _ _ (by omega) (by omega)).trans v17).trans rfl
    · exact ⟨fun _ => rfl, fun _ => rfl⟩
    · exact ⟨fun _ => rfl, fun _ => rfl⟩
    · have : w = 0 ∨ w = 1 ∨ w = 2 := by omega
      rcases this with rfl | rfl | rfl
      · exact (f0 _ _ (by omega) (by omega)).trans v18
      · exact (f0 _ _ (by omega) (by omega)).trans v21
      · exact (f0 _ _ (by omega) (by omega)).trans v24
    · have : w = 0 ∨ w = 1 ∨ w = 2 := by omega
      rcases this with rfl | rfl | rfl <;> rfl
  have D2 : DT O (fun _ => 0) (k_tx0 I O n) (m_tx2 K n) := DT_e (by omega) e3_rf eT_tok D
  have g1 : pv (m_pl (m_tx1 K n)) (K 111) n := by
    refine ⟨funext y111, fun i hi => (m_pl_f (by omega) (by omega)).trans (hW i hi), (m_pl_f (by omega) (by omega)).trans rfl, by omega, ?_⟩
    rw [m_pl_f (by omega) (by omega)]
    exact okn_of (by omega) (by omega)
  have mz : mu (m_tx2 K n) n ≤ n := by
    unfold mu
    have a1 : m_tx2 K n 110 7 = u_tok (k_tx0 I O n) 3 3 := t1.1.symm
    obtain ⟨_, _, _, _, _, _, t0⟩ := tk_cases t1.2.2
    rw [a1]
    rcases tok_gt bs with z | ⟨z1, z2⟩
    · rw [if_pos (show m_tx2 K n 110 8 = 0 from t0.mp z)]; omega
    · split <;> omega
  exact tx_eq h9 (n + 1) 800 0 (k_tx0 I O n) (m_tx2 K n) _ N D2 ((f0 _ _ (by omega) (by omega)).trans v0) (pv_tok g1) (b01_c (p8_tok p8_rf) (m_pl_b _)) (by omega) (by omega)
