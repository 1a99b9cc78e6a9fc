/-! Texts alike: what a text is read into. -/
/-- rows alike but for the token's -/
def e3 (X Y : hI) : Prop := ∀ b i, b ≠ 3 → X b i = Y b i
def eT (K L : hI) : Prop := ∀ a i, ¬ (a = 110 ∧ 4 ≤ i ∧ i ≤ 11) → K a i = L a i
theorem e3_u {X Y : hI} {a k : Nat} {x : Int32} (h : e3 X Y) : e3 (am_u X a k x) (am_u Y a k x) := fun b i hb => by
  unfold am_u; rw [h b i hb]
theorem eT_u {X Y : hI} {a k : Nat} {x : Int32} (h : eT X Y) : eT (am_u X a k x) (am_u Y a k x) := fun b i hb => by
  unfold am_u; rw [h b i hb]
theorem e3_tr {X Y Z : hI} (h : e3 X Y) (g : e3 Y Z) : e3 X Z := fun b i hb => (h b i hb).trans (g b i hb)
theorem eT_tr {X Y Z : hI} (h : eT X Y) (g : eT Y Z) : eT X Z := fun b i hb => (h b i hb).trans (g b i hb)
theorem e3_rf {X : hI} : e3 X X := fun _ _ _ => rfl
theorem eT_rf {X : hI} : eT X X := fun _ _ _ => rfl
theorem e3_tok {X : hI} : e3 (u_tok X) X := fun b i h => u_tok_n h
theorem eT_tok {X : hI} : eT (m_tok X) X := fun a i h => m_tok_n (by omega)
theorem eT_11 {X : hI} {x : Int32} : eT (am_u X 110 11 x) X := fun a i h => by unfold am_u; rw [if_neg (by omega)]
/-- makers, ropes, ships, voyages, storm and seed, on both sides -/
def D1 (T a : Nat) (I K : hI) : Prop := a ≤ 6 ∧ I (T + 1) 1 = Int32.ofNat a ∧ K 110 17 = Int32.ofNat a ∧ ∀ m, m < a → I (T + 2) m = K 115 (6 + m) ∧ I (T + 3) m = K 116 (6 + m) ∧ I (T + 4) m = K 117 (6 + m)
def D2 (T b : Nat) (I K : hI) : Prop := b ≤ 8 ∧ I (T + 5) 1 = Int32.ofNat b ∧ K 110 18 = Int32.ofNat b ∧ (∀ r, r < b → I (T + 6) r = K 118 (8 + r) ∧ I (T + 7) r = K 119 (8 + r) ∧ I (T + 8) r = K 120 (8 + r) ∧ I (T + 9) r = K 121 (8 + r) ∧ I (T + 10) r = K 122 (8 + r) ∧ (I (T + 10) r = Int32.ofInt (-1) ∨ okn (I (T + 10) r) 5)) ∧ ∀ r, b ≤ r → r < 8 → K 122 (8 + r) = Int32.ofInt (-1)
def D3 (T c : Nat) (I K : hI) : Prop := c ≤ 5 ∧ I (T + 11) 1 = Int32.ofNat c ∧ K 110 19 = Int32.ofNat c ∧ ∀ s, s < c → I (T + 12) s = K 123 (5 + s) ∧ I (T + 13) s = K 124 (5 + s)
def D4 (T d : Nat) (I K : hI) : Prop := d ≤ 10 ∧ I T 11 = Int32.ofNat d ∧ K 110 20 = Int32.ofNat d ∧ ∀ v, v < d → I (T + 14) v = K 125 (10 + v) ∧ I (T + 15) v = K 126 (10 + v) ∧ I (T + 16) v = K 127 (10 + v) ∧ ¬ I T 15 < I (T + 15) v
def D5 (T : Nat) (I K : hI) : Prop := (I T 16 = K 114 2 ∧ I T 17 = K 114 3) ∧ (I 2 3 = 0 ↔ K 113 0 = 0) ∧ (I 2 4 = 0 ↔ K 113 1 = 0)
/-- a law, on both sides -/
def LW (A w n t : Nat) (I K : hI) : Prop := I A 0 = Int32.ofNat n ∧ ((n = 0 ∧ K 128 (3 + w) = 0) ∨ (1 ≤ n ∧ K 128 (3 + w) = Int32.ofNat 1 ∧ sh (I (A + 1)) n = 1 ∧ ∃ f, f + n ≤ t ∧ K 129 (3 + w) = Int32.ofNat f ∧ K 130 (3 + w) = Int32.ofNat (f + n) ∧ ∀ i, i < n → knR (I (A + 1)) (I (A + 2)) K 64 f i))
def D6 (T : Nat) (e : Nat → Nat) (I K : hI) : Prop := e 4 + e 5 + e 6 ≤ 64 ∧ K 110 21 = Int32.ofNat (e 4 + e 5 + e 6) ∧ K 110 48 = Int32.ofNat (e 4 + e 5 + e 6) ∧ (∀ w, w < 3 → LW (T + 18 + 3 * w) w (e (4 + w)) (e 4 + e 5 + e 6) I K) ∧ ∀ i, i < e 4 + e 5 + e 6 → kok K (64 + i)
def DT (T : Nat) (e : Nat → Nat) (I K : hI) : Prop := D1 T (e 0) I K ∧ D2 T (e 1) I K ∧ D3 T (e 2) I K ∧ D4 T (e 3) I K ∧ D5 T I K ∧ D6 T e I K
theorem D1_c {T a : Nat} {I K X Y : hI} (h1 : ∀ b i, T + 1 ≤ b → b ≤ T + 4 → X b i = I b i) (h2 : ∀ b i, (115 ≤ b ∧ b ≤ 117) ∨ (b = 110 ∧ i = 17) → Y b i = K b i) (d : D1 T a I K) : D1 T a X Y := by
  obtain ⟨d1, d2, d3, d4⟩ := d
  refine ⟨d1, by rw [h1 _ _ (by omega) (by omega)]; exact d2, by rw [h2 110 17 (by omega)]; exact d3, fun m hm => ?_⟩
  rw [h1 (T + 2) m (by omega) (by omega), h1 (T + 3) m (by omega) (by omega), h1 (T + 4) m (by omega) (by omega), h2 115 _ (by omega), h2 116 _ (by omega), h2 117 _ (by omega)]
  exact d4 m hm
theorem D2_c {T a : Nat} {I K X Y : hI} (h1 : ∀ b i, T + 5 ≤ b → b ≤ T + 10 → X b i = I b i) (h2 : ∀ b i, (118 ≤ b ∧ b ≤ 122) ∨ (b = 110 ∧ i = 18) → Y b i = K b i) (d : D2 T a I K) : D2 T a X Y := by
  obtain ⟨d1, d2, d3, d4, d5⟩ := d
  refine ⟨d1, by rw [h1 _ _ (by omega) (by omega)]; exact d2, by rw [h2 110 18 (by omega)]; exact d3, fun m hm => ?_, fun r h3 h4 => by rw [h2 122 _ (by omega)]; exact d5 r h3 h4⟩
  rw [h1 (T + 6) m (by omega) (by omega), h1 (T + 7) m (by omega) (by omega), h1 (T + 8) m (by omega) (by omega), h1 (T + 9) m (by omega) (by omega), h1 (T + 10) m (by omega) (by omega), h2 118 _ (by omega), h2 119 _ (by omega), h2 120 _ (by omega), h2 121 _ (by omega), h2 122 _ (by omega)]
  exact d4 m hm
theorem D3_c {T a : Nat} {I K X Y : hI} (h1 : ∀ b i, T + 11 ≤ b → b ≤ T + 13 → X b i = I b i) (h2 : ∀ b i, (123 ≤ b ∧ b ≤ 124) ∨ (b = 110 ∧ i = 19) → Y b i = K b i) (d : D3 T a I K) : D3 T a X Y := by
  obtain ⟨d1, d2, d3, d4⟩ := d
  refine ⟨d1, by rw [h1 _ _ (by omega) (by omega)]; exact d2, by rw [h2 110 19 (by omega)]; exact d3, fun m hm => ?_⟩
  rw [h1 (T + 12) m (by omega) (by omega), h1 (T + 13) m (by omega) (by omega), h2 123 _ (by omega), h2 124 _ (by omega)]
  exact d4 m hm
theorem D4_c {T a : Nat} {I K X Y : hI} (h1 : ∀ b i, (T + 14 ≤ b ∧ b ≤ T + 16) ∨ (b = T ∧ (i = 11 ∨ i = 15)) → X b i = I b i) (h2 : ∀ b i, (125 ≤ b ∧ b ≤ 127) ∨ (b = 110 ∧ i = 20) → Y b i = K b i) (d : D4 T a I K) : D4 T a X Y := by
  obtain ⟨d1, d2, d3, d4⟩ := d
  refine ⟨d1, by rw [h1 _ _ (by omega)]; exact d2, by rw [h2 110 20 (by omega)]; exact d3, fun m hm => ?_⟩
  rw [h1 (T + 14) m (by omega), h1 (T + 15) m (by omega), h1 (T + 16) m (by omega), h1 T 15 (by omega), h2 125 _ (by omega), h2 126 _ (by omega), h2 127 _ (by omega)]
  exact d4 m hm
theorem D5_c {T : Nat} {I K X Y : hI} (h1 : ∀ b i, (b = T ∧ (i = 16 ∨ i = 17)) ∨ (b = 2 ∧ (i = 3 ∨ i = 4)) → X b i = I b i) (h2 : ∀ b i, b = 113 ∨ b = 114 → Y b i = K b i) (d : D5 T I K) : D5 T X Y := by
  unfold D5 at d ⊢
  rw [h1 T 16 (by omega), h1 T 17 (by omega), h1 2 3 (by omega), h1 2 4 (by omega), h2 114 2 (by omega), h2 114 3 (by omega), h2 113 0 (by omega), h2 113 1 (by omega)]
  exact d
theorem LW_c {A w n t t' : Nat} {I K X Y : hI} (ht : t ≤ t') (h1 : ∀ b i, A ≤ b → b ≤ A + 2 → X b i = I b i) (h2 : ∀ b i, (128 ≤ b ∧ b ≤ 130 ∧ i = 3 + w) ∨ (131 ≤ b ∧ b ≤ 133 ∧ i < 64 + t) → Y b i = K b i) (d : LW A w n t I K) : LW A w n t' X Y := by
  obtain ⟨d0, d⟩ := d
  refine ⟨(h1 A 0 (by omega) (by omega)).trans d0, ?_⟩
  have e1 : X (A + 1) = I (A + 1) := funext fun i => h1 _ i (by omega) (by omega)
  rcases d with ⟨a1, a2⟩ | ⟨a1, a2, a3, f, a4, a5, a6, a7⟩
  · exact Or.inl ⟨a1, by rw [h2 128 _ (by omega)]; exact a2⟩
  · refine Or.inr ⟨a1, by rw [h2 128 _ (by omega)]; exact a2, by rw [e1]; exact a3, f, by omega, by rw [h2 129 _ (by omega)]; exact a5, by rw [h2 130 _ (by omega)]; exact a6, fun i hi => ?_⟩
    exact knR_c (fun j _ => h1 _ j (by omega) (by omega)) (h1 _ i (by omega) (by omega)) (fun a u v => h2 a _ (by omega)) (a7 i hi)
theorem kok_c3 {K K1 : hI} {k k' : Nat} (h : ∀ a, 131 ≤ a → a ≤ 133 → K1 a k' = K a k) (g : kok K k) : kok K1 k' := by
  unfold kok at g ⊢
  rw [h 131 (by omega) (by omega), h 132 (by omega) (by omega), h 133 (by omega) (by omega)]; exact g
theorem D6_c {T : Nat} {e : Nat → Nat} {I K X Y : hI} (h1 : ∀ b i, T + 18 ≤ b → b ≤ T + 26 → X b i = I b i) (h2 : ∀ b i, (128 ≤ b ∧ b ≤ 133) ∨ (b = 110 ∧ (i = 21 ∨ i = 48)) → Y b i = K b i) (d : D6 T e I K) : D6 T e X Y := by
  obtain ⟨d1, d2, d3, d4, d5⟩ := d
  exact ⟨d1, by rw [h2 110 21 (by omega)]; exact d2, by rw [h2 110 48 (by omega)]; exact d3, fun w hw => LW_c (Nat.le_refl _) (fun b i u v => h1 b i (by omega) (by omega)) (fun b i u => h2 b i (by omega)) (d4 w hw), fun i hi => kok_c3 (fun a u v => h2 a _ (by omega)) (d5 i hi)⟩
theorem D6_e {T : Nat} {e e' : Nat → Nat} {I K : hI} (h4 : e' 4 = e 4) (h5 : e' 5 = e 5) (h6 : e' 6 = e 6) (d : D6 T e I K) : D6 T e' I K := by
  unfold D6 at d ⊢
  rw [h4, h5, h6]
  refine ⟨d.1, d.2.1, d.2.2.1, fun w hw => ?_, d.2.2.2.2⟩
  have : e' (4 + w) = e (4 + w) := by
    have : w = 0 ∨ w = 1 ∨ w = 2 := by omega
    rcases this with rfl | rfl | rfl
    · exact h4
    · exact h5
    · exact h6
  rw [this]; exact d.2.2.2.1 w hw
theorem DT_e {T : Nat} {e : Nat → Nat} {I K X Y : hI} (h9 : 9 ≤ T) (h1 : e3 X I) (h2 : eT Y K) (d : DT T e I K) : DT T e X Y := ⟨D1_c (fun b i u v => h1 b i (by omega)) (fun b i u => h2 b i (by omega)) d.1, D2_c (fun b i u v => h1 b i (by omega)) (fun b i u => h2 b i (by omega)) d.2.1, D3_c (fun b i u v => h1 b i (by omega)) (fun b i u => h2 b i (by omega)) d.2.2.1, D4_c (fun b i u => h1 b i (by omega)) (fun b i u => h2 b i (by omega)) d.2.2.2.1, D5_c (fun b i u => h1 b i (by omega)) (fun b i u => h2 b i (by omega)) d.2.2.2.2.1, D6_c (fun b i u v => h1 b i (by omega)) (fun b i u => h2 b i (by omega)) d.2.2.2.2.2⟩
/-- the next token, on both sides: the class has it to read, the reference has read it -/
def nx (st : Nat) (I K : hI) : Prop := bse st I K ∧ bse st (u_tok I) K ∧ cur (u_tok I) K
theorem nx_go {st : Nat} {I K X Y : hI} (h : nx st I K) (h1 : ∀ b i, b = 1 ∨ b = 4 → X b i = I b i) (h3 : ∀ i, X 3 i = u_tok I 3 i) (h2 : ∀ a i, a = 111 ∨ (a = 110 ∧ 4 ≤ i ∧ i ≤ 10) → Y a i = K a i) : nx st X (m_tok Y) := by
  have b : bse st X Y := bse_c (fun a i u => by
    rcases u with u | u | ⟨u, _⟩
    · rw [h1 a i (by omega)]; exact (u_tok_n (by omega)).symm
    · rw [h1 a i (by omega)]; exact (u_tok_n (by omega)).symm
    · rw [u]; exact h3 i) (fun a i u => h2 a i (by omega)) h.2.1
  have c : cur X Y := cur_c (fun i _ => h3 i) (fun i u v => h2 110 i (by omega)) h.2.2
  obtain ⟨t1, t2⟩ := tok_al b c.1
  exact ⟨bse_c (fun _ _ _ => rfl) (fun a i u => m_tok_n (by omega)) b, t2, t1⟩
theorem nx_c {st : Nat} {I K X Y : hI} (h : nx st I K) (h1 : ∀ b i, b = 1 ∨ b = 3 ∨ b = 4 → X b i = I b i) (h2 : ∀ a i, a = 111 ∨ (a = 110 ∧ 4 ≤ i ∧ i ≤ 10) → Y a i = K a i) : nx st X Y := by
  have e3 : u_tok X 3 = u_tok I 3 := by
    have e1 : X 1 = I 1 := funext fun i => h1 1 i (by omega)
    have e2 : X 3 = I 3 := funext fun i => h1 3 i (by omega)
    have e4 : X 4 = I 4 := funext fun i => h1 4 i (by omega)
    funext i
    unfold u_tok u_tk u_3
    rw [e1, e2, e4]
    have e5 : am_u X 3 5 (Int32.ofNat (t_at (I 1) (nn (I 3 2)) (nn (I 3 3)))) 3 i = am_u I 3 5 (Int32.ofNat (t_at (I 1) (nn (I 3 2)) (nn (I 3 3)))) 3 i := by unfold am_u; rw [e2]
    rw [e5]
  refine ⟨bse_c (fun a i u => h1 a i (by omega)) (fun a i u => h2 a i (by omega)) h.1, bse_c (fun a i u => ?_) (fun a i u => h2 a i (by omega)) h.2.1, cur_c (fun i _ => congrFun e3 i) (fun i u v => h2 110 i (by omega)) h.2.2⟩
  by_cases g : a = 3
  · rw [g]; exact congrFun e3 i
  · rw [u_tok_n g, u_tok_n g]; exact h1 a i (by omega)
/-- a fault, on both sides -/
theorem FL_nx {st : Nat} {I K : hI} {x : Int32} (h : nx st I K) : FL (u_bl (u_tok I) x) (m_wr K x) := FL_bl h.2.2.2.1
theorem num_eq {st : Nat} {I K : hI} {lo hi : Nat} (hl : lo ≤ 99999) (hh : hi ≤ 99999) (h : nx st I K) : (∃ x, k_num I (Int32.ofNat lo) (Int32.ofNat hi) = (0, u_bl (u_tok I) x) ∧ m_num K (Int32.ofNat lo) (Int32.ofNat hi) = (0, m_wr K x)) ∨ (k_num I (Int32.ofNat lo) (Int32.ofNat hi) = (1, u_tok I) ∧ m_num K (Int32.ofNat lo) (Int32.ofNat hi) = (1, m_tok (am_u K 110 11 (K 110 9))) ∧ u_tok I 3 6 = K 110 9) := by
  obtain ⟨_, _, _, _, t⟩ := h
  obtain ⟨_, _, _, _, t2, _, _⟩ := tk_cases t
  unfold k_num m_num
  by_cases g : u_tok I 3 4 = Int32.ofNat 2
  · rw [if_pos g, if_pos (t2.mp g)]
    have kr := t2.mp g
    rcases tv_cases t with ⟨_, _, e⟩ | ⟨j, hj, e, _⟩ | ⟨e, _⟩
    · rcases e with ⟨v, v1, v2, v3⟩ | ⟨v2, v3⟩
      · rw [v2, v3]
        by_cases c : ¬ Int32.ofNat v < Int32.ofNat lo ∧ ¬ Int32.ofNat hi < Int32.ofNat v
        · rw [if_pos c, if_pos c]; exact Or.inr ⟨rfl, rfl, rfl⟩
        · rw [if_neg c, if_neg c]; exact Or.inl ⟨_, rfl, rfl⟩
      · have l : Int32.ofNat hi < Int32.ofNat 99999 ∨ Int32.ofNat hi = Int32.ofNat 99999 := by
          by_cases z : hi = 99999
          · right; rw [z]
          · left; exact (am_ltN (by omega) (by omega)).mpr (by omega)
        have up : ∀ y : Int32, Int32.ofNat 99999 < y → Int32.ofNat hi < y := fun y hy => by
          rcases l with l | l
          · exact Int32.lt_trans l hy
          · rw [l]; exact hy
        rw [if_neg (fun z => z.2 (up _ v2)), if_neg (fun z => z.2 (up _ v3))]
        exact Or.inl ⟨_, rfl, rfl⟩
    · rw [g] at e
      have := (am_eqN (by omega) (by omega)).mp e
      omega
    · exact absurd (Or.inl g) e
  · rw [if_neg g, if_neg (fun z => g (t2.mpr z))]
    exact Or.inl ⟨_, rfl, rfl⟩
theorem m_fnd_cg2 {f g : Nat → Int32} {x : Int32} : ∀ j r, (∀ i, r ≤ i → i < r + j → f i = g i) → m_fnd f x j r = m_fnd g x j r := by
  intro j
  induction j with
  | zero => intro r _; rfl
  | succ j ih =>
    intro r h
    have e1 : ∀ f : Nat → Int32, m_fnd f x (j + 1) r = if f r = x then Int32.ofNat r else m_fnd f x j (r + 1) := fun _ => rfl
    rw [e1, e1, h r (Nat.le_refl _) (by omega), ih (r + 1) (fun i u v => h i (by omega) (by omega))]
theorem name_v {st : Nat} {I K : hI} (h : nx st I K) : (u_tok I 3 4 = Int32.ofNat 3 ↔ K 110 8 = Int32.ofNat 2) ∧ (K 110 8 = Int32.ofNat 2 → u_tok I 3 6 = K 110 9) := by
  obtain ⟨_, _, _, _, t⟩ := h
  obtain ⟨_, _, _, _, _, t3, _⟩ := tk_cases t
  refine ⟨t3, fun k => ?_⟩
  rcases t with ⟨h1, _⟩ | ⟨_, _, h1, _⟩ | ⟨_, _, h3⟩ | ⟨h1, _⟩ | ⟨_, _, h1, _⟩ | ⟨_, _, h1, _⟩ | ⟨h1, _⟩
  · exact absurd (h1.symm.trans k) (by decide)
  · exact absurd (h1.symm.trans k) (by decide)
  · exact h3
  · exact absurd (h1.symm.trans k) (by decide)
  · exact absurd (h1.symm.trans k) (by decide)
  · exact absurd (h1.symm.trans k) (by decide)
  · exact absurd (h1.symm.trans k) (by decide)
theorem fnd_neg {f : Nat → Int32} {x : Int32} {n : Nat} (hn : n ≤ 8) : m_fnd f x n 0 = Int32.ofInt (-1) ↔ m_fnd f x n 0 < 0 := ⟨fun z => by rw [z]; decide, fun z => m_fnd_no (by omega) z⟩
theorem new_eq {st : Nat} {I K : hI} {A m n A' a : Nat} (hn : n < m) (hm : m ≤ 8) (hA : 3 < A) (h : nx st I K) (hr : ∀ i, i < n → I (A + 1) i = K A' (a + i)) : (∃ x, k_new I A m n = (0, u_bl (u_tok I) x) ∧ m_new K A' a n = (0, m_wr K x)) ∨ (k_new I A m n = (1, k_na (u_tok I) A n (K 110 9)) ∧ m_new K A' a n = (1, m_tok (am_u K A' (a + n) (K 110 9)))) := by
  obtain ⟨v1, v2⟩ := name_v h
  unfold k_new m_new k_fn
  rw [if_pos hn]
  by_cases g : u_tok I 3 4 = Int32.ofNat 3
  · rw [if_pos g, if_pos (v1.mp g), v2 (v1.mp g)]
    have e : m_fnd (u_tok I (A + 1)) (K 110 9) n 0 = m_fnd (fun i => K A' (a + i)) (K 110 9) n 0 := m_fnd_cg2 n 0 (fun i _ hi => (u_tok_n (by omega)).trans (hr i (by omega)))
    rw [e]
    by_cases c : m_fnd (fun i => K A' (a + i)) (K 110 9) n 0 < 0
    · rw [if_pos ((fnd_neg (by omega)).mpr c), if_pos c]; exact Or.inr ⟨rfl, rfl⟩
    · rw [if_neg (fun z => c ((fnd_neg (by omega)).mp z)), if_neg c]; exact Or.inl ⟨_, rfl, rfl⟩
  · rw [if_neg g, if_neg (fun z => g (v1.mpr z))]
    exact Or.inl ⟨_, rfl, rfl⟩
theorem fnd_lt {f : Nat → Int32} {x : Int32} : ∀ j r, r + j ≤ 8 → ¬ m_fnd f x j r < 0 → ∃ i, r ≤ i ∧ i < r + j ∧ m_fnd f x j r = Int32.ofNat i := by
  intro j
  induction j with
  | zero => intro r _ h; exact absurd (show m_fnd f x 0 r < 0 from (by decide : Int32.ofInt (-1) < 0)) h
  | succ j ih =>
    intro r hr h
    have e1 : m_fnd f x (j + 1) r = if f r = x then Int32.ofNat r else m_fnd f x j (r + 1) := rfl
    rw [e1] at h ⊢
    by_cases g : f r = x
    · rw [if_pos g]; exact ⟨r, Nat.le_refl _, by omega, rfl⟩
    · rw [if_neg g] at h ⊢
      obtain ⟨i, i1, i2, i3⟩ := ih (r + 1) (by omega) h
      exact ⟨i, by omega, by omega, i3⟩
theorem the_eq {st : Nat} {I K : hI} {A n A' a : Nat} (hn : n ≤ 8) (hA : 3 < A) (h : nx st I K) (hr : ∀ i, i < n → I (A + 1) i = K A' (a + i)) : (∃ x, k_told I A n = (0, u_bl (u_tok I) x) ∧ m_the K A' a n = (0, m_wr K x)) ∨ (∃ j, j < n ∧ k_told I A n = (1, u_tok I) ∧ k_fn (u_tok I) A n = Int32.ofNat j ∧ m_the K A' a n = (1, am_u (m_tok K) 110 11 (Int32.ofNat j))) := by
  obtain ⟨v1, v2⟩ := name_v h
  unfold k_told m_the
  by_cases g : u_tok I 3 4 = Int32.ofNat 3
  · rw [if_pos g, if_pos (v1.mp g)]
    have e : k_fn (u_tok I) A n = m_fnd (fun i => K A' (a + i)) (K 110 9) n 0 := by
      unfold k_fn
      rw [v2 (v1.mp g)]
      exact m_fnd_cg2 n 0 (fun i _ hi => (u_tok_n (by omega)).trans (hr i (by omega)))
    rw [e]
    by_cases c : m_fnd (fun i => K A' (a + i)) (K 110 9) n 0 < 0
    · rw [if_pos ((fnd_neg (by omega)).mpr c), if_pos c]; exact Or.inl ⟨_, rfl, rfl⟩
    · rw [if_neg (fun z => c ((fnd_neg (by omega)).mp z)), if_neg c]
      obtain ⟨j, j1, j2, j3⟩ := fnd_lt n 0 (by omega) c
      rw [j3]
      exact Or.inr ⟨j, by omega, rfl, rfl, rfl⟩
  · rw [if_neg g, if_neg (fun z => g (v1.mpr z))]
    exact Or.inl ⟨_, rfl, rfl⟩
