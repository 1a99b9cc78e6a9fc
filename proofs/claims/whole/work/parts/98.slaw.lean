/-! Class and reference: laws, names laid. -/
/-- a name's value is a number's -/
def sm6 (v : Int64) : Prop := ∃ y : Int32, v = y.toInt64
theorem sm6_01 {P : Prop} {d : Decidable P} : sm6 (if P then 0 else 1) := by
  by_cases h : P
  · rw [if_pos h]; exact ⟨0, rfl⟩
  · rw [if_neg h]; exact ⟨1, rfl⟩
theorem sm6_if {P : Prop} {d : Decidable P} {y : Int32} : sm6 (if P then 0 else y.toInt64) := by
  by_cases h : P
  · rw [if_pos h]; exact ⟨0, rfl⟩
  · rw [if_neg h]; exact ⟨y, rfl⟩
/-- laws alike: told alike, and of the same value by the same names -/
def LQ (T : Nat) (N : Nat → Nat) (I K : hI) : Prop := ∀ w, w < 3 → (0 < I (T + 18 + 3 * w) 0 ↔ ¬ K 128 w = 0) ∧ (K 128 w = 0 → N (4 + w) = 0) ∧
  (¬ K 128 w = 0 → ∀ (I2 K2 : hI) (J L : hJ), (∀ a i, T + 18 ≤ a → a ≤ T + 26 → I2 a i = I a i) → (∀ a i, 128 ≤ a → a ≤ 133 → K2 a i = K a i) → (∀ i, i < 7 → J 85 i = L 136 i ∧ sm6 (L 136 i)) → (k_val I2 (T + 18 + 3 * w) (N (4 + w)) 0 0 J).1 = (if (m_ls K2 L w).1 = 0 then m_law K2 L w else k_er) ∧ ((m_ls K2 L w).1 = 0 → ¬ m_law K2 L w = k_er))
theorem LQ_c {T : Nat} {N : Nat → Nat} {I I1 K K1 : hI} (h1 : ∀ a i, T + 18 ≤ a → a ≤ T + 26 → I1 a i = I a i) (h2 : ∀ a i, 128 ≤ a → a ≤ 133 → K1 a i = K a i) (q : LQ T N I K) : LQ T N I1 K1 := by
  intro w hw
  obtain ⟨q1, q2, q3⟩ := q w hw
  have e1 : I1 (T + 18 + 3 * w) 0 = I (T + 18 + 3 * w) 0 := h1 _ _ (by omega) (by omega)
  have e2 : K1 128 w = K 128 w := h2 _ _ (by omega) (by omega)
  rw [e1, e2]
  exact ⟨q1, q2, fun g I2 K2 J L a1 a2 a3 => q3 g I2 K2 J L (fun a i b1 b2 => (a1 a i b1 b2).trans (h1 a i b1 b2)) (fun a i b1 b2 => (a2 a i b1 b2).trans (h2 a i b1 b2)) a3⟩
theorem am_mo0 {c : Nat} (hc : c ≤ 9999) : ¬ (Int32.ofNat c).toInt64 < 0 := by
  rw [Int64.lt_iff_toInt_lt, Int32.toInt_toInt64, Int32.toInt_ofNat_of_lt (by omega)]
  show ¬ (c : Int) < 0
  omega
theorem cut_eq {v : Int64} {c : Nat} {pl : Int32} (hc : c ≤ 9999) (hv : ¬ v = k_er) : k_cut v (Int32.ofNat c) pl = m_cut v (Int32.ofNat c) := by
  have h0 := am_mo0 hc
  unfold k_cut m_cut
  rw [if_neg hv]
  by_cases g : (Int32.ofNat c).toInt64 < v
  · have g0 : ¬ v < 0 := fun z => h0 (Int64.lt_trans g z)
    rw [if_pos g, if_neg h0, if_neg g0, if_pos g, Int32.toInt32_toInt64]
  · rw [if_neg g]
    by_cases f : v < 0
    · rw [if_pos f, if_pos f]; rfl
    · rw [if_neg f, if_neg f, if_neg g]
theorem bl_eq {T : Nat} {N : Nat → Nat} {I K I2 K2 : hI} {J L : hJ} {w c : Nat} {pl wo : Int32} (q : LQ T N I K) (hw : w < 3) (hc : c ≤ 9999) (a1 : ∀ a i, T + 18 ≤ a → a ≤ T + 26 → I2 a i = I a i) (a2 : ∀ a i, 128 ≤ a → a ≤ 133 → K2 a i = K a i) (a3 : ¬ K 128 w = 0 → ∀ i, i < 7 → J 85 i = L 136 i ∧ sm6 (L 136 i)) (e : pl = wo) : k_cut (k_val I2 (T + 18 + 3 * w) (N (4 + w)) 0 0 J).1 (Int32.ofNat c) pl = m_bl K2 L w wo (Int32.ofNat c) := by
  subst e
  obtain ⟨q1, q2, q3⟩ := q w hw
  unfold m_bl
  rw [a2 128 w (by omega) (by omega)]
  by_cases g : K 128 w = 0
  · rw [if_pos g, q2 g]
    exact if_pos rfl
  · rw [if_neg g]
    obtain ⟨e1, e2⟩ := q3 g I2 K2 J L a1 a2 (a3 g)
    rw [e1]
    by_cases f : (m_ls K2 L w).1 = 0
    · rw [if_pos f, if_pos f]; exact cut_eq hc (e2 f)
    · rw [if_neg f, if_neg f]; exact if_pos rfl
theorem lay_eq {J L : hJ} {a0 a1 a2 a3 a4 a5 a6 b0 b1 b2 b3 b4 b5 b6 : Int64} (h0 : a0 = b0) (h1 : a1 = b1) (h2 : a2 = b2) (h3 : a3 = b3) (h4 : a4 = b4) (h5 : a5 = b5) (h6 : a6 = b6) (s0 : sm6 b0) (s1 : sm6 b1) (s2 : sm6 b2) (s3 : sm6 b3) (s4 : sm6 b4) (s5 : sm6 b5) (s6 : sm6 b6) : ∀ i, i < 7 → k_lay J a0 a1 a2 a3 a4 a5 a6 85 i = m_lay L b0 b1 b2 b3 b4 b5 b6 136 i ∧ sm6 (m_lay L b0 b1 b2 b3 b4 b5 b6 136 i) := by
  subst h0 h1 h2 h3 h4 h5 h6
  intro i hi
  have : i = 0 ∨ i = 1 ∨ i = 2 ∨ i = 3 ∨ i = 4 ∨ i = 5 ∨ i = 6 := by omega
  rcases this with rfl | rfl | rfl | rfl | rfl | rfl | rfl <;> simp +decide [k_lay, m_lay, am_u, s0, s1, s2, s3, s4, s5, s6]
theorem lay_eq3 {J L : hJ} {a0 a1 a2 a3 a4 a5 a6 b0 b1 b2 b3 b4 b5 b6 x : Int64} (h0 : a0 = b0) (h1 : a1 = b1) (h2 : a2 = b2) (h3 : x = b3) (h4 : a4 = b4) (h5 : a5 = b5) (h6 : a6 = b6) (s0 : sm6 b0) (s1 : sm6 b1) (s2 : sm6 b2) (s3 : sm6 b3) (s4 : sm6 b4) (s5 : sm6 b5) (s6 : sm6 b6) : ∀ i, i < 7 → am_u (k_lay J a0 a1 a2 a3 a4 a5 a6) 85 3 x 85 i = m_lay L b0 b1 b2 b3 b4 b5 b6 136 i ∧ sm6 (m_lay L b0 b1 b2 b3 b4 b5 b6 136 i) := by
  subst h0 h1 h2 h3 h4 h5 h6
  intro i hi
  have : i = 0 ∨ i = 1 ∨ i = 2 ∨ i = 3 ∨ i = 4 ∨ i = 5 ∨ i = 6 := by omega
  rcases this with rfl | rfl | rfl | rfl | rfl | rfl | rfl <;> simp +decide [k_lay, m_lay, am_u, s0, s1, s2, s3, s4, s5, s6]
/-- a trial's settings, in the class and in the reference -/
def cR (x : Int32) (T : Nat) (N : Nat → Nat) (I K : hI) : Prop :=
  I 84 8 = x ∧ (I 84 10 = 0 ↔ K 110 68 = 0) ∧ I 84 11 = K 110 70 ∧ I 84 12 = K 110 71 ∧ (I 84 9 = 0 ↔ ¬ K 110 67 = 0) ∧
  (∀ v, v < N 3 → wt x (I (T + 14) v) → ((I 84 6 >>> (Int32.ofNat v &&& 31)) &&& Int32.ofNat 1 = 0 ↔ (¬ K 125 v = K 110 69 ∧ ¬ (K 110 72 >>> (Int32.ofNat v &&& 31)) &&& Int32.ofNat 1 = Int32.ofNat 1))) ∧
  I 84 5 = (if ¬ K 110 66 = 0 ∨ (K 110 65 = 0 ∧ ¬ K 114 0 < Int32.ofNat 50) then Int32.ofNat 1 else Int32.ofNat 0) ∧
  ((I 84 4 = 0 ∧ ¬ K 110 64 = 0 ∧ K 110 65 = 0 ∧ K 110 66 = 0) ∨ (¬ I 84 4 = 0 ∧ K 110 64 = 0))
/-- what a day rests on -/
def dR (x : Int32) (T : Nat) (N : Nat → Nat) (I K : hI) : Prop := tR T N I K ∧ tqs I T N ∧ LQ T N I K ∧ cR x T N I K ∧ (N 0 ≤ 6 ∧ N 1 ≤ 8 ∧ N 2 ≤ 5 ∧ N 3 ≤ 10)
theorem dR_c {x : Int32} {T : Nat} {N : Nat → Nat} {I I1 K K1 : hI} (hT : T = 9 ∨ T = 36) (h1 : ∀ a i, (9 ≤ a ∧ a < 63) ∨ (a = 84 ∧ i ≠ 7) → I1 a i = I a i) (h2 : ∀ a i, (112 ≤ a ∧ a ≤ 133) ∨ (a = 110 ∧ 64 ≤ i ∧ i ≤ 72) → K1 a i = K a i) (d : dR x T N I K) : dR x T N I1 K1 := by
  obtain ⟨⟨t1, t2, t3, t4, t5, t6⟩, ⟨q1, q2, q3, q4, q5, q6⟩, l, ⟨c1, c2, c3, c4, c5, c6, c7, c8⟩, n⟩ := d
  have f1 : ∀ j i, j ≤ 26 → I1 (T + j) i = I (T + j) i := fun j i hj => h1 _ _ (by omega)
  have f0 : ∀ i, I1 T i = I T i := fun i => h1 _ _ (by omega)
  have g1 : ∀ a i, 112 ≤ a → a ≤ 133 → K1 a i = K a i := fun a i u v => h2 _ _ (by omega)
  have f84 : ∀ i, i ≠ 7 → I1 84 i = I 84 i := fun i u => h1 _ _ (by omega)
  have g110 : ∀ i, 64 ≤ i → i ≤ 72 → K1 110 i = K 110 i := fun i u v => h2 _ _ (by omega)
  refine ⟨⟨fun m hm => ?_, fun r hr => ?_, fun r hr => ?_, fun s hs => ?_, fun v hv => ?_, ?_⟩, ⟨fun r hr => ?_, fun m hm => ?_, fun m hm => ?_, fun s hs => ?_, fun v hv => ?_, ?_⟩, LQ_c (fun a i u v => h1 _ _ (by omega)) (fun a i u v => g1 _ _ (by omega) v) l, ⟨?_, ?_, ?_, ?_, ?_, fun v hv => ?_, ?_, ?_⟩, n⟩
  · rw [f1 2 _ (by omega), f1 3 _ (by omega), f1 4 _ (by omega), g1 115 _ (by omega) (by omega), g1 116 _ (by omega) (by omega), g1 117 _ (by omega) (by omega)]; exact t1 m hm
  · rw [f1 6 _ (by omega), f1 7 _ (by omega), f1 8 _ (by omega), f1 9 _ (by omega), g1 118 _ (by omega) (by omega), g1 119 _ (by omega) (by omega), g1 120 _ (by omega) (by omega), g1 121 _ (by omega) (by omega)]; exact t2 r hr
  · rw [f1 10 _ (by omega), g1 122 _ (by omega) (by omega)]; exact t3 r hr
  · rw [f1 12 _ (by omega), f1 13 _ (by omega), g1 123 _ (by omega) (by omega), g1 124 _ (by omega) (by omega)]; exact t4 s hs
  · rw [f1 14 _ (by omega), f1 15 _ (by omega), f1 16 _ (by omega), g1 125 _ (by omega) (by omega), g1 126 _ (by omega) (by omega), g1 127 _ (by omega) (by omega)]; exact t5 v hv
  · rw [f0, f0, g1 114 _ (by omega) (by omega), g1 114 _ (by omega) (by omega)]; exact t6
  · rw [f1 7 _ (by omega), f1 8 _ (by omega), f1 9 _ (by omega), f1 10 _ (by omega)]; exact q1 r hr
  · rw [f1 3 _ (by omega)]; exact q2 m hm
  · rw [f1 4 _ (by omega)]; exact q3 m hm
  · rw [f1 13 _ (by omega)]; exact q4 s hs
  · rw [f1 14 _ (by omega), f1 15 _ (by omega), f1 16 _ (by omega)]; exact q5 v hv
  · rw [f0]; exact q6
  · rw [f84 _ (by decide)]; exact c1
  · rw [f84 _ (by decide), g110 _ (by omega) (by omega)]; exact c2
  · rw [f84 _ (by decide), g110 _ (by omega) (by omega)]; exact c3
  · rw [f84 _ (by decide), g110 _ (by omega) (by omega)]; exact c4
  · rw [f84 _ (by decide), g110 _ (by omega) (by omega)]; exact c5
  · rw [f84 _ (by decide), f1 14 _ (by omega), g1 125 _ (by omega) (by omega), g110 _ (by omega) (by omega), g110 _ (by omega) (by omega)]; exact c6 v hv
  · rw [f84 _ (by decide), g110 66 (by omega) (by omega), g110 65 (by omega) (by omega), g1 114 _ (by omega) (by omega)]; exact c7
  · rw [f84 _ (by decide), g110 64 (by omega) (by omega), g110 65 (by omega) (by omega), g110 66 (by omega) (by omega)]; exact c8
theorem even_eq {x : Int32} {T : Nat} {N : Nat → Nat} {I K : hI} (d : dR x T N I K) {m : Nat} (hm : m < N 0) : k_even I T m = m_even K m := by
  obtain ⟨t, q, l, ⟨c1, c2, c3, c4, c5, c6, c7, c8⟩, n⟩ := d
  unfold k_even m_even
  rw [c3, c4, (t.1 m hm).2.2]
  by_cases h : I 84 10 = 0
  · rw [if_pos h, if_pos (c2.mp h)]
  · rw [if_neg h, if_neg (fun z => h (c2.mpr z))]
theorem am_neg1 {y : Int32} (h : y = Int32.ofInt (-1) ∨ okn y 5) : y < 0 ↔ y = Int32.ofInt (-1) := by
  constructor
  · intro g
    rcases h with h | h
    · exact h
    · rw [h.1] at g
      exact absurd ((am_ltN (y := 0) (by have := h.2; omega) (by omega)).mp g) (Nat.not_lt_zero _)
  · intro g; rw [g]; decide
/-- the names of a rope -/
theorem nameR {x : Int32} {T S b r : Nat} {N : Nat → Nat} {I K : hI} {J L : hJ} {z u : Int32} (d : dR x T N I K) (s : sR S b x N I K) (hr : r < N 1) (w : wt x (I (S + 3) r)) (hz : z.toInt64 = (if K 110 63 = 0 then 0 else 1)) (hu : I (S + 2) r = u) : ∀ i, i < 7 → k_layR I J T S r z 85 i = m_layR K L b (N 1) r u 136 i ∧ sm6 (m_layR K L b (N 1) r u 136 i) := by
  have hn := d.2.2.2.2.2.1
  obtain ⟨e1, e2, e3, e4⟩ := d.1.2.1 r hr
  have o := (d.2.1.1 r hr).1
  have ev := even_eq d o.2
  have th := (d.1.1 _ o.2).2.1
  obtain ⟨s1, s2, s3, s4⟩ := s
  obtain ⟨w1, w2, w3, w4⟩ := s2 r (by omega)
  have be : k_bear I S (I (S + 3) r) 8 = m_bear K b (N 1) (I (S + 3) r) := sR_bear hn ⟨s1, s2, s3, s4⟩ w
  unfold k_layR m_layR
  refine lay_eq (by rw [e3]) (by rw [← e2, ev]) (by rw [← e2, th]) (by rw [hu]) ?_ hz (by rw [s1]) ⟨_, rfl⟩ ⟨_, rfl⟩ ⟨_, rfl⟩ ⟨_, rfl⟩ sm6_if sm6_01 ⟨_, rfl⟩
  rw [← w1.resolve_left (fun z => by have := z.1; omega), be]
  by_cases g : I (S + 3) r = Int32.ofInt (-1)
  · rw [if_pos g, if_pos ((am_neg1 w2).mpr g)]
  · rw [if_neg g, if_neg (fun y => g ((am_neg1 w2).mp y))]
theorem nameT {x : Int32} {T S b r : Nat} {N : Nat → Nat} {I K : hI} {J L : hJ} {z : Int32} (d : dR x T N I K) (s : sR S b x N I K) (hr : r < N 1) (w : wt x (I (S + 3) r)) (hz : z.toInt64 = (if K 110 63 = 0 then 0 else 1)) : ∀ i, i < 7 → am_u (k_layR I J T S r z) 85 3 0 85 i = m_layR K L b (N 1) r (Int32.ofNat 0) 136 i ∧ sm6 (m_layR K L b (N 1) r (Int32.ofNat 0) 136 i) := by
  have hn := d.2.2.2.2.2.1
  obtain ⟨e1, e2, e3, e4⟩ := d.1.2.1 r hr
  have o := (d.2.1.1 r hr).1
  have ev := even_eq d o.2
  have th := (d.1.1 _ o.2).2.1
  obtain ⟨s1, s2, s3, s4⟩ := s
  obtain ⟨w1, w2, w3, w4⟩ := s2 r (by omega)
  have be : k_bear I S (I (S + 3) r) 8 = m_bear K b (N 1) (I (S + 3) r) := sR_bear hn ⟨s1, s2, s3, s4⟩ w
  unfold k_layR m_layR
  refine lay_eq3 (by rw [e3]) (by rw [← e2, ev]) (by rw [← e2, th]) rfl ?_ hz (by rw [s1]) ⟨_, rfl⟩ ⟨_, rfl⟩ ⟨_, rfl⟩ ⟨_, rfl⟩ sm6_if sm6_01 ⟨_, rfl⟩
  rw [← w1.resolve_left (fun z => by have := z.1; omega), be]
  by_cases g : I (S + 3) r = Int32.ofInt (-1)
  · rw [if_pos g, if_pos ((am_neg1 w2).mpr g)]
  · rw [if_neg g, if_neg (fun y => g ((am_neg1 w2).mp y))]
