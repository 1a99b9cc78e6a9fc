/-! Laws alike: a sum worked out. -/
def bn (v : Int64) : Prop := ¬ v < -1000000000000 ∧ ¬ 1000000000000 < v
theorem bn_i {v : Int64} : bn v ↔ -1000000000000 ≤ v.toInt ∧ v.toInt ≤ 1000000000000 := by
  unfold bn
  rw [Int64.lt_iff_toInt_lt, Int64.lt_iff_toInt_lt, show (-1000000000000 : Int64).toInt = -1000000000000 by decide, show (1000000000000 : Int64).toInt = 1000000000000 by decide]
  omega
theorem bn_32 (y : Int32) : bn y.toInt64 := by
  rw [bn_i, Int32.toInt_toInt64]
  have := Int32.toInt_lt y
  have := Int32.le_toInt y
  omega
theorem bn_er : ¬ bn k_er := fun h => h.1 (by decide)
theorem bn_01 {P : Prop} {d : Decidable P} : bn (if P then 1 else 0) := by
  by_cases h : P
  · rw [if_pos h]; exact ⟨by decide, by decide⟩
  · rw [if_neg h]; exact ⟨by decide, by decide⟩
theorem ab_i {x : Int64} (h : bn x) : (m_ab x).toInt = (x.toInt.natAbs : Int) := by
  rw [bn_i] at h
  unfold m_ab
  by_cases g : x < 0
  · rw [if_pos g, Int64.toInt_neg, Int.bmod_eq_of_le (by omega) (by omega)]
    rw [Int64.lt_iff_toInt_lt, Int64.toInt_zero] at g
    omega
  · rw [if_neg g]
    rw [Int64.lt_iff_toInt_lt, Int64.toInt_zero] at g
    omega
theorem i64_0 {x : Int64} : x = 0 ↔ x.toInt = 0 := by rw [← Int64.toInt_inj, Int64.toInt_zero]
theorem bd_q {x : Int64} (h : bn x) : (m_bd / m_ab x).toInt = ((1000000000000 / x.toInt.natAbs : Nat) : Int) := by
  have e : m_bd.toInt = 1000000000000 := by decide
  rw [Int64.toInt_div_of_ne_left _ _ (by decide), ab_i h, e]
  exact (Int.ofNat_tdiv 1000000000000 x.toInt.natAbs).symm
theorem tP_i {x y : Int64} (hx : bn x) (hy : bn y) : ((¬ x = 0 ∧ m_bd / m_ab x < m_ab y) ↔ m_tP x y) := by
  unfold m_tP
  constructor
  · rintro ⟨a, b⟩
    refine ⟨⟨a, fun z => ?_⟩, b⟩
    subst z
    rw [Int64.lt_iff_toInt_lt, bd_q hx, ab_i hy, Int64.toInt_zero] at b
    exact absurd b (Int.not_lt.mpr (Int.natCast_nonneg _))
  · rintro ⟨⟨a, _⟩, b⟩; exact ⟨a, b⟩
theorem mul_bn {x y : Int64} (hx : bn x) (hy : bn y) (h : ¬ (¬ x = 0 ∧ m_bd / m_ab x < m_ab y)) : bn (x * y) := by
  have key : (x.toInt * y.toInt).natAbs ≤ 1000000000000 := by
    rw [Int.natAbs_mul]
    by_cases g : x = 0
    · rw [i64_0.mp g]; simp
    · have b : ¬ m_bd / m_ab x < m_ab y := fun z => h ⟨g, z⟩
      rw [Int64.lt_iff_toInt_lt, bd_q hx, ab_i hy] at b
      have g0 : ¬ x.toInt = 0 := fun z => g (i64_0.mpr z)
      have b2 : y.toInt.natAbs ≤ 1000000000000 / x.toInt.natAbs := by omega
      rw [Nat.le_div_iff_mul_le (by omega)] at b2
      rw [Nat.mul_comm]; exact b2
  rw [bn_i, Int64.toInt_mul]
  generalize x.toInt * y.toInt = z at key
  rw [Int.bmod_eq_of_le (by omega) (by omega)]
  omega
theorem div_bn {x y : Int64} (hx : bn x) : bn (x / y) := by
  have e : ¬ x = Int64.minValue := fun z => by rw [z] at hx; exact hx.1 (by decide)
  rw [bn_i] at hx ⊢
  rw [Int64.toInt_div_of_ne_left _ _ e]
  have k : (x.toInt.tdiv y.toInt).natAbs ≤ x.toInt.natAbs := by
    rw [Int.natAbs_tdiv]; exact Nat.div_le_self _ _
  omega
/-- a sign's number in the reference -/
def cod (n : Nat) : Nat := if n = 21 then 4 else if n = 22 then 3 else if n = 23 then 2 else if n = 41 then 0 else n - 38
def bin (n : Nat) : Prop := n = 21 ∨ n = 22 ∨ (43 ≤ n ∧ n ≤ 52)
theorem tk_bin {n : Nat} (h : bin n) : k_tk (Int32.ofNat n) = 2 := by
  rcases h with rfl | rfl | ⟨h1, h2⟩
  · rfl
  · rfl
  · have : n = 43 ∨ n = 44 ∨ n = 45 ∨ n = 46 ∨ n = 47 ∨ n = 48 ∨ n = 49 ∨ n = 50 ∨ n = 51 ∨ n = 52 := by omega
    rcases this with rfl | rfl | rfl | rfl | rfl | rfl | rfl | rfl | rfl | rfl <;> rfl
theorem jn_op {n : Nat} {x y : Int64} (h : bin n) (hx : bn x) (hy : bn y) : ((m_op (Int32.ofNat (cod n)) 0 x y).1 = 0 ↔ bn (k_jn (Int32.ofNat n) x y)) ∧ (bn (k_jn (Int32.ofNat n) x y) → (m_op (Int32.ofNat (cod n)) 0 x y).2 = k_jn (Int32.ofNat n) x y) := by
  have e01 : ∀ (P : Prop) (d : Decidable P), ((0 : Int32) = 0 ↔ bn (if P then 1 else 0)) ∧ (bn (if P then (1 : Int64) else 0) → (if (if P then (1 : Int32) else 0) = 0 then (0 : Int64) else 1) = (if P then 1 else 0)) := fun P d => by
    refine ⟨⟨fun _ => bn_01, fun _ => rfl⟩, fun _ => ?_⟩
    by_cases p : P
    · rw [if_pos p, if_pos p]; rfl
    · rw [if_neg p, if_neg p]; rfl
  have eP : ∀ (v : Int64), ((m_e1 0 (m_bP v) (m_bPd v) = 0) ↔ bn v) ∧ (bn v → m_v1 0 (m_bP v) (m_bPd v) v = v) := fun v => by
    have ebd : -m_bd = (-1000000000000 : Int64) := by decide
    have eq : m_bP v ↔ ¬ bn v := by
      unfold m_bP bn
      rw [ebd]
      constructor
      · rintro (a | a) ⟨b, c⟩
        · exact c a
        · exact b a
      · intro a
        by_cases z : m_bd < v
        · exact Or.inl z
        · by_cases w : v < -1000000000000
          · exact Or.inr w
          · exact absurd ⟨w, z⟩ a
    unfold m_e1 m_v1
    by_cases b : bn v
    · have nb : ¬ (¬ (0 : Int32) = 0 ∨ m_bP v) := fun z => z.elim (fun z => z rfl) (fun z => (eq.mp z) b)
      rw [if_neg nb, if_neg nb]
      exact ⟨⟨fun _ => b, fun _ => rfl⟩, fun _ => rfl⟩
    · rw [if_pos (Or.inr (eq.mpr b))]
      exact ⟨⟨fun z => absurd z (by decide), fun z => absurd z b⟩, fun z => absurd z b⟩
  rcases h with rfl | rfl | ⟨h1, h2⟩
  · have e : m_op (Int32.ofNat (cod 21)) 0 x y = (0, if ¬ x = 0 ∨ ¬ y = 0 then 1 else 0) := rfl
    have e2 : k_jn (Int32.ofNat 21) x y = (if ¬ x = 0 ∨ ¬ y = 0 then 1 else 0) := rfl
    rw [e, e2]
    exact ⟨⟨fun _ => bn_01, fun _ => rfl⟩, fun _ => rfl⟩
  · have e : m_op (Int32.ofNat (cod 22)) 0 x y = (0, if ¬ x = 0 ∧ ¬ y = 0 then 1 else 0) := rfl
    have e2 : k_jn (Int32.ofNat 22) x y = (if ¬ x = 0 ∧ ¬ y = 0 then 1 else 0) := rfl
    rw [e, e2]
    exact ⟨⟨fun _ => bn_01, fun _ => rfl⟩, fun _ => rfl⟩
  · have : n = 43 ∨ n = 44 ∨ n = 45 ∨ n = 46 ∨ n = 47 ∨ n = 48 ∨ n = 49 ∨ n = 50 ∨ n = 51 ∨ n = 52 := by omega
    rcases this with rfl | rfl | rfl | rfl | rfl | rfl | rfl | rfl | rfl | rfl
    · exact e01 (x < y) inferInstance
    · exact e01 (¬ y < x) inferInstance
    · exact e01 (x = y) inferInstance
    · exact e01 (¬ x = y) inferInstance
    · exact e01 (¬ x < y) inferInstance
    · exact e01 (y < x) inferInstance
    · exact eP (x + y)
    · exact eP (x - y)
    · have e : m_op (Int32.ofNat (cod 51)) 0 x y = (m_e1 0 (m_tP x y) (m_tPd x y), m_v1 0 (m_tP x y) (m_tPd x y) (x * y)) := rfl
      have e2 : k_jn (Int32.ofNat 51) x y = (if ¬ x = 0 ∧ m_bd / m_ab x < m_ab y then k_er else x * y) := rfl
      rw [e, e2]
      have tq := tP_i hx hy
      unfold m_e1 m_v1
      by_cases g : ¬ x = 0 ∧ m_bd / m_ab x < m_ab y
      · rw [if_pos g, if_pos (Or.inr (tq.mp g))]
        exact ⟨⟨fun z => absurd (show Int32.ofNat 1 = 0 from z) (by decide), fun z => absurd z bn_er⟩, fun z => absurd z bn_er⟩
      · have ng : ¬ (¬ (0 : Int32) = 0 ∨ m_tP x y) := fun z => z.elim (fun z => z rfl) (fun z => g (tq.mpr z))
        rw [if_neg g, if_neg ng, if_neg ng]
        exact ⟨⟨fun _ => mul_bn hx hy g, fun _ => rfl⟩, fun _ => rfl⟩
    · have e : m_op (Int32.ofNat (cod 52)) 0 x y = (m_e1 0 (y = 0) inferInstance, m_v1 0 (y = 0) inferInstance (x / y)) := rfl
      have e2 : k_jn (Int32.ofNat 52) x y = (if y = 0 then k_er else x / y) := rfl
      rw [e, e2]
      unfold m_e1 m_v1
      by_cases g : y = 0
      · rw [if_pos g, if_pos (Or.inr g)]
        exact ⟨⟨fun z => absurd (show Int32.ofNat 1 = 0 from z) (by decide), fun z => absurd z bn_er⟩, fun z => absurd z bn_er⟩
      · have ng : ¬ (¬ (0 : Int32) = 0 ∨ y = 0) := fun z => z.elim (fun z => z rfl) g
        rw [if_neg g, if_neg ng, if_neg ng]
        exact ⟨⟨fun _ => div_bn hx, fun _ => rfl⟩, fun _ => rfl⟩
/-- how many are held behind so many of a sum, and which -/
def sh (g : Nat → Int32) : Nat → Nat
  | 0 => 0
  | i + 1 => sh g i - k_tk (g i) + 1
def ss (g : Nat → Int32) : Nat → Nat → Nat
  | 0, _ => 0
  | i + 1, t => if t = sh g i - k_tk (g i) then i else ss g i t
theorem sh_s (g : Nat → Int32) (i : Nat) : sh g (i + 1) = sh g i - k_tk (g i) + 1 := rfl
theorem ss_s (g : Nat → Int32) (i t : Nat) : ss g (i + 1) t = if t = sh g i - k_tk (g i) then i else ss g i t := rfl
theorem sh_le (g : Nat → Int32) (i : Nat) : sh g i ≤ i := by
  induction i with
  | zero => exact Nat.le_refl _
  | succ i ih => rw [sh_s]; omega
/-- one of a sum, in the class and in the reference: B is where the reference's rows begin, f where the law does -/
def knR (g v : Nat → Int32) (K : hI) (B f i : Nat) : Prop :=
  (g i = Int32.ofNat 2 ∧ K 131 (B + f + i) = 0 ∧ K 132 (B + f + i) = v i) ∨
  (∃ n, n < 7 ∧ g i = Int32.ofNat (24 + n) ∧ K 131 (B + f + i) = Int32.ofNat 1 ∧ K 132 (B + f + i) = Int32.ofNat n) ∨
  (g i = Int32.ofNat 23 ∧ 1 ≤ sh g i ∧ K 131 (B + f + i) = Int32.ofNat 2 ∧ K 132 (B + f + i) = Int32.ofNat (f + ss g i (sh g i - 1))) ∨
  (∃ n, bin n ∧ g i = Int32.ofNat n ∧ 2 ≤ sh g i ∧ K 131 (B + f + i) = Int32.ofNat (cod n) ∧ K 132 (B + f + i) = Int32.ofNat (f + ss g i (sh g i - 2)) ∧ K 133 (B + f + i) = Int32.ofNat (f + ss g i (sh g i - 1)))
theorem m_val_e {K : hI} {L : hJ} {k : Nat} (h : ¬ K 110 53 = 0) : ¬ (m_val K L k).1 = 0 := by
  have f1 : ∀ (P : Prop) (d : Decidable P), ¬ m_e1 (K 110 53) P d = 0 := fun P d => by
    unfold m_e1; rw [if_pos (Or.inl h)]; decide
  unfold m_val m_op
  repeat' split
  all_goals first | exact h | exact f1 _ _
theorem m_lw_s (K : hI) (L : hJ) (f r : Nat) : m_lw K L f (r + 1) = ((m_val (am_u K 110 53 (m_lw K L f r).1) (m_lw K L f r).2 (f + r)).1, am_u (m_lw K L f r).2 137 (f + r) (m_val (am_u K 110 53 (m_lw K L f r).1) (m_lw K L f r).2 (f + r)).2) := rfl
theorem m_lw_e {K : hI} {L : hJ} {f r : Nat} (h : ¬ (m_lw K L f r).1 = 0) : ∀ c, ¬ (m_lw K L f (r + c)).1 = 0 := by
  intro c
  induction c with
  | zero => exact h
  | succ c ih =>
    rw [show r + (c + 1) = (r + c) + 1 by omega, m_lw_s]
    exact m_val_e (by rw [am_u_at]; exact ih)
theorem m_lw_136 {K : hI} {L : hJ} {f : Nat} : ∀ r i, (m_lw K L f r).2 136 i = L 136 i := by
  intro r i
  induction r with
  | zero => rfl
  | succ r ih =>
    rw [m_lw_s]
    have e : ∀ (X : hJ) k w, am_u X 137 k w 136 i = X 136 i := fun X k w => am_u_na (by decide)
    dsimp only
    rw [e]; exact ih
theorem cod_3 {n : Nat} (h : bin n) : ¬ Int32.ofNat (cod n) = 0 ∧ ¬ Int32.ofNat (cod n) = Int32.ofNat 1 ∧ ¬ Int32.ofNat (cod n) = Int32.ofNat 2 := by
  rcases h with rfl | rfl | ⟨h1, h2⟩
  · decide
  · decide
  · have : n = 43 ∨ n = 44 ∨ n = 45 ∨ n = 46 ∨ n = 47 ∨ n = 48 ∨ n = 49 ∨ n = 50 ∨ n = 51 ∨ n = 52 := by omega
    rcases this with rfl | rfl | rfl | rfl | rfl | rfl | rfl | rfl | rfl | rfl <;> decide
theorem ev_go {I : hI} {K : hI} {L : hJ} {A f n : Nat} (h64 : f + n ≤ 64) (kn : ∀ i, i < n → knR (I (A + 1)) (I (A + 2)) K 0 f i) (h1 : sh (I (A + 1)) n = 1) : ∀ (j i : Nat) (J : hJ), i + j = n → (∀ t, t < 7 → J 85 t = L 136 t ∧ bn (L 136 t)) → (m_lw K L f i).1 = 0 → (∀ t, t < sh (I (A + 1)) i → J 86 t = (m_lw K L f i).2 137 (f + ss (I (A + 1)) i t) ∧ ss (I (A + 1)) i t < i ∧ bn (J 86 t)) → (k_val I A j i (sh (I (A + 1)) i) J).1 = (if (m_lw K L f n).1 = 0 then (m_lw K L f n).2 137 (f + n - 1) else k_er) ∧ ((m_lw K L f n).1 = 0 → ¬ (m_lw K L f n).2 137 (f + n - 1) = k_er) := by
  intro j
  induction j with
  | zero =>
    intro i J e na e0 st
    obtain rfl : i = n := by omega
    have hn : 1 ≤ i := by
      cases i with
      | zero => exact absurd (show (0 : Nat) = 1 from h1) (by decide)
      | succ i => omega
    have sn : ss (I (A + 1)) i 0 = i - 1 := by
      obtain ⟨i, rfl⟩ : ∃ i', i = i' + 1 := ⟨i - 1, by omega⟩
      rw [sh_s] at h1
      rw [ss_s, if_pos (by omega)]; omega
    obtain ⟨s1, s2, s3⟩ := st 0 (by omega)
    rw [sn] at s1
    rw [if_pos e0, show f + i - 1 = f + (i - 1) by omega, ← s1]
    refine ⟨?_, fun _ z => bn_er (z ▸ s3)⟩
    show (if sh (I (A + 1)) i = 1 then J 86 0 else k_er) = _
    rw [if_pos h1]
  | succ j ih =>
    intro i J e na e0 st
    have hi : i < n := by omega
    have hl := sh_le (I (A + 1)) i
    have key : ∀ (tk : Nat) (w : Int64), k_tk (I (A + 1) i) = tk → tk ≤ sh (I (A + 1)) i → k_v1 I A i (sh (I (A + 1)) i) J = w → ((m_val (am_u K 110 53 (m_lw K L f i).1) (m_lw K L f i).2 (f + i)).1 = 0 ↔ bn w) → (bn w → (m_val (am_u K 110 53 (m_lw K L f i).1) (m_lw K L f i).2 (f + i)).2 = w) → (k_val I A (j + 1) i (sh (I (A + 1)) i) J).1 = (if (m_lw K L f n).1 = 0 then (m_lw K L f n).2 137 (f + n - 1) else k_er) ∧ ((m_lw K L f n).1 = 0 → ¬ (m_lw K L f n).2 137 (f + n - 1) = k_er) := by
      intro tk w et hh ev m1 m2
      rw [k_val_s, et, if_neg (by omega), if_pos (by omega), ev]
      by_cases b : bn w
      · rw [if_neg b.1, if_neg b.2]
        have e1 : (m_lw K L f (i + 1)).1 = 0 := m1.mpr b
        have es : sh (I (A + 1)) i - tk + 1 = sh (I (A + 1)) (i + 1) := by rw [sh_s, et]
        rw [es]
        refine ih (i + 1) _ (by omega) (fun t ht => ?_) e1 (fun t ht => ?_)
        · rw [am_u_na (by decide)]; exact na t ht
        · rw [ss_s, et, m_lw_s, m2 b]
          dsimp only
          by_cases z : t = sh (I (A + 1)) i - tk
          · rw [if_pos z, z, am_u_at, am_u_at]; exact ⟨rfl, by omega, b⟩
          · obtain ⟨s1, s2, s3⟩ := st t (by omega)
            rw [if_neg z, am_u_nk z, am_u_nk (by omega)]; exact ⟨s1, by omega, s3⟩
      · have e1 : ¬ (m_lw K L f (i + 1)).1 = 0 := fun z => b (m1.mp z)
        have e2 := m_lw_e e1 j
        rw [show i + 1 + j = n by omega] at e2
        rw [if_neg e2]
        refine ⟨?_, fun z => absurd z e2⟩
        by_cases b1 : w < -1000000000000
        · rw [if_pos b1]
        · rw [if_neg b1, if_pos (Classical.byContradiction fun z => b ⟨b1, z⟩)]
    have r : ∀ a k, a ≠ 110 → am_u K 110 53 (m_lw K L f i).1 a k = K a k := fun a k h => am_u_na h
    have r0 : am_u K 110 53 (m_lw K L f i).1 110 53 = 0 := by rw [am_u_at]; exact e0
    rcases kn i hi with ⟨k1, k2, k3⟩ | ⟨c, c7, k1, k2, k3⟩ | ⟨k1, k4, k2, k3⟩ | ⟨c, cb, k1, k5, k2, k3, k4⟩
    · rw [Nat.zero_add] at k2 k3
      have tk : k_tk (I (A + 1) i) = 0 := by rw [k1]; rfl
      have em : m_val (am_u K 110 53 (m_lw K L f i).1) (m_lw K L f i).2 (f + i) = (0, (I (A + 2) i).toInt64) := by
        unfold m_val
        rw [r 131 _ (by decide), r 132 _ (by decide), if_pos k2, r0, k3]
      refine key 0 (I (A + 2) i).toInt64 tk (by omega) ?_ (by rw [em]; exact ⟨fun _ => bn_32 _, fun _ => rfl⟩) (fun _ => by rw [em])
      unfold k_v1
      rw [tk, if_neg (by decide), if_neg (by decide), if_pos k1]
    · rw [Nat.zero_add] at k2 k3
      have kc : Int32.ofNat (24 + c) - Int32.ofNat 24 = Int32.ofNat c := by rw [Nat.add_comm, Int32.ofNat_add, Int32.add_sub_cancel]
      have tk : k_tk (I (A + 1) i) = 0 := by
        rw [k1]
        unfold k_tk
        rw [if_neg (fun z => by have := (am_eqN (by omega) (by omega)).mp z; omega), if_neg]
        rintro (z | z | z)
        · have := (am_eqN (by omega) (by omega)).mp z; omega
        · have := (am_eqN (by omega) (by omega)).mp z; omega
        · exact z ((am_ltN (by omega) (by omega)).mpr (by omega))
      have em : m_val (am_u K 110 53 (m_lw K L f i).1) (m_lw K L f i).2 (f + i) = (0, L 136 c) := by
        unfold m_val
        rw [r 131 _ (by decide), r 132 _ (by decide), k2, if_neg (by decide), if_pos rfl, r0, k3, nn_ofNat (by omega), m_lw_136]
      obtain ⟨n1, n2⟩ := na c c7
      refine key 0 (L 136 c) tk (by omega) ?_ (by rw [em]; exact ⟨fun _ => n2, fun _ => rfl⟩) (fun _ => by rw [em])
      unfold k_v1
      rw [tk, if_neg (by decide), if_neg (by decide), k1, if_neg (fun z => by have := (am_eqN (by omega) (by omega)).mp z; omega), if_neg (fun z => by have := (am_ltN (by omega) (by omega)).mp z; omega), kc, if_pos ((am_ltN (by omega) (by omega)).mpr c7), nn_ofNat (by omega)]
      exact n1
    · rw [Nat.zero_add] at k2 k3
      have tk : k_tk (I (A + 1) i) = 1 := by rw [k1]; rfl
      obtain ⟨s1, s2, s3⟩ := st (sh (I (A + 1)) i - 1) (by omega)
      have em : m_val (am_u K 110 53 (m_lw K L f i).1) (m_lw K L f i).2 (f + i) = (0, if J 86 (sh (I (A + 1)) i - 1) = 0 then 1 else 0) := by
        unfold m_val
        rw [r 131 _ (by decide), r 132 _ (by decide), k2, if_neg (by decide), if_neg (by decide), if_pos rfl, r0, k3, nn_ofNat (by omega), ← s1]
      refine key 1 (if J 86 (sh (I (A + 1)) i - 1) = 0 then 1 else 0) tk (by omega) ?_ (by rw [em]; exact ⟨fun _ => bn_01, fun _ => rfl⟩) (fun _ => by rw [em])
      unfold k_v1
      rw [tk, if_neg (by decide), if_pos rfl]
    · rw [Nat.zero_add] at k2 k3 k4
      have tk : k_tk (I (A + 1) i) = 2 := by rw [k1]; exact tk_bin cb
      obtain ⟨s1, s2, s3⟩ := st (sh (I (A + 1)) i - 2) (by omega)
      obtain ⟨t1, t2, t3⟩ := st (sh (I (A + 1)) i - 1) (by omega)
      obtain ⟨c1, c2, c3⟩ := cod_3 cb
      have em : m_val (am_u K 110 53 (m_lw K L f i).1) (m_lw K L f i).2 (f + i) = m_op (Int32.ofNat (cod c)) 0 (J 86 (sh (I (A + 1)) i - 2)) (J 86 (sh (I (A + 1)) i - 1)) := by
        unfold m_val
        rw [r 131 _ (by decide), r 132 _ (by decide), r 133 _ (by decide), k2, if_neg c1, if_neg c2, if_neg c3, r0, k3, k4, nn_ofNat (by omega), nn_ofNat (by omega), ← s1, ← t1]
      obtain ⟨j1, j2⟩ := jn_op cb s3 t3
      refine key 2 (k_jn (Int32.ofNat c) (J 86 (sh (I (A + 1)) i - 2)) (J 86 (sh (I (A + 1)) i - 1))) tk (by omega) ?_ (by rw [em]; exact j1) (fun b => by rw [em]; exact j2 b)
      unfold k_v1
      rw [tk, if_pos rfl, k1, show sh (I (A + 1)) i - 2 + 1 = sh (I (A + 1)) i - 1 by omega]
