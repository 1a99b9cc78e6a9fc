/-! Texts alike: tokens. -/
theorem lt_N {x : Int32} {lo hi : Nat} (h : lo < 1000) (g : hi < 1000) (a : ¬ x < Int32.ofNat lo) (b : ¬ Int32.ofNat hi < x) : x = Int32.ofNat (nn x) ∧ lo ≤ nn x ∧ nn x ≤ hi := by
  rw [Int32.lt_iff_toInt_lt, Int32.toInt_ofNat_of_lt (by omega)] at a b
  have e : ((nn x : Nat) : Int) = x.toInt := by
    show ((x.toInt.toNat : Nat) : Int) = _
    omega
  refine ⟨?_, by omega, by omega⟩
  rw [← Int32.toInt_inj, Int32.toInt_ofNat_of_lt (by omega), e]
def acN (d : Nat → Nat) : Nat → Nat
  | 0 => 0
  | n + 1 => acN d n * 32 + d n
theorem acN_s (d : Nat → Nat) (n : Nat) : acN d (n + 1) = acN d n * 32 + d n := rfl
/-- letters packed -/
def pkN (d : Nat → Nat) (c : Nat) : Nat := acN (fun i => if i < c then d i else 0) 6
theorem k_fl_N (j v : Nat) : k_fl j (Int32.ofNat v) = Int32.ofNat (v * 32 ^ j) := by
  induction j generalizing v with
  | zero => rw [Nat.pow_zero, Nat.mul_one]; rfl
  | succ j ih => rw [k_fl_s, ← Int32.ofNat_mul, ih, Nat.pow_succ, Nat.mul_assoc, Nat.mul_comm 32]
theorem pk_fill {d : Nat → Nat} {c : Nat} (h : c ≤ 6) : acN d c * 32 ^ (6 - c) = pkN d c := by
  have : c = 0 ∨ c = 1 ∨ c = 2 ∨ c = 3 ∨ c = 4 ∨ c = 5 ∨ c = 6 := by omega
  rcases this with rfl | rfl | rfl | rfl | rfl | rfl | rfl <;> (simp [acN, pkN]; try omega)
theorem pk_inj {d e : Nat → Nat} {c k : Nat} (hc : c ≤ 6) (hk : k ≤ 6) (hd : ∀ i, i < c → 1 ≤ d i ∧ d i ≤ 26) (he : ∀ i, i < k → 1 ≤ e i ∧ e i ≤ 26) (h : pkN d c = pkN e k) : c = k ∧ ∀ i, i < c → d i = e i := by
  have bd : ∀ i, (if i < c then d i else 0) < 32 := fun i => by split; have := hd i (by assumption); omega; omega
  have be : ∀ i, (if i < k then e i else 0) < 32 := fun i => by split; have := he i (by assumption); omega; omega
  have dig : ∀ (p q : Nat → Nat), (∀ i, p i < 32) → (∀ i, q i < 32) → acN p 6 = acN q 6 → ∀ i, i < 6 → p i = q i := by
    intro p q hp hq e
    simp only [acN] at e
    have p0 := hp 0; have p1 := hp 1; have p2 := hp 2; have p3 := hp 3; have p4 := hp 4; have p5 := hp 5
    have q0 := hq 0; have q1 := hq 1; have q2 := hq 2; have q3 := hq 3; have q4 := hq 4; have q5 := hq 5
    have a0 : p 0 = q 0 := by omega
    have a1 : p 1 = q 1 := by omega
    have a2 : p 2 = q 2 := by omega
    have a3 : p 3 = q 3 := by omega
    have a4 : p 4 = q 4 := by omega
    have a5 : p 5 = q 5 := by omega
    intro i hi
    have : i = 0 ∨ i = 1 ∨ i = 2 ∨ i = 3 ∨ i = 4 ∨ i = 5 := by omega
    rcases this with rfl | rfl | rfl | rfl | rfl | rfl <;> assumption
  have al := dig _ _ bd be h
  have ck : c = k := by
    refine Classical.byContradiction (fun z => ?_)
    by_cases g : c < k
    · have := al c (by omega)
      rw [if_neg (by omega), if_pos g] at this
      have := he c g
      omega
    · have := al k (by omega)
      rw [if_pos (show k < c by omega), if_neg (by omega)] at this
      have := hd k (by omega)
      omega
  subst ck
  refine ⟨rfl, fun i hi => ?_⟩
  have := al i (by omega)
  rw [if_pos hi, if_pos hi] at this
  exact this
theorem sh5 (v : Nat) : Int32.ofNat v <<< (Int32.ofNat 5 &&& 31) = Int32.ofNat (v * 32) := by
  have e : (Int32.ofNat 5 &&& 31 : Int32) = 5 := by decide
  rw [e, Int32.ofNat_mul]
  apply Int32.toBitVec_inj.mp
  rw [Int32.toBitVec_shiftLeft, Int32.toBitVec_mul]
  have e2 : (Int32.toBitVec 5).smod 32 = 5#32 := by decide
  rw [e2, BitVec.shiftLeft_eq', BitVec.shiftLeft_eq_mul_twoPow]
  congr 1
theorem or5 {v e : Nat} (h : e < 32) : Int32.ofNat (v * 32) ||| Int32.ofNat e = Int32.ofNat (v * 32 + e) := by
  rw [am_orN]
  have := Nat.shiftLeft_add_eq_or_of_lt (i := 5) (a := v) (b := e) (by omega)
  rw [Nat.shiftLeft_eq] at this
  rw [← this]
theorem m_pk_N {f : Nat → Int32} {d : Nat → Nat} {a c : Nat} (h : ∀ i, i < c → f (a + i) = Int32.ofNat (96 + d i) ∧ d i ≤ 26) : m_pk f a (a + c) 6 = Int32.ofNat (pkN d c) := by
  unfold pkN
  have key : ∀ r, m_pk f a (a + c) r = Int32.ofNat (acN (fun i => if i < c then d i else 0) r) := by
    intro r
    induction r with
    | zero => rfl
    | succ r ih =>
      have e : m_pk f a (a + c) (r + 1) = (m_pk f a (a + c) r <<< (Int32.ofNat 5 &&& 31)) ||| (if a + c ≤ a + r then Int32.ofNat 0 else f (a + r) - Int32.ofNat 96) := rfl
      rw [e, ih, sh5, acN_s]
      by_cases g : r < c
      · rw [if_neg (by omega), if_pos g, (h r g).1, Nat.add_comm 96, Int32.ofNat_add, Int32.add_sub_cancel]
        exact or5 (by have := (h r g).2; omega)
      · rw [if_pos (by omega), if_neg g]; exact or5 (by omega)
  exact key 6
theorem ar1 (A B C D : Int32) : A + (B + C) - (C + D) + D = A + B := by grind
/-- the letters of a word, read on both sides -/
theorem uw_eq {f f' : Nat → Int32} {st a : Nat} (ag : ∀ i, i < st → f i = f' i) : ∀ j c, a + c + j = st → (∀ i, i < c → k_ltP (f (a + i))) → ∃ c', c ≤ c' ∧ a + c' ≤ st ∧ u_w f j (a + c) (Int32.ofNat (acN (fun i => nn (f (a + i)) - 96) (min c 6))) c = (a + c', Int32.ofNat (acN (fun i => nn (f (a + i)) - 96) (min c' 6)), c') ∧ t_w f' st j (a + c) = a + c' ∧ (∀ i, i < c' → k_ltP (f (a + i))) := by
  intro j
  induction j with
  | zero => intro c e h; exact ⟨c, Nat.le_refl _, by omega, rfl, rfl, h⟩
  | succ j ih =>
    intro c e h
    have sp : smP f' st (a + c) ↔ k_ltP (f (a + c)) := by
      unfold smP k_ltP
      rw [ag (a + c) (by omega)]
      exact ⟨fun z => z.2, fun z => ⟨by omega, z⟩⟩
    rw [u_w_s, t_w_s]
    by_cases g : k_ltP (f (a + c))
    · rw [if_pos g, @if_pos _ (smPD f' st (a + c)) (sp.mpr g)]
      have hx : (if c < 6 then Int32.ofNat (acN (fun i => nn (f (a + i)) - 96) (min c 6)) * Int32.ofNat 32 + f (a + c) - Int32.ofNat 97 + Int32.ofNat 1 else Int32.ofNat (acN (fun i => nn (f (a + i)) - 96) (min c 6))) = Int32.ofNat (acN (fun i => nn (f (a + i)) - 96) (min (c + 1) 6)) := by
        by_cases z : c < 6
        · obtain ⟨e1, e2, e3⟩ := lt_N (by omega) (by omega) g.1 g.2
          rw [if_pos z, Nat.min_eq_left (by omega), Nat.min_eq_left (by omega), acN_s]
          generalize acN (fun i => nn (f (a + i)) - 96) c = v
          have e4 : f (a + c) = Int32.ofNat (nn (f (a + c)) - 96) + Int32.ofNat 96 := by
            rw [← Int32.ofNat_add, show nn (f (a + c)) - 96 + 96 = nn (f (a + c)) by omega]; exact e1
          rw [Int32.ofNat_add (v * 32), Int32.ofNat_mul]
          generalize nn (f (a + c)) - 96 = u at e4
          have e97 : Int32.ofNat 97 = Int32.ofNat 96 + Int32.ofNat 1 := by decide
          rw [e4, e97]
          generalize Int32.ofNat v * Int32.ofNat 32 = A
          generalize Int32.ofNat u = B
          generalize Int32.ofNat 96 = C
          generalize Int32.ofNat 1 = D
          exact ar1 A B C D
        · rw [if_neg z, Nat.min_eq_right (by omega), Nat.min_eq_right (by omega)]
      rw [hx]
      obtain ⟨c', i1, i2, i3, i4, i5⟩ := ih (c + 1) (by omega) (fun i hi => by
        by_cases z : i = c
        · rw [z]; exact g
        · exact h i (by omega))
      exact ⟨c', by omega, i2, i3, i4, i5⟩
    · rw [if_neg g, @if_neg _ (smPD f' st (a + c)) (fun z => g (sp.mp z))]
      exact ⟨c, Nat.le_refl _, by omega, rfl, rfl, h⟩
/-- which of the words, in the class's order -/
def pw (r : Nat) : Nat := if r = 11 then 12 else if r = 12 then 11 else r
theorem pw_lt {r : Nat} (h : r < 21) : pw r < 21 := by unfold pw; split; omega; split <;> omega
theorem pw_pw (r : Nat) : pw (pw r) = r := by unfold pw; (repeat' split) <;> omega
theorem lT_le : ∀ k, k < 21 → lT k ≤ 6 := by decide
theorem wd_ok : ∀ k, k < 21 → ∀ i, i < lT k → 97 ≤ wd (fT k + i) ∧ wd (fT k + i) ≤ 122 := by decide
theorem wk_pk : ∀ k, k < 21 → wkL.getD (pw k) 0 = pkN (fun i => wd (fT k + i) - 96) (lT k) := by decide
theorem wkL_lt : ∀ k, k < 21 → wkL.getD k 0 < 2147483648 := by decide
theorem wk_inj : ∀ r, r < 21 → ∀ s, s < 21 → wkL.getD r 0 = wkL.getD s 0 → r = s := by decide
theorem k_wk_c {g : Nat → Int32} {x : Int32} : ∀ j r, (∃ r', r ≤ r' ∧ r' < r + j ∧ g r' = x ∧ k_wk g x j r = Int32.ofNat (10 + r')) ∨ ((∀ r', r ≤ r' → r' < r + j → ¬ g r' = x) ∧ k_wk g x j r = Int32.ofNat 3) := by
  intro j
  induction j with
  | zero => intro r; exact Or.inr ⟨fun r' a b => by omega, rfl⟩
  | succ j ih =>
    intro r
    rw [k_wk_s]
    by_cases g1 : g r = x
    · rw [if_pos g1]; exact Or.inl ⟨r, Nat.le_refl _, by omega, g1, rfl⟩
    · rw [if_neg g1]
      rcases ih (r + 1) with ⟨r', a, b, c, d⟩ | ⟨a, b⟩
      · exact Or.inl ⟨r', by omega, by omega, c, d⟩
      · refine Or.inr ⟨fun r' u v => ?_, b⟩
        by_cases z : r' = r
        · rw [z]; exact g1
        · exact a r' (by omega) (by omega)
theorem m_wd_c {f : Nat → Int32} {a b : Nat} : ∀ j k, (∃ k', k ≤ k' ∧ k' < k + j ∧ wmP f a b k' ∧ m_wd f a b j k = Int32.ofNat k') ∨ ((∀ k', k ≤ k' → k' < k + j → ¬ wmP f a b k') ∧ m_wd f a b j k = Int32.ofInt (-1)) := by
  intro j
  induction j with
  | zero => intro k; exact Or.inr ⟨fun r' a b => by omega, rfl⟩
  | succ j ih =>
    intro k
    rw [m_wd_s]
    by_cases g1 : wmP f a b k
    · rw [@if_pos _ (wmD f a b k) g1]; exact Or.inl ⟨k, Nat.le_refl _, by omega, g1, rfl⟩
    · rw [@if_neg _ (wmD f a b k) g1]
      rcases ih (k + 1) with ⟨r', a, b, c, d⟩ | ⟨a, b⟩
      · exact Or.inl ⟨r', by omega, by omega, c, d⟩
      · refine Or.inr ⟨fun r' u v => ?_, b⟩
        by_cases z : r' = k
        · rw [z]; exact g1
        · exact a r' (by omega) (by omega)
/-- a token on both sides -/
def sgc (n : Nat) : Prop := n = 59 ∨ n = 40 ∨ n = 41 ∨ n = 43 ∨ n = 45 ∨ n = 42 ∨ n = 47 ∨ n = 37
def tkR (kc vc kr wr : Int32) : Prop :=
  (kr = Int32.ofNat 0 ∧ kc = Int32.ofNat 0) ∨
  (∃ r, r < 21 ∧ kr = Int32.ofNat 1 ∧ wr = Int32.ofNat r ∧ kc = Int32.ofNat (10 + pw r)) ∨
  (kr = Int32.ofNat 2 ∧ kc = Int32.ofNat 3 ∧ vc = wr) ∨
  (kr = Int32.ofNat 3 ∧ kc = Int32.ofNat 2 ∧ ((∃ v, v < 1000000 ∧ vc = Int32.ofNat v ∧ wr = Int32.ofNat v) ∨ (Int32.ofNat 99999 < vc ∧ Int32.ofNat 99999 < wr))) ∨
  (∃ n, sgc n ∧ kr = Int32.ofNat 4 ∧ wr = Int32.ofNat n ∧ kc = k_sk1 (Int32.ofNat n)) ∨
  (∃ n, n < 6 ∧ kr = Int32.ofNat 5 ∧ wr = Int32.ofNat n ∧ kc = Int32.ofNat (43 + n)) ∨
  (kr = Int32.ofNat 6 ∧ kc = Int32.ofNat 1)
theorem pkN_lt {d : Nat → Nat} {c : Nat} (hd : ∀ i, i < c → d i ≤ 26) : pkN d c < 2147483648 := by
  have bd : ∀ i, (if i < c then d i else 0) ≤ 26 := fun i => by split; exact hd i (by assumption); omega
  unfold pkN
  simp only [acN]
  have p0 := bd 0; have p1 := bd 1; have p2 := bd 2; have p3 := bd 3; have p4 := bd 4; have p5 := bd 5
  omega
theorem wm_pk {f : Nat → Int32} {d : Nat → Nat} {a c k : Nat} (hc : c ≤ 6) (h : ∀ i, i < c → f (a + i) = Int32.ofNat (96 + d i) ∧ 1 ≤ d i ∧ d i ≤ 26) (hk : k < 21) : wmP f a (a + c) k ↔ wk (pw k) = Int32.ofNat (pkN d c) := by
  have l1 := wkL_lt (pw k) (pw_lt hk)
  have l2 := pkN_lt (d := d) (c := c) (fun i hi => (h i hi).2.2)
  unfold wk
  rw [am_eqN l1 l2, wk_pk k hk]
  constructor
  · rintro ⟨e1, e2⟩
    have ec : lT k = c := by omega
    unfold pkN
    congr 1
    funext i
    by_cases g : i < c
    · rw [if_pos (by omega), if_pos g]
      have := e2 i (by omega)
      rw [(h i g).1, am_eqN (by have := (wd_ok k hk i (by omega)).2; omega) (by have := (h i g).2; omega)] at this
      show wd (fT k + i) - 96 = d i
      omega
    · rw [if_neg (by omega), if_neg g]
  · intro e
    obtain ⟨e1, e2⟩ := pk_inj (lT_le k hk) hc (fun i hi => by have := wd_ok k hk i hi; omega) (fun i hi => (h i hi).2) e
    refine ⟨by omega, fun i hi => ?_⟩
    have e3 := e2 i hi
    have e4 := wd_ok k hk i hi
    rw [(h i (by omega)).1, ← e3]
    congr 1; omega
theorem one_word {f f' g : Nat → Int32} {st a : Nat} {w0 : Int32} (ag : ∀ i, i < st → f i = f' i) (hg : ∀ r, r < 21 → g r = wk r) (ha : a < st) (h : k_ltP (f a)) : (u_wd g f st a).1 = (t_one f' st a w0).1 ∧ tkR (u_wd g f st a).2.1 (u_wd g f st a).2.2 (t_one f' st a w0).2.1 (t_one f' st a w0).2.2 := by
  obtain ⟨c, c1, c2, c3, c4, c5⟩ := uw_eq (a := a) ag (st - a) 0 (by omega) (fun i hi => absurd hi (Nat.not_lt_zero i))
  have sp : smP f' st a := by
    unfold smP; rw [← ag a ha]; exact ⟨ha, h⟩
  have e0 : u_w f (st - a) a (Int32.ofNat 0) 0 = (a + c, Int32.ofNat (acN (fun i => nn (f (a + i)) - 96) (min c 6)), c) := c3
  have e1 : t_w f' st (st - a) a = a + c := c4
  unfold u_wd t_one
  rw [e0, e1, if_neg (show ¬ a = st by omega), @if_pos _ (smPD f' st a) sp]
  dsimp only
  have lt : ∀ i, i < c → f' (a + i) = Int32.ofNat (96 + (nn (f (a + i)) - 96)) ∧ 1 ≤ nn (f (a + i)) - 96 ∧ nn (f (a + i)) - 96 ≤ 26 := fun i hi => by
    obtain ⟨l1, l2, l3⟩ := lt_N (by omega) (by omega) (c5 i hi).1 (c5 i hi).2
    rw [← ag (a + i) (by omega), show 96 + (nn (f (a + i)) - 96) = nn (f (a + i)) by omega]
    exact ⟨l1, by omega, by omega⟩
  by_cases g6 : 6 < c
  · have nw : m_wd f' a (a + c) 21 0 = Int32.ofInt (-1) := by
      rcases m_wd_c (f := f') (a := a) (b := a + c) 21 0 with ⟨k, _, k2, k3, _⟩ | ⟨_, k2⟩
      · have := k3.1
        have := lT_le k (by omega)
        omega
      · exact k2
    rw [if_pos g6, nw, if_pos (by decide), if_neg (by omega)]
    exact ⟨rfl, Or.inr (Or.inr (Or.inr (Or.inr (Or.inr (Or.inr ⟨rfl, rfl⟩)))))⟩
  · rw [if_neg g6, Nat.min_eq_left (by omega), k_fl_N, pk_fill (by omega)]
    have wm := fun k hk => wm_pk (k := k) (show c ≤ 6 by omega) lt hk
    have mp := m_pk_N (d := fun i => nn (f (a + i)) - 96) (fun i hi => ⟨(lt i hi).1, (lt i hi).2.2⟩)
    rcases k_wk_c (g := g) (x := Int32.ofNat (pkN (fun i => nn (f (a + i)) - 96) c)) 21 0 with ⟨r, _, r2, r3, r4⟩ | ⟨r1, r2⟩
    · rw [hg r (by omega)] at r3
      rcases m_wd_c (f := f') (a := a) (b := a + c) 21 0 with ⟨k, _, k2, k3, k4⟩ | ⟨k1, _⟩
      · have k5 := (wm k (by omega)).mp k3
        rw [← r3] at k5
        have k6 : pw k = r := by
          unfold wk at k5
          rw [am_eqN (wkL_lt _ (pw_lt (by omega))) (wkL_lt _ (by omega))] at k5
          exact wk_inj _ (pw_lt (by omega)) _ (by omega) k5
        have k0 : ¬ Int32.ofNat k < 0 := fun z => absurd ((am_ltN (x := k) (y := 0) (by omega) (by omega)).mp z) (Nat.not_lt_zero _)
        rw [r4, k4, if_neg k0]
        exact ⟨rfl, Or.inr (Or.inl ⟨k, by omega, rfl, rfl, by rw [k6]⟩)⟩
      · refine absurd ((wm (pw r) (pw_lt (by omega))).mpr ?_) (k1 (pw r) (Nat.zero_le _) (by have := pw_lt (r := r) (by omega); omega))
        rw [pw_pw]; exact r3
    · rcases m_wd_c (f := f') (a := a) (b := a + c) 21 0 with ⟨k, _, k2, k3, _⟩ | ⟨_, k2⟩
      · refine absurd ?_ (r1 (pw k) (Nat.zero_le _) (by have := pw_lt (r := k) (by omega); omega))
        rw [hg _ (pw_lt (by omega))]
        exact (wm k (by omega)).mp k3
      · rw [r2, k2, if_pos (by decide), if_pos (by omega), mp]
        exact ⟨rfl, Or.inr (Or.inr (Or.inl ⟨rfl, rfl, rfl⟩))⟩
theorem ud_eq {f f' : Nat → Int32} {st : Nat} (ag : ∀ i, i < st → f i = f' i) : ∀ j p v w, p + j = st → ((v < 1000000 ∧ v = w) ∨ (99999 < v ∧ 99999 < w ∧ v ≤ 1000000 ∧ w < 1000000)) → ∃ v' w', ((v' < 1000000 ∧ v' = w') ∨ (99999 < v' ∧ 99999 < w' ∧ v' ≤ 1000000 ∧ w' < 1000000)) ∧ (u_d f j p (Int32.ofNat v)).1 = (t_d f' st j p (Int32.ofNat w)).1 ∧ (u_d f j p (Int32.ofNat v)).2 = Int32.ofNat v' ∧ (t_d f' st j p (Int32.ofNat w)).2 = Int32.ofNat w' := by
  intro j
  induction j with
  | zero => intro p v w e h; exact ⟨v, w, h, rfl, rfl, rfl⟩
  | succ j ih =>
    intro p v w e h
    have sp : dgP f' st p ↔ k_dgP (f p) := by
      unfold dgP k_dgP
      rw [ag p (by omega)]
      exact ⟨fun z => z.2, fun z => ⟨by omega, z⟩⟩
    rw [u_d_s, t_d_s]
    by_cases g : k_dgP (f p)
    · rw [if_pos g, @if_pos _ (dgPD f' st p) (sp.mpr g), ← ag p (by omega)]
      obtain ⟨e1, e2, e3⟩ := lt_N (by omega) (by omega) g.1 g.2
      have e4 : f p = Int32.ofNat (nn (f p) - 48) + Int32.ofNat 48 := by
        rw [← Int32.ofNat_add, show nn (f p) - 48 + 48 = nn (f p) by omega]; exact e1
      have l9 : nn (f p) - 48 ≤ 9 := by omega
      revert e4 l9
      generalize nn (f p) - 48 = u
      intro e4 l9
      have a1 : Int32.ofNat v * Int32.ofNat 10 + f p - Int32.ofNat 48 = Int32.ofNat (10 * v + u) := by
        rw [e4, ← Int32.add_assoc, Int32.add_sub_cancel, ← Int32.ofNat_mul, ← Int32.ofNat_add, Nat.mul_comm]
      have a2 : Int32.ofNat 10 * Int32.ofNat w + f p - Int32.ofNat 48 = Int32.ofNat (10 * w + u) := by
        rw [e4, ← Int32.add_assoc, Int32.add_sub_cancel, ← Int32.ofNat_mul, ← Int32.ofNat_add]
      rw [a1, a2]
      have b1 : (if Int32.ofNat 1000000 < Int32.ofNat (10 * v + u) then Int32.ofNat 1000000 else Int32.ofNat (10 * v + u)) = Int32.ofNat (min (10 * v + u) 1000000) := by
        by_cases z : 1000000 < 10 * v + u
        · rw [if_pos ((am_ltN (by omega) (by omega)).mpr z), Nat.min_eq_right (by omega)]
        · rw [if_neg (fun y => z ((am_ltN (by omega) (by omega)).mp y)), Nat.min_eq_left (by omega)]
      have b2 : (if Int32.ofNat 99999 < Int32.ofNat w then Int32.ofNat w else Int32.ofNat (10 * w + u)) = Int32.ofNat (if 99999 < w then w else 10 * w + u) := by
        by_cases z : 99999 < w
        · rw [if_pos ((am_ltN (by omega) (by omega)).mpr z), if_pos z]
        · rw [if_neg (fun y => z ((am_ltN (by omega) (by omega)).mp y)), if_neg z]
      rw [b1, b2]
      refine ih (p + 1) _ _ (by omega) ?_
      by_cases z : 99999 < w
      · rw [if_pos z]; omega
      · rw [if_neg z]; omega
    · rw [if_neg g, @if_neg _ (dgPD f' st p) (fun z => g (sp.mp z))]
      exact ⟨v, w, h, rfl, rfl, rfl⟩
theorem one_sign {f f' : Nat → Int32} {st a : Nat} {y : Int32} (ag : ∀ i, i < st → f i = f' i) (ha : a < st) : (u_sg f st a).1 = (sgn f' st a).1 ∧ tkR (u_sg f st a).2 y (sgn f' st a).2.1 (sgn f' st a).2.2 := by
  have e0 : f a = f' a := ag a ha
  have e1 : sgT f st a = sgT f' st a := by
    unfold sgT
    by_cases z : st ≤ a + 1
    · rw [if_pos z, if_pos z]
    · rw [if_neg z, if_neg z]; exact ag _ (by omega)
  unfold u_sg sgn
  rw [e0, e1]
  generalize f' a = x
  generalize sgT f' st a = s
  have six : ∀ n, n < 6 → tkR (Int32.ofNat (43 + n)) y (Int32.ofNat 5) (Int32.ofNat n) := fun n h => Or.inr (Or.inr (Or.inr (Or.inr (Or.inr (Or.inl ⟨n, h, rfl, rfl, rfl⟩)))))
  have fou : ∀ n, sgc n → tkR (k_sk1 (Int32.ofNat n)) y (Int32.ofNat 4) (Int32.ofNat n) := fun n h => Or.inr (Or.inr (Or.inr (Or.inr (Or.inl ⟨n, h, rfl, rfl, rfl⟩))))
  by_cases c60 : x = Int32.ofNat 60
  · subst c60
    have k : k_sk1 (Int32.ofNat 60) = Int32.ofNat 43 := rfl
    rw [k, if_pos rfl]
    by_cases s61 : s = Int32.ofNat 61
    · rw [if_pos ⟨rfl, s61⟩, if_pos s61]; exact ⟨rfl, six 1 (by decide)⟩
    · rw [if_neg (fun z => s61 z.2), if_neg s61]
      by_cases s62 : s = Int32.ofNat 62
      · rw [if_pos ⟨rfl, s62⟩, if_pos s62]; exact ⟨rfl, six 3 (by decide)⟩
      · rw [if_neg (fun z => s62 z.2), if_neg s62, if_neg (fun z => absurd z.1 (by decide))]; exact ⟨rfl, six 0 (by decide)⟩
  · rw [if_neg c60]
    have n43 : ¬ k_sk1 x = Int32.ofNat 43 := by
      unfold k_sk1
      repeat' split
      all_goals first | (intro z; exact absurd z (by decide)) | (exact absurd (by assumption) c60)
    rw [if_neg (fun z => n43 z.1), if_neg (fun z => n43 z.1)]
    by_cases c62 : x = Int32.ofNat 62
    · subst c62
      have k : k_sk1 (Int32.ofNat 62) = Int32.ofNat 48 := rfl
      rw [k, if_pos rfl]
      by_cases s61 : s = Int32.ofNat 61
      · rw [if_pos ⟨rfl, s61⟩, if_pos s61]; exact ⟨rfl, six 4 (by decide)⟩
      · rw [if_neg (fun z => s61 z.2), if_neg s61]; exact ⟨rfl, six 5 (by decide)⟩
    · rw [if_neg c62]
      have n48 : ¬ k_sk1 x = Int32.ofNat 48 := by
        unfold k_sk1
        repeat' split
        all_goals first | (intro z; exact absurd z (by decide)) | (exact absurd (by assumption) c62)
      rw [if_neg (fun z => n48 z.1)]
      by_cases c61 : x = Int32.ofNat 61
      · subst c61
        rw [if_pos rfl]; exact ⟨rfl, six 2 (by decide)⟩
      · rw [if_neg c61]
        by_cases c : x = Int32.ofNat 59 ∨ x = Int32.ofNat 40 ∨ x = Int32.ofNat 41 ∨ x = Int32.ofNat 43 ∨ x = Int32.ofNat 45 ∨ x = Int32.ofNat 42 ∨ x = Int32.ofNat 47 ∨ x = Int32.ofNat 37
        · rw [if_pos c]
          rcases c with rfl | rfl | rfl | rfl | rfl | rfl | rfl | rfl
          · exact ⟨rfl, fou 59 (by unfold sgc; omega)⟩
          · exact ⟨rfl, fou 40 (by unfold sgc; omega)⟩
          · exact ⟨rfl, fou 41 (by unfold sgc; omega)⟩
          · exact ⟨rfl, fou 43 (by unfold sgc; omega)⟩
          · exact ⟨rfl, fou 45 (by unfold sgc; omega)⟩
          · exact ⟨rfl, fou 42 (by unfold sgc; omega)⟩
          · exact ⟨rfl, fou 47 (by unfold sgc; omega)⟩
          · exact ⟨rfl, fou 37 (by unfold sgc; omega)⟩
        · rw [if_neg c]
          refine ⟨rfl, Or.inr (Or.inr (Or.inr (Or.inr (Or.inr (Or.inr ⟨rfl, ?_⟩)))))⟩
          show k_sk1 x = _
          unfold k_sk1
          rw [if_neg (fun z => c (Or.inl z)), if_neg (fun z => c (Or.inr (Or.inl z))), if_neg (fun z => c (Or.inr (Or.inr (Or.inl z)))), if_neg c60, if_neg c61, if_neg c62, if_neg (fun z => c (Or.inr (Or.inr (Or.inr (Or.inl z))))), if_neg (fun z => c (Or.inr (Or.inr (Or.inr (Or.inr (Or.inl z)))))), if_neg (fun z => c (Or.inr (Or.inr (Or.inr (Or.inr (Or.inr (Or.inl z))))))), if_neg (fun z => c (Or.inr (Or.inr (Or.inr (Or.inr (Or.inr (Or.inr (Or.inl z))))))))]
theorem one_eq {f f' g : Nat → Int32} {st a : Nat} {w0 : Int32} (ag : ∀ i, i < st → f i = f' i) (hg : ∀ r, r < 21 → g r = wk r) (ha : a ≤ st) : (u_one g f st a).1 = (t_one f' st a w0).1 ∧ tkR (u_one g f st a).2.1 (u_one g f st a).2.2 (t_one f' st a w0).2.1 (t_one f' st a w0).2.2 := by
  by_cases e : a = st
  · unfold u_one t_one
    rw [if_pos e, if_pos e]
    exact ⟨rfl, Or.inl ⟨rfl, rfl⟩⟩
  · have ha : a < st := by omega
    by_cases h : k_ltP (f a)
    · have eu : u_one g f st a = u_wd g f st a := by unfold u_one; rw [if_neg e, if_pos h]
      rw [eu]
      exact one_word ag hg ha h
    · have ns : ¬ smP f' st a := fun z => h (by rw [ag a ha]; exact z.2)
      by_cases d : k_dgP (f a)
      · have dp : dgP f' st a := by unfold dgP; rw [← ag a ha]; exact ⟨ha, d⟩
        unfold u_one t_one
        rw [if_neg e, if_neg e, if_neg h, if_pos d, @if_neg _ (smPD f' st a) ns, @if_pos _ (dgPD f' st a) dp]
        obtain ⟨v, w, h1, h2, h3, h4⟩ := ud_eq ag (st - a) a 0 0 (by omega) (Or.inl ⟨by omega, rfl⟩)
        refine ⟨h2, Or.inr (Or.inr (Or.inr (Or.inl ⟨rfl, rfl, ?_⟩)))⟩
        dsimp only
        rw [h3, h4]
        rcases h1 with ⟨a1, rfl⟩ | ⟨a1, a2, a3, a4⟩
        · exact Or.inl ⟨v, a1, rfl, rfl⟩
        · exact Or.inr ⟨(am_ltN (by omega) (by omega)).mpr a1, (am_ltN (by omega) (by omega)).mpr a2⟩
      · have dp : ¬ dgP f' st a := fun z => d (by rw [ag a ha]; exact z.2)
        unfold u_one t_one
        rw [if_neg e, if_neg e, if_neg h, if_neg d, @if_neg _ (smPD f' st a) ns, @if_neg _ (dgPD f' st a) dp]
        exact one_sign ag ha
theorem at_eq {f f' : Nat → Int32} {st : Nat} (ag : ∀ i, i < st → f i = f' i) {p : Nat} (hp : p ≤ st) : t_at f st p = t_at f' st p := by
  have key : ∀ j p, p + j = st → t_sk f j p = t_sk f' j p := by
    intro j
    induction j with
    | zero => intro p _; rfl
    | succ j ih =>
      intro p e
      rw [t_sk_s, t_sk_s, ag p (by omega)]
      split
      · exact ih (p + 1) (by omega)
      · rfl
  exact key (st - p) p (by omega)
/-- faults alike -/
def FL (I K : hI) : Prop := I 3 7 = K 110 4 ∧ I 3 8 = K 110 5
/-- one text on both sides -/
def bse (st : Nat) (I K : hI) : Prop := st ≤ 700 ∧ I 3 2 = Int32.ofNat st ∧ K 110 6 = Int32.ofNat st ∧ (∀ i, i < st → I 1 i = K 111 i) ∧ (∀ r, r < 21 → I 4 r = wk r) ∧ okn (I 3 3) (st + 1) ∧ FL I K
/-- the token read on both sides -/
def cur (I K : hI) : Prop := I 3 3 = K 110 7 ∧ I 3 5 = K 110 10 ∧ tkR (I 3 4) (I 3 6) (K 110 8) (K 110 9)
theorem bse_c {st : Nat} {I K I1 K1 : hI} (h1 : ∀ a i, a = 1 ∨ a = 4 ∨ (a = 3 ∧ (i = 2 ∨ i = 3 ∨ i = 7 ∨ i = 8)) → I1 a i = I a i) (h2 : ∀ a i, a = 111 ∨ (a = 110 ∧ 4 ≤ i ∧ i ≤ 6) → K1 a i = K a i) (b : bse st I K) : bse st I1 K1 := by
  obtain ⟨b1, b2, b3, b4, b5, b6, b7, b8⟩ := b
  refine ⟨b1, by rw [h1 3 2 (by omega)]; exact b2, by rw [h2 110 6 (by omega)]; exact b3, fun i hi => by rw [h1 1 i (by omega), h2 111 i (by omega)]; exact b4 i hi, fun r hr => by rw [h1 4 r (by omega)]; exact b5 r hr, by rw [h1 3 3 (by omega)]; exact b6, by rw [h1 3 7 (by omega), h2 110 4 (by omega)]; exact b7, by rw [h1 3 8 (by omega), h2 110 5 (by omega)]; exact b8⟩
theorem cur_c {I K I1 K1 : hI} (h1 : ∀ i, i = 3 ∨ i = 4 ∨ i = 5 ∨ i = 6 → I1 3 i = I 3 i) (h2 : ∀ i, 7 ≤ i → i ≤ 10 → K1 110 i = K 110 i) (b : cur I K) : cur I1 K1 := by
  unfold cur at b ⊢
  rw [h1 3 (by omega), h1 4 (by omega), h1 5 (by omega), h1 6 (by omega), h2 7 (by omega) (by omega), h2 8 (by omega) (by omega), h2 9 (by omega) (by omega), h2 10 (by omega) (by omega)]
  exact b
theorem tok_al {st : Nat} {I K : hI} (b : bse st I K) (e : I 3 3 = K 110 7) : cur (u_tok I) (m_tok K) ∧ bse st (u_tok I) (m_tok K) := by
  obtain ⟨b1, b2, b3, b4, b5, b6, b7⟩ := b
  have n2 : nn (I 3 2) = st := by rw [b2, nn_ofNat (by omega)]
  have n6 : nn (K 110 6) = st := by rw [b3, nn_ofNat (by omega)]
  have hp : nn (I 3 3) ≤ st := by have := b6.2; omega
  have ea := at_eq b4 hp
  have la := t_at_lC (f := I 1) hp
  have o := one_eq (g := I 4) (w0 := K 110 9) b4 b5 la.2
  have lo := u_one_le (g := I 4) (f := I 1) la.2
  unfold u_tok m_tok u_tk m_tk
  rw [n2, n6, ← e, ← ea]
  revert o lo
  generalize u_one (I 4) (I 1) st (t_at (I 1) st (nn (I 3 3))) = q
  generalize t_one (K 111) st (t_at (I 1) st (nn (I 3 3))) (K 110 9) = q'
  intro o lo
  refine ⟨⟨?_, ?_, ?_⟩, b1, ?_, ?_, fun i hi => ?_, fun r hr => ?_, ?_, b7⟩
  · show Int32.ofNat q.1 = Int32.ofNat q'.1
    rw [o.1]
  · rfl
  · exact o.2
  · exact b2
  · exact b3
  · exact b4 i hi
  · exact b5 r hr
  · show okn (Int32.ofNat q.1) (st + 1)
    exact okn_of (by omega) (by omega)
