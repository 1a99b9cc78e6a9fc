/-! Calls alike (fifteen): ropes allotted, rows by their codes. -/
/-- what a ship gets by a row -/
def al_sum (ns : Nat) (so : Nat → Nat) (s : Nat) : Nat → Nat → Nat
  | 0, _ => 0
  | j + 1, c => al_sum ns so s j (c / (ns + 1)) + (if c % (ns + 1) = s then so j else 0)
theorem al_sum_s (ns : Nat) (so : Nat → Nat) (s j c : Nat) : al_sum ns so s (j + 1) c = al_sum ns so s j (c / (ns + 1)) + (if c % (ns + 1) = s then so j else 0) := rfl
/-- what is put -/
def al_put (ns : Nat) (so : Nat → Nat) : Nat → Nat → Nat
  | 0, _ => 0
  | j + 1, c => al_put ns so j (c / (ns + 1)) + (if c % (ns + 1) = ns then 0 else so j)
theorem al_put_s (ns : Nat) (so : Nat → Nat) (j c : Nat) : al_put ns so (j + 1) c = al_put ns so j (c / (ns + 1)) + (if c % (ns + 1) = ns then 0 else so j) := rfl
/-- all of it in harbour -/
def al_ok (ns : Nat) (h : Nat → Bool) : Nat → Nat → Prop
  | 0, _ => True
  | j + 1, c => (c % (ns + 1) = ns ∨ h (c % (ns + 1))) ∧ al_ok ns h j (c / (ns + 1))
theorem al_ok_s (ns : Nat) (h : Nat → Bool) (j c : Nat) : al_ok ns h (j + 1) c = ((c % (ns + 1) = ns ∨ h (c % (ns + 1))) ∧ al_ok ns h j (c / (ns + 1))) := rfl
/-- a place's ship -/
def al_dg (ns : Nat) : Nat → Nat → Nat → Nat
  | 0, _, _ => 0
  | j + 1, c, k => if k = j then c % (ns + 1) else al_dg ns j (c / (ns + 1)) k
theorem al_dg_s (ns j c k : Nat) : al_dg ns (j + 1) c k = if k = j then c % (ns + 1) else al_dg ns j (c / (ns + 1)) k := rfl
def al_ch (ns j c k : Nat) : Int32 := if al_dg ns j c k = ns then Int32.ofInt (-2) else Int32.ofNat (al_dg ns j c k)
def al_tm (ns : Nat) (so : Nat → Nat) (h : Nat → Bool) (be lo : Nat → Nat) (j c s : Nat) : Nat := if h s ∧ lo s ≤ be s + al_sum ns so s j c then 1 else 0
def al_bor (ns : Nat) (so : Nat → Nat) (h : Nat → Bool) (be lo : Nat → Nat) (j c : Nat) : Nat → Nat
  | 0 => 0
  | m + 1 => al_bor ns so h be lo j c m + al_tm ns so h be lo j c m
theorem al_bor_s (ns : Nat) (so : Nat → Nat) (h : Nat → Bool) (be lo : Nat → Nat) (j c m : Nat) : al_bor ns so h be lo j c (m + 1) = al_bor ns so h be lo j c m + al_tm ns so h be lo j c m := rfl
def al_cnt (h : Nat → Bool) : Nat → Nat
  | 0 => 0
  | m + 1 => al_cnt h m + (if h m then 1 else 0)
theorem al_cnt_s (h : Nat → Bool) (m : Nat) : al_cnt h (m + 1) = al_cnt h m + (if h m then 1 else 0) := rfl
theorem al_cnt1 {h : Nat → Bool} {m : Nat} (g : h m) : al_cnt h (m + 1) = al_cnt h m + 1 := by rw [al_cnt_s, if_pos g]
theorem al_cnt0 {h : Nat → Bool} {m : Nat} (g : ¬ h m) : al_cnt h (m + 1) = al_cnt h m := by rw [al_cnt_s, if_neg g]; rfl
theorem al_cnt_le {h : Nat → Bool} : ∀ m, al_cnt h m ≤ m := by
  intro m
  induction m with
  | zero => exact Nat.le_refl _
  | succ m ih => rw [al_cnt_s]; split <;> omega
theorem al_cnt_mo {h : Nat → Bool} (m : Nat) : ∀ j, al_cnt h m ≤ al_cnt h (m + j) := by
  intro j
  induction j with
  | zero => exact Nat.le_refl _
  | succ j ih => rw [← Nat.add_assoc, al_cnt_s]; omega
theorem al_cnt_lt {h : Nat → Bool} {s t : Nat} (g : h s) (l : s < t) : al_cnt h s < al_cnt h t := by
  have a := al_cnt1 g
  have b := al_cnt_mo (h := h) (s + 1) (t - (s + 1))
  rw [show s + 1 + (t - (s + 1)) = t by omega] at b
  omega
theorem al_cnt_ne {h : Nat → Bool} {s t : Nat} (g : h s) (g2 : h t) (l : s ≠ t) : al_cnt h s ≠ al_cnt h t := by
  rcases Nat.lt_or_gt_of_ne l with a | a
  · have := al_cnt_lt g a; omega
  · have := al_cnt_lt g2 a; omega
theorem al_tm_le {ns : Nat} {so : Nat → Nat} {h : Nat → Bool} {be lo : Nat → Nat} {j c s : Nat} : al_tm ns so h be lo j c s ≤ 1 := by
  unfold al_tm; split <;> omega
theorem al_bor_cnt {ns : Nat} {so : Nat → Nat} {h : Nat → Bool} {be lo : Nat → Nat} {j c : Nat} : ∀ m, al_bor ns so h be lo j c m ≤ al_cnt h m := by
  intro m
  induction m with
  | zero => exact Nat.le_refl _
  | succ m ih =>
    rw [al_bor_s]
    by_cases g : h m
    · rw [al_cnt1 g]; have := al_tm_le (ns := ns) (so := so) (h := h) (be := be) (lo := lo) (j := j) (c := c) (s := m); omega
    · rw [al_cnt0 g]
      have : al_tm ns so h be lo j c m = 0 := by unfold al_tm; rw [if_neg (fun z => g z.1)]
      omega
/-- one rope more: one ship's borne or not, the others as they were -/
theorem al_bor_ch {ns : Nat} {so : Nat → Nat} {h : Nat → Bool} {be lo : Nat → Nat} {j c : Nat} : ∀ m, (c % (ns + 1) < m → al_bor ns so h be lo (j + 1) c m + al_tm ns so h be lo j (c / (ns + 1)) (c % (ns + 1)) = al_bor ns so h be lo j (c / (ns + 1)) m + al_tm ns so h be lo (j + 1) c (c % (ns + 1))) ∧ (m ≤ c % (ns + 1) → al_bor ns so h be lo (j + 1) c m = al_bor ns so h be lo j (c / (ns + 1)) m) := by
  intro m
  induction m with
  | zero => exact ⟨fun z => absurd z (Nat.not_lt_zero _), fun _ => rfl⟩
  | succ m ih =>
    have same : ∀ s, ¬ c % (ns + 1) = s → al_tm ns so h be lo (j + 1) c s = al_tm ns so h be lo j (c / (ns + 1)) s := fun s g => by
      unfold al_tm; rw [al_sum_s, if_neg g, Nat.add_zero]
    rw [al_bor_s, al_bor_s]
    refine ⟨fun g => ?_, fun g => ?_⟩
    · by_cases e : c % (ns + 1) = m
      · have := ih.2 (by omega)
        rw [e]; omega
      · have := ih.1 (by omega)
        rw [same m e]; omega
    · have := ih.2 (by omega)
      rw [same m (by omega), this]
theorem al_tm_mo {ns : Nat} {so : Nat → Nat} {h : Nat → Bool} {be lo : Nat → Nat} {j c s : Nat} : al_tm ns so h be lo j (c / (ns + 1)) s ≤ al_tm ns so h be lo (j + 1) c s := by
  unfold al_tm
  by_cases g : h s ∧ lo s ≤ be s + al_sum ns so s j (c / (ns + 1))
  · rw [if_pos g, if_pos ⟨g.1, by rw [al_sum_s]; have := g.2; omega⟩]; exact Nat.le_refl _
  · rw [if_neg g]; exact Nat.zero_le _
theorem al_bor_up {ns : Nat} {so : Nat → Nat} {h : Nat → Bool} {be lo : Nat → Nat} {j c m : Nat} : al_bor ns so h be lo (j + 1) c m ≤ al_bor ns so h be lo j (c / (ns + 1)) m + 1 := by
  obtain ⟨a, b⟩ := al_bor_ch (ns := ns) (so := so) (h := h) (be := be) (lo := lo) (j := j) (c := c) m
  by_cases g : c % (ns + 1) < m
  · have := a g
    have := al_tm_le (ns := ns) (so := so) (h := h) (be := be) (lo := lo) (j := j + 1) (c := c) (s := c % (ns + 1))
    omega
  · have := b (by omega); omega
/-- the rows behind a beginning -/
theorem al_under {ns : Nat} {so : Nat → Nat} {h : Nat → Bool} {be lo : Nat → Nat} {p c m : Nat} : ∀ f r, c * (ns + 1) ^ f ≤ r → r < (c + 1) * (ns + 1) ^ f → al_bor ns so h be lo (p + f) r m ≤ al_bor ns so h be lo p c m + f ∧ al_put ns so p c ≤ al_put ns so (p + f) r ∧ (al_ok ns h (p + f) r → al_ok ns h p c) := by
  intro f
  induction f with
  | zero =>
    intro r h1 h2
    obtain rfl : r = c := by
      rw [Nat.pow_zero, Nat.mul_one] at h1 h2; omega
    exact ⟨Nat.le_refl _, Nat.le_refl _, fun z => z⟩
  | succ f ih =>
    intro r h1 h2
    have i1 : c * (ns + 1) ^ f ≤ r / (ns + 1) := (Nat.le_div_iff_mul_le (by omega)).mpr (by rw [Nat.pow_succ, ← Nat.mul_assoc] at h1; exact h1)
    have i2 : r / (ns + 1) < (c + 1) * (ns + 1) ^ f := (Nat.div_lt_iff_lt_mul (by omega)).mpr (by rw [Nat.pow_succ, ← Nat.mul_assoc] at h2; exact h2)
    obtain ⟨a, b, d⟩ := ih (r / (ns + 1)) i1 i2
    rw [← Nat.add_assoc]
    refine ⟨?_, ?_, fun z => d (by rw [al_ok_s] at z; exact z.2)⟩
    · have := al_bor_up (ns := ns) (so := so) (h := h) (be := be) (lo := lo) (j := p + f) (c := r) (m := m)
      omega
    · rw [al_put_s]; omega
theorem al_sum_le {ns : Nat} {so : Nat → Nat} (b : ∀ k, so k < 1000) {s : Nat} : ∀ j c, al_sum ns so s j c ≤ 1000 * j := by
  intro j
  induction j with
  | zero => intro c; exact Nat.le_refl _
  | succ j ih => intro c; rw [al_sum_s]; have := ih (c / (ns + 1)); have := b j; split <;> omega
theorem al_put_le {ns : Nat} {so : Nat → Nat} (b : ∀ k, so k < 1000) : ∀ j c, al_put ns so j c ≤ 1000 * j := by
  intro j
  induction j with
  | zero => intro c; exact Nat.le_refl _
  | succ j ih => intro c; rw [al_put_s]; have := ih (c / (ns + 1)); have := b j; split <;> omega
/-! the reference's rows -/
def alK (N : Nat → Nat) (ns F : Nat) (so : Nat → Nat) (h : Nat → Bool) (be lo : Nat → Nat) (K : hI) : Prop := (ns ≤ 5 ∧ F ≤ 5 ∧ N 2 = ns ∧ (∀ k, so k < 1000) ∧ (∀ s, be s < 10000) ∧ (∀ s, lo s < 1000)) ∧ nn (K 110 74) = F ∧ (∀ k, k < F → K 139 (nn (K 146 k)) = Int32.ofNat (so k)) ∧ (∀ s, s < ns → (K 141 s = 0 ↔ h s) ∧ m_bear K 0 (N 1) (Int32.ofNat s) = Int32.ofNat (be s) ∧ K 124 s = Int32.ofNat (lo s))
theorem m_bear_c {K K1 : hI} {b : Nat} {y : Int32} (h : ∀ a i, 138 ≤ a → a ≤ 140 → K1 a i = K a i) : ∀ n, m_bear K1 b n y = m_bear K b n y := by
  intro n
  induction n with
  | zero => rfl
  | succ n ih => rw [m_bear_s, m_bear_s, ih, h 138 _ (by omega) (by omega), h 139 _ (by omega) (by omega), h 140 _ (by omega) (by omega)]
theorem alK_c {N : Nat → Nat} {ns F : Nat} {so : Nat → Nat} {h : Nat → Bool} {be lo : Nat → Nat} {K K1 : hI} (f : rwF K K1) (a : alK N ns F so h be lo K) : alK N ns F so h be lo K1 := by
  obtain ⟨b, c, d, e⟩ := a
  refine ⟨b, by rw [f 110 74 (by omega) (by omega)]; exact c, fun k hk => ?_, fun s hs => ?_⟩
  · rw [f 139 _ (by omega) (by omega), f 146 _ (by omega) (by omega)]; exact d k hk
  · rw [f 141 _ (by omega) (by omega), f 124 _ (by omega) (by omega), m_bear_c (fun a i x y => f a i (by omega) (by omega))]; exact e s hs
theorem lr_ok {N : Nat → Nat} {ns F : Nat} {so : Nat → Nat} {h : Nat → Bool} {be lo : Nat → Nat} : ∀ j c K, j ≤ F → alK N ns F so h be lo K → (al_ok ns h j c → (m_lr ns j c K).1 = 1 ∧ (∀ s, s < ns → (m_lr ns j c K).2 148 s = K 148 s + Int32.ofNat (al_sum ns so s j c)) ∧ (m_lr ns j c K).2 110 78 = K 110 78 + Int32.ofNat (al_put ns so j c) ∧ (∀ k, k < j → (m_lr ns j c K).2 147 k = Int32.ofNat (al_dg ns j c k)) ∧ (∀ k, j ≤ k → (m_lr ns j c K).2 147 k = K 147 k)) ∧ (¬ al_ok ns h j c → (m_lr ns j c K).1 = 0) := by
  intro j
  induction j with
  | zero =>
    intro c K _ _
    exact ⟨fun _ => ⟨rfl, fun s _ => (am_a0 _).symm, (am_a0 _).symm, fun k z => absurd z (Nat.not_lt_zero _), fun _ _ => rfl⟩, fun z => absurd trivial z⟩
  | succ j ih =>
    intro c K hj a
    rw [m_lr_s, al_ok_s]
    by_cases g : c % (ns + 1) = ns
    · rw [if_pos g]
      obtain ⟨i1, i2⟩ := ih (c / (ns + 1)) (am_u K 147 j (Int32.ofNat (c % (ns + 1)))) (by omega) (alK_c (rwF_u (by omega)) a)
      refine ⟨fun z => ?_, fun z => i2 (fun y => z ⟨Or.inl g, y⟩)⟩
      obtain ⟨x1, x2, x3, x4, x5⟩ := i1 z.2
      refine ⟨x1, fun s hs => ?_, ?_, fun k hk => ?_, fun k hk => ?_⟩
      · rw [x2 s hs, am_u_na (by decide), al_sum_s, if_neg (by omega)]; rfl
      · rw [x3, am_u_na (by decide), al_put_s, if_pos g]; rfl
      · rw [al_dg_s]
        by_cases e : k = j
        · rw [if_pos e, e, x5 j (Nat.le_refl _), am_u_at]
        · rw [if_neg e, x4 k (by omega)]
      · rw [x5 k (by omega), am_u_nk (by omega)]
    · rw [if_neg g]
      have hd : c % (ns + 1) < ns := by have := Nat.mod_lt c (show ns + 1 > 0 by omega); omega
      by_cases g2 : K 141 (c % (ns + 1)) = 0
      · have hh := (a.2.2.2 _ hd).1.mp g2
        rw [if_pos g2, a.2.2.1 j (by omega)]
        obtain ⟨i1, i2⟩ := ih (c / (ns + 1)) (am_u (am_u (am_u K 147 j (Int32.ofNat (c % (ns + 1)))) 148 (c % (ns + 1)) (K 148 (c % (ns + 1)) + Int32.ofNat (so j))) 110 78 (K 110 78 + Int32.ofNat (so j))) (by omega) (alK_c (rwF_tr (rwF_tr (rwF_u (by omega)) (rwF_u (by omega))) (rwF_u (by omega))) a)
        refine ⟨fun z => ?_, fun z => i2 (fun y => z ⟨Or.inr hh, y⟩)⟩
        obtain ⟨x1, x2, x3, x4, x5⟩ := i1 z.2
        refine ⟨x1, fun s hs => ?_, ?_, fun k hk => ?_, fun k hk => ?_⟩
        · rw [x2 s hs, am_u_na (by decide), al_sum_s]
          by_cases e : c % (ns + 1) = s
          · rw [if_pos e, e, am_u_at, Int32.ofNat_add, Int32.add_assoc, Int32.add_comm (Int32.ofNat (so j))]
          · rw [if_neg e, am_u_nk (fun z => e z.symm), am_u_na (by decide)]; rfl
        · rw [x3, am_u_at, al_put_s, if_neg g, Int32.ofNat_add, Int32.add_assoc, Int32.add_comm (Int32.ofNat (so j))]
        · rw [al_dg_s]
          by_cases e : k = j
          · rw [if_pos e, e, x5 j (Nat.le_refl _), am_u_na (by decide), am_u_na (by decide), am_u_at]
          · rw [if_neg e, x4 k (by omega)]
        · rw [x5 k (by omega), am_u_na (by decide), am_u_na (by decide), am_u_nk (by omega)]
      · rw [if_neg g2]
        refine ⟨fun z => ?_, fun z => rfl⟩
        rcases z.1 with y | y
        · exact absurd y g
        · exact absurd ((a.2.2.2 _ hd).1.mpr y) g2
theorem mz_v {K : hI} : ∀ n, (∀ s, s < n → m_mz n K 148 s = Int32.ofNat 0) ∧ (∀ a i, a ≠ 148 → m_mz n K a i = K a i) := by
  intro n
  induction n with
  | zero => exact ⟨fun s z => absurd z (Nat.not_lt_zero _), fun _ _ _ => rfl⟩
  | succ n ih =>
    have e : m_mz (n + 1) K = am_u (m_mz n K) 148 n (Int32.ofNat 0) := rfl
    rw [e]
    refine ⟨fun s hs => ?_, fun a i h => ?_⟩
    · by_cases g : s = n
      · rw [g, am_u_at]
      · rw [am_u_nk g]; exact ih.1 s (by omega)
    · rw [am_u_na h]; exact ih.2 a i h
theorem lb_n {nr : Nat} {K : hI} : ∀ n a i, ¬ (a = 110 ∧ i = 77) → m_lb nr n K a i = K a i := by
  intro n
  induction n with
  | zero => intro a i _; rfl
  | succ n ih =>
    intro a i h
    rw [m_lb_s]
    have e : ∀ (X : hI) (v : Int32), am_u X 110 77 v a i = X a i := fun X v => by unfold am_u; rw [if_neg h]
    rw [e]; exact ih a i h
theorem lb_v {N : Nat → Nat} {ns F : Nat} {so : Nat → Nat} {h : Nat → Bool} {be lo : Nat → Nat} {K : hI} {j c : Nat} (a : alK N ns F so h be lo K) (hj : j ≤ 5) (e : ∀ s, s < ns → K 148 s = Int32.ofNat (al_sum ns so s j c)) (e0 : K 110 77 = Int32.ofNat 0) : ∀ n, n ≤ ns → m_lb (N 1) n K 110 77 = Int32.ofNat (al_bor ns so h be lo j c n) := by
  intro n
  induction n with
  | zero => intro _; exact e0
  | succ n ih =>
    intro hn
    obtain ⟨v1, v2, v3⟩ := a.2.2.2 n (by omega)
    have b1 := a.1.2.2.2.2.1 n
    have b2 := a.1.2.2.2.2.2 n
    have b3 := al_sum_le (ns := ns) a.1.2.2.2.1 (s := n) j c
    rw [m_lb_s, am_u_at, ih (by omega), al_bor_s, Int32.ofNat_add]
    congr 1
    rw [lb_n _ _ _ (by omega), lb_n _ _ _ (by omega), lb_n _ _ _ (by omega), m_bear_c (fun a i x y => lb_n n a i (by omega)), v2, v3, e n (by omega), ← Int32.ofNat_add]
    have lt := am_ltN (x := be n + al_sum ns so n j c) (y := lo n) (by omega) (by omega)
    unfold al_tm
    by_cases g : h n ∧ lo n ≤ be n + al_sum ns so n j c
    · rw [if_pos g, if_pos ⟨v1.mpr g.1, by rw [lt]; have := g.2; omega⟩]
    · rw [if_neg g, if_neg (fun z => g ⟨v1.mp z.1, by have := z.2; rw [lt] at this; omega⟩)]
theorem ly_v {N : Nat → Nat} {ns F : Nat} {so : Nat → Nat} {h : Nat → Bool} {be lo : Nat → Nat} {K : hI} {c : Nat} (a : alK N ns F so h be lo K) : (al_ok ns h F c → (m_ly N c K).1 = 1 ∧ (m_ly N c K).2 110 77 = Int32.ofNat (al_bor ns so h be lo F c ns) ∧ (m_ly N c K).2 110 78 = Int32.ofNat (al_put ns so F c) ∧ (∀ k, k < F → (m_ly N c K).2 147 k = Int32.ofNat (al_dg ns F c k))) ∧ (¬ al_ok ns h F c → (m_ly N c K).1 = 0) := by
  obtain ⟨hns, hF, hN, _⟩ := a.1
  have a0 := alK_c (rwF_ly0 K) a
  obtain ⟨l1, l2⟩ := lr_ok F c (m_ly0 K) (Nat.le_refl _) a0
  obtain ⟨z1, z2⟩ := mz_v (K := am_u (am_u K 110 78 (Int32.ofNat 0)) 110 77 (Int32.ofNat 0)) 5
  have y1 : ∀ s, s < 5 → m_ly0 K 148 s = Int32.ofNat 0 := z1
  have y2 : m_ly0 K 110 77 = Int32.ofNat 0 := (z2 110 77 (by decide)).trans am_u_at
  have y3 : m_ly0 K 110 78 = Int32.ofNat 0 := (z2 110 78 (by decide)).trans ((am_u_nk (by decide)).trans am_u_at)
  unfold m_ly m_lyL
  rw [a.2.1, hN]
  constructor
  · intro g
    obtain ⟨x1, x2, x3, x4, x5⟩ := l1 g
    rw [if_neg (by rw [x1]; decide)]
    refine ⟨rfl, ?_, ?_, fun k hk => ?_⟩
    · refine lb_v (alK_c (rwF_lr ns F c (m_ly0 K)) a0) hF (fun s hs => ?_) ?_ ns (Nat.le_refl _)
      · rw [x2 s hs, y1 s (by omega), show Int32.ofNat 0 = 0 from rfl, Int32.zero_add]
      · rw [m_lr77, y2]
    · show m_lb (N 1) ns _ 110 78 = _
      rw [lb_n _ _ _ (by omega), x3, y3, show Int32.ofNat 0 = 0 from rfl, Int32.zero_add]
    · show m_lb (N 1) ns _ 147 k = _
      rw [lb_n _ _ _ (by omega), x4 k hk]
  · intro g
    rw [if_pos (l2 g)]
/-- a row that is better than the best so far -/
abbrev al_bt (x y : Int32) (b : Int32 × Int32 × Int32) : Prop := ¬ (x < b.2.1 ∨ (x = b.2.1 ∧ ¬ y < b.2.2))
theorem al_st {N : Nat → Nat} {ns F : Nat} {so : Nat → Nat} {h : Nat → Bool} {be lo : Nat → Nat} {K : hI} (a : alK N ns F so h be lo K) (r : Nat) : (¬ al_ok ns h F r → (m_al N (r + 1) K).1 = (m_al N r K).1) ∧ (al_ok ns h F r → (¬ al_bt (Int32.ofNat (al_bor ns so h be lo F r ns)) (Int32.ofNat (al_put ns so F r)) (m_al N r K).1 → (m_al N (r + 1) K).1 = (m_al N r K).1) ∧ (al_bt (Int32.ofNat (al_bor ns so h be lo F r ns)) (Int32.ofNat (al_put ns so F r)) (m_al N r K).1 → (m_al N (r + 1) K).1 = (Int32.ofNat r, Int32.ofNat (al_bor ns so h be lo F r ns), Int32.ofNat (al_put ns so F r)))) := by
  have a1 := alK_c (rwF_al N r K) a
  obtain ⟨l1, l2⟩ := ly_v (c := r) a1
  rw [m_al_s]
  unfold m_alS
  refine ⟨fun g => ?_, fun g => ⟨fun z => ?_, fun z => ?_⟩⟩
  · rw [if_pos (Or.inl (l2 g))]
  · obtain ⟨x1, x2, x3, x4⟩ := l1 g
    rw [x2, x3, if_pos (Or.inr (Classical.not_not.mp z))]
  · obtain ⟨x1, x2, x3, x4⟩ := l1 g
    rw [x1, x2, x3, if_neg (fun y => y.elim (by decide) z)]
