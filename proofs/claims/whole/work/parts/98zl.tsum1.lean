/-! Texts alike: a law's sum, sign by sign. -/
theorem tok_gt {st : Nat} {I K : hI} (b : bse st I K) : u_tok I 3 4 = Int32.ofNat 0 ∨ (nn (I 3 3) < nn (u_tok I 3 3) ∧ nn (u_tok I 3 3) ≤ st) := by
  obtain ⟨b1, b2, b3, b4, b5, b6, _⟩ := b
  have n2 : nn (I 3 2) = st := by rw [b2, nn_ofNat (by omega)]
  have hp : nn (I 3 3) ≤ st := by have := b6.2; omega
  have la := t_at_lC (f := I 1) hp
  have o := one_eq (f := I 1) (f' := I 1) (g := I 4) (w0 := 0) (fun _ _ => rfl) b5 la.2
  have lo := u_one_le (g := I 4) (f := I 1) la.2
  unfold u_tok u_tk
  rw [n2]
  by_cases e : t_at (I 1) st (nn (I 3 3)) = st
  · left
    show (u_one (I 4) (I 1) st (t_at (I 1) st (nn (I 3 3)))).2.1 = _
    unfold u_one
    rw [if_pos e]
  · right
    have g := t_one_gt (f := I 1) (w := 0) (show t_at (I 1) st (nn (I 3 3)) < st by omega)
    show nn (I 3 3) < nn (Int32.ofNat (u_one (I 4) (I 1) st (t_at (I 1) st (nn (I 3 3)))).1) ∧ nn (Int32.ofNat (u_one (I 4) (I 1) st (t_at (I 1) st (nn (I 3 3)))).1) ≤ st
    rw [nn_ofNat (by omega), o.1]
    rw [o.1] at lo
    omega
/-- how many brackets, how many that join two, among those that wait -/
def no (g : Nat → Int32) : Nat → Nat
  | 0 => 0
  | h + 1 => no g h + (if g h = Int32.ofNat 41 then 1 else 0)
def nb (g : Nat → Int32) : Nat → Nat
  | 0 => 0
  | h + 1 => nb g h + (if g h = Int32.ofNat 41 ∨ g h = Int32.ofNat 23 then 0 else 1)
theorem no_s (g : Nat → Int32) (h : Nat) : no g (h + 1) = no g h + (if g h = Int32.ofNat 41 then 1 else 0) := rfl
theorem nb_s (g : Nat → Int32) (h : Nat) : nb g (h + 1) = nb g h + (if g h = Int32.ofNat 41 ∨ g h = Int32.ofNat 23 then 0 else 1) := rfl
theorem no_c {g g' : Nat → Int32} : ∀ h, (∀ i, i < h → g' i = g i) → no g' h = no g h ∧ nb g' h = nb g h := by
  intro h
  induction h with
  | zero => intro _; exact ⟨rfl, rfl⟩
  | succ h ih =>
    intro e
    obtain ⟨i1, i2⟩ := ih (fun i hi => e i (by omega))
    rw [no_s, no_s, nb_s, nb_s, i1, i2, e h (by omega)]; exact ⟨rfl, rfl⟩
theorem no_nb (g : Nat → Int32) (h : Nat) : no g h + nb g h ≤ h := by
  induction h with
  | zero => exact Nat.le_refl _
  | succ h ih =>
    rw [no_s, nb_s]
    by_cases a : g h = Int32.ofNat 41
    · rw [if_pos a, if_pos (Or.inl a)]; omega
    · rw [if_neg a]; split <;> omega
theorem sh_c {g g' : Nat → Int32} : ∀ n, (∀ i, i < n → g' i = g i) → sh g' n = sh g n ∧ ∀ t, ss g' n t = ss g n t := by
  intro n
  induction n with
  | zero => intro _; exact ⟨rfl, fun _ => rfl⟩
  | succ n ih =>
    intro e
    obtain ⟨i1, i2⟩ := ih (fun i hi => e i (by omega))
    refine ⟨by rw [sh_s, sh_s, i1, e n (by omega)], fun t => ?_⟩
    rw [ss_s, ss_s, i1, i2, e n (by omega)]
theorem knR_c {g g' v v' : Nat → Int32} {K K' : hI} {B B' f i : Nat} (hg : ∀ j, j ≤ i → g' j = g j) (hv : v' i = v i) (hK : ∀ a, 131 ≤ a → a ≤ 133 → K' a (B' + f + i) = K a (B + f + i)) (h : knR g v K B f i) : knR g' v' K' B' f i := by
  obtain ⟨s1, s2⟩ := sh_c i (fun j hj => hg j (by omega))
  unfold knR at h ⊢
  rw [s1, s2, s2, hg i (Nat.le_refl _), hv, hK 131 (by omega) (by omega), hK 132 (by omega) (by omega), hK 133 (by omega) (by omega)]
  exact h
/-- a sum being read, on both sides -/
def LC (A f : Nat) (I K : hI) (h o c n d : Nat) : Prop := (I 6 2 = Int32.ofNat h ∧ K 110 45 = Int32.ofNat h) ∧ (I 6 3 = Int32.ofNat o ∧ K 110 47 = Int32.ofNat o) ∧ (I 6 4 = Int32.ofNat c ∧ K 110 48 = Int32.ofNat c) ∧ (I A 0 = Int32.ofNat n ∧ K 110 21 = Int32.ofNat (f + n)) ∧ (I 6 5 = Int32.ofNat d ∧ K 110 49 = Int32.ofNat d) ∧ (I 6 6 = 0 ↔ K 110 50 = 0) ∧ K 110 46 = Int32.ofNat (sh (I (A + 1)) n)
def hx (x : Nat) : Prop := x = 41 ∨ x = 23 ∨ bin x
def LSt (I K : hI) (h : Nat) : Prop := ∀ i, i < h → ∃ x, hx x ∧ I 7 i = Int32.ofNat x ∧ K 134 i = Int32.ofNat (cod x) ∧ I 8 i = k_rk (Int32.ofNat x)
def LN (I : hI) (A f h o c n d : Nat) : Prop := c ≤ 64 ∧ o ≤ 8 ∧ f + n + h = c + o ∧ no (I 7) h = o ∧ sh (I (A + 1)) n + d = nb (I 7) h + 1
def LK (A f : Nat) (I K : hI) (n : Nat) : Prop := (∀ i, i < n → knR (I (A + 1)) (I (A + 2)) K 64 f i) ∧ ∀ t, t < sh (I (A + 1)) n → K 135 t = Int32.ofNat (f + ss (I (A + 1)) n t)
def LR (A f : Nat) (I K : hI) (h o c n d : Nat) : Prop := LC A f I K h o c n d ∧ LSt I K h ∧ LN I A f h o c n d ∧ LK A f I K n
theorem LSt_c {I I' K K' : hI} {h : Nat} (h1 : ∀ i, i < h → I' 7 i = I 7 i ∧ I' 8 i = I 8 i) (h2 : ∀ i, i < h → K' 134 i = K 134 i) (s : LSt I K h) : LSt I' K' h := by
  intro i hi
  rw [(h1 i hi).1, (h1 i hi).2, h2 i hi]; exact s i hi
theorem LK_c {A f n : Nat} {I I' K K' : hI} (h1 : ∀ i, i < n → I' (A + 1) i = I (A + 1) i ∧ I' (A + 2) i = I (A + 2) i) (h2 : ∀ a i, 131 ≤ a → a ≤ 133 → i < n → K' a (64 + f + i) = K a (64 + f + i)) (h3 : ∀ t, t < sh (I (A + 1)) n → K' 135 t = K 135 t) (s : LK A f I K n) : LK A f I' K' n := by
  obtain ⟨s1, s2⟩ := sh_c n (fun i hi => (h1 i hi).1)
  refine ⟨fun i hi => knR_c (fun j hj => (h1 j (by omega)).1) (h1 i hi).2 (fun a u v => h2 a i u v hi) (s.1 i hi), fun t ht => ?_⟩
  rw [s1] at ht
  rw [s2, h3 t ht]; exact s.2 t ht
theorem bin_lt {x : Nat} (h : bin x) : x < 53 ∧ ¬ x = 41 ∧ ¬ x = 23 := by unfold bin at h; omega
theorem hx_lt {x : Nat} (h : hx x) : x < 53 := by
  rcases h with rfl | rfl | h
  · omega
  · omega
  · exact (bin_lt h).1
theorem rk_cod : ∀ x, hx x → m_rk (Int32.ofNat (cod x)) = k_rk (Int32.ofNat x) := by
  have key : ∀ x, x < 53 → (x = 41 ∨ x = 23 ∨ x = 21 ∨ x = 22 ∨ (43 ≤ x ∧ x ≤ 52)) → m_rk (Int32.ofNat (cod x)) = k_rk (Int32.ofNat x) := by decide
  intro x h
  exact key x (hx_lt h) h
theorem rk_pos : ∀ x, hx x → ¬ x = 41 → ¬ k_rk (Int32.ofNat x) < Int32.ofNat 1 := by
  have key : ∀ x, x < 53 → (x = 41 ∨ x = 23 ∨ x = 21 ∨ x = 22 ∨ (43 ≤ x ∧ x ≤ 52)) → ¬ x = 41 → ¬ k_rk (Int32.ofNat x) < Int32.ofNat 1 := by decide
  intro x h
  exact key x (hx_lt h) h
/-- what stays while a sum is read -/
def FR (A f : Nat) (I I' K K' : hI) : Prop := (∀ b i, b ≠ 3 → b ≠ 6 → b ≠ 7 → b ≠ 8 → (b < A ∨ A + 2 < b) → I' b i = I b i) ∧ (∀ a i, a ≠ 134 → a ≠ 135 → (131 ≤ a → a ≤ 133 → i < 64 + f) → ¬ (a = 110 ∧ ((4 ≤ i ∧ i ≤ 11) ∨ i = 21 ∨ (45 ≤ i ∧ i ≤ 50))) → K' a i = K a i)
theorem FR_rf {A f : Nat} {I K : hI} : FR A f I I K K := ⟨fun _ _ _ _ _ _ _ => rfl, fun _ _ _ _ _ _ => rfl⟩
theorem FR_tr {A f : Nat} {I I1 I2 K K1 K2 : hI} (h : FR A f I I1 K K1) (g : FR A f I1 I2 K1 K2) : FR A f I I2 K K2 := ⟨fun b i a1 a2 a3 a4 a5 => (g.1 b i a1 a2 a3 a4 a5).trans (h.1 b i a1 a2 a3 a4 a5), fun a i a1 a2 a3 a4 => (g.2 a i a1 a2 a3 a4).trans (h.2 a i a1 a2 a3 a4)⟩
/-- and the token read -/
def FT (I I' K K' : hI) : Prop := (∀ i, I' 3 i = I 3 i) ∧ (∀ i, 4 ≤ i → i ≤ 10 → K' 110 i = K 110 i)
theorem FT_rf {I K : hI} : FT I I K K := ⟨fun _ => rfl, fun _ _ _ => rfl⟩
theorem FT_tr {I I1 I2 K K1 K2 : hI} (h : FT I I1 K K1) (g : FT I1 I2 K1 K2) : FT I I2 K K2 := ⟨fun i => (g.1 i).trans (h.1 i), fun i a b => (g.2 i a b).trans (h.2 i a b)⟩
theorem bse_F {A f st : Nat} {I I' K K' : hI} (hA : 8 < A) (h : FR A f I I' K K') (g : FT I I' K K') (b : bse st I K) : bse st I' K' := bse_c (fun a i u => by
  by_cases e : a = 3
  · rw [e]; exact g.1 i
  · exact h.1 a i e (by omega) (by omega) (by omega) (by omega)) (fun a i u => by
  by_cases e : a = 110
  · rw [e]; exact g.2 i (by omega) (by omega)
  · exact h.2 a i (by omega) (by omega) (by omega) (by omega)) b
theorem cur_F {I I' K K' : hI} (g : FT I I' K K') (b : cur I K) : cur I' K' := cur_c (fun i _ => g.1 i) (fun i a b => g.2 i (by omega) b) b
theorem k_ad_1 {I : hI} {A n : Nat} {x y : Int32} (h : I A 0 = Int32.ofNat n) (hn : n < 64) : k_ad I A x y = am_u (am_u (am_u I (A + 1) n x) (A + 2) n y) A 0 (Int32.ofNat (n + 1)) := by
  unfold k_ad k_add
  rw [h, nn_ofNat (by omega), if_pos hn]
theorem mk4 {P Q R S : Prop} (a : P ∧ Q ∧ R) (s : S) : P ∧ Q ∧ R ∧ S := ⟨a.1, a.2.1, a.2.2, s⟩
/-- one that waits is taken -/
theorem pop1 {A f h o c n : Nat} {I K : hI} (hA : 8 < A) (r : LR A f I K (h + 1) o c n 0) (h41 : ¬ I 7 h = Int32.ofNat 41) : LR A f (k_ad (am_u I 6 2 (Int32.ofNat h)) A (I 7 h) (Int32.ofNat 0)) (m_pop K h (sh (I (A + 1)) n) (f + n)) h o c (n + 1) 0 ∧ FR A f I (k_ad (am_u I 6 2 (Int32.ofNat h)) A (I 7 h) (Int32.ofNat 0)) K (m_pop K h (sh (I (A + 1)) n) (f + n)) ∧ FT I (k_ad (am_u I 6 2 (Int32.ofNat h)) A (I 7 h) (Int32.ofNat 0)) K (m_pop K h (sh (I (A + 1)) n) (f + n)) ∧ m_popH K h (sh (I (A + 1)) n) = sh (k_ad (am_u I 6 2 (Int32.ofNat h)) A (I 7 h) (Int32.ofNat 0) (A + 1)) (n + 1) := by
  obtain ⟨⟨⟨c1, c1'⟩, ⟨c2, c2'⟩, ⟨c3, c3'⟩, ⟨c4, c4'⟩, ⟨c5, c5'⟩, c6, c7⟩, s, ⟨l1, l2, l3, l4, l5⟩, ⟨k1, k2⟩⟩ := r
  obtain ⟨x, x1, x2, x3, x4⟩ := s h (by omega)
  have nn1 := no_nb (I 7) h
  rw [no_s, if_neg h41] at l4
  rw [nb_s] at l5
  have x41 : ¬ x = 41 := fun z => h41 (by rw [x2, z])
  have hn : n < 64 := by omega
  have ea : k_ad (am_u I 6 2 (Int32.ofNat h)) A (I 7 h) (Int32.ofNat 0) = am_u (am_u (am_u (am_u I 6 2 (Int32.ofNat h)) (A + 1) n (I 7 h)) (A + 2) n (Int32.ofNat 0)) A 0 (Int32.ofNat (n + 1)) := k_ad_1 (by rw [am_u_na (by omega)]; exact c4) hn
  rw [ea]
  have g1 : ∀ i, i < n → am_u (am_u (am_u (am_u I 6 2 (Int32.ofNat h)) (A + 1) n (I 7 h)) (A + 2) n (Int32.ofNat 0)) A 0 (Int32.ofNat (n + 1)) (A + 1) i = I (A + 1) i := fun i hi => by
    rw [am_u_na (by omega), am_u_na (by omega), am_u_nk (by omega), am_u_na (by omega)]
  have g2 : ∀ i, i < n → am_u (am_u (am_u (am_u I 6 2 (Int32.ofNat h)) (A + 1) n (I 7 h)) (A + 2) n (Int32.ofNat 0)) A 0 (Int32.ofNat (n + 1)) (A + 2) i = I (A + 2) i := fun i hi => by
    rw [am_u_na (by omega), am_u_nk (by omega), am_u_na (by omega), am_u_na (by omega)]
  have gn : am_u (am_u (am_u (am_u I 6 2 (Int32.ofNat h)) (A + 1) n (I 7 h)) (A + 2) n (Int32.ofNat 0)) A 0 (Int32.ofNat (n + 1)) (A + 1) n = I 7 h := by
    rw [am_u_na (by omega), am_u_na (by omega), am_u_at]
  have gA : am_u (am_u (am_u (am_u I 6 2 (Int32.ofNat h)) (A + 1) n (I 7 h)) (A + 2) n (Int32.ofNat 0)) A 0 (Int32.ofNat (n + 1)) A 0 = Int32.ofNat (n + 1) := am_u_at
  have g6 : am_u (am_u (am_u (am_u I 6 2 (Int32.ofNat h)) (A + 1) n (I 7 h)) (A + 2) n (Int32.ofNat 0)) A 0 (Int32.ofNat (n + 1)) 6 2 = Int32.ofNat h := by
    rw [am_u_na (by omega), am_u_na (by omega), am_u_na (by omega), am_u_at]
  have gO : ∀ b i, (b < A ∨ A + 2 < b) → (b ≠ 6 ∨ i ≠ 2) → am_u (am_u (am_u (am_u I 6 2 (Int32.ofNat h)) (A + 1) n (I 7 h)) (A + 2) n (Int32.ofNat 0)) A 0 (Int32.ofNat (n + 1)) b i = I b i := fun b i h1 h2 => by
    rw [am_u_na (by omega), am_u_na (by omega), am_u_na (by omega)]
    unfold am_u
    rw [if_neg (by omega)]
  revert g1 g2 gn gA g6 gO
  generalize am_u (am_u (am_u (am_u I 6 2 (Int32.ofNat h)) (A + 1) n (I 7 h)) (A + 2) n (Int32.ofNat 0)) A 0 (Int32.ofNat (n + 1)) = X
  intro g1 g2 gn gA g6 gO
  obtain ⟨sc1, sc2⟩ := sh_c (g := I (A + 1)) (g' := X (A + 1)) n g1
  have f7 : ∀ i, X 7 i = I 7 i := fun i => gO 7 i (by omega) (by omega)
  have f8 : ∀ i, X 8 i = I 8 i := fun i => gO 8 i (by omega) (by omega)
  obtain ⟨nc1, nc2⟩ := no_c (g := I 7) (g' := X 7) h (fun i _ => f7 i)
  have rest : ∀ (Y : hI), (∀ a i, ¬ (131 ≤ a ∧ a ≤ 133) → a ≠ 135 → ¬ (a = 110 ∧ (i = 46 ∨ i = 21 ∨ i = 45)) → Y a i = K a i) → Y 110 45 = Int32.ofNat h → Y 110 46 = Int32.ofNat (sh (X (A + 1)) (n + 1)) → Y 110 21 = Int32.ofNat (f + n + 1) → (∀ a i, 131 ≤ a → a ≤ 133 → i ≠ 64 + f + n → Y a i = K a i) → knR (X (A + 1)) (X (A + 2)) Y 64 f n → (∀ t, t < sh (X (A + 1)) (n + 1) → Y 135 t = Int32.ofNat (f + ss (X (A + 1)) (n + 1) t)) → sh (X (A + 1)) (n + 1) + 0 = nb (I 7) h + 1 → LR A f X Y h o c (n + 1) 0 ∧ FR A f I X K Y ∧ FT I X K Y := by
    intro Y y0 y45 y46 y21 yk ykn yh ysh
    refine ⟨⟨⟨⟨g6, y45⟩, ⟨?_, ?_⟩, ⟨?_, ?_⟩, ⟨gA, y21⟩, ⟨?_, ?_⟩, ?_, y46⟩, LSt_c (fun i _ => ⟨f7 i, f8 i⟩) (fun i _ => y0 134 i (by omega) (by omega) (by omega)) (fun i hi => s i (by omega)), ⟨l1, l2, by omega, by rw [nc1]; omega, by rw [nc2]; exact ysh⟩, ⟨fun i hi => ?_, yh⟩⟩, ⟨fun b i h1 h2 h3 h4 h5 => gO b i h5 (by omega), fun a i h1 h2 h3 h4 => ?_⟩, ⟨fun i => gO 3 i (by omega) (by omega), fun i h1 h2 => y0 110 i (by omega) (by omega) (by omega)⟩⟩
    · rw [gO 6 3 (by omega) (by omega)]; exact c2
    · rw [y0 110 47 (by omega) (by omega) (by omega)]; exact c2'
    · rw [gO 6 4 (by omega) (by omega)]; exact c3
    · rw [y0 110 48 (by omega) (by omega) (by omega)]; exact c3'
    · rw [gO 6 5 (by omega) (by omega)]; exact c5
    · rw [y0 110 49 (by omega) (by omega) (by omega)]; exact c5'
    · rw [gO 6 6 (by omega) (by omega), y0 110 50 (by omega) (by omega) (by omega)]; exact c6
    · by_cases z : i = n
      · subst z; exact ykn
      · exact knR_c (fun j hj => g1 j (by omega)) (g2 i (by omega)) (fun a u v => yk a _ u v (by omega)) (k1 i (by omega))
    · by_cases z : 131 ≤ a ∧ a ≤ 133
      · exact yk a i z.1 z.2 (by have := h3 z.1 z.2; omega)
      · exact y0 a i z (by omega) (by omega)
  rcases x1 with x1 | x1 | x1
  · exact absurd x1 x41
  · subst x1
    have e2 : K 134 h = Int32.ofNat 2 := x3
    have t23 : I 7 h = Int32.ofNat 41 ∨ I 7 h = Int32.ofNat 23 := Or.inr x2
    rw [if_pos t23] at l5
    have tk : k_tk (X (A + 1) n) = 1 := by rw [gn, x2]; rfl
    have shn : sh (X (A + 1)) (n + 1) = sh (I (A + 1)) n := by rw [sh_s, tk, sc1]; omega
    have eH : sh (I (A + 1)) n - 1 + 1 = sh (I (A + 1)) n := by omega
    unfold m_pop m_popH
    rw [if_pos e2, if_pos e2, e2]
    refine mk4 (rest _ (fun a i h1 h2 h3 => ?_) ?_ ?_ ?_ (fun a i h1 h2 h3 => ?_) ?_ (fun t ht => ?_) (by rw [shn]; omega)) shn.symm
    · rw [m_gr_f h1 h2 (by omega)]; unfold am_u; rw [if_neg (by omega), if_neg (by omega)]
    · rw [m_gr_f (by omega) (by omega) (by omega), am_u_nk (by decide), am_u_at]
    · rw [m_gr46, shn, eH]
    · rw [m_gr21]
    · unfold m_gr am_u
      rw [if_neg (by omega), if_neg (by omega), if_neg (by omega), if_neg (by omega), if_neg (by omega), if_neg (by omega), if_neg (by omega), if_neg (by omega)]
    · refine Or.inr (Or.inr (Or.inl ⟨by rw [gn, x2], by rw [sc1]; omega, ?_, ?_⟩))
      · rw [Nat.add_assoc]; unfold m_gr
        rw [am_u_na (by decide), am_u_na (by decide), am_u_na (by decide), am_u_na (by decide), am_u_na (by decide), am_u_at]
      · rw [Nat.add_assoc]; unfold m_gr
        rw [am_u_na (by decide), am_u_na (by decide), am_u_na (by decide), am_u_na (by decide), am_u_at, sc1, sc2]
        exact k2 _ (by omega)
    · rw [shn] at ht
      rw [ss_s, tk, sc1, sc2]
      unfold m_gr
      by_cases z : t = sh (I (A + 1)) n - 1
      · rw [if_pos z, z, am_u_na (by decide), am_u_na (by decide), am_u_at]
      · rw [if_neg z, am_u_na (by decide), am_u_na (by decide), am_u_nk z, am_u_na (by decide), am_u_na (by decide), am_u_na (by decide), am_u_na (by decide), am_u_na (by decide)]
        exact k2 t ht
  · obtain ⟨b1, b2, b3⟩ := bin_lt x1
    obtain ⟨d1, d2, d3⟩ := cod_3 x1
    have e2 : ¬ K 134 h = Int32.ofNat 2 := by rw [x3]; exact d3
    have n23 : ¬ (I 7 h = Int32.ofNat 41 ∨ I 7 h = Int32.ofNat 23) := fun z => z.elim h41 (fun z => b3 (by rw [x2] at z; exact (am_eqN (by omega) (by omega)).mp z))
    rw [if_neg n23] at l5
    have tk : k_tk (X (A + 1) n) = 2 := by rw [gn, x2]; exact tk_bin x1
    have shn : sh (X (A + 1)) (n + 1) = sh (I (A + 1)) n - 1 := by rw [sh_s, tk, sc1]; omega
    have eH : sh (I (A + 1)) n - 1 - 1 + 1 = sh (I (A + 1)) n - 1 := by omega
    unfold m_pop m_popH
    rw [if_neg e2, if_neg e2]
    refine mk4 (rest _ (fun a i h1 h2 h3 => ?_) ?_ ?_ ?_ (fun a i h1 h2 h3 => ?_) ?_ (fun t ht => ?_) (by rw [shn]; omega)) shn.symm
    · rw [m_gr_f h1 h2 (by omega)]; unfold am_u; rw [if_neg (by omega), if_neg (by omega), if_neg (by omega)]
    · rw [m_gr_f (by omega) (by omega) (by omega), am_u_nk (by decide), am_u_nk (by decide), am_u_at]
    · rw [m_gr46, shn, eH]
    · rw [m_gr21]
    · unfold m_gr am_u
      rw [if_neg (by omega), if_neg (by omega), if_neg (by omega), if_neg (by omega), if_neg (by omega), if_neg (by omega), if_neg (by omega), if_neg (by omega), if_neg (by omega)]
    · refine Or.inr (Or.inr (Or.inr ⟨x, x1, by rw [gn, x2], by rw [sc1]; omega, ?_, ?_, ?_⟩))
      · rw [Nat.add_assoc]; unfold m_gr
        rw [am_u_na (by decide), am_u_na (by decide), am_u_na (by decide), am_u_na (by decide), am_u_na (by decide), am_u_at, x3]
      · rw [Nat.add_assoc]; unfold m_gr
        rw [am_u_na (by decide), am_u_na (by decide), am_u_na (by decide), am_u_na (by decide), am_u_at, sc1, sc2]
        exact k2 _ (by omega)
      · rw [Nat.add_assoc]; unfold m_gr
        rw [am_u_na (by decide), am_u_na (by decide), am_u_na (by decide), am_u_at, sc1, sc2]
        exact k2 _ (by omega)
    · rw [shn] at ht
      rw [ss_s, tk, sc1, sc2]
      unfold m_gr
      by_cases z : t = sh (I (A + 1)) n - 1 - 1
      · rw [if_pos (by omega), z, am_u_na (by decide), am_u_na (by decide), am_u_at]
      · rw [if_neg (by omega), am_u_na (by decide), am_u_na (by decide), am_u_nk z, am_u_na (by decide), am_u_na (by decide), am_u_na (by decide), am_u_na (by decide), am_u_na (by decide), am_u_na (by decide)]
        exact k2 t (by omega)
