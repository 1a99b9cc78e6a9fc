/-! Put off (five): the class's search. -/
/-- what the search leaves as it is -/
def poI (I : hI) (J : hJ) (p : hI × hJ) : Prop := (∀ a i, a < 77 ∨ (87 < a ∧ a < 102) → p.1 a i = I a i) ∧ (∀ a i, a ≠ 85 → a ≠ 86 → a ≠ 77 → p.2 a i = J a i) ∧ (∀ a i, 110 ≤ a → p.1 a i = I a i)
theorem poI_su {I : hI} {J : hJ} {p : hI × hJ} {T s : Nat} {N : Nat → Nat} {y : Int32} (h : poI I J p) : poI I J (k_su T N s y p) := by
  obtain ⟨g1, g2⟩ := su_n (T := T) (s := s) (N := N) (y := y) (p := p)
  exact ⟨fun a i x => (g1 a i (by omega)).trans (h.1 a i x), fun a i x y z => (g2 a i x y z).trans (h.2.1 a i x y z), fun a i x => (g1 a i (by omega)).trans (h.2.2 a i x)⟩
theorem poI_9 {I : hI} {J : hJ} {p : hI × hJ} {X : hI} (h : poI I J p) (g : ∀ a, a ≠ 109 → X a = p.1 a) : poI I J (X, p.2) := ⟨fun a i x => (congrFun (g a (by omega)) i).trans (h.1 a i x), h.2.1, fun a i x => (congrFun (g a (by omega)) i).trans (h.2.2 a i x)⟩
theorem poI_R {T O : Nat} {N : Nat → Nat} {u q : Nat} {I K : hI} {J L : hJ} {p : hI × hJ} (h : REL T O N u q I J K L) (g : poI I J p) : REL T O N u q p.1 p.2 K L := REL_x h g.1 (g.2.1 63 1 (by decide) (by decide) (by decide)) (g.2.1 70 1 (by decide) (by decide) (by decide))
theorem lst_p {T O : Nat} {N : Nat → Nat} {u q : Nat} {I K : hI} {J L : hJ} {p : hI × hJ} {s b : Nat} (h : REL T O N u q I J K L) (hz : K 110 2 = Int32.ofNat 0) (hs : s < N 2) (hb : b < 1024) (g : poI I J p) : lst T N s p b ↔ lst T N s (I, J) b := by
  unfold lst
  rw [po_TR h hz hs hb hb (fun _ _ _ => rfl)]
  have e := po_TR (I := p.1) (J := p.2) (poI_R h g) hz hs hb hb (fun _ _ _ => rfl)
  rw [show (p.1, p.2) = p from rfl] at e
  rw [e]
theorem fA_p {T : Nat} {N : Nat → Nat} {I : hI} {J : hJ} {p : hI × hJ} {s : Nat} (hT : T = 9 ∨ T = 36) (g : poI I J p) : k_fA T N s p.1 = k_fA T N s I := by
  unfold k_fA
  rw [g.1 63 0 (by omega)]
  unfold k_voyN
  rw [show p.1 (T + 14) = I (T + 14) from funext fun i => g.1 _ i (by omega), show p.1 (T + 15) = I (T + 15) from funext fun i => g.1 _ i (by omega)]
/-- those that sailed, of a set that's lost -/
def zP (T : Nat) (N : Nat → Nat) (s : Nat) (I : hI) (J : hJ) (c z : Nat) : Prop := z < 1024 ∧ (∀ v, z.testBit v = true → v < N 3 ∧ c.testBit v = false) ∧ ∀ b, b < 1024 → sbs c b → (∀ v, z.testBit v = true → b.testBit v = false) → lst T N s (I, J) b
/-- a set that was looked at -/
def poD (T : Nat) (N : Nat → Nat) (s : Nat) (I : hI) (J : hJ) (p : hI × hJ) (c : Nat) : Prop := lst T N s (I, J) c ∧ ∃ z, zP T N s I J c z ∧ ∀ v, z.testBit v = true → ¬ p.1 109 (c ||| 2 ^ v) = 0
theorem rf_v {x : Int32} {b z : Nat} {I : hI} (ex : x = Int32.ofNat z) (hz : z < 1024) : ∀ n, n ≤ 10 → (∀ v, v < n → z.testBit v = true → ¬ k_rf x b n I 109 (b ||| 2 ^ v) = 0) ∧ (∀ c, k_rf x b n I 109 c = I 109 c ∨ (k_rf x b n I 109 c = Int32.ofNat 1 ∧ ∃ v, z.testBit v = true ∧ c = b ||| 2 ^ v)) := by
  intro n
  induction n with
  | zero => intro _; exact ⟨fun v h => absurd h (Nat.not_lt_zero _), fun c => Or.inl rfl⟩
  | succ n ih =>
    intro hn
    obtain ⟨i1, i2⟩ := ih (by omega)
    have P : k_rfP x n ↔ z.testBit n = false := by
      unfold k_rfP; rw [ex]; exact am_bit n (by omega) z hz
    by_cases c : k_rfP x n
    · rw [k_rf_1 c]
      refine ⟨fun v hv h => ?_, i2⟩
      by_cases e : v = n
      · subst e; rw [P.mp c] at h; exact absurd h (by decide)
      · exact i1 v (by omega) h
    · rw [k_rf_0 c]
      have tb : z.testBit n = true := by
        cases e : z.testBit n with
        | true => rfl
        | false => exact absurd (P.mpr e) c
      have nz : ¬ Int32.ofNat 1 = 0 := by decide
      refine ⟨fun v hv h => ?_, fun d => ?_⟩
      · by_cases e : b ||| 2 ^ v = b ||| 2 ^ n
        · rw [e, am_u_at]; exact nz
        · rw [am_u_nk e]
          refine i1 v ?_ h
          by_cases ev : v = n
          · subst ev; exact absurd rfl e
          · omega
      · by_cases e : d = b ||| 2 ^ n
        · subst e; rw [am_u_at]; exact Or.inr ⟨rfl, n, tb, rfl⟩
        · rw [am_u_nk e]; exact i2 d
theorem fi_ok {T O : Nat} {N : Nat → Nat} {u q : Nat} {I K : hI} {J L : hJ} {s y A : Nat} {f0 : Nat → Prop} (h : REL T O N u q I J K L) (hz : K 110 2 = Int32.ofNat 0) (hs : s < N 2) (hA : A < 1024) : ∀ j b (p : hI × hJ) (al : Prop), poI I J p → sbs b A → (∀ c, c < 1024 → k_pc c = y → (¬ p.1 109 c = 0 ↔ f0 c)) → (∀ c, sbs c A → c < b ∨ al → k_pc c = y → f0 c → poD T N s I J p c) →
    poI I J (k_fiw T N s A y j b p).2 ∧ (∀ c, (k_fiw T N s A y j b p).1 = some c → sbs c A ∧ k_pc c = y ∧ f0 c ∧ ¬ lst T N s (I, J) c ∧ ∀ d, sbs d A → d < c → k_pc d = y → f0 d → lst T N s (I, J) d) ∧ ((k_fiw T N s A y j b p).1 = none → (al ∨ ∃ i, i < j ∧ nx_it A i b = A) → ∀ c, sbs c A → k_pc c = y → f0 c → poD T N s I J (k_fiw T N s A y j b p).2 c) := by
  obtain ⟨tt, _, _⟩ := rA_ctk h.1
  have h10 := tt.1.2.2
  intro j
  induction j with
  | zero =>
    intro b p al hp hb hf hv
    refine ⟨hp, fun c e => (by cases e), fun _ g c x y z => hv c x (Or.inr ?_) y z⟩
    rcases g with g | ⟨i, g, _⟩
    · exact g
    · exact absurd g (Nat.not_lt_zero _)
  | succ j ih =>
    intro b p al hp hb hf hv
    have hb2 : b < 1024 := Nat.lt_of_le_of_lt (sbs_le hb) hA
    have nxt : ∀ c, sbs c A → c < k_nxt A b ∨ (al ∨ b = A) → (c < b ∨ al) ∨ c = b := fun c hc g => by
      by_cases e : c = b
      · exact Or.inr e
      · refine Or.inl ?_
        rcases g with g | g | g
        · by_cases eA : b = A
          · subst eA; have := sbs_le hc; exact Or.inl (by omega)
          · have := nxt_s hA hb eA hc g; exact Or.inl (by omega)
        · exact Or.inr g
        · subst g; have := sbs_le hc; exact Or.inl (by omega)
    have fin : (al ∨ ∃ i, i < j + 1 ∧ nx_it A i b = A) → (al ∨ b = A) ∨ ∃ i, i < j ∧ nx_it A i (k_nxt A b) = A := fun g => by
      rcases g with g | ⟨i, g1, g2⟩
      · exact Or.inl (Or.inl g)
      · cases i with
        | zero => exact Or.inl (Or.inr g2)
        | succ i => exact Or.inr ⟨i, by omega, g2⟩
    by_cases c1 : p.1 109 b = 0 ∨ ¬ k_pc b = y
    · rw [k_fiw_1 c1]
      obtain ⟨r1, r2, r3⟩ := ih (k_nxt A b) p (al ∨ b = A) hp (nxt_sub A b) hf (fun c hc g x z => by
        rcases nxt c hc g with g | g
        · exact hv c hc g x z
        · subst g
          rcases c1 with w | w
          · exact absurd w ((hf c hb2 x).mpr z)
          · exact absurd x w)
      exact ⟨r1, r2, fun e g => r3 e (fin g)⟩
    · have c2 : ¬ p.1 109 b = 0 := fun z => c1 (Or.inl z)
      have c3 : k_pc b = y := Classical.not_not.mp (fun z => c1 (Or.inr z))
      have fb : f0 b := (hf b hb2 c3).mp c2
      by_cases g : (k_su T N s (Int32.ofNat b) p).1 81 s = Int32.ofNat 2
      · rw [k_fiw_2 c1 g]
        have hl : lst T N s (I, J) b := (lst_p h hz hs hb2 hp).mp g
        obtain ⟨z, z1, z2, z3, z4⟩ := lst_F (J := p.2) (poI_R h hp) hs hb2
        have zp : zP T N s I J b z := ⟨z1, z3, fun d hd x y => (lst_p h hz hs hd hp).mp (z4 g d hd x y)⟩
        obtain ⟨f1, f2⟩ := rf_v (b := b) (I := (k_su T N s (Int32.ofNat b) p).1) (show (k_su T N s (Int32.ofNat b) p).1 84 7 = Int32.ofNat z from z2) z1 (N 3) h10
        have s9 : ∀ c, (k_su T N s (Int32.ofNat b) p).1 109 c = p.1 109 c := fun c => su_n.1 109 c (by omega)
        have mo : ∀ c, ¬ p.1 109 c = 0 → ¬ k_rf ((k_su T N s (Int32.ofNat b) p).1 84 7) b (N 3) (k_su T N s (Int32.ofNat b) p).1 109 c = 0 := fun c x w => by
          rcases f2 c with e | ⟨e, _⟩
          · rw [e, s9] at w; exact x w
          · rw [e] at w; exact absurd w (by decide)
        obtain ⟨r1, r2, r3⟩ := ih (k_nxt A b) (k_rf ((k_su T N s (Int32.ofNat b) p).1 84 7) b (N 3) (k_su T N s (Int32.ofNat b) p).1, (k_su T N s (Int32.ofNat b) p).2) (al ∨ b = A) (poI_9 (poI_su hp) (fun a x => k_rf_ne x)) (nxt_sub A b) (fun c hc x => by
          refine ⟨fun w => ?_, fun w => mo c ((hf c hc x).mpr w)⟩
          rcases f2 c with e | ⟨e, v, e1, e2⟩
          · dsimp only at w; rw [e, s9] at w; exact (hf c hc x).mp w
          · exfalso
            have := z3 v e1
            have ec := pc_ins hb2 (show v < 10 by omega) this.2
            rw [← e2, x, c3] at ec; omega) (fun c hc g' x z' => by
          rcases nxt c hc g' with w | w
          · obtain ⟨d1, zz, d2, d3⟩ := hv c hc w x z'
            exact ⟨d1, zz, d2, fun v hv' => mo _ (d3 v hv')⟩
          · subst w
            exact ⟨hl, z, zp, fun v hv' => f1 v (z3 v hv').1 hv'⟩)
        exact ⟨r1, r2, fun e g => r3 e (fin g)⟩
      · rw [k_fiw_3 c1 g]
        refine ⟨poI_su hp, fun c e => ?_, fun e => by cases e⟩
        obtain rfl : b = c := by cases e; rfl
        exact ⟨hb, c3, fb, fun z => g ((lst_p h hz hs hb2 hp).mpr z), fun d hd x z w => (hv d hd (Or.inl x) z w).1⟩
/-- the fewest, and the least of those -/
def minS (P : Nat → Prop) (A m : Nat) : Prop := sbs m A ∧ ¬ P m ∧ ∀ S, sbs S A → ¬ P S → k_pc m < k_pc S ∨ (k_pc m = k_pc S ∧ m ≤ S)
theorem sbs_tr {a b c : Nat} (h : sbs a b) (g : sbs b c) : sbs a c := fun r x => g r (h r x)
theorem fo_ok {T O : Nat} {N : Nat → Nat} {u q : Nat} {I K : hI} {J L : hJ} {s A : Nat} (h : REL T O N u q I J K L) (hz : K 110 2 = Int32.ofNat 0) (hs : s < N 2) (hA : A < 1024) (nA : ¬ lst T N s (I, J) A) : ∀ j y (p : hI × hJ), y + j = k_pc A → poI I J p → (∀ S, sbs S A → ¬ lst T N s (I, J) S → y ≤ k_pc S ∧ ∃ t, sbs t S ∧ k_pc t = y ∧ ¬ p.1 109 t = 0) → minS (lst T N s (I, J)) A (k_fo T N s A (k_pc A) j y p).1 ∧ poI I J (k_fo T N s A (k_pc A) j y p).2 := by
  intro j
  induction j with
  | zero =>
    intro y p hy hp hv
    refine ⟨⟨fun _ x => x, nA, fun S hS nS => ?_⟩, hp⟩
    obtain ⟨v1, _⟩ := hv S hS nS
    have hS2 : S < 1024 := Nat.lt_of_le_of_lt (sbs_le hS) hA
    have l := pc_le hS2 hA hS
    have e := pc_eq hS2 hA hS (by omega)
    subst e
    exact Or.inr ⟨rfl, Nat.le_refl _⟩
  | succ j ih =>
    intro y p hy hp hv
    have s0 : sbs 0 A := fun r x => by rw [Nat.zero_testBit] at x; exact absurd x (by decide)
    obtain ⟨r1, r2, r3⟩ := fi_ok (y := y) (f0 := fun c => ¬ p.1 109 c = 0) h hz hs hA (2 ^ k_pc A) 0 p False hp s0 (fun c _ _ => Iff.rfl) (fun c hc g => g.elim (fun z => absurd z (Nat.not_lt_zero _)) (fun z => z.elim))
    cases e : (k_fiw T N s A y (2 ^ k_pc A) 0 p).1 with
    | some b =>
      rw [k_fo_1 e]
      obtain ⟨b1, b2, b3, b4, b5⟩ := r2 b e
      refine ⟨⟨b1, b4, fun S hS nS => ?_⟩, r1⟩
      show k_pc b < k_pc S ∨ (k_pc b = k_pc S ∧ b ≤ S)
      obtain ⟨v1, t, v2, v3, v4⟩ := hv S hS nS
      rw [b2]
      by_cases eq : y = k_pc S
      · refine Or.inr ⟨eq, ?_⟩
        have hS2 : S < 1024 := Nat.lt_of_le_of_lt (sbs_le hS) hA
        have ht2 : t < 1024 := Nat.lt_of_le_of_lt (sbs_le v2) hS2
        have et := pc_eq ht2 hS2 v2 (by omega)
        subst et
        by_cases l : b ≤ t
        · exact l
        · exact absurd (b5 t hS (by omega) v3 v4) nS
      · exact Or.inl (by omega)
    | none =>
      rw [k_fo_0 e]
      have al := r3 e (Or.inr ⟨2 ^ k_pc A - 1, by have : 0 < 2 ^ k_pc A := Nat.pow_pos (by decide); omega, nx_end A hA⟩)
      refine ih (y + 1) _ (by omega) r1 (fun S hS nS => ?_)
      obtain ⟨v1, t, v2, v3, v4⟩ := hv S hS nS
      have hS2 : S < 1024 := Nat.lt_of_le_of_lt (sbs_le hS) hA
      have ht2 : t < 1024 := Nat.lt_of_le_of_lt (sbs_le v2) hS2
      obtain ⟨d1, z, ⟨z1, z2, z3⟩, d3⟩ := al t (sbs_tr v2 hS) v3 v4
      have ex : ∃ v, z.testBit v = true ∧ S.testBit v = true := by
        by_cases w : ∃ v, z.testBit v = true ∧ S.testBit v = true
        · exact w
        · refine absurd (z3 S hS2 v2 (fun v x => ?_)) nS
          cases e2 : S.testBit v with
          | false => rfl
          | true => exact absurd ⟨v, x, e2⟩ w
      obtain ⟨v, x1, x2⟩ := ex
      obtain ⟨y1, y2⟩ := z2 v x1
      obtain ⟨tt, _, _⟩ := rA_ctk h.1
      have hv10 : v < 10 := by have := tt.1.2.2; omega
      have ec := pc_ins ht2 hv10 y2
      have sb : sbs (t ||| 2 ^ v) S := fun r w => by
        rw [Nat.testBit_or, Bool.or_eq_true, Nat.testBit_two_pow, decide_eq_true_iff] at w
        rcases w with w | w
        · exact v2 r w
        · subst w; exact x2
      have l := pc_le (or_1024 ht2 (show 2 ^ v < 2 ^ 10 from Nat.pow_lt_pow_right (by decide) hv10)) hS2 sb
      exact ⟨by omega, t ||| 2 ^ v, sb, by omega, d3 v x1⟩
theorem fgR_v {I : hI} : ∀ n c, c < n → k_fgR n I 109 c = (if c = 0 then Int32.ofNat 1 else Int32.ofNat 0) := by
  intro n
  induction n with
  | zero => intro c h; exact absurd h (Nat.not_lt_zero _)
  | succ n ih =>
    intro c h
    rw [k_fgR_s]
    by_cases e : c = n
    · rw [e, am_u_at]
    · rw [am_u_nk e]; exact ih c (by omega)
theorem pc_0 : k_pc 0 = 0 := by decide +kernel
theorem fgR_0 {I : hI} {n : Nat} (h : 0 < n) : ¬ k_fgR n I 109 0 = 0 := by
  rw [fgR_v n 0 h, if_pos rfl]; decide
theorem few_ok {T O : Nat} {N : Nat → Nat} {u q : Nat} {I K : hI} {J L : hJ} {s : Nat} {p : hI × hJ} (h : REL T O N u q I J K L) (hz : K 110 2 = Int32.ofNat 0) (hs : s < N 2) (hp : poI I J p) : poI I J (k_few T N s p).2 ∧ ((lst T N s (I, J) (k_fA T N s I) ∧ (k_few T N s p).1 = Int32.ofInt (-2)) ∨ ∃ r, (k_few T N s p).1 = Int32.ofNat r ∧ minS (lst T N s (I, J)) (k_fA T N s I) r) := by
  obtain ⟨hT, _⟩ := rA_hT h.1
  obtain ⟨tt, _, _⟩ := rA_ctk h.1
  have hA : k_fA T N s I < 1024 := k_fA_lt tt.1.2.2
  have eA : k_fA T N s p.1 = k_fA T N s I := fA_p hT hp
  have p0 : poI I J (k_few0 T N s p) := poI_su hp
  unfold k_few
  by_cases c : (k_few0 T N s p).1 81 s = Int32.ofNat 2
  · rw [if_pos c]
    refine ⟨p0, Or.inl ⟨?_, rfl⟩⟩
    refine (lst_p h hz hs hA hp).mp ?_
    unfold k_few0 at c
    rw [eA] at c; exact c
  · rw [if_neg c]
    have nA : ¬ lst T N s (I, J) (k_fA T N s I) := fun z => c (by
      have := (lst_p h hz hs hA hp).mpr z
      unfold k_few0
      rw [eA]; exact this)
    have e1 : k_few1 T N s p = k_fo T N s (k_fA T N s I) (k_pc (k_fA T N s I)) (k_pc (k_fA T N s I)) 0 (k_fgR 1024 (k_few0 T N s p).1, (k_few0 T N s p).2) := by
      unfold k_few1; rw [eA]
    have q0 : ¬ k_fgR 1024 (k_few0 T N s p).1 109 0 = 0 := fgR_0 (I := (k_few0 T N s p).1) (n := 1024) (by decide)
    have q1 : ∀ a, a ≠ 109 → k_fgR 1024 (k_few0 T N s p).1 a = (k_few0 T N s p).1 a := fun a x => k_fgR_ne x
    revert e1 q0 q1
    generalize k_fgR 1024 (k_few0 T N s p).1 = Q
    intro e1 q0 q1
    have fo := fo_ok h hz hs hA nA (k_pc (k_fA T N s I)) 0 (Q, (k_few0 T N s p).2) (Nat.zero_add _) (poI_9 p0 q1) (fun S hS nS => ⟨Nat.zero_le _, 0, fun r x => by rw [Nat.zero_testBit] at x; exact absurd x (by decide), pc_0, q0⟩)
    rw [e1]
    exact ⟨fo.2, Or.inr ⟨_, rfl, fo.1⟩⟩
