/-! The class: a state's numbers over days; a ship that can't sail any more. -/
theorem am_btL {v : Int64} {c : Nat} (hc : c ≤ 9999) (h : ¬ v < 0) (g : ¬ (Int32.ofNat c).toInt64 < v) : ∃ k, k ≤ c ∧ v = Int64.ofNat k := by
  rw [Int64.lt_iff_toInt_lt] at h g
  rw [Int32.toInt_toInt64, Int32.toInt_ofNat_of_lt (by omega)] at g
  have h0 : (0 : Int64).toInt = 0 := rfl
  rw [h0] at h
  refine ⟨v.toInt.toNat, by omega, ?_⟩
  apply Int64.toInt_inj.mp
  rw [Int64.toInt_ofNat_of_lt (by omega)]
  omega
theorem cut_ok {v : Int64} {c : Nat} {pl : Int32} (hc : c ≤ 1000) (hp : okn pl (c + 1)) : okn (k_cut v (Int32.ofNat c) pl) (c + 1) := by
  by_cases e : v = k_er
  · unfold k_cut; rw [if_pos e]; exact hp
  · rw [cut_eq (by omega) e]
    unfold m_cut
    by_cases h : v < 0
    · rw [if_pos h]; exact okn_of (by omega) (by omega)
    · rw [if_neg h]
      by_cases g : (Int32.ofNat c).toInt64 < v
      · rw [if_pos g]; exact okn_of (by omega) (by omega)
      · rw [if_neg g]
        obtain ⟨k, hk, rfl⟩ := am_btL (by omega) h g
        rw [Int64.toInt32_ofNat']
        exact okn_of (by omega) (by omega)
theorem hL_1 {S r : Nat} {I : hI} {v : Int32} (h : hL0 S I) (o : okn v 4) : hL0 S (am_u I (S + 1) r v) := by
  refine ⟨fun q hq => ⟨?_, ?_⟩, fun s hs => ?_⟩
  · by_cases e : q = r
    · rw [e, am_u_at]; exact o
    · rw [am_u_nk e]; exact (h.1 q hq).1
  · rw [am_u_na (by omega)]; exact (h.1 q hq).2
  · rw [am_u_na (by omega), am_u_na (by omega)]; exact h.2 s hs
theorem hL_2 {S r : Nat} {I : hI} {v : Int32} (h : hL0 S I) (o : okn v 1000) : hL0 S (am_u I (S + 2) r v) := by
  refine ⟨fun q hq => ⟨?_, ?_⟩, fun s hs => ?_⟩
  · rw [am_u_na (by omega)]; exact (h.1 q hq).1
  · by_cases e : q = r
    · rw [e, am_u_at]; exact o
    · rw [am_u_nk e]; exact (h.1 q hq).2
  · rw [am_u_na (by omega), am_u_na (by omega)]; exact h.2 s hs
theorem hL_n {S a k : Nat} {I : hI} {v : Int32} (h : hL0 S I) (g : a ≠ S + 1 ∧ a ≠ S + 2 ∧ a ≠ S + 4 ∧ a ≠ S + 5) : hL0 S (am_u I a k v) := by
  refine ⟨fun q hq => ?_, fun s hs => ?_⟩
  · rw [am_u_na (by omega), am_u_na (by omega)]; exact h.1 q hq
  · rw [am_u_na (by omega), am_u_na (by omega)]; exact h.2 s hs
/-- a ship's numbers laid -/
theorem hL_45 {S s : Nat} {I : hI} {v w : Int32} (h : hL0 S I) (o : okn v 3) (g : ¬ v = Int32.ofNat 1 → w = 0) : hL0 S (am_u (am_u I (S + 4) s v) (S + 5) s w) := by
  refine ⟨fun q hq => ?_, fun q hq => ?_⟩
  · rw [am_u_na (by omega), am_u_na (by omega), am_u_na (by omega), am_u_na (by omega)]; exact h.1 q hq
  · by_cases e : q = s
    · subst e
      rw [am_u_na (show S + 4 ≠ S + 5 by omega), am_u_at, am_u_at]; exact ⟨o, g⟩
    · rw [am_u_nk e, am_u_nk e, am_u_nk e, am_u_nk e]; exact h.2 q hq
theorem hL_54 {S s : Nat} {I : hI} {v w : Int32} (h : hL0 S I) (o : okn v 3) (g : ¬ v = Int32.ofNat 1 → w = 0) : hL0 S (am_u (am_u I (S + 5) s w) (S + 4) s v) := by
  refine ⟨fun q hq => ?_, fun q hq => ?_⟩
  · rw [am_u_na (by omega), am_u_na (by omega), am_u_na (by omega), am_u_na (by omega)]; exact h.1 q hq
  · by_cases e : q = s
    · subst e
      rw [am_u_at, am_u_na (show S + 5 ≠ S + 4 by omega), am_u_at]; exact ⟨o, g⟩
    · rw [am_u_nk e, am_u_nk e, am_u_nk e, am_u_nk e]; exact h.2 q hq
theorem hL_5 {S s : Nat} {I : hI} {w : Int32} (h : hL0 S I) (g : I (S + 4) s = Int32.ofNat 1) : hL0 S (am_u I (S + 5) s w) := by
  refine ⟨fun q hq => ?_, fun q hq => ?_⟩
  · rw [am_u_na (by omega), am_u_na (by omega)]; exact h.1 q hq
  · rw [am_u_na (show S + 4 ≠ S + 5 by omega)]
    by_cases e : q = s
    · subst e; exact ⟨(h.2 q hq).1, fun z => absurd g z⟩
    · rw [am_u_nk e]; exact h.2 q hq
/-- evens as they may be -/
def evk (T : Nat) (N : Nat → Nat) (I : hI) : Prop := ∀ m, m < N 0 → okn (k_even I T m) 10
theorem evk_c {T : Nat} {N : Nat → Nat} {I I1 : hI} (h1 : ∀ a i, 9 ≤ a → a < 63 → I1 a i = I a i) (hT : T = 9 ∨ T = 36) (h2 : ∀ i, i ≠ 7 → I1 84 i = I 84 i) (e : evk T N I) : evk T N I1 := by
  intro m hm
  unfold k_even
  rw [h2 10 (by decide), h2 11 (by decide), h2 12 (by decide), h1 (T + 4) m (by omega) (by omega)]
  exact e m hm
/-- what a state's numbers rest on -/
def hQ (T : Nat) (N : Nat → Nat) (I : hI) : Prop := (N 0 ≤ 6 ∧ N 1 ≤ 8 ∧ N 2 ≤ 5 ∧ N 3 ≤ 10) ∧ tqs I T N ∧ evk T N I
theorem hQ_s {T S : Nat} {N : Nat → Nat} {I I1 : hI} (hT : T = 9 ∨ T = 36) (hS : S = 63 ∨ S = 70 ∨ S = 77) (f : sF S I I1) (h : hQ T N I) : hQ T N I1 := ⟨h.1, tqs_c (fun a i u v => f a i (by omega) (by omega) (by omega)) h.2.1, evk_c (fun a i u v => f a i (by omega) (by omega) (by omega)) hT (fun i hi => f 84 i (by omega) (by omega) (Or.inr hi)) h.2.2⟩
theorem hL_p1S {T S r : Nat} {N : Nat → Nat} {p : hI × hJ} (q : hQ T N p.1) (h : hL0 S p.1) (hr : r < N 1) : hL0 S (k_p1S T S (N 4) r p).1 := by
  unfold k_p1S
  split
  · refine hL_1 (hL_2 h ?_) (okn_of (by omega) (by omega))
    refine cut_ok (by omega) ?_
    obtain ⟨y1, y2, y3, y4⟩ := q.2.1.1 r hr
    have oe := q.2.2 _ y1.2
    have h2 := y2.1.2
    have h3 := oe.2
    unfold k_mkP
    rw [oe.1, y2.1.1, ← Int32.ofNat_mul, ← Int32.ofNat_add]
    exact okn_of (by omega) (by omega)
  · exact h
theorem hL_p1 {T S : Nat} {N : Nat → Nat} {p : hI × hJ} (hT : T = 9 ∨ T = 36) (hS : S = 63 ∨ S = 70 ∨ S = 77) (q : hQ T N p.1) (h : hL0 S p.1) : ∀ r, r ≤ N 1 → hL0 S (k_p1 T S (N 4) r p).1 := by
  intro r
  induction r with
  | zero => intro _; exact h
  | succ r ih => intro hr; exact hL_p1S (hQ_s hT hS sF_p1 q) (ih (by omega)) hr
theorem hL_svS {T S v : Nat} {I : hI} (hS : S = 63 ∨ S = 70 ∨ S = 77) (h : hL0 S I) : hL0 S (k_svS T S v I) := by
  unfold k_svS
  repeat' split
  · exact hL_n (hL_45 h (okn_of (by omega) (by omega)) (fun z => absurd rfl z)) (by omega)
  · exact hL_n h (by omega)
  · exact h
  · exact h
theorem hL_sv {T S : Nat} {I : hI} (hS : S = 63 ∨ S = 70 ∨ S = 77) (h : hL0 S I) : ∀ n, hL0 S (k_svL T S n I) := by
  intro n
  induction n with
  | zero => exact h
  | succ n ih => exact hL_svS hS ih
theorem am_subN {a c : Nat} (ha : a < 1000) (hc : c < 1000) (h : 0 < Int32.ofNat a - Int32.ofNat c) : c ≤ a ∧ Int32.ofNat a - Int32.ofNat c = Int32.ofNat (a - c) := by
  by_cases g : c ≤ a
  · exact ⟨g, (Int32.ofNat_sub _ _ g).symm⟩
  · exfalso
    rw [Int32.lt_iff_toInt_lt, Int32.toInt_sub, Int32.toInt_ofNat_of_lt (by omega), Int32.toInt_ofNat_of_lt (by omega)] at h
    rw [Int.bmod_eq_of_le (by omega) (by omega)] at h
    have h0 : (0 : Int32).toInt = 0 := rfl
    omega
theorem hL_wrS {T S s n1 r : Nat} {z : Int32} {p : hI × hJ} (hr : r < 8) (z01 : z = 0 ∨ z = 1) (h : hL0 S p.1) : hL0 S (k_wrS T S s n1 z r p).1 := by
  unfold k_wrS
  repeat' split
  · rename_i c
    refine hL_2 h ?_
    have o := (h.1 r hr).2
    have oc : okn (k_cut (k_we p.1 p.2 T S r n1 z).1 (Int32.ofNat 99) (Int32.ofNat 1 + Int32.ofNat 2 * z)) 100 := by
      refine cut_ok (by omega) ?_
      rcases z01 with rfl | rfl
      · exact okn_of (r := 1) (by omega) (by omega)
      · exact okn_of (r := 3) (by omega) (by omega)
    revert c
    unfold k_wv
    rw [o.1, oc.1]
    intro c
    have o2 := o.2
    have oc2 := oc.2
    obtain ⟨g1, g2⟩ := am_subN (by omega) (by omega) c
    rw [g2]
    exact okn_of (by omega) (by omega)
  · rw [am_u_uu]
    exact hL_1 (hL_2 h (okn_of (by omega) (by omega))) (okn_of (by omega) (by omega))
  · exact h
  · exact h
theorem hL_wrL {T S s n1 : Nat} {z : Int32} {p : hI × hJ} (z01 : z = 0 ∨ z = 1) (h : hL0 S p.1) : ∀ n, n ≤ 8 → hL0 S (k_wrL T S s n1 z n p).1 := by
  intro n
  induction n with
  | zero => intro _; exact h
  | succ n ih => intro hn; exact hL_wrS (by omega) z01 (ih (by omega))
theorem hL_loL {S s : Nat} {I : hI} (h : hL0 S I) : ∀ n, hL0 S (k_loL S s n I) := by
  intro n
  induction n with
  | zero => exact h
  | succ n ih =>
    show hL0 S (k_loS S s n (k_loL S s n I))
    unfold k_loS
    repeat' split
    · exact hL_1 ih (okn_of (by omega) (by omega))
    · exact ih
    · exact ih
theorem hL_spend {S s : Nat} {I : hI} (h : hL0 S I) (g : I (S + 4) s = Int32.ofNat 1) : hL0 S (k_spend I S s) := by
  unfold k_spend
  split
  · rename_i c
    exact hL_n (hL_54 h (okn_of (by omega) (by omega)) (fun _ => c)) (by omega)
  · exact hL_5 h g
theorem hL_puI {I : hI} {T S x n : Nat} (hS : S = 63 ∨ S = 70 ∨ S = 77) (h : hL0 S I) : hL0 S (k_puI I T S x n) := by
  refine hL0_c (fun a i u v => ?_) h
  unfold k_puI
  split
  · exact congrFun (k_mI_ne (by omega)) i
  · rfl
theorem hL_p2S {T S s : Nat} {N : Nat → Nat} {z : Int32} {p : hI × hJ} (hS : S = 63 ∨ S = 70 ∨ S = 77) (hn : N 1 ≤ 8) (z01 : z = 0 ∨ z = 1) (h : hL0 S p.1) : hL0 S (k_p2S T S N z s p).1 := by
  have hp := hL_puI (T := T) (x := s) (n := N 1) hS h
  unfold k_p2S
  by_cases g : p.1 (S + 4) s = Int32.ofNat 1
  · rw [if_pos g]
    split
    · split
      · exact hL_loL (hL_45 hp (okn_of (by omega) (by omega)) (fun _ => rfl)) (N 1)
      · show hL0 S (k_spend (k_shW p.1 p.2 T S s N z).1 S s)
        have e4 : (k_shW p.1 p.2 T S s N z).1 (S + 4) s = Int32.ofNat 1 := by
          refine Eq.trans ?_ g
          have e1 : k_puI p.1 T S s (N 1) (S + 4) s = p.1 (S + 4) s := by
            unfold k_puI
            split
            · exact congrFun (k_mI_ne (by omega)) s
            · rfl
          refine Eq.trans ?_ e1
          unfold k_shW k_wr
          split
          · rfl
          · exact congrFun (k_wrL_ne (p := (_, _)) (by omega)) s
        refine hL_spend ?_ e4
        unfold k_shW k_wr
        split
        · exact hp
        · exact hL_wrL (p := (_, _)) z01 hp (N 1) hn
    · exact h
  · rw [if_neg g]; exact h
theorem hL_p2 {T S : Nat} {N : Nat → Nat} {z : Int32} {p : hI × hJ} (hS : S = 63 ∨ S = 70 ∨ S = 77) (hn : N 1 ≤ 8) (z01 : z = 0 ∨ z = 1) (h : hL0 S p.1) : ∀ s, hL0 S (k_p2 T S N z s p).1 := by
  intro s
  induction s with
  | zero => exact h
  | succ s ih => exact hL_p2S hS hn z01 ih
theorem hL_day {T S : Nat} {N : Nat → Nat} {p : hI × hJ} (hT : T = 9 ∨ T = 36) (hS : S = 63 ∨ S = 70 ∨ S = 77) (q : hQ T N p.1) (h : hL0 S p.1) : hL0 S (k_day T S N p).1 := by
  have z01 : k_dz T S N p = 0 ∨ k_dz T S N p = 1 := by
    unfold k_dz; split
    · exact Or.inl rfl
    · exact Or.inr rfl
  exact hL_n (hL_p2 hS q.1.2.1 z01 (hL_sv hS (hL_p1 hT hS q h (N 1) (Nat.le_refl _)) (N 3)) (N 2)) (by omega)
theorem k_day_0 {T S : Nat} {N : Nat → Nat} {p : hI × hJ} (hS : S = 63 ∨ S = 70 ∨ S = 77) : (k_day T S N p).1 S 0 = p.1 S 0 + Int32.ofNat 1 := by
  have e1 : ∀ r, (k_p1 T S (N 4) r p).1 S 0 = p.1 S 0 := by
    intro r
    induction r with
    | zero => rfl
    | succ r ih =>
      refine Eq.trans ?_ ih
      show (k_p1S T S (N 4) r (k_p1 T S (N 4) r p)).1 S 0 = _
      unfold k_p1S
      split
      · exact (am_u_na (by omega)).trans (am_u_na (by omega))
      · rfl
  have e2 : ∀ z s (p : hI × hJ), (k_p2 T S N z s p).1 S 0 = p.1 S 0 := by
    intro z s p
    induction s with
    | zero => rfl
    | succ s ih =>
      refine Eq.trans ?_ ih
      show (k_p2S T S N z s (k_p2 T S N z s p)).1 S 0 = _
      generalize k_p2 T S N z s p = y
      have e1 : k_puI y.1 T S s (N 1) S 0 = y.1 S 0 := by
        unfold k_puI
        split
        · exact congrFun (k_mI_ne (by omega)) 0
        · rfl
      unfold k_p2S
      repeat' split
      · show k_lose _ S s (N 1) S 0 = _
        unfold k_lose
        rw [k_loL_ne (by omega), am_u_na (by omega), am_u_na (by omega)]; exact e1
      · have e3 : (k_shW y.1 y.2 T S s N z).1 S 0 = y.1 S 0 := by
          refine Eq.trans ?_ e1
          unfold k_shW k_wr
          split
          · rfl
          · exact congrFun (k_wrL_ne (p := (_, _)) (by omega)) 0
        show k_spend (k_shW y.1 y.2 T S s N z).1 S s S 0 = _
        unfold k_spend
        split
        · exact (am_u_na (by omega)).trans ((am_u_na (by omega)).trans ((am_u_na (by omega)).trans e3))
        · exact (am_u_na (by omega)).trans e3
      · rfl
      · rfl
  have e3 : k_svL T S (N 3) (k_p1 T S (N 4) (N 1) p).1 S 0 = (k_p1 T S (N 4) (N 1) p).1 S 0 := k_svL_ne (by omega) (fun _ => by decide) (by omega)
  unfold k_day
  dsimp only
  rw [am_u_at]
  congr 1
  exact (e2 _ _ _).trans (e3.trans (e1 (N 1)))
/-- no ship that is looked at can sail any more -/
theorem k_cs_0 {I : hI} {T S : Nat} : ∀ j x, k_cs I T S j x = 0 → ∀ y, x ≤ y → y < x + j → ¬ k_csP I T S y := by
  intro j
  induction j with
  | zero => intro x _ y h1 h2; omega
  | succ j ih =>
    intro x h y h1 h2
    rw [k_cs_s] at h
    by_cases c : k_csP I T S x
    · rw [if_pos c] at h; exact absurd h (by decide)
    · rw [if_neg c] at h
      by_cases e : y = x
      · subst e; exact c
      · exact ih (x + 1) h y (by omega) (by omega)
