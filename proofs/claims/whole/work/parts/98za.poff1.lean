/-! Put off (one): a day doesn't ask for what is put off but where one sails. -/
/-- a trial's heap with other voyages put off, and another count of those refused -/
def pU (y w : Int32) (I : hI) : hI := am_u (am_u I 84 6 y) 77 2 w
theorem pU_r {y w : Int32} {I : hI} {a i : Nat} (h : ¬ (a = 84 ∧ i = 6)) (h2 : ¬ (a = 77 ∧ i = 2)) : pU y w I a i = I a i := by
  unfold pU am_u; rw [if_neg h2, if_neg h]
theorem pU_n {y w : Int32} {I : hI} {a i : Nat} (h : a ≠ 84) (h2 : a ≠ 77) : pU y w I a i = I a i := pU_r (by omega) (by omega)
theorem pU_f {y w : Int32} {I : hI} {a : Nat} (h : a ≠ 84) (h2 : a ≠ 77) : pU y w I a = I a := funext fun i => pU_n h h2
theorem pU_u {y w x : Int32} {I : hI} {a k : Nat} (h : ¬ (a = 84 ∧ k = 6)) (h2 : ¬ (a = 77 ∧ k = 2)) : am_u (pU y w I) a k x = pU y w (am_u I a k x) := by
  funext b j
  unfold pU am_u
  by_cases e : b = a ∧ j = k
  · rw [if_pos e, if_neg (by omega), if_neg (by omega), if_pos e]
  · rw [if_neg e]
    by_cases e2 : b = 77 ∧ j = 2
    · rw [if_pos e2, if_pos e2]
    · rw [if_neg e2, if_neg e2]
      by_cases e3 : b = 84 ∧ j = 6
      · rw [if_pos e3, if_pos e3]
      · rw [if_neg e3, if_neg e3, if_neg e]
theorem pU_v1 {y w : Int32} {I : hI} {J : hJ} {A i h : Nat} (hA : A + 2 < 77) : k_v1 (pU y w I) A i h J = k_v1 I A i h J := by
  unfold k_v1
  rw [pU_f (a := A + 1) (by omega) (by omega), pU_f (a := A + 2) (by omega) (by omega)]
theorem pU_val {y w : Int32} {I : hI} {A : Nat} (hA : A + 2 < 77) : ∀ j i h J, k_val (pU y w I) A j i h J = k_val I A j i h J := by
  intro j
  induction j with
  | zero => intro i h J; rfl
  | succ j ih =>
    intro i h J
    rw [k_val_s, k_val_s, pU_f (a := A + 1) (by omega) (by omega), pU_v1 hA]
    simp only [ih]
theorem pU_84 {y w : Int32} {I : hI} {i : Nat} (h : i ≠ 6) : pU y w I 84 i = I 84 i := pU_r (by omega) (by omega)
theorem pU_even {y w : Int32} {I : hI} {T m : Nat} (hT : T = 9 ∨ T = 36) : k_even (pU y w I) T m = k_even I T m := by
  unfold k_even
  rw [pU_84 (by decide), pU_84 (by decide), pU_84 (by decide), pU_f (a := T + 4) (by omega) (by omega)]
theorem pU_bear {y w x : Int32} {I : hI} {n : Nat} : k_bear (pU y w I) 77 x n = k_bear I 77 x n := k_bear_c (fun a i h1 h2 => pU_n (by omega) (by omega)) n
theorem pU_layR {y w z : Int32} {I : hI} {J : hJ} {T r : Nat} (hT : T = 9 ∨ T = 36) : k_layR (pU y w I) J T 77 r z = k_layR I J T 77 r z := by
  unfold k_layR
  rw [pU_even hT, pU_bear, pU_f (a := T + 8) (by omega) (by omega), pU_f (a := T + 7) (by omega) (by omega), pU_f (a := T + 3) (by omega) (by omega), pU_f (a := 77 + 2) (by omega) (by omega), pU_f (a := 77 + 3) (by omega) (by omega), pU_r (a := 77) (i := 0) (by decide) (by decide)]
theorem pU_tw {y w : Int32} {I : hI} {J : hJ} {T r n : Nat} (hT : T = 9 ∨ T = 36) : k_tw (pU y w I) J T 77 r n = k_tw I J T 77 r n := by
  unfold k_tw k_twJ
  rw [pU_val (by omega), pU_f (a := T + 18) (by omega) (by omega), pU_layR hT, pU_84 (by decide)]
theorem pU_we {y w z : Int32} {I : hI} {J : hJ} {T r n : Nat} (hT : T = 9 ∨ T = 36) : k_we (pU y w I) J T 77 r n z = k_we I J T 77 r n z := by
  unfold k_we k_weJ
  rw [pU_val (by omega), pU_f (a := T + 21) (by omega) (by omega), pU_layR hT]
theorem pU_mk {y w : Int32} {I : hI} {J : hJ} {T r n : Nat} (hT : T = 9 ∨ T = 36) : k_mk (pU y w I) J T 77 r n = pU y w (k_mk I J T 77 r n) := by
  unfold k_mk k_mkP
  rw [pU_tw hT, pU_even hT, pU_f (a := T + 8) (by omega) (by omega), pU_f (a := T + 7) (by omega) (by omega), pU_u (by omega) (by omega), pU_u (by omega) (by omega)]
theorem pU_due {y w : Int32} {I : hI} {T r : Nat} (hT : T = 9 ∨ T = 36) : k_due (pU y w I) T 77 r ↔ k_due I T 77 r := by
  unfold k_due
  rw [pU_f (a := T + 9) (by omega) (by omega), pU_f (a := 77 + 1) (by omega) (by omega), pU_f (a := 77 + 3) (by omega) (by omega), pU_r (a := 77) (i := 0) (by decide) (by decide), pU_84 (by decide)]
theorem k_p1S_1 {T S m r : Nat} {p : hI × hJ} (h : k_due p.1 T S r) : k_p1S T S m r p = (k_mk p.1 p.2 T S r m, (k_tw p.1 p.2 T S r m).2) := if_pos h
theorem k_p1S_0 {T S m r : Nat} {p : hI × hJ} (h : ¬ k_due p.1 T S r) : k_p1S T S m r p = p := if_neg h
theorem pU_p1S {y w : Int32} {T m r : Nat} {p : hI × hJ} (hT : T = 9 ∨ T = 36) : k_p1S T 77 m r (pU y w p.1, p.2) = (pU y w (k_p1S T 77 m r p).1, (k_p1S T 77 m r p).2) := by
  by_cases c : k_due p.1 T 77 r
  · rw [k_p1S_1 (p := p) c, k_p1S_1 (p := (pU y w p.1, p.2)) ((pU_due hT).mpr c)]
    dsimp only
    rw [pU_mk hT, pU_tw hT]
  · rw [k_p1S_0 (p := p) c, k_p1S_0 (p := (pU y w p.1, p.2)) (fun z => c ((pU_due hT).mp z))]
theorem pU_p1 {y w : Int32} {T m : Nat} {p : hI × hJ} (hT : T = 9 ∨ T = 36) : ∀ n, k_p1 T 77 m n (pU y w p.1, p.2) = (pU y w (k_p1 T 77 m n p).1, (k_p1 T 77 m n p).2) := by
  intro n
  induction n with
  | zero => rfl
  | succ n ih =>
    show k_p1S T 77 m n (k_p1 T 77 m n (pU y w p.1, p.2)) = (pU y w (k_p1S T 77 m n (k_p1 T 77 m n p)).1, (k_p1S T 77 m n (k_p1 T 77 m n p)).2)
    rw [ih]; exact pU_p1S hT
theorem pU_m0 {y w : Int32} {I : hI} : ∀ n, k_m0 n (pU y w I) = pU y w (k_m0 n I) := by
  intro n
  induction n with
  | zero => rfl
  | succ n ih =>
    show am_u (k_m0 n (pU y w I)) 87 n (Int32.ofNat 0) = pU y w (am_u (k_m0 n I) 87 n (Int32.ofNat 0))
    rw [ih, pU_u (by omega) (by omega)]
theorem pU_m1 {y w x : Int32} {I : hI} {T : Nat} (hT : T = 9 ∨ T = 36) : ∀ n, k_m1 T 77 x n (pU y w I) = pU y w (k_m1 T 77 x n I) := by
  intro n
  induction n with
  | zero => rfl
  | succ n ih =>
    rw [k_m1_s, k_m1_s, ih, pU_f (a := 77 + 3) (by omega) (by omega), pU_f (a := 77 + 1) (by omega) (by omega), pU_f (a := T + 3) (by omega) (by omega), pU_f (a := T + 7) (by omega) (by omega), pU_f (a := T + 8) (by omega) (by omega), pU_f (a := 87) (by omega) (by omega), pU_u (by omega) (by omega)]
    split
    · split <;> rfl
    · rfl
theorem pU_mI {y w x : Int32} {I : hI} {T n : Nat} (hT : T = 9 ∨ T = 36) : k_mI (pU y w I) T 77 x n = pU y w (k_mI I T 77 x n) := by
  unfold k_mI
  rw [pU_m0, pU_m1 hT]
theorem pU_mood {y w x : Int32} {I : hI} {T n : Nat} (hT : T = 9 ∨ T = 36) : k_mood (pU y w I) T 77 x n = k_mood I T 77 x n := by
  unfold k_mood k_m2
  rw [pU_mI hT, pU_f (a := 87) (by omega) (by omega)]
theorem pU_puI {y w : Int32} {I : hI} {T x n : Nat} (hT : T = 9 ∨ T = 36) : k_puI (pU y w I) T 77 x n = pU y w (k_puI I T 77 x n) := by
  unfold k_puI
  rw [pU_mI hT, pU_f (a := T + 24) (by omega) (by omega)]
  split <;> rfl
theorem pU_pu {y w z : Int32} {I : hI} {J : hJ} {T x n m : Nat} (hT : T = 9 ∨ T = 36) : k_pu (pU y w I) J T 77 x n m z = k_pu I J T 77 x n m z := by
  unfold k_pu k_puJ
  rw [pU_mI hT, pU_mood hT, pU_val (by omega), pU_val (by omega), pU_bear, pU_f (a := T + 24) (by omega) (by omega), pU_f (I := k_mI I T 77 (Int32.ofNat x) n) (a := T + 13) (by omega) (by omega), pU_r (a := 77) (i := 0) (by decide) (by decide)]
theorem pU_shC {y w z : Int32} {I : hI} {J : hJ} {T x : Nat} {N : Nat → Nat} (hT : T = 9 ∨ T = 36) : k_shC (pU y w I) J T 77 x N z = k_shC I J T 77 x N z := by
  unfold k_shC
  rw [pU_pu hT, pU_f (a := T + 13) (by omega) (by omega)]
theorem pU_loL {y w : Int32} {x : Nat} {I : hI} : ∀ n, k_loL 77 x n (pU y w I) = pU y w (k_loL 77 x n I) := by
  intro n
  induction n with
  | zero => rfl
  | succ n ih =>
    show k_loS 77 x n (k_loL 77 x n (pU y w I)) = pU y w (k_loS 77 x n (k_loL 77 x n I))
    rw [ih]
    unfold k_loS
    rw [pU_f (a := 77 + 3) (by omega) (by omega), pU_f (a := 77 + 1) (by omega) (by omega), pU_u (by omega) (by omega)]
    split
    · split <;> rfl
    · rfl
theorem pU_lose {y w : Int32} {x n : Nat} {I : hI} : k_lose (pU y w I) 77 x n = pU y w (k_lose I 77 x n) := by
  unfold k_lose
  rw [pU_u (by omega) (by omega), pU_u (by omega) (by omega), pU_loL]
theorem pU_spend {y w : Int32} {x : Nat} {I : hI} : k_spend (pU y w I) 77 x = pU y w (k_spend I 77 x) := by
  unfold k_spend
  rw [pU_f (a := 77 + 5) (by omega) (by omega), pU_f (a := 77 + 6) (by omega) (by omega), pU_u (by omega) (by omega), pU_u (by omega) (by omega), pU_u (by omega) (by omega)]
  split <;> rfl
theorem pU_wv {y w z : Int32} {T n1 r : Nat} {p : hI × hJ} (hT : T = 9 ∨ T = 36) : k_wv T 77 n1 r z (pU y w p.1, p.2) = k_wv T 77 n1 r z p := by
  unfold k_wv
  dsimp only
  rw [pU_we hT, pU_f (a := 77 + 2) (by omega) (by omega)]
theorem pU_wrS {y w z : Int32} {T x n1 r : Nat} {p : hI × hJ} (hT : T = 9 ∨ T = 36) : k_wrS T 77 x n1 z r (pU y w p.1, p.2) = (pU y w (k_wrS T 77 x n1 z r p).1, (k_wrS T 77 x n1 z r p).2) := by
  have e : k_wrS T 77 x n1 z r (pU y w p.1, p.2) = if pU y w p.1 (77 + 3) r = Int32.ofNat x then (if pU y w p.1 (77 + 1) r = Int32.ofNat 1 then (if 0 < k_wv T 77 n1 r z (pU y w p.1, p.2) then (am_u (pU y w p.1) (77 + 2) r (k_wv T 77 n1 r z (pU y w p.1, p.2)), (k_we (pU y w p.1) p.2 T 77 r n1 z).2) else (am_u (am_u (am_u (pU y w p.1) (77 + 2) r (k_wv T 77 n1 r z (pU y w p.1, p.2))) (77 + 2) r (Int32.ofNat 0)) (77 + 1) r (Int32.ofNat 2), (k_we (pU y w p.1) p.2 T 77 r n1 z).2)) else (pU y w p.1, p.2)) else (pU y w p.1, p.2) := rfl
  rw [e]
  unfold k_wrS
  rw [pU_wv hT, pU_we hT, pU_f (a := 77 + 3) (by omega) (by omega), pU_f (a := 77 + 1) (by omega) (by omega), pU_u (by omega) (by omega), pU_u (by omega) (by omega), pU_u (by omega) (by omega)]
  split
  · split
    · split <;> rfl
    · rfl
  · rfl
theorem pU_wrL {y w z : Int32} {T x n1 : Nat} {p : hI × hJ} (hT : T = 9 ∨ T = 36) : ∀ n, k_wrL T 77 x n1 z n (pU y w p.1, p.2) = (pU y w (k_wrL T 77 x n1 z n p).1, (k_wrL T 77 x n1 z n p).2) := by
  intro n
  induction n with
  | zero => rfl
  | succ n ih =>
    show k_wrS T 77 x n1 z n (k_wrL T 77 x n1 z n (pU y w p.1, p.2)) = (pU y w (k_wrS T 77 x n1 z n (k_wrL T 77 x n1 z n p)).1, (k_wrS T 77 x n1 z n (k_wrL T 77 x n1 z n p)).2)
    rw [ih]; exact pU_wrS hT
theorem pU_wr {y w z : Int32} {I : hI} {J : hJ} {T x n n1 : Nat} (hT : T = 9 ∨ T = 36) : k_wr (pU y w I) J T 77 x n n1 z = (pU y w (k_wr I J T 77 x n n1 z).1, (k_wr I J T 77 x n n1 z).2) := by
  unfold k_wr
  rw [pU_84 (by decide)]
  split
  · rfl
  · exact pU_wrL (p := (I, J)) hT n
theorem pU_shW {y w z : Int32} {I : hI} {J : hJ} {T x : Nat} {N : Nat → Nat} (hT : T = 9 ∨ T = 36) : k_shW (pU y w I) J T 77 x N z = (pU y w (k_shW I J T 77 x N z).1, (k_shW I J T 77 x N z).2) := by
  unfold k_shW
  rw [pU_puI hT, pU_pu hT, pU_wr hT]
theorem pU_p2S {y w z : Int32} {T x : Nat} {N : Nat → Nat} {p : hI × hJ} (hT : T = 9 ∨ T = 36) : k_p2S T 77 N z x (pU y w p.1, p.2) = (pU y w (k_p2S T 77 N z x p).1, (k_p2S T 77 N z x p).2) := by
  have e : k_p2S T 77 N z x (pU y w p.1, p.2) = if pU y w p.1 (77 + 4) x = Int32.ofNat 1 then (if pU y w p.1 84 8 = Int32.ofInt (-1) ∨ pU y w p.1 84 8 = Int32.ofNat x then (if k_bear (pU y w p.1) 77 (Int32.ofNat x) 8 < k_shC (pU y w p.1) p.2 T 77 x N z then (k_lose (k_puI (pU y w p.1) T 77 x (N 1)) 77 x (N 1), (k_pu (pU y w p.1) p.2 T 77 x (N 1) (N 6) z).2) else (k_spend (k_shW (pU y w p.1) p.2 T 77 x N z).1 77 x, (k_shW (pU y w p.1) p.2 T 77 x N z).2)) else (pU y w p.1, p.2)) else (pU y w p.1, p.2) := rfl
  rw [e]
  unfold k_p2S
  rw [pU_shC hT, pU_bear, pU_shW hT, pU_puI hT, pU_pu hT, pU_lose, pU_f (a := 77 + 4) (by omega) (by omega), pU_84 (by decide)]
  dsimp only
  rw [pU_spend]
  split
  · split
    · split <;> rfl
    · rfl
  · rfl
theorem pU_p2 {y w z : Int32} {T : Nat} {N : Nat → Nat} {p : hI × hJ} (hT : T = 9 ∨ T = 36) : ∀ n, k_p2 T 77 N z n (pU y w p.1, p.2) = (pU y w (k_p2 T 77 N z n p).1, (k_p2 T 77 N z n p).2) := by
  intro n
  induction n with
  | zero => rfl
  | succ n ih =>
    show k_p2S T 77 N z n (k_p2 T 77 N z n (pU y w p.1, p.2)) = (pU y w (k_p2S T 77 N z n (k_p2 T 77 N z n p)).1, (k_p2S T 77 N z n (k_p2 T 77 N z n p)).2)
    rw [ih]; exact pU_p2S hT
/-- where the sailing comes out alike, the day does -/
theorem pU_day {y w w' : Int32} {T : Nat} {N : Nat → Nat} {p : hI × hJ} (hT : T = 9 ∨ T = 36) (sv : k_svL T 77 (N 3) (pU y w (k_p1 T 77 (N 4) (N 1) p).1) = pU y w' (k_svL T 77 (N 3) (k_p1 T 77 (N 4) (N 1) p).1)) : k_day T 77 N (pU y w p.1, p.2) = (pU y w' (k_day T 77 N p).1, (k_day T 77 N p).2) := by
  have e2 : k_d2 T 77 N (pU y w p.1, p.2) = (pU y w' (k_d2 T 77 N p).1, (k_d2 T 77 N p).2) := by
    unfold k_d2
    rw [pU_p1 hT]
    dsimp only
    rw [sv]
  have es : ∀ (X : hI) (Z : hJ), k_st (pU y w' X) Z T 77 = k_st X Z T 77 := fun X Z => by
    unfold k_st
    rw [pU_84 (by decide), pU_84 (by decide), pU_f (a := T) (by omega) (by omega)]
  have ej : ∀ (X : hI) (Z : hJ), k_stJ (pU y w' X) Z T 77 = k_stJ X Z T 77 := fun X Z => by
    unfold k_stJ
    rw [pU_84 (by decide), pU_f (a := T) (by omega) (by omega)]
  have ez : k_dz T 77 N (pU y w p.1, p.2) = k_dz T 77 N p := by
    unfold k_dz; rw [e2]; dsimp only; rw [es]
  have e3 : k_d3 T 77 N (pU y w p.1, p.2) = (pU y w' (k_d3 T 77 N p).1, (k_d3 T 77 N p).2) := by
    unfold k_d3; rw [e2]; dsimp only; rw [ej]
  have e4 : k_d4 T 77 N (pU y w p.1, p.2) = (pU y w' (k_d4 T 77 N p).1, (k_d4 T 77 N p).2) := by
    unfold k_d4; rw [ez, e3]; exact pU_p2 hT (N 2)
  unfold k_day
  rw [e4]
  dsimp only
  rw [pU_r (a := 77) (i := 0) (by decide) (by decide), pU_u (by omega) (by omega)]
