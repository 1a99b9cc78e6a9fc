/-! The class: a day goes by. -/
/-- what is told can be gone by: N 1 ropes, N 2 ships, N 3 voyages, N 4 .. N 6 the laws' lengths -/
def ctk (I : hI) (T : Nat) (N : Nat → Nat) : Prop := (N 1 ≤ 8 ∧ N 2 ≤ 5 ∧ N 3 ≤ 10) ∧ (I (T + 5) 1 = Int32.ofNat (N 1) ∧ I (T + 11) 1 = Int32.ofNat (N 2) ∧ I T 11 = Int32.ofNat (N 3)) ∧ (∀ r, r < N 1 → okn (I (T + 7) r) 6) ∧ (∀ m, m < 6 → okn (I (T + 3) m) 10) ∧ (∀ v, v < N 3 → okn (I (T + 14) v) 5) ∧ (I (T + 18) 0 = Int32.ofNat (N 4) ∧ N 4 ≤ 64) ∧ (I (T + 21) 0 = Int32.ofNat (N 5) ∧ N 5 ≤ 64) ∧ (I (T + 24) 0 = Int32.ofNat (N 6) ∧ N 6 ≤ 64)
/-- what is told is left as it is -/
def cF (I I' : hI) : Prop := ∀ a i, 9 ≤ a → a < 63 → I' a i = I a i
theorem cF_rf (I : hI) : cF I I := fun _ _ _ _ => rfl
theorem cF_tr {I I1 I2 : hI} (h : cF I I1) (g : cF I1 I2) : cF I I2 := fun a i x y => (g a i x y).trans (h a i x y)
theorem cF_u {I : hI} {a k : Nat} {x : Int32} (h : a < 9 ∨ 63 ≤ a) : cF I (am_u I a k x) := by
  intro b i h1 h2
  unfold am_u
  rw [if_neg (by omega)]
theorem ctk_F {I I' : hI} {T : Nat} {N : Nat → Nat} (hT : T = 9 ∨ T = 36) (h : cF I I') (g : ctk I T N) : ctk I' T N := by
  unfold ctk at g ⊢
  obtain ⟨g0, g1, g2, g3, g4, g5, g6, g7⟩ := g
  refine ⟨g0, ?_, fun r hr => ?_, fun m hm => ?_, fun v hv => ?_, ?_, ?_, ?_⟩
  · rw [h (T + 5) 1 (by omega) (by omega), h (T + 11) 1 (by omega) (by omega), h T 11 (by omega) (by omega)]; exact g1
  · rw [h (T + 7) r (by omega) (by omega)]; exact g2 r hr
  · rw [h (T + 3) m (by omega) (by omega)]; exact g3 m hm
  · rw [h (T + 14) v (by omega) (by omega)]; exact g4 v hv
  · rw [h (T + 18) 0 (by omega) (by omega)]; exact g5
  · rw [h (T + 21) 0 (by omega) (by omega)]; exact g6
  · rw [h (T + 24) 0 (by omega) (by omega)]; exact g7
def k_p1S (T S m : Nat) (r : Nat) (p : hI × hJ) : hI × hJ := @ite _ (k_due p.1 T S r) (k_dueD p.1 T S r) (k_mk p.1 p.2 T S r m, (k_tw p.1 p.2 T S r m).2) p
def k_p1 (T S m n : Nat) (p : hI × hJ) : hI × hJ := s_for (k_p1S T S m) n p
theorem cF_p1 {T S m n : Nat} {p : hI × hJ} (hS : S = 63 ∨ S = 70 ∨ S = 77) : cF p.1 (k_p1 T S m n p).1 := by
  induction n with
  | zero => exact cF_rf _
  | succ n ih =>
    refine cF_tr ih ?_
    show cF _ (k_p1S T S m n (k_p1 T S m n p)).1
    unfold k_p1S
    split
    · exact cF_tr (cF_u (by omega)) (cF_u (by omega))
    · exact cF_rf _
theorem l_pass1 {k : Nat} {R : hR} {q : Option Value × am_H} {T S n : Nat} {N : Nat → Nat} (hT : T = 9 ∨ T = 36) (hD : R 84 3 = T) (hS : S = 63 ∨ S = 70 ∨ S = 77) {I0 : hI} {J0 : hJ} (hN : N 1 = n) (hn : n ≤ 8) (t : ctk I0 T N) (hk : 4 ≤ k) (Z : wz k 2 none am_c15 37 [.ref 84, .ref S, .int (Int32.ofNat n), am_un, am_un] [] ((k_p1 T S (N 4) n (I0, J0)).1) ((k_p1 T S (N 4) n (I0, J0)).2) R q) : ∀ (j r : Nat) , r + j = n → wz k 2 none am_c15 2 [.ref 84, .ref S, .int (Int32.ofNat r), am_un, am_un] [] ((k_p1 T S (N 4) r (I0, J0)).1) ((k_p1 T S (N 4) r (I0, J0)).2) R q := by
  intro j
  induction j with
  | zero =>
    intro r e
    obtain rfl : n = r := by omega
    have t1 := ctk_F hT (cF_p1 (T := T) (m := N 4) (n := n) (p := (I0, J0)) hS) t
    have e5 := t1.2.1.1
    rw [hN] at e5
    refine w_iload_n rfl rfl rfl ?_
    refine w_aload_n rfl rfl rfl ?_
    refine w_gf (t := .retAddr 0) (v := .ref (T)) rfl rfl rfl sp84 rfl (congrArg Value.ref hD) rfl ?_
    refine w_gf (t := .ref (T + 5)) (v := .ref (T + 5)) rfl rfl rfl (shT_0 hT) rfl rfl rfl ?_
    refine w_gf (t := .int 0) (v := .int _) rfl rfl rfl (shT_5 hT) rfl (congrArg Value.int e5) rfl ?_
    refine w_ic_geN (t := 37) (f := 16) rfl rfl rfl (by omega) (by omega) (fun c13 => ?_) (fun c13 => absurd c13 (by omega))
    exact Z
  | succ j ih =>
    intro r e
    have t1 := ctk_F hT (cF_p1 (T := T) (m := N 4) (n := r) (p := (I0, J0)) hS) t
    have e5 := t1.2.1.1
    rw [hN] at e5
    refine w_iload_n rfl rfl rfl ?_
    refine w_aload_n rfl rfl rfl ?_
    refine w_gf (t := .retAddr 0) (v := .ref (T)) rfl rfl rfl sp84 rfl (congrArg Value.ref hD) rfl ?_
    refine w_gf (t := .ref (T + 5)) (v := .ref (T + 5)) rfl rfl rfl (shT_0 hT) rfl rfl rfl ?_
    refine w_gf (t := .int 0) (v := .int _) rfl rfl rfl (shT_5 hT) rfl (congrArg Value.int e5) rfl ?_
    refine w_ic_geN (t := 37) (f := 16) rfl rfl rfl (by omega) (by omega) (fun c13 => absurd c13 (by omega)) (fun c13 => ?_)
    refine w_aload_n rfl rfl rfl ?_
    refine w_aload_n rfl rfl rfl ?_
    refine w_iload_n rfl rfl rfl ?_
    refine w_cv (q := am_m18) (as := [_, _]) (rest := []) (st' := [_]) rfl rfl rfl rfl rfl rfl sp84 rfl rfl rfl rfl (d_isDue hT hD hS (by omega) (by omega)) rfl rfl ?_
    refine w_if_eqB (t := 31) (f := 25) rfl rfl rfl (fun c22 => ?_) (fun c22 => ?_)
    · refine w_iinc (L' := [_, _, _, _, _]) rfl rfl rfl (am_incN 1) rfl ?_
      refine w_goto (pc' := 2) rfl rfl ?_
      exact wz_J (ih (r + 1) (by omega)) rfl (by show (k_p1S T S (N 4) r (k_p1 T S (N 4) r (I0, J0))).1 = _; unfold k_p1S; first | rw [if_pos c22] | rw [if_neg c22]) (by show (k_p1S T S (N 4) r (k_p1 T S (N 4) r (I0, J0))).2 = _; unfold k_p1S; first | rw [if_pos c22] | rw [if_neg c22])
    · refine w_aload_n rfl rfl rfl ?_
      refine w_aload_n rfl rfl rfl ?_
      refine w_iload_n rfl rfl rfl ?_
      refine w_cv (q := am_m19) (as := [_, _]) (rest := []) (st' := []) rfl rfl rfl rfl rfl rfl sp84 rfl rfl rfl rfl (d_make hT hD hS (by omega) (t1.2.2.1 _ (by omega)) t1.2.2.2.2.2.1.2 t1.2.2.2.2.2.1.1 (by omega)) rfl rfl ?_
      refine w_iinc (L' := [_, _, _, _, _]) rfl rfl rfl (am_incN 1) rfl ?_
      refine w_goto (pc' := 2) rfl rfl ?_
      exact wz_J (ih (r + 1) (by omega)) rfl (by show (k_p1S T S (N 4) r (k_p1 T S (N 4) r (I0, J0))).1 = _; unfold k_p1S; first | rw [if_pos c22] | rw [if_neg c22]) (by show (k_p1S T S (N 4) r (k_p1 T S (N 4) r (I0, J0))).2 = _; unfold k_p1S; first | rw [if_pos c22] | rw [if_neg c22])
/-- a ship's day -/
def k_shC (I : hI) (J : hJ) (T S x : Nat) (N : Nat → Nat) (z : Int32) : Int32 := k_cut (k_pu I J T S x (N 1) (N 6) z).1 (Int32.ofNat 9999) ((Int32.ofNat 1 + z) * I (T + 13) x)
def k_shW (I : hI) (J : hJ) (T S x : Nat) (N : Nat → Nat) (z : Int32) : hI × hJ := k_wr (k_puI I T S x (N 1)) (k_pu I J T S x (N 1) (N 6) z).2 T S x (N 1) (N 5) z
def k_p2S (T S : Nat) (N : Nat → Nat) (z : Int32) (x : Nat) (p : hI × hJ) : hI × hJ := if p.1 (S + 4) x = Int32.ofNat 1 then (if p.1 84 8 = Int32.ofInt (-1) ∨ p.1 84 8 = Int32.ofNat x then (if k_bear p.1 S (Int32.ofNat x) 8 < k_shC p.1 p.2 T S x N z then (k_lose (k_puI p.1 T S x (N 1)) S x (N 1), (k_pu p.1 p.2 T S x (N 1) (N 6) z).2) else (k_spend (k_shW p.1 p.2 T S x N z).1 S x, (k_shW p.1 p.2 T S x N z).2)) else p) else p
def k_p2 (T S : Nat) (N : Nat → Nat) (z : Int32) (n : Nat) (p : hI × hJ) : hI × hJ := s_for (k_p2S T S N z) n p
theorem cF_of {I I' : hI} (h : ∀ a, 9 ≤ a → a < 63 → I' a = I a) : cF I I' := fun a i h1 h2 => congrFun (h a h1 h2) i
theorem cF_puI {I : hI} {T S x n : Nat} : cF I (k_puI I T S x n) := by
  unfold k_puI
  split
  · exact cF_of fun a h1 h2 => k_mI_ne (by omega)
  · exact cF_rf _
theorem cF_wr {I : hI} {J : hJ} {T S x n n1 : Nat} {z : Int32} (hS : S = 63 ∨ S = 70 ∨ S = 77) : cF I (k_wr I J T S x n n1 z).1 := by
  unfold k_wr
  split
  · exact cF_rf _
  · exact cF_of fun a h1 h2 => k_wrL_ne (p := (I, J)) (by omega)
theorem cF_lose {I : hI} {S x n : Nat} (hS : S = 63 ∨ S = 70 ∨ S = 77) : cF I (k_lose I S x n) := cF_tr (cF_tr (cF_u (by omega)) (cF_u (by omega))) (cF_of fun a h1 h2 => k_loL_ne (by omega))
theorem cF_spend {I : hI} {S x : Nat} (hS : S = 63 ∨ S = 70 ∨ S = 77) : cF I (k_spend I S x) := by
  unfold k_spend
  split
  · exact cF_tr (cF_tr (cF_u (by omega)) (cF_u (by omega))) (cF_u (by omega))
  · exact cF_u (by omega)
theorem cF_p2 {T S n : Nat} {N : Nat → Nat} {z : Int32} {p : hI × hJ} (hS : S = 63 ∨ S = 70 ∨ S = 77) : cF p.1 (k_p2 T S N z n p).1 := by
  induction n with
  | zero => exact cF_rf _
  | succ n ih =>
    refine cF_tr ih ?_
    show cF _ (k_p2S T S N z n (k_p2 T S N z n p)).1
    unfold k_p2S
    (repeat' split) <;> try dsimp only
    · exact cF_tr cF_puI (cF_lose hS)
    · exact cF_tr (cF_tr cF_puI (cF_wr hS)) (cF_spend hS)
    · exact cF_rf _
    · exact cF_rf _
theorem l_pass2 {k : Nat} {R : hR} {q : Option Value × am_H} {T S n : Nat} {N : Nat → Nat} {z : Int32} (hT : T = 9 ∨ T = 36) (hD : R 84 3 = T) (hS : S = 63 ∨ S = 70 ∨ S = 77) {I0 : hI} {J0 : hJ} (hN : N 2 = n) (hn : n ≤ 5) (t : ctk I0 T N) (hk : 5 ≤ k) (Z : ∀ (u : Value), wz k 2 none am_c15 158 [.ref 84, .ref S, .int z, .int (Int32.ofNat n), u] [] ((k_p2 T S N z n (I0, J0)).1) ((k_p2 T S N z n (I0, J0)).2) R q) : ∀ (j r : Nat) (u : Value), r + j = n → wz k 2 none am_c15 58 [.ref 84, .ref S, .int z, .int (Int32.ofNat r), u] [] ((k_p2 T S N z r (I0, J0)).1) ((k_p2 T S N z r (I0, J0)).2) R q := by
  intro j
  induction j with
  | zero =>
    intro r u e
    obtain rfl : n = r := by omega
    have t1 := ctk_F hT (cF_p2 (T := T) (N := N) (z := z) (n := n) (p := (I0, J0)) hS) t
    have e11 := t1.2.1.2.1
    rw [hN] at e11
    have h1 := t1.1.1
    have t2 := ctk_F hT (cF_puI (I := (k_p2 T S N z n (I0, J0)).1) (T := T) (S := S) (x := n) (n := N 1)) t1
    refine w_iload_n rfl rfl rfl ?_
    refine w_aload_n rfl rfl rfl ?_
    refine w_gf (t := .retAddr 0) (v := .ref (T)) rfl rfl rfl sp84 rfl (congrArg Value.ref hD) rfl ?_
    refine w_gf (t := .ref (T + 11)) (v := .ref (T + 11)) rfl rfl rfl (shT_0 hT) rfl rfl rfl ?_
    refine w_gf (t := .int 0) (v := .int _) rfl rfl rfl (shT_11 hT) rfl (congrArg Value.int e11) rfl ?_
    refine w_ic_geN (t := 158) (f := 72) rfl rfl rfl (by omega) (by omega) (fun c69 => ?_) (fun c69 => absurd c69 (by omega))
    exact Z _
  | succ j ih =>
    intro r u e
    have t1 := ctk_F hT (cF_p2 (T := T) (N := N) (z := z) (n := r) (p := (I0, J0)) hS) t
    have e11 := t1.2.1.2.1
    rw [hN] at e11
    have h1 := t1.1.1
    have t2 := ctk_F hT (cF_puI (I := (k_p2 T S N z r (I0, J0)).1) (T := T) (S := S) (x := r) (n := N 1)) t1
    refine w_iload_n rfl rfl rfl ?_
    refine w_aload_n rfl rfl rfl ?_
    refine w_gf (t := .retAddr 0) (v := .ref (T)) rfl rfl rfl sp84 rfl (congrArg Value.ref hD) rfl ?_
    refine w_gf (t := .ref (T + 11)) (v := .ref (T + 11)) rfl rfl rfl (shT_0 hT) rfl rfl rfl ?_
    refine w_gf (t := .int 0) (v := .int _) rfl rfl rfl (shT_11 hT) rfl (congrArg Value.int e11) rfl ?_
    refine w_ic_geN (t := 158) (f := 72) rfl rfl rfl (by omega) (by omega) (fun c69 => absurd c69 (by omega)) (fun c69 => ?_)
    refine w_aload_n rfl rfl rfl ?_
    refine w_gf (t := .ref (S + 4)) (v := .ref (S + 4)) rfl rfl rfl (shS_0 hS) rfl rfl rfl ?_
    refine w_iload_n rfl rfl rfl ?_
    refine w_iaload rfl rfl (shS_4 hS) rfl ⟨by omega, by omega⟩ rfl ?_
    refine w_iconst (x := Int32.ofNat 1) rfl rfl (by decide) ?_
    refine w_ic_ne (t := 152) (f := 82) rfl rfl rfl (fun c79 => ?_) (fun c79 => ?_)
    · refine w_iinc (L' := [_, _, _, _, _]) rfl rfl rfl (am_incN 1) rfl ?_
      refine w_goto (pc' := 58) rfl rfl ?_
      exact wz_J (ih (r + 1) _ (by omega)) rfl (by show (k_p2S T S N z r (k_p2 T S N z r (I0, J0))).1 = _; unfold k_p2S; first | rw [if_neg c79] <;> rfl | rw [if_pos c79, if_neg c87] <;> rfl | rw [if_pos c79, if_pos c87, if_pos (show k_bear (k_p2 T S N z r (I0, J0)).1 S (Int32.ofNat r) 8 < k_shC (k_p2 T S N z r (I0, J0)).1 (k_p2 T S N z r (I0, J0)).2 T S r N z from c128)] <;> rfl | rw [if_pos c79, if_pos c87, if_neg (show ¬ k_bear (k_p2 T S N z r (I0, J0)).1 S (Int32.ofNat r) 8 < k_shC (k_p2 T S N z r (I0, J0)).1 (k_p2 T S N z r (I0, J0)).2 T S r N z from c128)] <;> rfl) (by show (k_p2S T S N z r (k_p2 T S N z r (I0, J0))).2 = _; unfold k_p2S; first | rw [if_neg c79] <;> rfl | rw [if_pos c79, if_neg c87] <;> rfl | rw [if_pos c79, if_pos c87, if_pos (show k_bear (k_p2 T S N z r (I0, J0)).1 S (Int32.ofNat r) 8 < k_shC (k_p2 T S N z r (I0, J0)).1 (k_p2 T S N z r (I0, J0)).2 T S r N z from c128)] <;> rfl | rw [if_pos c79, if_pos c87, if_neg (show ¬ k_bear (k_p2 T S N z r (I0, J0)).1 S (Int32.ofNat r) 8 < k_shC (k_p2 T S N z r (I0, J0)).1 (k_p2 T S N z r (I0, J0)).2 T S r N z from c128)] <;> rfl)
    · refine w_aload_n rfl rfl rfl ?_
      refine w_iload_n rfl rfl rfl ?_
      refine w_cv (q := am_m17) (as := [_]) (rest := []) (st' := [_]) rfl rfl rfl rfl rfl rfl sp84 rfl rfl rfl rfl (d_isWanted (by omega)) rfl rfl ?_
      refine w_if_neB (t := 93) (f := 90) rfl rfl rfl (fun c87 => ?_) (fun c87 => ?_)
      · refine w_iconst (x := Int32.ofNat 1) rfl rfl (by decide) ?_
        refine w_iload_n rfl rfl rfl ?_
        refine w_iadd rfl rfl ?_
        refine w_aload_n rfl rfl rfl ?_
        refine w_gf (t := .retAddr 0) (v := .ref (T)) rfl rfl rfl sp84 rfl (congrArg Value.ref hD) rfl ?_
        refine w_gf (t := .ref (T + 13)) (v := .ref (T + 13)) rfl rfl rfl (shT_0 hT) rfl rfl rfl ?_
        refine w_iload_n rfl rfl rfl ?_
        refine w_iaload rfl rfl (shT_13 hT) rfl ⟨by omega, by omega⟩ rfl ?_
        refine w_imul rfl rfl ?_
        refine w_istore (L' := [_, _, _, _, _]) rfl rfl rfl ?_
        refine w_aload_n rfl rfl rfl ?_
        refine w_iload_n rfl rfl rfl ?_
        refine w_cv (q := am_m66) (as := [_]) (rest := []) (st' := [_]) rfl rfl rfl rfl rfl rfl (shS_0 hS) rfl rfl rfl rfl (d_bear hS (by omega)) rfl rfl ?_
        refine w_aload_n rfl rfl rfl ?_
        refine w_aload_n rfl rfl rfl ?_
        refine w_iload_n rfl rfl rfl ?_
        refine w_iload_n rfl rfl rfl ?_
        refine w_cv (q := am_m28) (as := [_, _, _]) (rest := [_]) (st' := [_, _]) rfl rfl rfl rfl rfl rfl sp84 rfl rfl rfl rfl (d_pull hT hD hS (by omega) h1 t1.2.1.1 t1.2.2.1 t1.2.2.2.1 t1.2.2.2.2.2.2.2.2 t1.2.2.2.2.2.2.2.1 (by omega)) rfl rfl ?_
        refine w_sipush (x := Int32.ofNat 9999) rfl rfl (by decide) ?_
        refine w_iload rfl rfl rfl ?_
        refine w_cs (q := am_m24) (na := 3) (as := [_, _, _]) (st' := [_, _]) rfl rfl rfl rfl (by decide) rfl rfl (Nat.le_of_ble_eq_true rfl) rfl rfl rfl (d_cut (by omega)) rfl rfl ?_
        refine w_ic_ge (t := 140) (f := 131) rfl rfl rfl (fun c128 => ?_) (fun c128 => ?_)
        · refine w_aload_n rfl rfl rfl ?_
          refine w_aload_n rfl rfl rfl ?_
          refine w_iload_n rfl rfl rfl ?_
          refine w_iload_n rfl rfl rfl ?_
          refine w_cv (q := am_m23) (as := [_, _, _]) (rest := []) (st' := []) rfl rfl rfl rfl rfl rfl sp84 rfl rfl rfl rfl (d_wearRopes hT hD hS (by omega) h1 t2.2.1.1 t2.2.2.1 t2.2.2.2.2.2.2.1.2 t2.2.2.2.2.2.2.1.1 (by omega)) rfl rfl ?_
          refine w_aload_n rfl rfl rfl ?_
          refine w_iload_n rfl rfl rfl ?_
          refine w_cv (q := am_m70) (as := [_]) (rest := []) (st' := []) rfl rfl rfl rfl rfl rfl (shS_0 hS) rfl rfl rfl rfl (d_spendDay hS (by omega) (by omega)) rfl rfl ?_
          refine w_iinc (L' := [_, _, _, _, _]) rfl rfl rfl (am_incN 1) rfl ?_
          refine w_goto (pc' := 58) rfl rfl ?_
          exact wz_J (ih (r + 1) _ (by omega)) rfl (by show (k_p2S T S N z r (k_p2 T S N z r (I0, J0))).1 = _; unfold k_p2S; first | rw [if_neg c79] <;> rfl | rw [if_pos c79, if_neg c87] <;> rfl | rw [if_pos c79, if_pos c87, if_pos (show k_bear (k_p2 T S N z r (I0, J0)).1 S (Int32.ofNat r) 8 < k_shC (k_p2 T S N z r (I0, J0)).1 (k_p2 T S N z r (I0, J0)).2 T S r N z from c128)] <;> rfl | rw [if_pos c79, if_pos c87, if_neg (show ¬ k_bear (k_p2 T S N z r (I0, J0)).1 S (Int32.ofNat r) 8 < k_shC (k_p2 T S N z r (I0, J0)).1 (k_p2 T S N z r (I0, J0)).2 T S r N z from c128)] <;> rfl) (by show (k_p2S T S N z r (k_p2 T S N z r (I0, J0))).2 = _; unfold k_p2S; first | rw [if_neg c79] <;> rfl | rw [if_pos c79, if_neg c87] <;> rfl | rw [if_pos c79, if_pos c87, if_pos (show k_bear (k_p2 T S N z r (I0, J0)).1 S (Int32.ofNat r) 8 < k_shC (k_p2 T S N z r (I0, J0)).1 (k_p2 T S N z r (I0, J0)).2 T S r N z from c128)] <;> rfl | rw [if_pos c79, if_pos c87, if_neg (show ¬ k_bear (k_p2 T S N z r (I0, J0)).1 S (Int32.ofNat r) 8 < k_shC (k_p2 T S N z r (I0, J0)).1 (k_p2 T S N z r (I0, J0)).2 T S r N z from c128)] <;> rfl)
        · refine w_aload_n rfl rfl rfl ?_
          refine w_aload_n rfl rfl rfl ?_
          refine w_iload_n rfl rfl rfl ?_
          refine w_cv (q := am_m22) (as := [_, _]) (rest := []) (st' := []) rfl rfl rfl rfl rfl rfl sp84 rfl rfl rfl rfl (d_lose hT hD hS (by omega) h1 t2.2.1.1 (by omega)) rfl rfl ?_
          refine w_goto (pc' := 152) rfl rfl ?_
          refine w_iinc (L' := [_, _, _, _, _]) rfl rfl rfl (am_incN 1) rfl ?_
          refine w_goto (pc' := 58) rfl rfl ?_
          exact wz_J (ih (r + 1) _ (by omega)) rfl (by show (k_p2S T S N z r (k_p2 T S N z r (I0, J0))).1 = _; unfold k_p2S; first | rw [if_neg c79] <;> rfl | rw [if_pos c79, if_neg c87] <;> rfl | rw [if_pos c79, if_pos c87, if_pos (show k_bear (k_p2 T S N z r (I0, J0)).1 S (Int32.ofNat r) 8 < k_shC (k_p2 T S N z r (I0, J0)).1 (k_p2 T S N z r (I0, J0)).2 T S r N z from c128)] <;> rfl | rw [if_pos c79, if_pos c87, if_neg (show ¬ k_bear (k_p2 T S N z r (I0, J0)).1 S (Int32.ofNat r) 8 < k_shC (k_p2 T S N z r (I0, J0)).1 (k_p2 T S N z r (I0, J0)).2 T S r N z from c128)] <;> rfl) (by show (k_p2S T S N z r (k_p2 T S N z r (I0, J0))).2 = _; unfold k_p2S; first | rw [if_neg c79] <;> rfl | rw [if_pos c79, if_neg c87] <;> rfl | rw [if_pos c79, if_pos c87, if_pos (show k_bear (k_p2 T S N z r (I0, J0)).1 S (Int32.ofNat r) 8 < k_shC (k_p2 T S N z r (I0, J0)).1 (k_p2 T S N z r (I0, J0)).2 T S r N z from c128)] <;> rfl | rw [if_pos c79, if_pos c87, if_neg (show ¬ k_bear (k_p2 T S N z r (I0, J0)).1 S (Int32.ofNat r) 8 < k_shC (k_p2 T S N z r (I0, J0)).1 (k_p2 T S N z r (I0, J0)).2 T S r N z from c128)] <;> rfl)
      · refine w_goto (pc' := 152) rfl rfl ?_
        refine w_iinc (L' := [_, _, _, _, _]) rfl rfl rfl (am_incN 1) rfl ?_
        refine w_goto (pc' := 58) rfl rfl ?_
        exact wz_J (ih (r + 1) _ (by omega)) rfl (by show (k_p2S T S N z r (k_p2 T S N z r (I0, J0))).1 = _; unfold k_p2S; first | rw [if_neg c79] <;> rfl | rw [if_pos c79, if_neg c87] <;> rfl | rw [if_pos c79, if_pos c87, if_pos (show k_bear (k_p2 T S N z r (I0, J0)).1 S (Int32.ofNat r) 8 < k_shC (k_p2 T S N z r (I0, J0)).1 (k_p2 T S N z r (I0, J0)).2 T S r N z from c128)] <;> rfl | rw [if_pos c79, if_pos c87, if_neg (show ¬ k_bear (k_p2 T S N z r (I0, J0)).1 S (Int32.ofNat r) 8 < k_shC (k_p2 T S N z r (I0, J0)).1 (k_p2 T S N z r (I0, J0)).2 T S r N z from c128)] <;> rfl) (by show (k_p2S T S N z r (k_p2 T S N z r (I0, J0))).2 = _; unfold k_p2S; first | rw [if_neg c79] <;> rfl | rw [if_pos c79, if_neg c87] <;> rfl | rw [if_pos c79, if_pos c87, if_pos (show k_bear (k_p2 T S N z r (I0, J0)).1 S (Int32.ofNat r) 8 < k_shC (k_p2 T S N z r (I0, J0)).1 (k_p2 T S N z r (I0, J0)).2 T S r N z from c128)] <;> rfl | rw [if_pos c79, if_pos c87, if_neg (show ¬ k_bear (k_p2 T S N z r (I0, J0)).1 S (Int32.ofNat r) 8 < k_shC (k_p2 T S N z r (I0, J0)).1 (k_p2 T S N z r (I0, J0)).2 T S r N z from c128)] <;> rfl)
