/-! The class: ropes worn, voyages begun. -/
def k_wv (T S n1 r : Nat) (z : Int32) (p : hI × hJ) : Int32 := p.1 (S + 2) r - k_cut (k_we p.1 p.2 T S r n1 z).1 (Int32.ofNat 99) (Int32.ofNat 1 + Int32.ofNat 2 * z)
def k_wrS (T S x n1 : Nat) (z : Int32) (r : Nat) (p : hI × hJ) : hI × hJ := if p.1 (S + 3) r = Int32.ofNat x then (if p.1 (S + 1) r = Int32.ofNat 1 then (if 0 < k_wv T S n1 r z p then (am_u p.1 (S + 2) r (k_wv T S n1 r z p), (k_we p.1 p.2 T S r n1 z).2) else (am_u (am_u (am_u p.1 (S + 2) r (k_wv T S n1 r z p)) (S + 2) r (Int32.ofNat 0)) (S + 1) r (Int32.ofNat 2), (k_we p.1 p.2 T S r n1 z).2)) else p) else p
def k_wrL (T S x n1 : Nat) (z : Int32) (n : Nat) (p : hI × hJ) : hI × hJ := s_for (k_wrS T S x n1 z) n p
theorem k_wrL_ne {T S x n1 n a : Nat} {z : Int32} {p : hI × hJ} (h : a ≠ S + 1 ∧ a ≠ S + 2) : (k_wrL T S x n1 z n p).1 a = p.1 a := by
  induction n with
  | zero => rfl
  | succ n ih =>
    show (k_wrS T S x n1 z n (k_wrL T S x n1 z n p)).1 a = _
    unfold k_wrS
    (repeat' split) <;> try dsimp only
    · exact (am_u_ne h.2).trans ih
    · exact (am_u_ne h.1).trans ((am_u_ne h.2).trans ((am_u_ne h.2).trans ih))
    · exact ih
    · exact ih
theorem l_wearR {k : Nat} {R : hR} {q : Option Value × am_H} {T S n x n1 : Nat} {z : Int32} (hT : T = 9 ∨ T = 36) (hD : R 84 3 = T) (hS : S = 63 ∨ S = 70 ∨ S = 77) {I0 : hI} {J0 : hJ} (hx : x < 5) (hn : n ≤ 8) (h5 : I0 (T + 5) 1 = Int32.ofNat n) (hM : ∀ r, r < n → okn (I0 (T + 7) r) 6) (hn1 : n1 ≤ 64) (h21 : I0 (T + 21) 0 = Int32.ofNat n1) (h9 : ¬ I0 84 9 = 0) (hk : 3 ≤ k) (Z : wz k 2 none am_c23 107 [.ref 84, .ref S, .int (Int32.ofNat x), .int z, .int (Int32.ofNat n)] [] ((k_wrL T S x n1 z n (I0, J0)).1) ((k_wrL T S x n1 z n (I0, J0)).2) R q) : ∀ (j r : Nat) , r + j = n → wz k 2 none am_c23 3 [.ref 84, .ref S, .int (Int32.ofNat x), .int z, .int (Int32.ofNat r)] [] ((k_wrL T S x n1 z r (I0, J0)).1) ((k_wrL T S x n1 z r (I0, J0)).2) R q := by
  intro j
  induction j with
  | zero =>
    intro r e
    obtain rfl : n = r := by omega
    have e5 : (k_wrL T S x n1 z n (I0, J0)).1 (T + 5) 1 = Int32.ofNat n := (congrFun (k_wrL_ne (by omega)) 1).trans h5
    have e7 : (k_wrL T S x n1 z n (I0, J0)).1 (T + 7) = I0 (T + 7) := k_wrL_ne (by omega)
    have e21 : (k_wrL T S x n1 z n (I0, J0)).1 (T + 21) 0 = Int32.ofNat n1 := (congrFun (k_wrL_ne (by omega)) 0).trans h21
    have e84 : (k_wrL T S x n1 z n (I0, J0)).1 84 9 = I0 84 9 := congrFun (k_wrL_ne (by omega)) 9
    refine w_aload_n rfl rfl rfl ?_
    refine w_gf (t := .int 0) (v := .int _) rfl rfl rfl sp84 rfl (congrArg Value.int rfl) rfl ?_
    refine w_if_eq (t := 107) (f := 10) rfl rfl rfl (fun c7 => absurd c7 (by rw [e84]; exact h9)) (fun c7 => ?_)
    refine w_iload rfl rfl rfl ?_
    refine w_aload_n rfl rfl rfl ?_
    refine w_gf (t := .retAddr 0) (v := .ref (T)) rfl rfl rfl sp84 rfl (congrArg Value.ref hD) rfl ?_
    refine w_gf (t := .ref (T + 5)) (v := .ref (T + 5)) rfl rfl rfl (shT_0 hT) rfl rfl rfl ?_
    refine w_gf (t := .int 0) (v := .int _) rfl rfl rfl (shT_5 hT) rfl (congrArg Value.int e5) rfl ?_
    refine w_ic_geN (t := 107) (f := 25) rfl rfl rfl (by omega) (by omega) (fun c22 => ?_) (fun c22 => absurd c22 (by omega))
    exact Z
  | succ j ih =>
    intro r e
    have e5 : (k_wrL T S x n1 z r (I0, J0)).1 (T + 5) 1 = Int32.ofNat n := (congrFun (k_wrL_ne (by omega)) 1).trans h5
    have e7 : (k_wrL T S x n1 z r (I0, J0)).1 (T + 7) = I0 (T + 7) := k_wrL_ne (by omega)
    have e21 : (k_wrL T S x n1 z r (I0, J0)).1 (T + 21) 0 = Int32.ofNat n1 := (congrFun (k_wrL_ne (by omega)) 0).trans h21
    have e84 : (k_wrL T S x n1 z r (I0, J0)).1 84 9 = I0 84 9 := congrFun (k_wrL_ne (by omega)) 9
    refine w_aload_n rfl rfl rfl ?_
    refine w_gf (t := .int 0) (v := .int _) rfl rfl rfl sp84 rfl (congrArg Value.int rfl) rfl ?_
    refine w_if_eq (t := 107) (f := 10) rfl rfl rfl (fun c7 => absurd c7 (by rw [e84]; exact h9)) (fun c7 => ?_)
    refine w_iload rfl rfl rfl ?_
    refine w_aload_n rfl rfl rfl ?_
    refine w_gf (t := .retAddr 0) (v := .ref (T)) rfl rfl rfl sp84 rfl (congrArg Value.ref hD) rfl ?_
    refine w_gf (t := .ref (T + 5)) (v := .ref (T + 5)) rfl rfl rfl (shT_0 hT) rfl rfl rfl ?_
    refine w_gf (t := .int 0) (v := .int _) rfl rfl rfl (shT_5 hT) rfl (congrArg Value.int e5) rfl ?_
    refine w_ic_geN (t := 107) (f := 25) rfl rfl rfl (by omega) (by omega) (fun c22 => absurd c22 (by omega)) (fun c22 => ?_)
    refine w_aload_n rfl rfl rfl ?_
    refine w_gf (t := .ref (S + 3)) (v := .ref (S + 3)) rfl rfl rfl (shS_0 hS) rfl rfl rfl ?_
    refine w_iload rfl rfl rfl ?_
    refine w_iaload rfl rfl (shS_3 hS) rfl ⟨by omega, by omega⟩ rfl ?_
    refine w_iload_n rfl rfl rfl ?_
    refine w_ic_ne (t := 101) (f := 36) rfl rfl rfl (fun c33 => ?_) (fun c33 => ?_)
    · refine w_iinc (L' := [_, _, _, _, _]) rfl rfl rfl (am_incN 1) rfl ?_
      refine w_goto (pc' := 3) rfl rfl ?_
      exact wz_J (ih (r + 1) (by omega)) rfl (by show (k_wrS T S x n1 z r (k_wrL T S x n1 z r (I0, J0))).1 = _; unfold k_wrS; first | rw [if_neg c33] <;> rfl | rw [if_pos c33, if_neg c44] <;> rfl | rw [if_pos c33, if_pos c44, if_pos (show 0 < k_wv T S n1 r z (k_wrL T S x n1 z r (I0, J0)) from c82)] <;> rfl | rw [if_pos c33, if_pos c44, if_neg (show ¬ 0 < k_wv T S n1 r z (k_wrL T S x n1 z r (I0, J0)) from c82)] <;> rfl) (by show (k_wrS T S x n1 z r (k_wrL T S x n1 z r (I0, J0))).2 = _; unfold k_wrS; first | rw [if_neg c33] <;> rfl | rw [if_pos c33, if_neg c44] <;> rfl | rw [if_pos c33, if_pos c44, if_pos (show 0 < k_wv T S n1 r z (k_wrL T S x n1 z r (I0, J0)) from c82)] <;> rfl | rw [if_pos c33, if_pos c44, if_neg (show ¬ 0 < k_wv T S n1 r z (k_wrL T S x n1 z r (I0, J0)) from c82)] <;> rfl)
    · refine w_aload_n rfl rfl rfl ?_
      refine w_gf (t := .ref (S + 1)) (v := .ref (S + 1)) rfl rfl rfl (shS_0 hS) rfl rfl rfl ?_
      refine w_iload rfl rfl rfl ?_
      refine w_iaload rfl rfl (shS_1 hS) rfl ⟨by omega, by omega⟩ rfl ?_
      refine w_iconst (x := Int32.ofNat 1) rfl rfl (by decide) ?_
      refine w_ic_ne (t := 101) (f := 47) rfl rfl rfl (fun c44 => ?_) (fun c44 => ?_)
      · refine w_iinc (L' := [_, _, _, _, _]) rfl rfl rfl (am_incN 1) rfl ?_
        refine w_goto (pc' := 3) rfl rfl ?_
        exact wz_J (ih (r + 1) (by omega)) rfl (by show (k_wrS T S x n1 z r (k_wrL T S x n1 z r (I0, J0))).1 = _; unfold k_wrS; first | rw [if_neg c33] <;> rfl | rw [if_pos c33, if_neg c44] <;> rfl | rw [if_pos c33, if_pos c44, if_pos (show 0 < k_wv T S n1 r z (k_wrL T S x n1 z r (I0, J0)) from c82)] <;> rfl | rw [if_pos c33, if_pos c44, if_neg (show ¬ 0 < k_wv T S n1 r z (k_wrL T S x n1 z r (I0, J0)) from c82)] <;> rfl) (by show (k_wrS T S x n1 z r (k_wrL T S x n1 z r (I0, J0))).2 = _; unfold k_wrS; first | rw [if_neg c33] <;> rfl | rw [if_pos c33, if_neg c44] <;> rfl | rw [if_pos c33, if_pos c44, if_pos (show 0 < k_wv T S n1 r z (k_wrL T S x n1 z r (I0, J0)) from c82)] <;> rfl | rw [if_pos c33, if_pos c44, if_neg (show ¬ 0 < k_wv T S n1 r z (k_wrL T S x n1 z r (I0, J0)) from c82)] <;> rfl)
      · refine w_aload_n rfl rfl rfl ?_
        refine w_gf (t := .ref (S + 2)) (v := .ref (S + 2)) rfl rfl rfl (shS_0 hS) rfl rfl rfl ?_
        refine w_iload rfl rfl rfl ?_
        refine w_dup2 rfl rfl rfl rfl ?_
        refine w_iaload rfl rfl (shS_2 hS) rfl ⟨by omega, by omega⟩ rfl ?_
        refine w_aload_n rfl rfl rfl ?_
        refine w_aload_n rfl rfl rfl ?_
        refine w_iload rfl rfl rfl ?_
        refine w_iload_n rfl rfl rfl ?_
        refine w_cv (q := am_m26) (as := [_, _, _]) (rest := [_, _, _]) (st' := [_, _, _, _]) rfl rfl rfl rfl rfl rfl sp84 rfl rfl rfl rfl (d_wear hT hD hS (by omega) (by rw [e7]; exact hM r (by omega)) hn1 e21 (by omega)) rfl rfl ?_
        refine w_bipush (x := Int32.ofNat 99) rfl rfl (by decide) ?_
        refine w_iconst (x := Int32.ofNat 1) rfl rfl (by decide) ?_
        refine w_iconst (x := Int32.ofNat 2) rfl rfl (by decide) ?_
        refine w_iload_n rfl rfl rfl ?_
        refine w_imul rfl rfl ?_
        refine w_iadd rfl rfl ?_
        refine w_cs (q := am_m24) (na := 3) (as := [_, _, _]) (st' := [_, _, _, _]) rfl rfl rfl rfl (by decide) rfl rfl (Nat.le_of_ble_eq_true rfl) rfl rfl rfl (d_cut (by omega)) rfl rfl ?_
        refine w_isub rfl rfl ?_
        refine w_iastore rfl rfl (shS_2 hS) rfl ⟨by omega, by omega⟩ ?_
        refine w_aload_n rfl rfl rfl ?_
        refine w_gf (t := .ref (S + 2)) (v := .ref (S + 2)) rfl rfl rfl (shS_0 hS) rfl rfl rfl ?_
        refine w_iload rfl rfl rfl ?_
        refine w_iaload rfl rfl (shS_2 hS) rfl ⟨by omega, by omega⟩ am_u_at ?_
        refine w_if_gt (t := 101) (f := 85) rfl rfl rfl (fun c82 => ?_) (fun c82 => ?_)
        · refine w_iinc (L' := [_, _, _, _, _]) rfl rfl rfl (am_incN 1) rfl ?_
          refine w_goto (pc' := 3) rfl rfl ?_
          exact wz_J (ih (r + 1) (by omega)) rfl (by show (k_wrS T S x n1 z r (k_wrL T S x n1 z r (I0, J0))).1 = _; unfold k_wrS; first | rw [if_neg c33] <;> rfl | rw [if_pos c33, if_neg c44] <;> rfl | rw [if_pos c33, if_pos c44, if_pos (show 0 < k_wv T S n1 r z (k_wrL T S x n1 z r (I0, J0)) from c82)] <;> rfl | rw [if_pos c33, if_pos c44, if_neg (show ¬ 0 < k_wv T S n1 r z (k_wrL T S x n1 z r (I0, J0)) from c82)] <;> rfl) (by show (k_wrS T S x n1 z r (k_wrL T S x n1 z r (I0, J0))).2 = _; unfold k_wrS; first | rw [if_neg c33] <;> rfl | rw [if_pos c33, if_neg c44] <;> rfl | rw [if_pos c33, if_pos c44, if_pos (show 0 < k_wv T S n1 r z (k_wrL T S x n1 z r (I0, J0)) from c82)] <;> rfl | rw [if_pos c33, if_pos c44, if_neg (show ¬ 0 < k_wv T S n1 r z (k_wrL T S x n1 z r (I0, J0)) from c82)] <;> rfl)
        · refine w_aload_n rfl rfl rfl ?_
          refine w_gf (t := .ref (S + 2)) (v := .ref (S + 2)) rfl rfl rfl (shS_0 hS) rfl rfl rfl ?_
          refine w_iload rfl rfl rfl ?_
          refine w_iconst (x := Int32.ofNat 0) rfl rfl (by decide) ?_
          refine w_iastore rfl rfl (shS_2 hS) rfl ⟨by omega, by omega⟩ ?_
          refine w_aload_n rfl rfl rfl ?_
          refine w_gf (t := .ref (S + 1)) (v := .ref (S + 1)) rfl rfl rfl (shS_0 hS) rfl rfl rfl ?_
          refine w_iload rfl rfl rfl ?_
          refine w_iconst (x := Int32.ofNat 2) rfl rfl (by decide) ?_
          refine w_iastore rfl rfl (shS_1 hS) rfl ⟨by omega, by omega⟩ ?_
          refine w_iinc (L' := [_, _, _, _, _]) rfl rfl rfl (am_incN 1) rfl ?_
          refine w_goto (pc' := 3) rfl rfl ?_
          exact wz_J (ih (r + 1) (by omega)) rfl (by show (k_wrS T S x n1 z r (k_wrL T S x n1 z r (I0, J0))).1 = _; unfold k_wrS; first | rw [if_neg c33] <;> rfl | rw [if_pos c33, if_neg c44] <;> rfl | rw [if_pos c33, if_pos c44, if_pos (show 0 < k_wv T S n1 r z (k_wrL T S x n1 z r (I0, J0)) from c82)] <;> rfl | rw [if_pos c33, if_pos c44, if_neg (show ¬ 0 < k_wv T S n1 r z (k_wrL T S x n1 z r (I0, J0)) from c82)] <;> rfl) (by show (k_wrS T S x n1 z r (k_wrL T S x n1 z r (I0, J0))).2 = _; unfold k_wrS; first | rw [if_neg c33] <;> rfl | rw [if_pos c33, if_neg c44] <;> rfl | rw [if_pos c33, if_pos c44, if_pos (show 0 < k_wv T S n1 r z (k_wrL T S x n1 z r (I0, J0)) from c82)] <;> rfl | rw [if_pos c33, if_pos c44, if_neg (show ¬ 0 < k_wv T S n1 r z (k_wrL T S x n1 z r (I0, J0)) from c82)] <;> rfl)
def k_wr (I : hI) (J : hJ) (T S x n n1 : Nat) (z : Int32) : hI × hJ := if I 84 9 = 0 then (I, J) else k_wrL T S x n1 z n (I, J)
theorem d_wearRopes {k : Nat} {I : hI} {J : hJ} {R : hR} {T : Nat} (hT : T = 9 ∨ T = 36) (hD : R 84 3 = T) {S : Nat} (hS : S = 63 ∨ S = 70 ∨ S = 77) {x n n1 : Nat} {z : Int32} (hx : x < 5) (hn : n ≤ 8) (h5 : I (T + 5) 1 = Int32.ofNat n) (hM : ∀ r, r < n → okn (I (T + 7) r) 6) (hn1 : n1 ≤ 64) (h21 : I (T + 21) 0 = Int32.ofNat n1) (hk : 4 ≤ k) : ct k 23 [.ref 84, .ref S, .int (Int32.ofNat x), .int z] I J R none (k_wr I J T S x n n1 z).1 (k_wr I J T S x n n1 z).2 R := by
  obtain ⟨k, rfl⟩ : ∃ k', k = k' + 1 := ⟨k - 1, by omega⟩
  refine ct_of (q := am_m23) (o := 2) (rt := none) (co := am_c23) (L := [_, _, _, _, _]) rfl rfl rfl rfl rfl rfl ?_
  refine w_iconst (x := Int32.ofNat 0) rfl rfl (by decide) ?_
  refine w_istore (L' := [_, _, _, _, _]) rfl rfl rfl ?_
  by_cases h9 : I 84 9 = 0
  · have hE : k_wr I J T S x n n1 z = (I, J) := if_pos h9
    rw [hE]
    refine w_aload_n rfl rfl rfl ?_
    refine w_gf (t := .int 0) (v := .int _) rfl rfl rfl sp84 rfl (congrArg Value.int rfl) rfl ?_
    refine w_if_eq (t := 107) (f := 10) rfl rfl rfl (fun c7 => ?_) (fun c7 => absurd c7 (not_not_intro h9))
    exact w_ret rfl rfl rfl rfl
  · have hE : k_wr I J T S x n n1 z = k_wrL T S x n1 z n (I, J) := if_neg h9
    rw [hE]
    refine l_wearR hT hD hS hx hn h5 hM hn1 h21 h9 (by omega) ?_ n 0 (by omega)
    exact w_ret rfl rfl rfl rfl
def k_svP (I : hI) (T S v : Nat) : Prop := I (T + 15) v = I S 0 ∧ (I 84 6 >>> (Int32.ofNat v &&& 31)) &&& Int32.ofNat 1 = 0
def k_svD (I : hI) (T S v : Nat) : Decidable (k_svP I T S v) := inferInstanceAs (Decidable (_ ∧ _))
def k_svS (T S : Nat) (v : Nat) (I : hI) : hI := @ite _ (k_svP I T S v) (k_svD I T S v) (if I 84 8 = Int32.ofInt (-1) ∨ I 84 8 = Int32.ofNat (nn (I (T + 14) v)) then (if I (S + 4) (nn (I (T + 14) v)) = 0 then am_u (am_u (am_u I (S + 4) (nn (I (T + 14) v)) (Int32.ofNat 1)) (S + 5) (nn (I (T + 14) v)) (I (T + 16) v)) 84 7 (I 84 7 ||| Int32.ofNat (2 ^ v)) else am_u I S 2 (I S 2 + Int32.ofNat 1)) else I) I
def k_svL (T S n : Nat) (I : hI) : hI := s_for (k_svS T S) n I
theorem k_svL_ne {T S n a i : Nat} {I : hI} (h : a ≠ S + 4 ∧ a ≠ S + 5) (h2 : a = S → i ≠ 2) (h3 : a = 84 → i ≠ 7) : k_svL T S n I a i = I a i := by
  induction n with
  | zero => rfl
  | succ n ih =>
    show k_svS T S n (k_svL T S n I) a i = _
    unfold k_svS
    repeat' split
    · unfold am_u
      rw [if_neg (by omega), if_neg (by omega), if_neg (by omega)]
      exact ih
    · unfold am_u
      rw [if_neg (by omega)]
      exact ih
    · exact ih
    · exact ih
theorem l_startV {k : Nat} {R : hR} {q : Option Value × am_H} {T S n : Nat} (hT : T = 9 ∨ T = 36) (hD : R 84 3 = T) (hS : S = 63 ∨ S = 70 ∨ S = 77) {I0 : hI} {J0 : hJ} (hn : n ≤ 10) (h11 : I0 T 11 = Int32.ofNat n) (hV : ∀ v, v < n → okn (I0 (T + 14) v) 5) (hk : 2 ≤ k) (Z : ∀ (u : Value) (w : Value), wz k 2 none am_c20 127 [.ref 84, .ref S, .int (Int32.ofNat n), u, w] [] (k_svL T S n I0) J0 R q) : ∀ (j r : Nat) (u : Value) (w : Value), r + j = n → wz k 2 none am_c20 2 [.ref 84, .ref S, .int (Int32.ofNat r), u, w] [] (k_svL T S r I0) J0 R q := by
  intro j
  induction j with
  | zero =>
    intro r u w e
    obtain rfl : n = r := by omega
    have e11 : k_svL T S n I0 T 11 = Int32.ofNat n := (k_svL_ne (by omega) (by omega) (by omega)).trans h11
    have e14 : k_svL T S n I0 (T + 14) = I0 (T + 14) := funext fun i => k_svL_ne (by omega) (by omega) (by omega)
    refine w_iload_n rfl rfl rfl ?_
    refine w_aload_n rfl rfl rfl ?_
    refine w_gf (t := .retAddr 0) (v := .ref (T)) rfl rfl rfl sp84 rfl (congrArg Value.ref hD) rfl ?_
    refine w_gf (t := .int 0) (v := .int _) rfl rfl rfl (shT_0 hT) rfl (congrArg Value.int e11) rfl ?_
    refine w_ic_geN (t := 127) (f := 13) rfl rfl rfl (by omega) (by omega) (fun c10 => ?_) (fun c10 => absurd c10 (by omega))
    exact Z _ _
  | succ j ih =>
    intro r u w e
    have e11 : k_svL T S r I0 T 11 = Int32.ofNat n := (k_svL_ne (by omega) (by omega) (by omega)).trans h11
    have e14 : k_svL T S r I0 (T + 14) = I0 (T + 14) := funext fun i => k_svL_ne (by omega) (by omega) (by omega)
    refine w_iload_n rfl rfl rfl ?_
    refine w_aload_n rfl rfl rfl ?_
    refine w_gf (t := .retAddr 0) (v := .ref (T)) rfl rfl rfl sp84 rfl (congrArg Value.ref hD) rfl ?_
    refine w_gf (t := .int 0) (v := .int _) rfl rfl rfl (shT_0 hT) rfl (congrArg Value.int e11) rfl ?_
    refine w_ic_geN (t := 127) (f := 13) rfl rfl rfl (by omega) (by omega) (fun c10 => absurd c10 (by omega)) (fun c10 => ?_)
    refine w_aload_n rfl rfl rfl ?_
    refine w_gf (t := .retAddr 0) (v := .ref (T)) rfl rfl rfl sp84 rfl (congrArg Value.ref hD) rfl ?_
    refine w_gf (t := .ref (T + 14)) (v := .ref (T + 14)) rfl rfl rfl (shT_0 hT) rfl rfl rfl ?_
    refine w_iload_n rfl rfl rfl ?_
    refine w_iaload rfl rfl (shT_14 hT) rfl ⟨by omega, by omega⟩ (show okn (k_svL T S r I0 (T + 14) r) 5 by rw [e14]; exact hV r (by omega)).1 ?_
    refine w_istore_n (L' := [_, _, _, _, _]) rfl rfl rfl ?_
    refine w_aload_n rfl rfl rfl ?_
    refine w_gf (t := .retAddr 0) (v := .ref (T)) rfl rfl rfl sp84 rfl (congrArg Value.ref hD) rfl ?_
    refine w_gf (t := .ref (T + 15)) (v := .ref (T + 15)) rfl rfl rfl (shT_0 hT) rfl rfl rfl ?_
    refine w_iload_n rfl rfl rfl ?_
    refine w_iaload rfl rfl (shT_15 hT) rfl ⟨by omega, by omega⟩ rfl ?_
    refine w_aload_n rfl rfl rfl ?_
    refine w_gf (t := .int 0) (v := .int _) rfl rfl rfl (shS_0 hS) rfl (congrArg Value.int rfl) rfl ?_
    refine w_ic_ne (t := 54) (f := 39) rfl rfl rfl (fun c36 => ?_) (fun c36 => ?_)
    · refine w_iconst (x := Int32.ofNat 0) rfl rfl (by decide) ?_
      refine w_istore (L' := [_, _, _, _, _]) rfl rfl rfl ?_
      refine w_iload rfl rfl rfl ?_
      refine w_if_eq (t := 121) (f := 62) rfl rfl rfl (fun c59 => ?_) (fun c59 => absurd c59 (by decide))
      clear c59
      refine w_iinc (L' := [_, _, _, _, _]) rfl rfl rfl (am_incN 1) rfl ?_
      refine w_goto (pc' := 2) rfl rfl ?_
      exact wz_M (ih (r + 1) _ _ (by omega)) rfl (by show k_svS T S r (k_svL T S r I0) = _; unfold k_svS; first | rw [if_neg (show ¬ k_svP (k_svL T S r I0) T S r from am_na0 c36)] | rw [if_neg (show ¬ k_svP (k_svL T S r I0) T S r from am_na3 c47)] | (rw [if_pos (show k_svP (k_svL T S r I0) T S r from And.intro c36 c47)]; first | rw [if_neg c67] | (rw [if_pos c67]; first | rw [if_pos c79] | rw [if_neg c79])))
    · refine w_aload_n rfl rfl rfl ?_
      refine w_gf (t := .int 0) (v := .int _) rfl rfl rfl sp84 rfl (congrArg Value.int rfl) rfl ?_
      refine w_iload_n rfl rfl rfl ?_
      refine w_ishr rfl rfl ?_
      refine w_iconst (x := Int32.ofNat 1) rfl rfl (by decide) ?_
      refine w_iand rfl rfl ?_
      refine w_if_ne (t := 54) (f := 50) rfl rfl rfl (fun c47 => ?_) (fun c47 => ?_)
      · refine w_iconst (x := Int32.ofNat 0) rfl rfl (by decide) ?_
        refine w_istore (L' := [_, _, _, _, _]) rfl rfl rfl ?_
        refine w_iload rfl rfl rfl ?_
        refine w_if_eq (t := 121) (f := 62) rfl rfl rfl (fun c59 => ?_) (fun c59 => absurd c59 (by decide))
        clear c59
        refine w_iinc (L' := [_, _, _, _, _]) rfl rfl rfl (am_incN 1) rfl ?_
        refine w_goto (pc' := 2) rfl rfl ?_
        exact wz_M (ih (r + 1) _ _ (by omega)) rfl (by show k_svS T S r (k_svL T S r I0) = _; unfold k_svS; first | rw [if_neg (show ¬ k_svP (k_svL T S r I0) T S r from am_na0 c36)] | rw [if_neg (show ¬ k_svP (k_svL T S r I0) T S r from am_na3 c47)] | (rw [if_pos (show k_svP (k_svL T S r I0) T S r from And.intro c36 c47)]; first | rw [if_neg c67] | (rw [if_pos c67]; first | rw [if_pos c79] | rw [if_neg c79])))
      · refine w_iconst (x := Int32.ofNat 1) rfl rfl (by decide) ?_
        refine w_goto (pc' := 55) rfl rfl ?_
        refine w_istore (L' := [_, _, _, _, _]) rfl rfl rfl ?_
        refine w_iload rfl rfl rfl ?_
        refine w_if_eq (t := 121) (f := 62) rfl rfl rfl (fun c59 => absurd c59 (by decide)) (fun c59 => ?_)
        clear c59
        refine w_aload_n rfl rfl rfl ?_
        refine w_iload_n rfl rfl rfl ?_
        refine w_cv (q := am_m17) (as := [_]) (rest := []) (st' := [_]) rfl rfl rfl rfl rfl rfl sp84 rfl rfl rfl rfl (d_isWanted (by omega)) rfl rfl ?_
        refine w_if_neB (t := 73) (f := 70) rfl rfl rfl (fun c67 => ?_) (fun c67 => ?_)
        · refine w_aload_n rfl rfl rfl ?_
          refine w_gf (t := .ref (S + 4)) (v := .ref (S + 4)) rfl rfl rfl (shS_0 hS) rfl rfl rfl ?_
          refine w_iload_n rfl rfl rfl ?_
          refine w_iaload rfl rfl (shS_4 hS) rfl ⟨(show okn (k_svL T S r I0 (T + 14) r) 5 by rw [e14]; exact hV r (by omega)).2, by omega⟩ rfl ?_
          refine w_if_ne (t := 111) (f := 82) rfl rfl rfl (fun c79 => ?_) (fun c79 => ?_)
          · refine w_aload_n rfl rfl rfl ?_
            refine w_dup rfl rfl rfl ?_
            refine w_gf (t := .int 0) (v := .int _) rfl rfl rfl (shS_0 hS) rfl (congrArg Value.int rfl) rfl ?_
            refine w_iconst (x := Int32.ofNat 1) rfl rfl (by decide) ?_
            refine w_iadd rfl rfl ?_
            refine w_pf rfl rfl rfl (shS_0 hS) rfl rfl rfl ?_
            refine w_iinc (L' := [_, _, _, _, _]) rfl rfl rfl (am_incN 1) rfl ?_
            refine w_goto (pc' := 2) rfl rfl ?_
            exact wz_M (ih (r + 1) _ _ (by omega)) rfl (by show k_svS T S r (k_svL T S r I0) = _; unfold k_svS; first | rw [if_neg (show ¬ k_svP (k_svL T S r I0) T S r from am_na0 c36)] | rw [if_neg (show ¬ k_svP (k_svL T S r I0) T S r from am_na3 c47)] | (rw [if_pos (show k_svP (k_svL T S r I0) T S r from And.intro c36 c47)]; first | rw [if_neg c67] | (rw [if_pos c67]; first | rw [if_pos c79] | rw [if_neg c79])))
          · refine w_aload_n rfl rfl rfl ?_
            refine w_iload_n rfl rfl rfl ?_
            refine w_aload_n rfl rfl rfl ?_
            refine w_gf (t := .retAddr 0) (v := .ref (T)) rfl rfl rfl sp84 rfl (congrArg Value.ref hD) rfl ?_
            refine w_gf (t := .ref (T + 16)) (v := .ref (T + 16)) rfl rfl rfl (shT_0 hT) rfl rfl rfl ?_
            refine w_iload_n rfl rfl rfl ?_
            refine w_iaload rfl rfl (shT_16 hT) rfl ⟨by omega, by omega⟩ rfl ?_
            refine w_cv (q := am_m69) (as := [_, _]) (rest := []) (st' := []) rfl rfl rfl rfl rfl rfl (shS_0 hS) rfl rfl rfl rfl (d_putToSea hS (show okn (k_svL T S r I0 (T + 14) r) 5 by rw [e14]; exact hV r (by omega)).2 (by omega)) rfl rfl ?_
            refine w_aload_n rfl rfl rfl ?_
            refine w_dup rfl rfl rfl ?_
            refine w_gf (t := .int 0) (v := .int _) rfl rfl rfl sp84 rfl (congrArg Value.int ((am_u_na (by omega)).trans (am_u_na (by omega)))) rfl ?_
            refine w_iconst (x := Int32.ofNat 1) rfl rfl (by decide) ?_
            refine w_iload_n rfl rfl rfl ?_
            refine w_shlN rfl rfl (by omega) ?_
            refine w_ior rfl rfl ?_
            refine w_pf rfl rfl rfl sp84 rfl rfl rfl ?_
            refine w_goto (pc' := 121) rfl rfl ?_
            refine w_iinc (L' := [_, _, _, _, _]) rfl rfl rfl (am_incN 1) rfl ?_
            refine w_goto (pc' := 2) rfl rfl ?_
            exact wz_M (ih (r + 1) _ _ (by omega)) rfl (by show k_svS T S r (k_svL T S r I0) = _; unfold k_svS; first | rw [if_neg (show ¬ k_svP (k_svL T S r I0) T S r from am_na0 c36)] | rw [if_neg (show ¬ k_svP (k_svL T S r I0) T S r from am_na3 c47)] | (rw [if_pos (show k_svP (k_svL T S r I0) T S r from And.intro c36 c47)]; first | rw [if_neg c67] | (rw [if_pos c67]; first | rw [if_pos c79] | rw [if_neg c79])))
        · refine w_goto (pc' := 121) rfl rfl ?_
          refine w_iinc (L' := [_, _, _, _, _]) rfl rfl rfl (am_incN 1) rfl ?_
          refine w_goto (pc' := 2) rfl rfl ?_
          exact wz_M (ih (r + 1) _ _ (by omega)) rfl (by show k_svS T S r (k_svL T S r I0) = _; unfold k_svS; first | rw [if_neg (show ¬ k_svP (k_svL T S r I0) T S r from am_na0 c36)] | rw [if_neg (show ¬ k_svP (k_svL T S r I0) T S r from am_na3 c47)] | (rw [if_pos (show k_svP (k_svL T S r I0) T S r from And.intro c36 c47)]; first | rw [if_neg c67] | (rw [if_pos c67]; first | rw [if_pos c79] | rw [if_neg c79])))
theorem d_startVoyages {k : Nat} {I : hI} {J : hJ} {R : hR} {T : Nat} (hT : T = 9 ∨ T = 36) (hD : R 84 3 = T) {S : Nat} (hS : S = 63 ∨ S = 70 ∨ S = 77) {n : Nat} (hn : n ≤ 10) (h11 : I T 11 = Int32.ofNat n) (hV : ∀ v, v < n → okn (I (T + 14) v) 5) (hk : 3 ≤ k) : ct k 20 [.ref 84, .ref S] I J R none (k_svL T S n I) J R := by
  obtain ⟨k, rfl⟩ : ∃ k', k = k' + 1 := ⟨k - 1, by omega⟩
  refine ct_of (q := am_m20) (o := 2) (rt := none) (co := am_c20) (L := [_, _, _, _, _]) rfl rfl rfl rfl rfl rfl ?_
  refine w_iconst (x := Int32.ofNat 0) rfl rfl (by decide) ?_
  refine w_istore_n (L' := [_, _, _, _, _]) rfl rfl rfl ?_
  refine l_startV hT hD hS hn h11 hV (by omega) (fun u w => ?_) n 0 _ _ (by omega)
  exact w_ret rfl rfl rfl rfl
def k_pst (I : hI) (T : Nat) (b : Int32) : Int32 := if b = Int32.ofNat 3 then Int32.ofNat 1 else if (b = 0 ∨ b = Int32.ofNat 1) ∧ ¬ Int32.ofNat 2 * I T 16 < Int32.ofNat 100 then Int32.ofNat 1 else Int32.ofNat 0
def k_db (I : hI) (T : Nat) (b : Int32) : hI := am_u (am_u (am_u (am_u (am_u (am_u (am_u (am_u (am_u I 84 4 b) 84 5 (k_pst I T b)) 84 6 (Int32.ofNat 0)) 84 7 (Int32.ofNat 0)) 84 8 (Int32.ofInt (-1))) 84 9 (Int32.ofNat 1)) 84 10 (Int32.ofNat 0)) 84 11 (Int32.ofInt (-1))) 84 12 (Int32.ofNat 0)
theorem d_dbegin {k : Nat} {I : hI} {J : hJ} {R : hR} {T : Nat} (hT : T = 9 ∨ T = 36) {b : Int32} (hk : 1 ≤ k) : ct k 13 [.ref 84, .ref T, .int b] I J R none (k_db I T b) J (am_u R 84 3 T) := by
  obtain ⟨k, rfl⟩ : ∃ k', k = k' + 1 := ⟨k - 1, by omega⟩
  refine ct_of (q := am_m13) (o := 2) (rt := none) (co := am_c13) (L := [_, _, _, _]) rfl rfl rfl rfl rfl rfl ?_
  refine w_aload_n rfl rfl rfl ?_
  refine w_aload_n rfl rfl rfl ?_
  refine w_pfR rfl rfl rfl sp84 rfl rfl rfl ?_
  refine w_aload_n rfl rfl rfl ?_
  refine w_iload_n rfl rfl rfl ?_
  refine w_pf rfl rfl rfl sp84 rfl rfl rfl ?_
  refine w_iload_n rfl rfl rfl ?_
  refine w_if_eq (t := 19) (f := 14) rfl rfl rfl (fun c11 => ?_) (fun c11 => ?_)
  · refine w_iconst (x := Int32.ofNat 1) rfl rfl (by decide) ?_
    refine w_goto (pc' := 24) rfl rfl ?_
    refine w_istore_n (L' := [_, _, _, _]) rfl rfl rfl ?_
    refine w_aload_n rfl rfl rfl ?_
    refine w_iload_n rfl rfl rfl ?_
    refine w_iconst (x := Int32.ofNat 3) rfl rfl (by decide) ?_
    refine w_ic_eq (t := 46) (f := 31) rfl rfl rfl (fun c28 => ?_) (fun c28 => ?_)
    · refine w_iconst (x := Int32.ofNat 1) rfl rfl (by decide) ?_
      refine w_goto (pc' := 51) rfl rfl ?_
      refine w_pf rfl rfl rfl sp84 rfl rfl rfl ?_
      refine w_aload_n rfl rfl rfl ?_
      refine w_iconst (x := Int32.ofNat 0) rfl rfl (by decide) ?_
      refine w_pf rfl rfl rfl sp84 rfl rfl rfl ?_
      refine w_aload_n rfl rfl rfl ?_
      refine w_iconst (x := Int32.ofNat 0) rfl rfl (by decide) ?_
      refine w_pf rfl rfl rfl sp84 rfl rfl rfl ?_
      refine w_aload_n rfl rfl rfl ?_
      refine w_iconst (x := Int32.ofInt (-1)) rfl rfl (by decide) ?_
      refine w_pf rfl rfl rfl sp84 rfl rfl rfl ?_
      refine w_aload_n rfl rfl rfl ?_
      refine w_iconst (x := Int32.ofNat 1) rfl rfl (by decide) ?_
      refine w_pf rfl rfl rfl sp84 rfl rfl rfl ?_
      refine w_aload_n rfl rfl rfl ?_
      refine w_iconst (x := Int32.ofNat 0) rfl rfl (by decide) ?_
      refine w_pf rfl rfl rfl sp84 rfl rfl rfl ?_
      refine w_aload_n rfl rfl rfl ?_
      refine w_iconst (x := Int32.ofInt (-1)) rfl rfl (by decide) ?_
      refine w_pf rfl rfl rfl sp84 rfl rfl rfl ?_
      refine w_aload_n rfl rfl rfl ?_
      refine w_iconst (x := Int32.ofNat 0) rfl rfl (by decide) ?_
      refine w_pf rfl rfl rfl sp84 rfl rfl rfl ?_
      exact w_ret rfl (by first | exact absurd (c11.symm.trans c28) (by decide) | exact absurd (c16.symm.trans c28) (by decide) | (simp +decide only [k_db, k_pst, *, ite_true, ite_false, and_self, and_true, true_and, and_false, false_and, or_true, true_or, or_false, false_or, not_true, not_false_iff] <;> rfl)) rfl rfl
    · refine w_iload_n rfl rfl rfl ?_
      refine w_if_eq (t := 50) (f := 35) rfl rfl rfl (fun c32 => absurd c32 (by decide)) (fun c32 => ?_)
      clear c32
      refine w_iconst (x := Int32.ofNat 2) rfl rfl (by decide) ?_
      refine w_aload_n rfl rfl rfl ?_
      refine w_gf (t := .int 0) (v := .int _) rfl rfl rfl (shT_0 hT) rfl (congrArg Value.int (congrFun (am_u_ne (by omega)) _)) rfl ?_
      refine w_imul rfl rfl ?_
      refine w_bipush (x := Int32.ofNat 100) rfl rfl (by decide) ?_
      refine w_ic_lt (t := 50) (f := 46) rfl rfl rfl (fun c43 => ?_) (fun c43 => ?_)
      · refine w_iconst (x := Int32.ofNat 0) rfl rfl (by decide) ?_
        refine w_pf rfl rfl rfl sp84 rfl rfl rfl ?_
        refine w_aload_n rfl rfl rfl ?_
        refine w_iconst (x := Int32.ofNat 0) rfl rfl (by decide) ?_
        refine w_pf rfl rfl rfl sp84 rfl rfl rfl ?_
        refine w_aload_n rfl rfl rfl ?_
        refine w_iconst (x := Int32.ofNat 0) rfl rfl (by decide) ?_
        refine w_pf rfl rfl rfl sp84 rfl rfl rfl ?_
        refine w_aload_n rfl rfl rfl ?_
        refine w_iconst (x := Int32.ofInt (-1)) rfl rfl (by decide) ?_
        refine w_pf rfl rfl rfl sp84 rfl rfl rfl ?_
        refine w_aload_n rfl rfl rfl ?_
        refine w_iconst (x := Int32.ofNat 1) rfl rfl (by decide) ?_
        refine w_pf rfl rfl rfl sp84 rfl rfl rfl ?_
        refine w_aload_n rfl rfl rfl ?_
        refine w_iconst (x := Int32.ofNat 0) rfl rfl (by decide) ?_
        refine w_pf rfl rfl rfl sp84 rfl rfl rfl ?_
        refine w_aload_n rfl rfl rfl ?_
        refine w_iconst (x := Int32.ofInt (-1)) rfl rfl (by decide) ?_
        refine w_pf rfl rfl rfl sp84 rfl rfl rfl ?_
        refine w_aload_n rfl rfl rfl ?_
        refine w_iconst (x := Int32.ofNat 0) rfl rfl (by decide) ?_
        refine w_pf rfl rfl rfl sp84 rfl rfl rfl ?_
        exact w_ret rfl (by first | exact absurd (c11.symm.trans c28) (by decide) | exact absurd (c16.symm.trans c28) (by decide) | (simp +decide only [k_db, k_pst, *, ite_true, ite_false, and_self, and_true, true_and, and_false, false_and, or_true, true_or, or_false, false_or, not_true, not_false_iff] <;> rfl)) rfl rfl
      · refine w_iconst (x := Int32.ofNat 1) rfl rfl (by decide) ?_
        refine w_goto (pc' := 51) rfl rfl ?_
        refine w_pf rfl rfl rfl sp84 rfl rfl rfl ?_
        refine w_aload_n rfl rfl rfl ?_
        refine w_iconst (x := Int32.ofNat 0) rfl rfl (by decide) ?_
        refine w_pf rfl rfl rfl sp84 rfl rfl rfl ?_
        refine w_aload_n rfl rfl rfl ?_
        refine w_iconst (x := Int32.ofNat 0) rfl rfl (by decide) ?_
        refine w_pf rfl rfl rfl sp84 rfl rfl rfl ?_
        refine w_aload_n rfl rfl rfl ?_
        refine w_iconst (x := Int32.ofInt (-1)) rfl rfl (by decide) ?_
        refine w_pf rfl rfl rfl sp84 rfl rfl rfl ?_
        refine w_aload_n rfl rfl rfl ?_
        refine w_iconst (x := Int32.ofNat 1) rfl rfl (by decide) ?_
        refine w_pf rfl rfl rfl sp84 rfl rfl rfl ?_
        refine w_aload_n rfl rfl rfl ?_
        refine w_iconst (x := Int32.ofNat 0) rfl rfl (by decide) ?_
        refine w_pf rfl rfl rfl sp84 rfl rfl rfl ?_
        refine w_aload_n rfl rfl rfl ?_
        refine w_iconst (x := Int32.ofInt (-1)) rfl rfl (by decide) ?_
        refine w_pf rfl rfl rfl sp84 rfl rfl rfl ?_
        refine w_aload_n rfl rfl rfl ?_
        refine w_iconst (x := Int32.ofNat 0) rfl rfl (by decide) ?_
        refine w_pf rfl rfl rfl sp84 rfl rfl rfl ?_
        exact w_ret rfl (by first | exact absurd (c11.symm.trans c28) (by decide) | exact absurd (c16.symm.trans c28) (by decide) | (simp +decide only [k_db, k_pst, *, ite_true, ite_false, and_self, and_true, true_and, and_false, false_and, or_true, true_or, or_false, false_or, not_true, not_false_iff] <;> rfl)) rfl rfl
  · refine w_iload_n rfl rfl rfl ?_
    refine w_iconst (x := Int32.ofNat 1) rfl rfl (by decide) ?_
    refine w_ic_ne (t := 23) (f := 19) rfl rfl rfl (fun c16 => ?_) (fun c16 => ?_)
    · refine w_iconst (x := Int32.ofNat 0) rfl rfl (by decide) ?_
      refine w_istore_n (L' := [_, _, _, _]) rfl rfl rfl ?_
      refine w_aload_n rfl rfl rfl ?_
      refine w_iload_n rfl rfl rfl ?_
      refine w_iconst (x := Int32.ofNat 3) rfl rfl (by decide) ?_
      refine w_ic_eq (t := 46) (f := 31) rfl rfl rfl (fun c28 => ?_) (fun c28 => ?_)
      · refine w_iconst (x := Int32.ofNat 1) rfl rfl (by decide) ?_
        refine w_goto (pc' := 51) rfl rfl ?_
        refine w_pf rfl rfl rfl sp84 rfl rfl rfl ?_
        refine w_aload_n rfl rfl rfl ?_
        refine w_iconst (x := Int32.ofNat 0) rfl rfl (by decide) ?_
        refine w_pf rfl rfl rfl sp84 rfl rfl rfl ?_
        refine w_aload_n rfl rfl rfl ?_
        refine w_iconst (x := Int32.ofNat 0) rfl rfl (by decide) ?_
        refine w_pf rfl rfl rfl sp84 rfl rfl rfl ?_
        refine w_aload_n rfl rfl rfl ?_
        refine w_iconst (x := Int32.ofInt (-1)) rfl rfl (by decide) ?_
        refine w_pf rfl rfl rfl sp84 rfl rfl rfl ?_
        refine w_aload_n rfl rfl rfl ?_
        refine w_iconst (x := Int32.ofNat 1) rfl rfl (by decide) ?_
        refine w_pf rfl rfl rfl sp84 rfl rfl rfl ?_
        refine w_aload_n rfl rfl rfl ?_
        refine w_iconst (x := Int32.ofNat 0) rfl rfl (by decide) ?_
        refine w_pf rfl rfl rfl sp84 rfl rfl rfl ?_
        refine w_aload_n rfl rfl rfl ?_
        refine w_iconst (x := Int32.ofInt (-1)) rfl rfl (by decide) ?_
        refine w_pf rfl rfl rfl sp84 rfl rfl rfl ?_
        refine w_aload_n rfl rfl rfl ?_
        refine w_iconst (x := Int32.ofNat 0) rfl rfl (by decide) ?_
        refine w_pf rfl rfl rfl sp84 rfl rfl rfl ?_
        exact w_ret rfl (by first | exact absurd (c11.symm.trans c28) (by decide) | exact absurd (c16.symm.trans c28) (by decide) | (simp +decide only [k_db, k_pst, *, ite_true, ite_false, and_self, and_true, true_and, and_false, false_and, or_true, true_or, or_false, false_or, not_true, not_false_iff] <;> rfl)) rfl rfl
      · refine w_iload_n rfl rfl rfl ?_
        refine w_if_eq (t := 50) (f := 35) rfl rfl rfl (fun c32 => ?_) (fun c32 => absurd c32 (by decide))
        clear c32
        refine w_iconst (x := Int32.ofNat 0) rfl rfl (by decide) ?_
        refine w_pf rfl rfl rfl sp84 rfl rfl rfl ?_
        refine w_aload_n rfl rfl rfl ?_
        refine w_iconst (x := Int32.ofNat 0) rfl rfl (by decide) ?_
        refine w_pf rfl rfl rfl sp84 rfl rfl rfl ?_
        refine w_aload_n rfl rfl rfl ?_
        refine w_iconst (x := Int32.ofNat 0) rfl rfl (by decide) ?_
        refine w_pf rfl rfl rfl sp84 rfl rfl rfl ?_
        refine w_aload_n rfl rfl rfl ?_
        refine w_iconst (x := Int32.ofInt (-1)) rfl rfl (by decide) ?_
        refine w_pf rfl rfl rfl sp84 rfl rfl rfl ?_
        refine w_aload_n rfl rfl rfl ?_
        refine w_iconst (x := Int32.ofNat 1) rfl rfl (by decide) ?_
        refine w_pf rfl rfl rfl sp84 rfl rfl rfl ?_
        refine w_aload_n rfl rfl rfl ?_
        refine w_iconst (x := Int32.ofNat 0) rfl rfl (by decide) ?_
        refine w_pf rfl rfl rfl sp84 rfl rfl rfl ?_
        refine w_aload_n rfl rfl rfl ?_
        refine w_iconst (x := Int32.ofInt (-1)) rfl rfl (by decide) ?_
        refine w_pf rfl rfl rfl sp84 rfl rfl rfl ?_
        refine w_aload_n rfl rfl rfl ?_
        refine w_iconst (x := Int32.ofNat 0) rfl rfl (by decide) ?_
        refine w_pf rfl rfl rfl sp84 rfl rfl rfl ?_
        exact w_ret rfl (by first | exact absurd (c11.symm.trans c28) (by decide) | exact absurd (c16.symm.trans c28) (by decide) | (simp +decide only [k_db, k_pst, *, ite_true, ite_false, and_self, and_true, true_and, and_false, false_and, or_true, true_or, or_false, false_or, not_true, not_false_iff] <;> rfl)) rfl rfl
    · refine w_iconst (x := Int32.ofNat 1) rfl rfl (by decide) ?_
      refine w_goto (pc' := 24) rfl rfl ?_
      refine w_istore_n (L' := [_, _, _, _]) rfl rfl rfl ?_
      refine w_aload_n rfl rfl rfl ?_
      refine w_iload_n rfl rfl rfl ?_
      refine w_iconst (x := Int32.ofNat 3) rfl rfl (by decide) ?_
      refine w_ic_eq (t := 46) (f := 31) rfl rfl rfl (fun c28 => ?_) (fun c28 => ?_)
      · refine w_iconst (x := Int32.ofNat 1) rfl rfl (by decide) ?_
        refine w_goto (pc' := 51) rfl rfl ?_
        refine w_pf rfl rfl rfl sp84 rfl rfl rfl ?_
        refine w_aload_n rfl rfl rfl ?_
        refine w_iconst (x := Int32.ofNat 0) rfl rfl (by decide) ?_
        refine w_pf rfl rfl rfl sp84 rfl rfl rfl ?_
        refine w_aload_n rfl rfl rfl ?_
        refine w_iconst (x := Int32.ofNat 0) rfl rfl (by decide) ?_
        refine w_pf rfl rfl rfl sp84 rfl rfl rfl ?_
        refine w_aload_n rfl rfl rfl ?_
        refine w_iconst (x := Int32.ofInt (-1)) rfl rfl (by decide) ?_
        refine w_pf rfl rfl rfl sp84 rfl rfl rfl ?_
        refine w_aload_n rfl rfl rfl ?_
        refine w_iconst (x := Int32.ofNat 1) rfl rfl (by decide) ?_
        refine w_pf rfl rfl rfl sp84 rfl rfl rfl ?_
        refine w_aload_n rfl rfl rfl ?_
        refine w_iconst (x := Int32.ofNat 0) rfl rfl (by decide) ?_
        refine w_pf rfl rfl rfl sp84 rfl rfl rfl ?_
        refine w_aload_n rfl rfl rfl ?_
        refine w_iconst (x := Int32.ofInt (-1)) rfl rfl (by decide) ?_
        refine w_pf rfl rfl rfl sp84 rfl rfl rfl ?_
        refine w_aload_n rfl rfl rfl ?_
        refine w_iconst (x := Int32.ofNat 0) rfl rfl (by decide) ?_
        refine w_pf rfl rfl rfl sp84 rfl rfl rfl ?_
        exact w_ret rfl (by first | exact absurd (c11.symm.trans c28) (by decide) | exact absurd (c16.symm.trans c28) (by decide) | (simp +decide only [k_db, k_pst, *, ite_true, ite_false, and_self, and_true, true_and, and_false, false_and, or_true, true_or, or_false, false_or, not_true, not_false_iff] <;> rfl)) rfl rfl
      · refine w_iload_n rfl rfl rfl ?_
        refine w_if_eq (t := 50) (f := 35) rfl rfl rfl (fun c32 => absurd c32 (by decide)) (fun c32 => ?_)
        clear c32
        refine w_iconst (x := Int32.ofNat 2) rfl rfl (by decide) ?_
        refine w_aload_n rfl rfl rfl ?_
        refine w_gf (t := .int 0) (v := .int _) rfl rfl rfl (shT_0 hT) rfl (congrArg Value.int (congrFun (am_u_ne (by omega)) _)) rfl ?_
        refine w_imul rfl rfl ?_
        refine w_bipush (x := Int32.ofNat 100) rfl rfl (by decide) ?_
        refine w_ic_lt (t := 50) (f := 46) rfl rfl rfl (fun c43 => ?_) (fun c43 => ?_)
        · refine w_iconst (x := Int32.ofNat 0) rfl rfl (by decide) ?_
          refine w_pf rfl rfl rfl sp84 rfl rfl rfl ?_
          refine w_aload_n rfl rfl rfl ?_
          refine w_iconst (x := Int32.ofNat 0) rfl rfl (by decide) ?_
          refine w_pf rfl rfl rfl sp84 rfl rfl rfl ?_
          refine w_aload_n rfl rfl rfl ?_
          refine w_iconst (x := Int32.ofNat 0) rfl rfl (by decide) ?_
          refine w_pf rfl rfl rfl sp84 rfl rfl rfl ?_
          refine w_aload_n rfl rfl rfl ?_
          refine w_iconst (x := Int32.ofInt (-1)) rfl rfl (by decide) ?_
          refine w_pf rfl rfl rfl sp84 rfl rfl rfl ?_
          refine w_aload_n rfl rfl rfl ?_
          refine w_iconst (x := Int32.ofNat 1) rfl rfl (by decide) ?_
          refine w_pf rfl rfl rfl sp84 rfl rfl rfl ?_
          refine w_aload_n rfl rfl rfl ?_
          refine w_iconst (x := Int32.ofNat 0) rfl rfl (by decide) ?_
          refine w_pf rfl rfl rfl sp84 rfl rfl rfl ?_
          refine w_aload_n rfl rfl rfl ?_
          refine w_iconst (x := Int32.ofInt (-1)) rfl rfl (by decide) ?_
          refine w_pf rfl rfl rfl sp84 rfl rfl rfl ?_
          refine w_aload_n rfl rfl rfl ?_
          refine w_iconst (x := Int32.ofNat 0) rfl rfl (by decide) ?_
          refine w_pf rfl rfl rfl sp84 rfl rfl rfl ?_
          exact w_ret rfl (by first | exact absurd (c11.symm.trans c28) (by decide) | exact absurd (c16.symm.trans c28) (by decide) | (simp +decide only [k_db, k_pst, *, ite_true, ite_false, and_self, and_true, true_and, and_false, false_and, or_true, true_or, or_false, false_or, not_true, not_false_iff] <;> rfl)) rfl rfl
        · refine w_iconst (x := Int32.ofNat 1) rfl rfl (by decide) ?_
          refine w_goto (pc' := 51) rfl rfl ?_
          refine w_pf rfl rfl rfl sp84 rfl rfl rfl ?_
          refine w_aload_n rfl rfl rfl ?_
          refine w_iconst (x := Int32.ofNat 0) rfl rfl (by decide) ?_
          refine w_pf rfl rfl rfl sp84 rfl rfl rfl ?_
          refine w_aload_n rfl rfl rfl ?_
          refine w_iconst (x := Int32.ofNat 0) rfl rfl (by decide) ?_
          refine w_pf rfl rfl rfl sp84 rfl rfl rfl ?_
          refine w_aload_n rfl rfl rfl ?_
          refine w_iconst (x := Int32.ofInt (-1)) rfl rfl (by decide) ?_
          refine w_pf rfl rfl rfl sp84 rfl rfl rfl ?_
          refine w_aload_n rfl rfl rfl ?_
          refine w_iconst (x := Int32.ofNat 1) rfl rfl (by decide) ?_
          refine w_pf rfl rfl rfl sp84 rfl rfl rfl ?_
          refine w_aload_n rfl rfl rfl ?_
          refine w_iconst (x := Int32.ofNat 0) rfl rfl (by decide) ?_
          refine w_pf rfl rfl rfl sp84 rfl rfl rfl ?_
          refine w_aload_n rfl rfl rfl ?_
          refine w_iconst (x := Int32.ofInt (-1)) rfl rfl (by decide) ?_
          refine w_pf rfl rfl rfl sp84 rfl rfl rfl ?_
          refine w_aload_n rfl rfl rfl ?_
          refine w_iconst (x := Int32.ofNat 0) rfl rfl (by decide) ?_
          refine w_pf rfl rfl rfl sp84 rfl rfl rfl ?_
          exact w_ret rfl (by first | exact absurd (c11.symm.trans c28) (by decide) | exact absurd (c16.symm.trans c28) (by decide) | (simp +decide only [k_db, k_pst, *, ite_true, ite_false, and_self, and_true, true_and, and_false, false_and, or_true, true_or, or_false, false_or, not_true, not_false_iff] <;> rfl)) rfl rfl
