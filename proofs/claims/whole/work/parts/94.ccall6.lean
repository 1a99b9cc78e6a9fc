/-! The class: calls (six): rests, rest, calm, allot; what days leave as it is. -/
/-- what a day of S leaves as it is -/
def sF (S : Nat) (I I' : hI) : Prop := ∀ a i, (a < S ∨ S + 6 < a) → a ≠ 87 → (a ≠ 84 ∨ i ≠ 7) → I' a i = I a i
theorem sF_rf (S : Nat) (I : hI) : sF S I I := fun _ _ _ _ _ => rfl
theorem sF_tr {S : Nat} {I I1 I2 : hI} (h : sF S I I1) (g : sF S I1 I2) : sF S I I2 := fun a i x y z => (g a i x y z).trans (h a i x y z)
theorem sF_u {S : Nat} {I : hI} {a k : Nat} {x : Int32} (h : S ≤ a ∧ a ≤ S + 6) : sF S I (am_u I a k x) := fun b i h1 _ _ => am_u_na (by omega)
theorem sF_of {S : Nat} {I I' : hI} (h : ∀ a, (a < S ∨ S + 6 < a) → a ≠ 87 → I' a = I a) : sF S I I' := fun a i h1 h2 _ => congrFun (h a h1 h2) i
theorem sF_p1 {T S m n : Nat} {p : hI × hJ} : sF S p.1 (k_p1 T S m n p).1 := by
  induction n with
  | zero => exact sF_rf _ _
  | succ n ih =>
    refine sF_tr ih ?_
    show sF S _ (k_p1S T S m n (k_p1 T S m n p)).1
    unfold k_p1S
    split
    · exact sF_tr (sF_u (by omega)) (sF_u (by omega))
    · exact sF_rf _ _
theorem sF_puI {I : hI} {T S x n : Nat} : sF S I (k_puI I T S x n) := by
  unfold k_puI
  split
  · exact sF_of fun a h1 h2 => k_mI_ne h2
  · exact sF_rf _ _
theorem sF_wr {I : hI} {J : hJ} {T S x n n1 : Nat} {z : Int32} : sF S I (k_wr I J T S x n n1 z).1 := by
  unfold k_wr
  split
  · exact sF_rf _ _
  · exact sF_of fun a h1 h2 => k_wrL_ne (p := (I, J)) (by omega)
theorem sF_lose {I : hI} {S x n : Nat} : sF S I (k_lose I S x n) := sF_tr (sF_tr (sF_u (by omega)) (sF_u (by omega))) (sF_of fun a h1 h2 => k_loL_ne (by omega))
theorem sF_spend {I : hI} {S x : Nat} : sF S I (k_spend I S x) := by
  unfold k_spend
  split
  · exact sF_tr (sF_tr (sF_u (by omega)) (sF_u (by omega))) (sF_u (by omega))
  · exact sF_u (by omega)
theorem sF_p2 {T S n : Nat} {N : Nat → Nat} {z : Int32} {p : hI × hJ} : sF S p.1 (k_p2 T S N z n p).1 := by
  induction n with
  | zero => exact sF_rf _ _
  | succ n ih =>
    refine sF_tr ih ?_
    show sF S _ (k_p2S T S N z n (k_p2 T S N z n p)).1
    unfold k_p2S
    (repeat' split) <;> try dsimp only
    · exact sF_tr sF_puI sF_lose
    · exact sF_tr (sF_tr sF_puI sF_wr) sF_spend
    · exact sF_rf _ _
    · exact sF_rf _ _
theorem sF_sv {T S n : Nat} {I : hI} : sF S I (k_svL T S n I) := fun a i h1 h2 h3 => k_svL_ne (by omega) (by omega) (by omega)
theorem sF_day {T S : Nat} {N : Nat → Nat} {p : hI × hJ} : sF S p.1 (k_day T S N p).1 := sF_tr (sF_tr (sF_tr sF_p1 sF_sv) sF_p2) (sF_u (by omega))
theorem sF_days {T S : Nat} {N : Nat → Nat} {n : Nat} {p : hI × hJ} : sF S p.1 (k_days T S N n p).1 := by
  induction n with
  | zero => exact sF_rf _ _
  | succ n ih => exact sF_tr ih sF_day
theorem k_be2_ne {I : hI} {S n a : Nat} (h : a ≠ S + 4 ∧ a ≠ S + 5 ∧ a ≠ S + 6) : k_be2 I S n a = I a := by
  induction n with
  | zero => rfl
  | succ n ih => exact (am_u_ne h.2.2).trans ((am_u_ne h.2.1).trans ((am_u_ne h.1).trans ih))
theorem sF_begin {I : hI} {S T m : Nat} : sF S I (k_begin I S T m) := sF_of fun a h1 _ => (k_be2_ne (by omega)).trans ((k_be1_ne (by omega)).trans ((am_u_ne (by omega)).trans (am_u_ne (by omega))))
theorem sF_copy {I : hI} {S F : Nat} : sF S I (k_copy I S F) := by
  have h : ∀ {I : hI} {a0 sp j dp n : Nat}, j < 7 → sF S I (am_cq I a0 sp (S + j) dp n) := fun {I a0 sp j dp n} hj => sF_of fun a h1 _ => am_cq_ne (by omega)
  exact sF_tr (sF_tr (sF_tr (sF_tr (sF_tr (sF_tr (sF_tr (sF_u (by omega)) (sF_u (by omega))) (h (by omega))) (h (by omega))) (h (by omega))) (h (by omega))) (h (by omega))) (h (by omega))
theorem cF_sF {S : Nat} {I I' : hI} (hS : S = 63 ∨ S = 70 ∨ S = 77) (h : sF S I I') : cF I I' := fun a i h1 h2 => h a i (by omega) (by omega) (by omega)
def k_hg (I : hI) (T a c : Nat) (x y : Int32) : Int32 := if x = 0 ∧ y = 0 then Int32.ofNat 9 - (if 0 ≤ I (T + 3) a - I (T + 3) c then I (T + 3) a - I (T + 3) c else 0 - (I (T + 3) a - I (T + 3) c)) else if x = 0 then I (T + 4) a else if y = 0 then I (T + 4) c + Int32.ofNat 1 else I (T + 4) a / Int32.ofNat 2
theorem k_hg1 {I : hI} {T a c : Nat} {x y : Int32} (h : x = 0) (g : y = 0) : k_hg I T a c x y = Int32.ofNat 9 - (if 0 ≤ I (T + 3) a - I (T + 3) c then I (T + 3) a - I (T + 3) c else 0 - (I (T + 3) a - I (T + 3) c)) := if_pos ⟨h, g⟩
theorem k_hg2 {I : hI} {T a c : Nat} {x y : Int32} (h : x = 0) (g : ¬ y = 0) : k_hg I T a c x y = I (T + 4) a := (if_neg (fun z => g z.2)).trans (if_pos h)
theorem k_hg3 {I : hI} {T a c : Nat} {x y : Int32} (h : ¬ x = 0) (g : y = 0) : k_hg I T a c x y = I (T + 4) c + Int32.ofNat 1 := (if_neg (fun z => h z.1)).trans ((if_neg h).trans (if_pos g))
theorem k_hg4 {I : hI} {T a c : Nat} {x y : Int32} (h : ¬ x = 0) (g : ¬ y = 0) : k_hg I T a c x y = I (T + 4) a / Int32.ofNat 2 := (if_neg (fun z => h z.1)).trans ((if_neg h).trans (if_neg g))
theorem d_haulGain {k : Nat} {I : hI} {J : hJ} {R : hR} {T : Nat} (hT : T = 9 ∨ T = 36) (h0 : R 0 3 = T) {a c : Nat} (ha : a < 6) (hc : c < 6) {x y : Int32} (hk : 1 ≤ k) : ct k 144 [.ref 0, .int (Int32.ofNat a), .int (Int32.ofNat c), .int x, .int y] I J R (some (.int (k_hg I T a c x y))) I J R := by
  obtain ⟨k, rfl⟩ : ∃ k', k = k' + 1 := ⟨k - 1, by omega⟩
  refine ct_of (q := am_m144) (o := 11) (rt := (some .int)) (co := am_c144) (L := [_, _, _, _, _]) rfl rfl rfl rfl rfl rfl ?_
  refine w_iload_n rfl rfl rfl ?_
  refine w_if_ne (t := 35) (f := 4) rfl rfl rfl (fun c1 => ?_) (fun c1 => ?_)
  · refine w_iload_n rfl rfl rfl ?_
    refine w_if_ne (t := 49) (f := 39) rfl rfl rfl (fun c36 => ?_) (fun c36 => ?_)
    · refine w_iload rfl rfl rfl ?_
      refine w_if_ne (t := 68) (f := 54) rfl rfl rfl (fun c51 => ?_) (fun c51 => ?_)
      · refine w_aload_n rfl rfl rfl ?_
        refine w_gf (t := .retAddr 0) (v := .ref (T)) rfl rfl rfl sp0 rfl (congrArg Value.ref (by first | exact h0 | exact (am_u_na (by decide)).trans h0)) rfl ?_
        refine w_gf (t := .ref (T + 4)) (v := .ref (T + 4)) rfl rfl rfl (shT_0 hT) rfl rfl rfl ?_
        refine w_iload_n rfl rfl rfl ?_
        refine w_iaload rfl rfl (shT_4 hT) rfl ⟨by omega, by omega⟩ rfl ?_
        refine w_iconst (x := Int32.ofNat 2) rfl rfl (by decide) ?_
        refine w_idiv rfl rfl (by decide) ?_
        exact w_iret rfl (by first | exact (k_hg1 c1 c6).symm | exact (k_hg2 c36 c6).symm | exact (k_hg3 c36 c51).symm | exact (k_hg4 c36 c51).symm | exact absurd c1 c36 | exact absurd c36 c1) rfl rfl rfl
      · refine w_aload_n rfl rfl rfl ?_
        refine w_gf (t := .retAddr 0) (v := .ref (T)) rfl rfl rfl sp0 rfl (congrArg Value.ref (by first | exact h0 | exact (am_u_na (by decide)).trans h0)) rfl ?_
        refine w_gf (t := .ref (T + 4)) (v := .ref (T + 4)) rfl rfl rfl (shT_0 hT) rfl rfl rfl ?_
        refine w_iload_n rfl rfl rfl ?_
        refine w_iaload rfl rfl (shT_4 hT) rfl ⟨by omega, by omega⟩ rfl ?_
        refine w_iconst (x := Int32.ofNat 1) rfl rfl (by decide) ?_
        refine w_iadd rfl rfl ?_
        refine w_goto (pc' := 79) rfl rfl ?_
        exact w_iret rfl (by first | exact (k_hg1 c1 c6).symm | exact (k_hg2 c36 c6).symm | exact (k_hg3 c36 c51).symm | exact (k_hg4 c36 c51).symm | exact absurd c1 c36 | exact absurd c36 c1) rfl rfl rfl
    · refine w_aload_n rfl rfl rfl ?_
      refine w_gf (t := .retAddr 0) (v := .ref (T)) rfl rfl rfl sp0 rfl (congrArg Value.ref (by first | exact h0 | exact (am_u_na (by decide)).trans h0)) rfl ?_
      refine w_gf (t := .ref (T + 4)) (v := .ref (T + 4)) rfl rfl rfl (shT_0 hT) rfl rfl rfl ?_
      refine w_iload_n rfl rfl rfl ?_
      refine w_iaload rfl rfl (shT_4 hT) rfl ⟨by omega, by omega⟩ rfl ?_
      exact w_iret rfl (by first | exact (k_hg1 c1 c6).symm | exact (k_hg2 c36 c6).symm | exact (k_hg3 c36 c51).symm | exact (k_hg4 c36 c51).symm | exact absurd c1 c36 | exact absurd c36 c1) rfl rfl rfl
  · refine w_iload rfl rfl rfl ?_
    refine w_if_ne (t := 35) (f := 9) rfl rfl rfl (fun c6 => ?_) (fun c6 => ?_)
    · refine w_iload_n rfl rfl rfl ?_
      refine w_if_ne (t := 49) (f := 39) rfl rfl rfl (fun c36 => ?_) (fun c36 => ?_)
      · refine w_iload rfl rfl rfl ?_
        refine w_if_ne (t := 68) (f := 54) rfl rfl rfl (fun c51 => ?_) (fun c51 => ?_)
        · refine w_aload_n rfl rfl rfl ?_
          refine w_gf (t := .retAddr 0) (v := .ref (T)) rfl rfl rfl sp0 rfl (congrArg Value.ref (by first | exact h0 | exact (am_u_na (by decide)).trans h0)) rfl ?_
          refine w_gf (t := .ref (T + 4)) (v := .ref (T + 4)) rfl rfl rfl (shT_0 hT) rfl rfl rfl ?_
          refine w_iload_n rfl rfl rfl ?_
          refine w_iaload rfl rfl (shT_4 hT) rfl ⟨by omega, by omega⟩ rfl ?_
          refine w_iconst (x := Int32.ofNat 2) rfl rfl (by decide) ?_
          refine w_idiv rfl rfl (by decide) ?_
          exact w_iret rfl (by first | exact (k_hg1 c1 c6).symm | exact (k_hg2 c36 c6).symm | exact (k_hg3 c36 c51).symm | exact (k_hg4 c36 c51).symm | exact absurd c1 c36 | exact absurd c36 c1) rfl rfl rfl
        · refine w_aload_n rfl rfl rfl ?_
          refine w_gf (t := .retAddr 0) (v := .ref (T)) rfl rfl rfl sp0 rfl (congrArg Value.ref (by first | exact h0 | exact (am_u_na (by decide)).trans h0)) rfl ?_
          refine w_gf (t := .ref (T + 4)) (v := .ref (T + 4)) rfl rfl rfl (shT_0 hT) rfl rfl rfl ?_
          refine w_iload_n rfl rfl rfl ?_
          refine w_iaload rfl rfl (shT_4 hT) rfl ⟨by omega, by omega⟩ rfl ?_
          refine w_iconst (x := Int32.ofNat 1) rfl rfl (by decide) ?_
          refine w_iadd rfl rfl ?_
          refine w_goto (pc' := 79) rfl rfl ?_
          exact w_iret rfl (by first | exact (k_hg1 c1 c6).symm | exact (k_hg2 c36 c6).symm | exact (k_hg3 c36 c51).symm | exact (k_hg4 c36 c51).symm | exact absurd c1 c36 | exact absurd c36 c1) rfl rfl rfl
      · refine w_aload_n rfl rfl rfl ?_
        refine w_gf (t := .retAddr 0) (v := .ref (T)) rfl rfl rfl sp0 rfl (congrArg Value.ref (by first | exact h0 | exact (am_u_na (by decide)).trans h0)) rfl ?_
        refine w_gf (t := .ref (T + 4)) (v := .ref (T + 4)) rfl rfl rfl (shT_0 hT) rfl rfl rfl ?_
        refine w_iload_n rfl rfl rfl ?_
        refine w_iaload rfl rfl (shT_4 hT) rfl ⟨by omega, by omega⟩ rfl ?_
        exact w_iret rfl (by first | exact (k_hg1 c1 c6).symm | exact (k_hg2 c36 c6).symm | exact (k_hg3 c36 c51).symm | exact (k_hg4 c36 c51).symm | exact absurd c1 c36 | exact absurd c36 c1) rfl rfl rfl
    · refine w_bipush (x := Int32.ofNat 9) rfl rfl (by decide) ?_
      refine w_aload_n rfl rfl rfl ?_
      refine w_gf (t := .retAddr 0) (v := .ref (T)) rfl rfl rfl sp0 rfl (congrArg Value.ref (by first | exact h0 | exact (am_u_na (by decide)).trans h0)) rfl ?_
      refine w_gf (t := .ref (T + 3)) (v := .ref (T + 3)) rfl rfl rfl (shT_0 hT) rfl rfl rfl ?_
      refine w_iload_n rfl rfl rfl ?_
      refine w_iaload rfl rfl (shT_3 hT) rfl ⟨by omega, by omega⟩ rfl ?_
      refine w_aload_n rfl rfl rfl ?_
      refine w_gf (t := .retAddr 0) (v := .ref (T)) rfl rfl rfl sp0 rfl (congrArg Value.ref (by first | exact h0 | exact (am_u_na (by decide)).trans h0)) rfl ?_
      refine w_gf (t := .ref (T + 3)) (v := .ref (T + 3)) rfl rfl rfl (shT_0 hT) rfl rfl rfl ?_
      refine w_iload_n rfl rfl rfl ?_
      refine w_iaload rfl rfl (shT_3 hT) rfl ⟨by omega, by omega⟩ rfl ?_
      refine w_isub rfl rfl ?_
      refine w_abs rfl rfl rfl rfl ?_
      refine w_isub rfl rfl ?_
      exact w_iret rfl (by first | exact (k_hg1 c1 c6).symm | exact (k_hg2 c36 c6).symm | exact (k_hg3 c36 c51).symm | exact (k_hg4 c36 c51).symm | exact absurd c1 c36 | exact absurd c36 c1) rfl rfl rfl
abbrev k_irP (I : hI) (T a c : Nat) (x y : Int32) : Prop := ¬ k_hg I T a c x y < k_hg I T a c (Int32.ofNat 1 - x) y ∧ ¬ k_hg I T c a y x < k_hg I T c a (Int32.ofNat 1 - y) x
theorem d_isRest {k : Nat} {I : hI} {J : hJ} {R : hR} {T : Nat} (hT : T = 9 ∨ T = 36) (h0 : R 0 3 = T) {a c : Nat} (ha : a < 6) (hc : c < 6) {x y : Int32} (hk : 2 ≤ k) : ct k 143 [.ref 0, .int (Int32.ofNat a), .int (Int32.ofNat c), .int x, .int y] I J R (some (.int (if k_irP I T a c x y then 1 else 0))) I J R := by
  obtain ⟨k, rfl⟩ : ∃ k', k = k' + 1 := ⟨k - 1, by omega⟩
  refine ct_of (q := am_m143) (o := 11) (rt := (some .boolean)) (co := am_c143) (L := [_, _, _, _, _]) rfl rfl rfl rfl rfl rfl ?_
  refine w_aload_n rfl rfl rfl ?_
  refine w_iload_n rfl rfl rfl ?_
  refine w_iload_n rfl rfl rfl ?_
  refine w_iload_n rfl rfl rfl ?_
  refine w_iload rfl rfl rfl ?_
  refine w_cv (q := am_m144) (as := [_, _, _, _]) (rest := []) (st' := [_]) rfl rfl rfl rfl rfl rfl sp0 rfl rfl rfl rfl (d_haulGain hT h0 ha hc (by omega)) rfl rfl ?_
  refine w_aload_n rfl rfl rfl ?_
  refine w_iload_n rfl rfl rfl ?_
  refine w_iload_n rfl rfl rfl ?_
  refine w_iconst (x := Int32.ofNat 1) rfl rfl (by decide) ?_
  refine w_iload_n rfl rfl rfl ?_
  refine w_isub rfl rfl ?_
  refine w_iload rfl rfl rfl ?_
  refine w_cv (q := am_m144) (as := [_, _, _, _]) (rest := [_]) (st' := [_, _]) rfl rfl rfl rfl rfl rfl sp0 rfl rfl rfl rfl (d_haulGain hT h0 ha hc (by omega)) rfl rfl ?_
  refine w_ic_lt (t := 50) (f := 23) rfl rfl rfl (fun c20 => ?_) (fun c20 => ?_)
  · refine w_iconst (x := Int32.ofNat 0) rfl rfl (by decide) ?_
    exact w_bret rfl (by decide) (by simp only [k_irP, *, ite_true, ite_false, and_self, and_true, true_and, and_false, false_and, or_true, true_or, or_false, false_or, not_true, not_false_iff] <;> rfl) rfl rfl rfl
  · refine w_aload_n rfl rfl rfl ?_
    refine w_iload_n rfl rfl rfl ?_
    refine w_iload_n rfl rfl rfl ?_
    refine w_iload rfl rfl rfl ?_
    refine w_iload_n rfl rfl rfl ?_
    refine w_cv (q := am_m144) (as := [_, _, _, _]) (rest := []) (st' := [_]) rfl rfl rfl rfl rfl rfl sp0 rfl rfl rfl rfl (d_haulGain hT h0 hc ha (by omega)) rfl rfl ?_
    refine w_aload_n rfl rfl rfl ?_
    refine w_iload_n rfl rfl rfl ?_
    refine w_iload_n rfl rfl rfl ?_
    refine w_iconst (x := Int32.ofNat 1) rfl rfl (by decide) ?_
    refine w_iload rfl rfl rfl ?_
    refine w_isub rfl rfl ?_
    refine w_iload_n rfl rfl rfl ?_
    refine w_cv (q := am_m144) (as := [_, _, _, _]) (rest := [_]) (st' := [_, _]) rfl rfl rfl rfl rfl rfl sp0 rfl rfl rfl rfl (d_haulGain hT h0 hc ha (by omega)) rfl rfl ?_
    refine w_ic_lt (t := 50) (f := 46) rfl rfl rfl (fun c43 => ?_) (fun c43 => ?_)
    · refine w_iconst (x := Int32.ofNat 0) rfl rfl (by decide) ?_
      exact w_bret rfl (by decide) (by simp only [k_irP, *, ite_true, ite_false, and_self, and_true, true_and, and_false, false_and, or_true, true_or, or_false, false_or, not_true, not_false_iff] <;> rfl) rfl rfl rfl
    · refine w_iconst (x := Int32.ofNat 1) rfl rfl (by decide) ?_
      refine w_goto (pc' := 51) rfl rfl ?_
      exact w_bret rfl (by decide) (by simp only [k_irP, *, ite_true, ite_false, and_self, and_true, true_and, and_false, false_and, or_true, true_or, or_false, false_or, not_true, not_false_iff] <;> rfl) rfl rfl rfl
abbrev k_rsP (I : hI) (T a c g : Nat) : Prop := k_irP I T a c (Int32.ofNat g >>> (Int32.ofNat 1 &&& 31)) (Int32.ofNat g &&& Int32.ofNat 1)
def k_rs (I : hI) (T a c : Nat) (j : Nat) : Nat := s_for (fun g n => if k_rsP I T a c g then n + 1 else n) j 0
theorem k_rs_1 {I : hI} {T a c g : Nat} (h : k_rsP I T a c g) : k_rs I T a c (g + 1) = k_rs I T a c g + 1 := if_pos h
theorem k_rs_0 {I : hI} {T a c g : Nat} (h : ¬ k_rsP I T a c g) : k_rs I T a c (g + 1) = k_rs I T a c g := if_neg h
def k_rst (I : hI) (T a c : Nat) (w : Int32) : Nat → Nat → Nat → Int32
  | 0, _, _ => Int32.ofInt (-2)
  | j + 1, g, n => if k_rsP I T a c g then (if Int32.ofNat n = w then Int32.ofNat 10 * (Int32.ofNat g >>> (Int32.ofNat 1 &&& 31)) + (Int32.ofNat g &&& Int32.ofNat 1) else k_rst I T a c w j (g + 1) (n + 1)) else k_rst I T a c w j (g + 1) n
theorem k_rst_s (I : hI) (T a c : Nat) (w : Int32) (j g n : Nat) : k_rst I T a c w (j + 1) g n = if k_rsP I T a c g then (if Int32.ofNat n = w then Int32.ofNat 10 * (Int32.ofNat g >>> (Int32.ofNat 1 &&& 31)) + (Int32.ofNat g &&& Int32.ofNat 1) else k_rst I T a c w j (g + 1) (n + 1)) else k_rst I T a c w j (g + 1) n := rfl
theorem dl_rests {k : Nat} {I : hI} {J : hJ} {R : hR} {q : Option Value × am_H} {T : Nat} (hT : T = 9 ∨ T = 36) (h0 : R 0 3 = T) {a c : Nat} (ha : a < 6) (hc : c < 6) (hk : 2 ≤ k) (Z : wz k 11 (some .int) am_c141 60 [.ref 0, .int (Int32.ofNat a), .int (Int32.ofNat c), .int (Int32.ofNat (k_rs I T a c 4)), .int (Int32.ofNat 4)] [] I J R q) : ∀ (j r : Nat) , r + j = 4 → wz k 11 (some .int) am_c141 28 [.ref 0, .int (Int32.ofNat a), .int (Int32.ofNat c), .int (Int32.ofNat (k_rs I T a c r)), .int (Int32.ofNat r)] [] I J R q := by
  intro j
  induction j with
  | zero =>
    intro r e
    obtain rfl : 4 = r := by omega
    refine w_iload rfl rfl rfl ?_
    refine w_iconst (x := Int32.ofNat 4) rfl rfl (by decide) ?_
    refine w_ic_geN (t := 60) (f := 34) rfl rfl rfl (by omega) (by omega) (fun c31 => ?_) (fun c31 => absurd c31 (by omega))
    exact Z
  | succ j ih =>
    intro r e
    refine w_iload rfl rfl rfl ?_
    refine w_iconst (x := Int32.ofNat 4) rfl rfl (by decide) ?_
    refine w_ic_geN (t := 60) (f := 34) rfl rfl rfl (by omega) (by omega) (fun c31 => absurd c31 (by omega)) (fun c31 => ?_)
    refine w_aload_n rfl rfl rfl ?_
    refine w_iload_n rfl rfl rfl ?_
    refine w_iload_n rfl rfl rfl ?_
    refine w_iload rfl rfl rfl ?_
    refine w_iconst (x := Int32.ofNat 1) rfl rfl (by decide) ?_
    refine w_ishr rfl rfl ?_
    refine w_iload rfl rfl rfl ?_
    refine w_iconst (x := Int32.ofNat 1) rfl rfl (by decide) ?_
    refine w_iand rfl rfl ?_
    refine w_cv (q := am_m143) (as := [_, _, _, _]) (rest := []) (st' := [_]) rfl rfl rfl rfl rfl rfl sp0 rfl rfl rfl rfl (d_isRest hT h0 ha hc (by omega)) rfl rfl ?_
    refine w_if_eqB (t := 54) (f := 51) rfl rfl rfl (fun c48 => ?_) (fun c48 => ?_)
    · refine w_iinc (L' := [_, _, _, _, _]) rfl rfl rfl (am_incN 1) rfl ?_
      refine w_goto (pc' := 28) rfl rfl ?_
      (first | rw [← k_rs_1 c48] | rw [← k_rs_0 c48]); exact ih (r + 1) (by omega)
    · refine w_iinc (L' := [_, _, _, _, _]) rfl rfl rfl (am_incN 1) rfl ?_
      refine w_iinc (L' := [_, _, _, _, _]) rfl rfl rfl (am_incN 1) rfl ?_
      refine w_goto (pc' := 28) rfl rfl ?_
      (first | rw [← k_rs_1 c48] | rw [← k_rs_0 c48]); exact ih (r + 1) (by omega)
theorem d_rests {k : Nat} {I : hI} {J : hJ} {R : hR} {T : Nat} (hT : T = 9 ∨ T = 36) (h0 : R 0 3 = T) {N : Nat → Nat} (t : ctk I T N) (m0 : I (T + 1) 1 = Int32.ofNat (N 0)) (l0 : N 0 ≤ 6) {a c : Nat} (ha : a < N 0) (hc : c < N 0) (hac : a ≠ c) (hk : 3 ≤ k) : ct k 141 [.ref 0, .int (Int32.ofNat a), .int (Int32.ofNat c)] I J R (some (.int (Int32.ofNat (k_rs I T a c 4)))) I J R := by
  obtain ⟨k, rfl⟩ : ∃ k', k = k' + 1 := ⟨k - 1, by omega⟩
  refine ct_of (q := am_m141) (o := 11) (rt := (some .int)) (co := am_c141) (L := [_, _, _, _, _]) rfl rfl rfl rfl rfl rfl ?_
  refine w_aload_n rfl rfl rfl ?_
  refine w_iload_n rfl rfl rfl ?_
  refine w_cv (q := am_m160) (as := [_]) (rest := []) (st' := [_]) rfl rfl rfl rfl rfl rfl sp0 rfl rfl rfl rfl (d_isMaker hT h0 (by omega)) rfl rfl ?_
  refine w_if_eqB (t := 21) (f := 8) rfl rfl rfl (fun c5 => absurd c5 (k_isok ha (by omega) m0)) (fun c5 => ?_)
  refine w_aload_n rfl rfl rfl ?_
  refine w_iload_n rfl rfl rfl ?_
  refine w_cv (q := am_m160) (as := [_]) (rest := []) (st' := [_]) rfl rfl rfl rfl rfl rfl sp0 rfl rfl rfl rfl (d_isMaker hT h0 (by omega)) rfl rfl ?_
  refine w_if_eqB (t := 21) (f := 16) rfl rfl rfl (fun c13 => absurd c13 (k_isok hc (by omega) m0)) (fun c13 => ?_)
  refine w_iload_n rfl rfl rfl ?_
  refine w_iload_n rfl rfl rfl ?_
  refine w_ic_neN (t := 23) (f := 21) rfl rfl rfl (by omega) (by omega) (fun c18 => ?_) (fun c18 => absurd c18 (by omega))
  refine w_iconst (x := Int32.ofNat 0) rfl rfl (by decide) ?_
  refine w_istore_n (L' := [_, _, _, _, _]) rfl rfl rfl ?_
  refine w_iconst (x := Int32.ofNat 0) rfl rfl (by decide) ?_
  refine w_istore (L' := [_, _, _, _, _]) rfl rfl rfl ?_
  refine dl_rests hT h0 (by omega) (by omega) (by omega) ?_ 4 0 (by omega)
  refine w_iload_n rfl rfl rfl ?_
  exact w_iret rfl rfl rfl rfl rfl
theorem d_rests_no {k : Nat} {I : hI} {J : hJ} {R : hR} {T : Nat} (hT : T = 9 ∨ T = 36) (h0 : R 0 3 = T) {x y : Int32} (hx : ¬ ((¬ x < 0 ∧ x < I (T + 1) 1) ∧ (¬ y < 0 ∧ y < I (T + 1) 1) ∧ ¬ x = y)) (hk : 3 ≤ k) : ct k 141 [.ref 0, .int x, .int y] I J R (some (.int (Int32.ofInt (-1)))) I J R := by
  obtain ⟨k, rfl⟩ : ∃ k', k = k' + 1 := ⟨k - 1, by omega⟩
  refine ct_of (q := am_m141) (o := 11) (rt := (some .int)) (co := am_c141) (L := [_, _, _, _, _]) rfl rfl rfl rfl rfl rfl ?_
  refine w_aload_n rfl rfl rfl ?_
  refine w_iload_n rfl rfl rfl ?_
  refine w_cv (q := am_m160) (as := [_]) (rest := []) (st' := [_]) rfl rfl rfl rfl rfl rfl sp0 rfl rfl rfl rfl (d_isMaker hT h0 (by omega)) rfl rfl ?_
  refine w_if_eqB (t := 21) (f := 8) rfl rfl rfl (fun c5 => ?_) (fun c5 => ?_)
  · refine w_iconst (x := Int32.ofInt (-1)) rfl rfl (by decide) ?_
    exact w_iret rfl rfl rfl rfl rfl
  · refine w_aload_n rfl rfl rfl ?_
    refine w_iload_n rfl rfl rfl ?_
    refine w_cv (q := am_m160) (as := [_]) (rest := []) (st' := [_]) rfl rfl rfl rfl rfl rfl sp0 rfl rfl rfl rfl (d_isMaker hT h0 (by omega)) rfl rfl ?_
    refine w_if_eqB (t := 21) (f := 16) rfl rfl rfl (fun c13 => ?_) (fun c13 => ?_)
    · refine w_iconst (x := Int32.ofInt (-1)) rfl rfl (by decide) ?_
      exact w_iret rfl rfl rfl rfl rfl
    · refine w_iload_n rfl rfl rfl ?_
      refine w_iload_n rfl rfl rfl ?_
      refine w_ic_ne (t := 23) (f := 21) rfl rfl rfl (fun c18 => ?_) (fun c18 => ?_)
      · exact (hx ⟨c5, c13, c18⟩).elim
      · refine w_iconst (x := Int32.ofInt (-1)) rfl rfl (by decide) ?_
        exact w_iret rfl rfl rfl rfl rfl
theorem dl_rest {k : Nat} {I : hI} {J : hJ} {R : hR} {T : Nat} (hT : T = 9 ∨ T = 36) (h0 : R 0 3 = T) {a c : Nat} (ha : a < 6) (hc : c < 6) {w : Int32} (hk : 2 ≤ k) : ∀ (j g n : Nat), g + j = 4 → wz k 11 (some .int) am_c142 33 [.ref 0, .int (Int32.ofNat a), .int (Int32.ofNat c), .int w, .int (Int32.ofNat n), .int (Int32.ofNat g)] [] I J R (some (.int (k_rst I T a c w j g n)), am_hp I J R) := by
  intro j
  induction j with
  | zero =>
    intro g n e
    refine w_iload rfl rfl rfl ?_
    refine w_iconst (x := Int32.ofNat 4) rfl rfl (by decide) ?_
    refine w_ic_geN (t := 84) (f := 39) rfl rfl rfl (by omega) (by omega) (fun c36 => ?_) (fun c36 => absurd c36 (by omega))
    refine w_bipush (x := Int32.ofInt (-2)) rfl rfl (by decide) ?_
    exact w_iret rfl rfl rfl rfl rfl
  | succ j ih =>
    intro g n e
    refine w_iload rfl rfl rfl ?_
    refine w_iconst (x := Int32.ofNat 4) rfl rfl (by decide) ?_
    refine w_ic_geN (t := 84) (f := 39) rfl rfl rfl (by omega) (by omega) (fun c36 => absurd c36 (by omega)) (fun c36 => ?_)
    refine w_aload_n rfl rfl rfl ?_
    refine w_iload_n rfl rfl rfl ?_
    refine w_iload_n rfl rfl rfl ?_
    refine w_iload rfl rfl rfl ?_
    refine w_iconst (x := Int32.ofNat 1) rfl rfl (by decide) ?_
    refine w_ishr rfl rfl ?_
    refine w_iload rfl rfl rfl ?_
    refine w_iconst (x := Int32.ofNat 1) rfl rfl (by decide) ?_
    refine w_iand rfl rfl ?_
    refine w_cv (q := am_m143) (as := [_, _, _, _]) (rest := []) (st' := [_]) rfl rfl rfl rfl rfl rfl sp0 rfl rfl rfl rfl (d_isRest hT h0 ha hc (by omega)) rfl rfl ?_
    refine w_if_eqB (t := 78) (f := 56) rfl rfl rfl (fun c53 => ?_) (fun c53 => ?_)
    · refine w_iinc (L' := [_, _, _, _, _, _]) rfl rfl rfl (am_incN 1) rfl ?_
      refine w_goto (pc' := 33) rfl rfl ?_
      (first | rw [k_rst_s, if_pos c53, if_neg c59] | rw [k_rst_s, if_neg c53])
      exact ih (g + 1) _ (by omega)
    · refine w_iload rfl rfl rfl ?_
      refine w_iload_n rfl rfl rfl ?_
      refine w_ic_ne (t := 75) (f := 62) rfl rfl rfl (fun c59 => ?_) (fun c59 => ?_)
      · refine w_iinc (L' := [_, _, _, _, _, _]) rfl rfl rfl (am_incN 1) rfl ?_
        refine w_iinc (L' := [_, _, _, _, _, _]) rfl rfl rfl (am_incN 1) rfl ?_
        refine w_goto (pc' := 33) rfl rfl ?_
        (first | rw [k_rst_s, if_pos c53, if_neg c59] | rw [k_rst_s, if_neg c53])
        exact ih (g + 1) _ (by omega)
      · refine w_bipush (x := Int32.ofNat 10) rfl rfl (by decide) ?_
        refine w_iload rfl rfl rfl ?_
        refine w_iconst (x := Int32.ofNat 1) rfl rfl (by decide) ?_
        refine w_ishr rfl rfl ?_
        refine w_imul rfl rfl ?_
        refine w_iload rfl rfl rfl ?_
        refine w_iconst (x := Int32.ofNat 1) rfl rfl (by decide) ?_
        refine w_iand rfl rfl ?_
        refine w_iadd rfl rfl ?_
        exact w_iret rfl (by rw [k_rst_s, if_pos c53, if_pos c59]) rfl rfl rfl
theorem d_rest {k : Nat} {I : hI} {J : hJ} {R : hR} {T : Nat} (hT : T = 9 ∨ T = 36) (h0 : R 0 3 = T) {N : Nat → Nat} (t : ctk I T N) (m0 : I (T + 1) 1 = Int32.ofNat (N 0)) (l0 : N 0 ≤ 6) {a c : Nat} (ha : a < N 0) (hc : c < N 0) (hac : a ≠ c) {w : Int32} (hw : ¬ w < 0) (hk : 3 ≤ k) : ct k 142 [.ref 0, .int (Int32.ofNat a), .int (Int32.ofNat c), .int w] I J R (some (.int (k_rst I T a c w 4 0 0))) I J R := by
  obtain ⟨k, rfl⟩ : ∃ k', k = k' + 1 := ⟨k - 1, by omega⟩
  refine ct_of (q := am_m142) (o := 11) (rt := (some .int)) (co := am_c142) (L := [_, _, _, _, _, _]) rfl rfl rfl rfl rfl rfl ?_
  refine w_aload_n rfl rfl rfl ?_
  refine w_iload_n rfl rfl rfl ?_
  refine w_cv (q := am_m160) (as := [_]) (rest := []) (st' := [_]) rfl rfl rfl rfl rfl rfl sp0 rfl rfl rfl rfl (d_isMaker hT h0 (by omega)) rfl rfl ?_
  refine w_if_eqB (t := 25) (f := 8) rfl rfl rfl (fun c5 => absurd c5 (k_isok ha (by omega) m0)) (fun c5 => ?_)
  refine w_aload_n rfl rfl rfl ?_
  refine w_iload_n rfl rfl rfl ?_
  refine w_cv (q := am_m160) (as := [_]) (rest := []) (st' := [_]) rfl rfl rfl rfl rfl rfl sp0 rfl rfl rfl rfl (d_isMaker hT h0 (by omega)) rfl rfl ?_
  refine w_if_eqB (t := 25) (f := 16) rfl rfl rfl (fun c13 => absurd c13 (k_isok hc (by omega) m0)) (fun c13 => ?_)
  refine w_iload_n rfl rfl rfl ?_
  refine w_iload_n rfl rfl rfl ?_
  refine w_ic_eqN (t := 25) (f := 21) rfl rfl rfl (by omega) (by omega) (fun c18 => absurd c18 (by omega)) (fun c18 => ?_)
  refine w_iload_n rfl rfl rfl ?_
  refine w_if_ge (t := 27) (f := 25) rfl rfl rfl (fun c22 => ?_) (fun c22 => absurd c22 hw)
  refine w_iconst (x := Int32.ofNat 0) rfl rfl (by decide) ?_
  refine w_istore (L' := [_, _, _, _, _, _]) rfl rfl rfl ?_
  refine w_iconst (x := Int32.ofNat 0) rfl rfl (by decide) ?_
  refine w_istore (L' := [_, _, _, _, _, _]) rfl rfl rfl ?_
  exact dl_rest hT h0 (by omega) (by omega) (by omega) 4 0 0 (by omega)
theorem d_rest_no {k : Nat} {I : hI} {J : hJ} {R : hR} {T : Nat} (hT : T = 9 ∨ T = 36) (h0 : R 0 3 = T) {x y w : Int32} (hx : ¬ (((¬ x < 0 ∧ x < I (T + 1) 1) ∧ (¬ y < 0 ∧ y < I (T + 1) 1) ∧ ¬ x = y) ∧ ¬ w < 0)) (hk : 3 ≤ k) : ct k 142 [.ref 0, .int x, .int y, .int w] I J R (some (.int (Int32.ofInt (-1)))) I J R := by
  obtain ⟨k, rfl⟩ : ∃ k', k = k' + 1 := ⟨k - 1, by omega⟩
  refine ct_of (q := am_m142) (o := 11) (rt := (some .int)) (co := am_c142) (L := [_, _, _, _, _, _]) rfl rfl rfl rfl rfl rfl ?_
  refine w_aload_n rfl rfl rfl ?_
  refine w_iload_n rfl rfl rfl ?_
  refine w_cv (q := am_m160) (as := [_]) (rest := []) (st' := [_]) rfl rfl rfl rfl rfl rfl sp0 rfl rfl rfl rfl (d_isMaker hT h0 (by omega)) rfl rfl ?_
  refine w_if_eqB (t := 25) (f := 8) rfl rfl rfl (fun c5 => ?_) (fun c5 => ?_)
  · refine w_iconst (x := Int32.ofInt (-1)) rfl rfl (by decide) ?_
    exact w_iret rfl rfl rfl rfl rfl
  · refine w_aload_n rfl rfl rfl ?_
    refine w_iload_n rfl rfl rfl ?_
    refine w_cv (q := am_m160) (as := [_]) (rest := []) (st' := [_]) rfl rfl rfl rfl rfl rfl sp0 rfl rfl rfl rfl (d_isMaker hT h0 (by omega)) rfl rfl ?_
    refine w_if_eqB (t := 25) (f := 16) rfl rfl rfl (fun c13 => ?_) (fun c13 => ?_)
    · refine w_iconst (x := Int32.ofInt (-1)) rfl rfl (by decide) ?_
      exact w_iret rfl rfl rfl rfl rfl
    · refine w_iload_n rfl rfl rfl ?_
      refine w_iload_n rfl rfl rfl ?_
      refine w_ic_eq (t := 25) (f := 21) rfl rfl rfl (fun c18 => ?_) (fun c18 => ?_)
      · refine w_iconst (x := Int32.ofInt (-1)) rfl rfl (by decide) ?_
        exact w_iret rfl rfl rfl rfl rfl
      · refine w_iload_n rfl rfl rfl ?_
        refine w_if_ge (t := 27) (f := 25) rfl rfl rfl (fun c22 => ?_) (fun c22 => ?_)
        · exact (hx ⟨⟨c5, c13, c18⟩, c22⟩).elim
        · refine w_iconst (x := Int32.ofInt (-1)) rfl rfl (by decide) ?_
          exact w_iret rfl rfl rfl rfl rfl
def k_gd : Nat → Int64 → Int64 → Int64
  | 0, a, _ => a
  | j + 1, a, b => if b = 0 then a else k_gd j b (a - a / b * b)
theorem k_gd_s (j : Nat) (a b : Int64) : k_gd (j + 1) a b = if b = 0 then a else k_gd j b (a - a / b * b) := rfl
theorem dl_gd {k : Nat} {I : hI} {J : hJ} {R : hR} {a b : Int64} : ∀ (j r : Nat) (x y : Int64) (u u' : Value), r + j = 1000 → wz k 11 (some .long) am_c146 9 [.long a, am_un, .long b, am_un, .long x, am_un, .long y, am_un, .int (Int32.ofNat r), u, u'] [] I J R (some (.long (k_gd j x y)), am_hp I J R) := by
  intro j
  induction j with
  | zero =>
    intro r x y u u' e
    refine w_iload rfl rfl rfl ?_
    refine w_sipush (x := Int32.ofNat 1000) rfl rfl (by decide) ?_
    refine w_ic_geN (t := 45) (f := 17) rfl rfl rfl (by omega) (by omega) (fun c14 => ?_) (fun c14 => absurd c14 (by omega))
    refine w_lload rfl rfl rfl ?_
    exact w_lret rfl rfl rfl rfl rfl
  | succ j ih =>
    intro r x y u u' e
    refine w_iload rfl rfl rfl ?_
    refine w_sipush (x := Int32.ofNat 1000) rfl rfl (by decide) ?_
    refine w_ic_geN (t := 45) (f := 17) rfl rfl rfl (by omega) (by omega) (fun c14 => absurd c14 (by omega)) (fun c14 => ?_)
    refine w_lload rfl rfl rfl ?_
    refine w_lconst (x := 0) rfl rfl (by decide) ?_
    refine w_lc_eq (t := 45) (f := 24) (p1 := 21) rfl rfl rfl rfl rfl (fun c21 => ?_) (fun c21 => ?_)
    · refine w_lload rfl rfl rfl ?_
      exact w_lret rfl (by rw [k_gd_s, if_pos c21]) rfl rfl rfl
    · refine w_lload rfl rfl rfl ?_
      refine w_lload rfl rfl rfl ?_
      refine w_lrem rfl rfl c21 ?_
      refine w_lstore (L' := [_, _, _, _, _, _, _, _, _, _, _]) rfl rfl rfl ?_
      refine w_lload rfl rfl rfl ?_
      refine w_lstore (L' := [_, _, _, _, _, _, _, _, _, _, _]) rfl rfl rfl ?_
      refine w_lload rfl rfl rfl ?_
      refine w_lstore (L' := [_, _, _, _, _, _, _, _, _, _, _]) rfl rfl rfl ?_
      refine w_iinc (L' := [_, _, _, _, _, _, _, _, _, _, _]) rfl rfl rfl (am_incN 1) rfl ?_
      refine w_goto (pc' := 9) rfl rfl ?_
      rw [k_gd_s, if_neg c21]
      exact ih (r + 1) _ _ _ _ (by omega)
theorem d_gd {k : Nat} {I : hI} {J : hJ} {R : hR} {a b : Int64} (hk : 1 ≤ k) : ct k 146 [.long a, .long b] I J R (some (.long (k_gd 1000 a b))) I J R := by
  obtain ⟨k, rfl⟩ : ∃ k', k = k' + 1 := ⟨k - 1, by omega⟩
  refine ct_of (q := am_m146) (o := 11) (rt := (some .long)) (co := am_c146) (L := [_, _, _, _, _, _, _, _, _, _, _]) rfl rfl rfl rfl rfl rfl ?_
  refine w_lload_n rfl rfl rfl ?_
  refine w_lstore (L' := [_, _, _, _, _, _, _, _, _, _, _]) rfl rfl rfl ?_
  refine w_lload_n rfl rfl rfl ?_
  refine w_lstore (L' := [_, _, _, _, _, _, _, _, _, _, _]) rfl rfl rfl ?_
  refine w_iconst (x := Int32.ofNat 0) rfl rfl (by decide) ?_
  refine w_istore (L' := [_, _, _, _, _, _, _, _, _, _, _]) rfl rfl rfl ?_
  exact dl_gd 1000 0 _ _ _ _ (by omega)
def k_ca (I : hI) (T : Nat) (n : Nat) : Int64 := s_for (fun _ a => a * (Int32.ofNat 100 - I T 16).toInt64) n 1
def k_cb1 (n : Nat) : Int64 := s_for (fun _ a => a * 100) n 1
def k_cd (I : hI) (T n : Nat) : Int64 := k_gd 1000 (k_ca I T n) (k_cb1 n)
def k_calm (I : hI) (T n w : Nat) : Int64 := if 0 < k_cd I T n then (if w = 0 then k_ca I T n / k_cd I T n else k_cb1 n / k_cd I T n) else -1
theorem dl_calm {k : Nat} {I : hI} {J : hJ} {R : hR} {q : Option Value × am_H} {T : Nat} (hT : T = 9 ∨ T = 36) (h0 : R 0 3 = T) {n w : Nat} (hn : n ≤ 6) (Z : wz k 11 (some .long) am_c145 65 [.ref 0, .int (Int32.ofNat n), .int (Int32.ofNat w), .long (k_ca I T n), am_un, .long (k_cb1 n), am_un, .int (Int32.ofNat n), am_un] [] I J R q) : ∀ (j r : Nat) , r + j = n → wz k 11 (some .long) am_c145 31 [.ref 0, .int (Int32.ofNat n), .int (Int32.ofNat w), .long (k_ca I T r), am_un, .long (k_cb1 r), am_un, .int (Int32.ofNat r), am_un] [] I J R q := by
  intro j
  induction j with
  | zero =>
    intro r e
    obtain rfl : n = r := by omega
    refine w_iload rfl rfl rfl ?_
    refine w_iload_n rfl rfl rfl ?_
    refine w_ic_geN (t := 65) (f := 37) rfl rfl rfl (by omega) (by omega) (fun c34 => ?_) (fun c34 => absurd c34 (by omega))
    exact Z
  | succ j ih =>
    intro r e
    refine w_iload rfl rfl rfl ?_
    refine w_iload_n rfl rfl rfl ?_
    refine w_ic_geN (t := 65) (f := 37) rfl rfl rfl (by omega) (by omega) (fun c34 => absurd c34 (by omega)) (fun c34 => ?_)
    refine w_lload_n rfl rfl rfl ?_
    refine w_bipush (x := Int32.ofNat 100) rfl rfl (by decide) ?_
    refine w_aload_n rfl rfl rfl ?_
    refine w_gf (t := .retAddr 0) (v := .ref (T)) rfl rfl rfl sp0 rfl (congrArg Value.ref (by first | exact h0 | exact (am_u_na (by decide)).trans h0)) rfl ?_
    refine w_gf (t := .int 0) (v := .int _) rfl rfl rfl (shT_0 hT) rfl (congrArg Value.int rfl) rfl ?_
    refine w_isub rfl rfl ?_
    refine w_i2l rfl rfl ?_
    refine w_lmul rfl rfl ?_
    refine w_lstore_n (L' := [_, _, _, _, _, _, _, _, _]) rfl rfl rfl ?_
    refine w_lload rfl rfl rfl ?_
    refine w_ldc2_w rfl rfl rfl ?_
    refine w_lmul rfl rfl ?_
    refine w_lstore (L' := [_, _, _, _, _, _, _, _, _]) rfl rfl rfl ?_
    refine w_iinc (L' := [_, _, _, _, _, _, _, _, _]) rfl rfl rfl (am_incN 1) rfl ?_
    refine w_goto (pc' := 31) rfl rfl ?_
    exact ih (r + 1) (by omega)
theorem d_calm {k : Nat} {I : hI} {J : hJ} {R : hR} {T : Nat} (hT : T = 9 ∨ T = 36) (h0 : R 0 3 = T) {n w : Nat} (hn : n ≤ 6) (hw : w ≤ 1) (hk : 2 ≤ k) : ct k 145 [.ref 0, .int (Int32.ofNat n), .int (Int32.ofNat w)] I J R (some (.long (k_calm I T n w))) I J R := by
  obtain ⟨k, rfl⟩ : ∃ k', k = k' + 1 := ⟨k - 1, by omega⟩
  refine ct_of (q := am_m145) (o := 11) (rt := (some .long)) (co := am_c145) (L := [_, _, _, _, _, _, _, _, _]) rfl rfl rfl rfl rfl rfl ?_
  refine w_iload_n rfl rfl rfl ?_
  refine w_if_lt (t := 19) (f := 4) rfl rfl rfl (fun c1 => absurd c1 (fun c => absurd ((am_ltN (y := 0) (by omega) (by omega)).mp c) (Nat.not_lt_zero n))) (fun c1 => ?_)
  refine w_iload_n rfl rfl rfl ?_
  refine w_bipush (x := Int32.ofNat 6) rfl rfl (by decide) ?_
  refine w_ic_gtN (t := 19) (f := 10) rfl rfl rfl (by omega) (by omega) (fun c7 => absurd c7 (by omega)) (fun c7 => ?_)
  refine w_iload_n rfl rfl rfl ?_
  refine w_if_lt (t := 19) (f := 14) rfl rfl rfl (fun c11 => absurd c11 (fun c => absurd ((am_ltN (y := 0) (by omega) (by omega)).mp c) (Nat.not_lt_zero w))) (fun c11 => ?_)
  refine w_iload_n rfl rfl rfl ?_
  refine w_iconst (x := Int32.ofNat 1) rfl rfl (by decide) ?_
  refine w_ic_leN (t := 23) (f := 19) rfl rfl rfl (by omega) (by omega) (fun c16 => ?_) (fun c16 => absurd c16 (by omega))
  refine w_lconst (x := 1) rfl rfl (by decide) ?_
  refine w_lstore_n (L' := [_, _, _, _, _, _, _, _, _]) rfl rfl rfl ?_
  refine w_lconst (x := 1) rfl rfl (by decide) ?_
  refine w_lstore (L' := [_, _, _, _, _, _, _, _, _]) rfl rfl rfl ?_
  refine w_iconst (x := Int32.ofNat 0) rfl rfl (by decide) ?_
  refine w_istore (L' := [_, _, _, _, _, _, _, _, _]) rfl rfl rfl ?_
  refine dl_calm hT h0 hn ?_ n 0 (by omega)
  refine w_lload_n rfl rfl rfl ?_
  refine w_lload rfl rfl rfl ?_
  refine w_cs (q := am_m146) (na := 2) (as := [_, _]) (st' := [_]) rfl rfl rfl rfl (by decide) rfl rfl (Nat.le_of_ble_eq_true rfl) rfl rfl rfl (d_gd (by omega)) rfl rfl ?_
  refine w_lstore (L' := [_, _, _, _, _, _, _, _, _]) rfl rfl rfl ?_
  refine w_lload rfl rfl rfl ?_
  refine w_lconst (x := 0) rfl rfl (by decide) ?_
  refine w_lc_gt (t := 84) (f := 80) (p1 := 77) rfl rfl rfl rfl rfl (fun c77 => ?_) (fun c77 => ?_)
  · refine w_iload_n rfl rfl rfl ?_
    refine w_if_ne (t := 95) (f := 88) rfl rfl rfl (fun c85 => ?_) (fun c85 => ?_)
    · refine w_lload rfl rfl rfl ?_
      refine w_lload rfl rfl rfl ?_
      refine w_ldiv rfl rfl (fun z => absurd c77 (by rw [z]; decide)) ?_
      exact w_lret rfl (by unfold k_calm; first | rw [if_neg (show ¬ 0 < k_cd I T n from c77)] | (rw [if_pos (show 0 < k_cd I T n from c77), if_pos ((am_eqN (y := 0) (by omega) (by omega)).mp c85)]; rfl) | (rw [if_pos (show 0 < k_cd I T n from c77), if_neg (fun z => c85 (by rw [z]; rfl))]; rfl)) rfl rfl rfl
    · refine w_lload_n rfl rfl rfl ?_
      refine w_lload rfl rfl rfl ?_
      refine w_ldiv rfl rfl (fun z => absurd c77 (by rw [z]; decide)) ?_
      refine w_goto (pc' := 100) rfl rfl ?_
      exact w_lret rfl (by unfold k_calm; first | rw [if_neg (show ¬ 0 < k_cd I T n from c77)] | (rw [if_pos (show 0 < k_cd I T n from c77), if_pos ((am_eqN (y := 0) (by omega) (by omega)).mp c85)]; rfl) | (rw [if_pos (show 0 < k_cd I T n from c77), if_neg (fun z => c85 (by rw [z]; rfl))]; rfl)) rfl rfl rfl
  · refine w_ldc2_w rfl rfl rfl ?_
    exact w_lret rfl (by unfold k_calm; first | rw [if_neg (show ¬ 0 < k_cd I T n from c77)] | (rw [if_pos (show 0 < k_cd I T n from c77), if_pos ((am_eqN (y := 0) (by omega) (by omega)).mp c85)]; rfl) | (rw [if_pos (show 0 < k_cd I T n from c77), if_neg (fun z => c85 (by rw [z]; rfl))]; rfl)) rfl rfl rfl
theorem d_calm_no {k : Nat} {I : hI} {J : hJ} {R : hR} {x y : Int32} (hx : ¬ ((¬ x < Int32.ofNat 0 ∧ ¬ Int32.ofNat 6 < x) ∧ ¬ y < Int32.ofNat 0 ∧ ¬ Int32.ofNat 1 < y)) (hk : 1 ≤ k) : ct k 145 [.ref 0, .int x, .int y] I J R (some (.long (-1))) I J R := by
  obtain ⟨k, rfl⟩ : ∃ k', k = k' + 1 := ⟨k - 1, by omega⟩
  refine ct_of (q := am_m145) (o := 11) (rt := (some .long)) (co := am_c145) (L := [_, _, _, _, _, _, _, _, _]) rfl rfl rfl rfl rfl rfl ?_
  refine w_iload_n rfl rfl rfl ?_
  refine w_if_lt (t := 19) (f := 4) rfl rfl rfl (fun c1 => ?_) (fun c1 => ?_)
  · refine w_ldc2_w rfl rfl rfl ?_
    exact w_lret rfl rfl rfl rfl rfl
  · refine w_iload_n rfl rfl rfl ?_
    refine w_bipush (x := Int32.ofNat 6) rfl rfl (by decide) ?_
    refine w_ic_gt (t := 19) (f := 10) rfl rfl rfl (fun c7 => ?_) (fun c7 => ?_)
    · refine w_ldc2_w rfl rfl rfl ?_
      exact w_lret rfl rfl rfl rfl rfl
    · refine w_iload_n rfl rfl rfl ?_
      refine w_if_lt (t := 19) (f := 14) rfl rfl rfl (fun c11 => ?_) (fun c11 => ?_)
      · refine w_ldc2_w rfl rfl rfl ?_
        exact w_lret rfl rfl rfl rfl rfl
      · refine w_iload_n rfl rfl rfl ?_
        refine w_iconst (x := Int32.ofNat 1) rfl rfl (by decide) ?_
        refine w_ic_le (t := 23) (f := 19) rfl rfl rfl (fun c16 => ?_) (fun c16 => ?_)
        · exact (hx ⟨⟨c1, c7⟩, c11, c16⟩).elim
        · refine w_ldc2_w rfl rfl rfl ?_
          exact w_lret rfl rfl rfl rfl rfl
theorem k_so_2 {T S n1 n2 : Nat} {I : hI} (h : n2 ≤ 5) : (k_ga T S n1 n2 I).1 ≤ 5 ∧ k_so T S n1 n2 I 102 2 = Int32.ofNat (k_ga T S n1 n2 I).1 := by
  have hg := k_ga_h (T := T) (S := S) (n1 := n1) (I := I) h
  exact ⟨hg.1, ((k_pF_pl _ _ _ _).2 2 (by omega)).trans ((am_u_nk (by decide)).trans ((am_u_nk (by decide)).trans ((am_u_nk (by decide)).trans hg.2.2.1)))⟩
def k_alt (I : hI) (T : Nat) (N : Nat → Nat) (w : Nat) : Int32 := if w = 8 then k_so T 63 (N 1) (N 2) I 102 10 else if w = 9 then k_so T 63 (N 1) (N 2) I 102 11 else k_sho (k_so T 63 (N 1) (N 2) I) (Int32.ofNat w) (k_ga T 63 (N 1) (N 2) I).1 0
theorem d_allot {k : Nat} {I : hI} {J : hJ} {R : hR} {T : Nat} (hT : T = 9 ∨ T = 36) (h0 : R 0 3 = T) {N : Nat → Nat} (t : ctk I T N) {w : Nat} (hw : w ≤ 9) (hk : 10 ≤ k) : ct k 133 [.ref 0, .int (Int32.ofNat w)] I J R (some (.int (k_alt I T N w))) (k_so T 63 (N 1) (N 2) I) J R := by
  obtain ⟨k, rfl⟩ : ∃ k', k = k' + 1 := ⟨k - 1, by omega⟩
  obtain ⟨⟨l1, l2, l3⟩, ⟨e5, e11, e3⟩, rM, tH, sM, ⟨e18, l18⟩, ⟨e21, l21⟩, ⟨e24, l24⟩⟩ := id t
  have hg := k_so_2 (T := T) (S := 63) (n1 := N 1) (I := I) l2
  refine ct_of (q := am_m133) (o := 11) (rt := (some .int)) (co := am_c133) (L := [_, _]) rfl rfl rfl rfl rfl rfl ?_
  refine w_iload_n rfl rfl rfl ?_
  refine w_if_lt (t := 10) (f := 4) rfl rfl rfl (fun c1 => absurd c1 (fun c => absurd ((am_ltN (y := 0) (by omega) (by omega)).mp c) (Nat.not_lt_zero w))) (fun c1 => ?_)
  refine w_iload_n rfl rfl rfl ?_
  refine w_bipush (x := Int32.ofNat 9) rfl rfl (by decide) ?_
  refine w_ic_leN (t := 12) (f := 10) rfl rfl rfl (by omega) (by omega) (fun c7 => ?_) (fun c7 => absurd c7 (by omega))
  refine w_aload_n rfl rfl rfl ?_
  refine w_gf (t := .ref (102)) (v := .ref (102)) rfl rfl rfl sp0 rfl rfl rfl ?_
  refine w_aload_n rfl rfl rfl ?_
  refine w_gf (t := .retAddr 0) (v := .ref (T)) rfl rfl rfl sp0 rfl (congrArg Value.ref (by first | exact h0 | exact (am_u_na (by decide)).trans h0)) rfl ?_
  refine w_aload_n rfl rfl rfl ?_
  refine w_gf (t := .ref (63)) (v := .ref (63)) rfl rfl rfl sp0 rfl rfl rfl ?_
  refine w_cv (q := am_m1) (as := [_, _]) (rest := []) (st' := []) rfl rfl rfl rfl rfl rfl sp102 rfl rfl rfl rfl (d_solve hT (Or.inl rfl) l1 l2 e5 e11 (by omega)) rfl rfl ?_
  refine w_iload_n rfl rfl rfl ?_
  refine w_bipush (x := Int32.ofNat 8) rfl rfl (by decide) ?_
  refine w_ic_neN (t := 41) (f := 33) rfl rfl rfl (by omega) (by omega) (fun c30 => ?_) (fun c30 => ?_)
  · refine w_iload_n rfl rfl rfl ?_
    refine w_bipush (x := Int32.ofNat 9) rfl rfl (by decide) ?_
    refine w_ic_neN (t := 57) (f := 47) rfl rfl rfl (by omega) (by omega) (fun c44 => ?_) (fun c44 => ?_)
    · refine w_aload_n rfl rfl rfl ?_
      refine w_gf (t := .ref (102)) (v := .ref (102)) rfl rfl rfl sp0 rfl rfl rfl ?_
      refine w_iload_n rfl rfl rfl ?_
      refine w_cv (q := am_m5) (as := [_]) (rest := []) (st' := [_]) rfl rfl rfl rfl rfl rfl sp102 rfl rfl rfl rfl (d_shipOf hg.1 hg.2 (by omega)) rfl rfl ?_
      exact w_iret rfl (by unfold k_alt; first | rw [if_pos c30] | rw [if_neg c30, if_pos c44] | rw [if_neg c30, if_neg c44]) rfl rfl rfl
    · refine w_aload_n rfl rfl rfl ?_
      refine w_gf (t := .ref (102)) (v := .ref (102)) rfl rfl rfl sp0 rfl rfl rfl ?_
      refine w_gf (t := .int 0) (v := .int _) rfl rfl rfl sp102 rfl (congrArg Value.int rfl) rfl ?_
      refine w_goto (pc' := 65) rfl rfl ?_
      exact w_iret rfl (by unfold k_alt; first | rw [if_pos c30] | rw [if_neg c30, if_pos c44] | rw [if_neg c30, if_neg c44]) rfl rfl rfl
  · refine w_aload_n rfl rfl rfl ?_
    refine w_gf (t := .ref (102)) (v := .ref (102)) rfl rfl rfl sp0 rfl rfl rfl ?_
    refine w_gf (t := .int 0) (v := .int _) rfl rfl rfl sp102 rfl (congrArg Value.int rfl) rfl ?_
    exact w_iret rfl (by unfold k_alt; first | rw [if_pos c30] | rw [if_neg c30, if_pos c44] | rw [if_neg c30, if_neg c44]) rfl rfl rfl
theorem d_allot_no {k : Nat} {I : hI} {J : hJ} {R : hR} {x : Int32} (hx : ¬ (¬ x < Int32.ofNat 0 ∧ ¬ Int32.ofNat 9 < x)) (hk : 1 ≤ k) : ct k 133 [.ref 0, .int x] I J R (some (.int (Int32.ofInt (-1)))) I J R := by
  obtain ⟨k, rfl⟩ : ∃ k', k = k' + 1 := ⟨k - 1, by omega⟩
  refine ct_of (q := am_m133) (o := 11) (rt := (some .int)) (co := am_c133) (L := [_, _]) rfl rfl rfl rfl rfl rfl ?_
  refine w_iload_n rfl rfl rfl ?_
  refine w_if_lt (t := 10) (f := 4) rfl rfl rfl (fun c1 => ?_) (fun c1 => ?_)
  · refine w_iconst (x := Int32.ofInt (-1)) rfl rfl (by decide) ?_
    exact w_iret rfl rfl rfl rfl rfl
  · refine w_iload_n rfl rfl rfl ?_
    refine w_bipush (x := Int32.ofNat 9) rfl rfl (by decide) ?_
    refine w_ic_le (t := 12) (f := 10) rfl rfl rfl (fun c7 => ?_) (fun c7 => ?_)
    · exact (hx ⟨c1, c7⟩).elim
    · refine w_iconst (x := Int32.ofInt (-1)) rfl rfl (by decide) ?_
      exact w_iret rfl rfl rfl rfl rfl
