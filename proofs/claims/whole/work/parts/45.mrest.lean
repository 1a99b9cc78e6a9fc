/-! The reference: two who haul or slack, how likely it is calm, what is seen. -/
def m_hb (I : hI) (m o : Nat) (x y : Int32) : Int32 := if x = 0 then (if y = 0 then Int32.ofNat 9 - (if I 116 m - I 116 o < 0 then -(I 116 m - I 116 o) else I 116 m - I 116 o) else I 117 m) else if y = 0 then I 117 o + Int32.ofNat 1 else I 117 m / Int32.ofNat 2
theorem c_hasBy {k : Nat} {I : hI} {J : hJ} {R : hR} {m o : Nat} {x y : Int32} (hm : m < 6) (ho : o < 6) (hk : 1 ≤ k) : ct k 260 [.ref 110, .int (Int32.ofNat m), .int (Int32.ofNat o), .int x, .int y] I J R (some (.int (m_hb I m o x y))) I J R := by
  obtain ⟨k, rfl⟩ : ∃ k', k = k' + 1 := ⟨k - 1, by omega⟩
  refine ct_of (q := am_m260) (L := [_, _, _, _, _, _]) rfl rfl rfl rfl rfl rfl ?_
  refine w_aload_n rfl rfl rfl ?_
  refine w_gf (t := .ref (116)) (v := .ref (116)) rfl rfl rfl sp110 rfl rfl rfl ?_
  refine w_iload_n rfl rfl rfl ?_
  refine w_iaload rfl rfl sp116 rfl ⟨by omega, by omega⟩ rfl ?_
  refine w_aload_n rfl rfl rfl ?_
  refine w_gf (t := .ref (116)) (v := .ref (116)) rfl rfl rfl sp110 rfl rfl rfl ?_
  refine w_iload_n rfl rfl rfl ?_
  refine w_iaload rfl rfl sp116 rfl ⟨by omega, by omega⟩ rfl ?_
  refine w_isub rfl rfl ?_
  refine w_istore (L' := [_, _, _, _, _, _]) rfl rfl rfl ?_
  refine w_iload_n rfl rfl rfl ?_
  refine w_if_ne (t := 50) (f := 19) rfl rfl rfl (fun c16 => ?_) (fun c16 => ?_)
  · refine w_iload rfl rfl rfl ?_
    refine w_if_ne (t := 66) (f := 55) rfl rfl rfl (fun c52 => ?_) (fun c52 => ?_)
    · refine w_aload_n rfl rfl rfl ?_
      refine w_gf (t := .ref (117)) (v := .ref (117)) rfl rfl rfl sp110 rfl rfl rfl ?_
      refine w_iload_n rfl rfl rfl ?_
      refine w_iaload rfl rfl sp117 rfl ⟨by omega, by omega⟩ rfl ?_
      refine w_iconst (x := Int32.ofNat 2) rfl rfl (by decide) ?_
      refine w_idiv rfl rfl (by decide) ?_
      exact w_iret rfl (by simp only [m_hb, *, ite_true, ite_false, and_self, and_true, true_and, and_false, false_and, or_true, true_or, or_false, false_or, not_true, not_false_iff] <;> rfl) rfl rfl rfl
    · refine w_aload_n rfl rfl rfl ?_
      refine w_gf (t := .ref (117)) (v := .ref (117)) rfl rfl rfl sp110 rfl rfl rfl ?_
      refine w_iload_n rfl rfl rfl ?_
      refine w_iaload rfl rfl sp117 rfl ⟨by omega, by omega⟩ rfl ?_
      refine w_iconst (x := Int32.ofNat 1) rfl rfl (by decide) ?_
      refine w_iadd rfl rfl ?_
      refine w_goto (pc' := 74) rfl rfl ?_
      exact w_iret rfl (by simp only [m_hb, *, ite_true, ite_false, and_self, and_true, true_and, and_false, false_and, or_true, true_or, or_false, false_or, not_true, not_false_iff] <;> rfl) rfl rfl rfl
  · refine w_iload rfl rfl rfl ?_
    refine w_if_ne (t := 43) (f := 24) rfl rfl rfl (fun c21 => ?_) (fun c21 => ?_)
    · refine w_aload_n rfl rfl rfl ?_
      refine w_gf (t := .ref (117)) (v := .ref (117)) rfl rfl rfl sp110 rfl rfl rfl ?_
      refine w_iload_n rfl rfl rfl ?_
      refine w_iaload rfl rfl sp117 rfl ⟨by omega, by omega⟩ rfl ?_
      exact w_iret rfl (by simp only [m_hb, *, ite_true, ite_false, and_self, and_true, true_and, and_false, false_and, or_true, true_or, or_false, false_or, not_true, not_false_iff] <;> rfl) rfl rfl rfl
    · refine w_bipush (x := Int32.ofNat 9) rfl rfl (by decide) ?_
      refine w_iload rfl rfl rfl ?_
      refine w_if_ge (t := 37) (f := 31) rfl rfl rfl (fun c28 => ?_) (fun c28 => ?_)
      · refine w_iload rfl rfl rfl ?_
        refine w_isub rfl rfl ?_
        refine w_goto (pc' := 49) rfl rfl ?_
        exact w_iret rfl (by simp only [m_hb, *, ite_true, ite_false, and_self, and_true, true_and, and_false, false_and, or_true, true_or, or_false, false_or, not_true, not_false_iff] <;> rfl) rfl rfl rfl
      · refine w_iload rfl rfl rfl ?_
        refine w_ineg rfl rfl ?_
        refine w_goto (pc' := 39) rfl rfl ?_
        refine w_isub rfl rfl ?_
        refine w_goto (pc' := 49) rfl rfl ?_
        exact w_iret rfl (by simp only [m_hb, *, ite_true, ite_false, and_self, and_true, true_and, and_false, false_and, or_true, true_or, or_false, false_or, not_true, not_false_iff] <;> rfl) rfl rfl rfl
def m_raP (I : hI) (a c g : Nat) : Prop := m_hb I a c (Int32.ofNat (g / 2)) (Int32.ofNat (g % 2)) < m_hb I a c (Int32.ofNat (1 - g / 2)) (Int32.ofNat (g % 2)) ∨ m_hb I c a (Int32.ofNat (g % 2)) (Int32.ofNat (g / 2)) < m_hb I c a (Int32.ofNat (1 - g % 2)) (Int32.ofNat (g / 2))
def m_raD (I : hI) (a c g : Nat) : Decidable (m_raP I a c g) := inferInstanceAs (Decidable (_ ∨ _))
def m_ra (I : hI) (a c : Nat) (w : Int32) : Nat → Nat → Nat → Int32
  | 0, _, n => if w < 0 then Int32.ofNat n else Int32.ofInt (-2)
  | j + 1, g, n => @ite _ (m_raP I a c g) (m_raD I a c g) (m_ra I a c w j (g + 1) n) (if Int32.ofNat n = w then Int32.ofNat (10 * (g / 2) + g % 2) else m_ra I a c w j (g + 1) (n + 1))
theorem m_ra_s (I : hI) (a c : Nat) (w : Int32) (j g n : Nat) : m_ra I a c w (j + 1) g n = @ite _ (m_raP I a c g) (m_raD I a c g) (m_ra I a c w j (g + 1) n) (if Int32.ofNat n = w then Int32.ofNat (10 * (g / 2) + g % 2) else m_ra I a c w j (g + 1) (n + 1)) := rfl
theorem l_restAt {k : Nat} {I : hI} {J : hJ} {R : hR} {a c : Nat} {w : Int32} (ha : a < 6) (hc : c < 6) (hk : 1 ≤ k) : ∀ (j g n : Nat) (u v : Value), g + j = 4 → wz k 12 (some .int) am_c261 6 [.ref 110, .int (Int32.ofNat a), .int (Int32.ofNat c), .int w, .int (Int32.ofNat n), .int (Int32.ofNat g), u, v] [] I J R (some (.int (m_ra I a c w j g n)), am_hp I J R) := by
  intro j
  induction j with
  | zero =>
    intro g n u v e
    obtain rfl : 4 = g := by omega
    refine w_iload rfl rfl rfl ?_
    refine w_iconst (x := Int32.ofNat 4) rfl rfl (by decide) ?_
    refine w_ic_geN (t := 101) (f := 12) rfl rfl rfl (by omega) (by omega) (fun c9 => ?_) (fun c9 => absurd c9 (by omega))
    refine w_iload_n rfl rfl rfl ?_
    refine w_if_ge (t := 110) (f := 105) rfl rfl rfl (fun c102 => ?_) (fun c102 => ?_)
    · refine w_bipush (x := Int32.ofInt (-2)) rfl rfl (by decide) ?_
      exact w_iret rfl (by simp only [m_ra, *, ite_true, ite_false, and_self, and_true, true_and, and_false, false_and, or_true, true_or, or_false, false_or, not_true, not_false_iff] <;> rfl) rfl rfl rfl
    · refine w_iload rfl rfl rfl ?_
      refine w_goto (pc' := 112) rfl rfl ?_
      exact w_iret rfl (by simp only [m_ra, *, ite_true, ite_false, and_self, and_true, true_and, and_false, false_and, or_true, true_or, or_false, false_or, not_true, not_false_iff] <;> rfl) rfl rfl rfl
  | succ j ih =>
    intro g n u v e
    rw [m_ra_s]
    refine w_iload rfl rfl rfl ?_
    refine w_iconst (x := Int32.ofNat 4) rfl rfl (by decide) ?_
    refine w_ic_geN (t := 101) (f := 12) rfl rfl rfl (by omega) (by omega) (fun c9 => absurd c9 (by omega)) (fun c9 => ?_)
    refine w_iload rfl rfl rfl ?_
    refine w_iconst (x := Int32.ofNat 2) rfl rfl (by decide) ?_
    refine w_idivN rfl rfl (by omega) ?_
    refine w_istore (L' := [_, _, _, _, _, _, _, _]) rfl rfl rfl ?_
    refine w_iload rfl rfl rfl ?_
    refine w_iconst (x := Int32.ofNat 2) rfl rfl (by decide) ?_
    refine w_iremN rfl rfl (by omega) ?_
    refine w_istore (L' := [_, _, _, _, _, _, _, _]) rfl rfl rfl ?_
    refine w_aload_n rfl rfl rfl ?_
    refine w_iload_n rfl rfl rfl ?_
    refine w_iload_n rfl rfl rfl ?_
    refine w_iconst (x := Int32.ofNat 1) rfl rfl (by decide) ?_
    refine w_iload rfl rfl rfl ?_
    refine w_isubN rfl rfl (by omega) ?_
    refine w_iload rfl rfl rfl ?_
    refine w_cv (q := am_m260) (as := [_, _, _, _]) (rest := []) (st' := [_]) rfl rfl rfl rfl rfl rfl sp110 rfl rfl rfl rfl (c_hasBy ha hc hk) rfl rfl ?_
    refine w_aload_n rfl rfl rfl ?_
    refine w_iload_n rfl rfl rfl ?_
    refine w_iload_n rfl rfl rfl ?_
    refine w_iload rfl rfl rfl ?_
    refine w_iload rfl rfl rfl ?_
    refine w_cv (q := am_m260) (as := [_, _, _, _]) (rest := [_]) (st' := [_, _]) rfl rfl rfl rfl rfl rfl sp110 rfl rfl rfl rfl (c_hasBy ha hc hk) rfl rfl ?_
    refine w_ic_gt (t := 95) (f := 49) rfl rfl rfl (fun c46 => ?_) (fun c46 => ?_)
    · first | rw [if_pos (show m_raP I a c g from Or.inl c46)] | rw [if_pos (show m_raP I a c g from Or.inr c71)] | skip
      refine w_iinc (L' := [_, _, _, _, _, _, _, _]) rfl rfl rfl (am_incN 1) rfl ?_
      refine w_goto (pc' := 6) rfl rfl ?_
      first | exact ih (g + 1) n _ _ (by omega) | exact ih (g + 1) (n + 1) _ _ (by omega)
    · refine w_aload_n rfl rfl rfl ?_
      refine w_iload_n rfl rfl rfl ?_
      refine w_iload_n rfl rfl rfl ?_
      refine w_iconst (x := Int32.ofNat 1) rfl rfl (by decide) ?_
      refine w_iload rfl rfl rfl ?_
      refine w_isubN rfl rfl (by omega) ?_
      refine w_iload rfl rfl rfl ?_
      refine w_cv (q := am_m260) (as := [_, _, _, _]) (rest := []) (st' := [_]) rfl rfl rfl rfl rfl rfl sp110 rfl rfl rfl rfl (c_hasBy hc ha hk) rfl rfl ?_
      refine w_aload_n rfl rfl rfl ?_
      refine w_iload_n rfl rfl rfl ?_
      refine w_iload_n rfl rfl rfl ?_
      refine w_iload rfl rfl rfl ?_
      refine w_iload rfl rfl rfl ?_
      refine w_cv (q := am_m260) (as := [_, _, _, _]) (rest := [_]) (st' := [_, _]) rfl rfl rfl rfl rfl rfl sp110 rfl rfl rfl rfl (c_hasBy hc ha hk) rfl rfl ?_
      refine w_ic_le (t := 77) (f := 74) rfl rfl rfl (fun c71 => ?_) (fun c71 => ?_)
      · refine w_iload rfl rfl rfl ?_
        refine w_iload_n rfl rfl rfl ?_
        refine w_ic_ne (t := 92) (f := 83) rfl rfl rfl (fun c80 => ?_) (fun c80 => ?_)
        · rw [if_neg (show ¬ m_raP I a c g from not_or.mpr (And.intro c46 c71)), if_neg c80]
          refine w_iinc (L' := [_, _, _, _, _, _, _, _]) rfl rfl rfl (am_incN 1) rfl ?_
          first | rw [if_pos (show m_raP I a c g from Or.inl c46)] | rw [if_pos (show m_raP I a c g from Or.inr c71)] | skip
          refine w_iinc (L' := [_, _, _, _, _, _, _, _]) rfl rfl rfl (am_incN 1) rfl ?_
          refine w_goto (pc' := 6) rfl rfl ?_
          first | exact ih (g + 1) n _ _ (by omega) | exact ih (g + 1) (n + 1) _ _ (by omega)
        · refine w_bipush (x := Int32.ofNat 10) rfl rfl (by decide) ?_
          refine w_iload rfl rfl rfl ?_
          refine w_imulN rfl rfl ?_
          refine w_iload rfl rfl rfl ?_
          refine w_iaddN rfl rfl ?_
          exact w_iret rfl (by rw [if_neg (show ¬ m_raP I a c g from not_or.mpr (And.intro c46 c71)), if_pos c80]) rfl rfl rfl
      · refine w_goto (pc' := 95) rfl rfl ?_
        first | rw [if_pos (show m_raP I a c g from Or.inl c46)] | rw [if_pos (show m_raP I a c g from Or.inr c71)] | skip
        refine w_iinc (L' := [_, _, _, _, _, _, _, _]) rfl rfl rfl (am_incN 1) rfl ?_
        refine w_goto (pc' := 6) rfl rfl ?_
        first | exact ih (g + 1) n _ _ (by omega) | exact ih (g + 1) (n + 1) _ _ (by omega)
theorem c_restAt {k : Nat} {I : hI} {J : hJ} {R : hR} {a c : Nat} {w : Int32} (ha : a < 6) (hc : c < 6) (hk : 2 ≤ k) : ct k 261 [.ref 110, .int (Int32.ofNat a), .int (Int32.ofNat c), .int w] I J R (some (.int (m_ra I a c w 4 0 0))) I J R := by
  obtain ⟨k, rfl⟩ : ∃ k', k = k' + 1 := ⟨k - 1, by omega⟩
  refine ct_of (q := am_m261) (L := [_, _, _, _, _, _, _, _]) rfl rfl rfl rfl rfl rfl ?_
  refine w_iconst (x := Int32.ofNat 0) rfl rfl (by decide) ?_
  refine w_istore (L' := [_, _, _, _, _, _, _, _]) rfl rfl rfl ?_
  refine w_iconst (x := Int32.ofNat 0) rfl rfl (by decide) ?_
  refine w_istore (L' := [_, _, _, _, _, _, _, _]) rfl rfl rfl ?_
  exact l_restAt ha hc (by omega) 4 0 0 _ _ (by omega)
theorem c_areTwo {k : Nat} {I : hI} {J : hJ} {R : hR} {x y : Int32} (hk : 2 ≤ k) : ct k 262 [.ref 110, .int x, .int y] I J R (some (.int (if (¬ x < 0 ∧ x < I 110 12) ∧ (¬ y < 0 ∧ y < I 110 12) ∧ ¬ x = y then 1 else 0))) I J R := by
  obtain ⟨k, rfl⟩ : ∃ k', k = k' + 1 := ⟨k - 1, by omega⟩
  refine ct_of (q := am_m262) (L := [_, _, _]) rfl rfl rfl rfl rfl rfl ?_
  refine w_aload_n rfl rfl rfl ?_
  refine w_iload_n rfl rfl rfl ?_
  refine w_cv (q := am_m214) (as := [_]) (rest := []) (st' := [_]) rfl rfl rfl rfl rfl rfl sp110 rfl rfl rfl rfl (c_isMaker (by omega)) rfl rfl ?_
  refine w_if_eqB (t := 25) (f := 8) rfl rfl rfl (fun c5 => ?_) (fun c5 => ?_)
  · refine w_iconst (x := Int32.ofNat 0) rfl rfl (by decide) ?_
    exact w_bret rfl (by decide) (by simp only [*, ite_true, ite_false, and_self, and_true, true_and, and_false, false_and, or_true, true_or, or_false, false_or, not_true, not_false_iff] <;> rfl) rfl rfl rfl
  · refine w_aload_n rfl rfl rfl ?_
    refine w_iload_n rfl rfl rfl ?_
    refine w_cv (q := am_m214) (as := [_]) (rest := []) (st' := [_]) rfl rfl rfl rfl rfl rfl sp110 rfl rfl rfl rfl (c_isMaker (by omega)) rfl rfl ?_
    refine w_if_eqB (t := 25) (f := 16) rfl rfl rfl (fun c13 => ?_) (fun c13 => ?_)
    · refine w_iconst (x := Int32.ofNat 0) rfl rfl (by decide) ?_
      exact w_bret rfl (by decide) (by simp only [*, ite_true, ite_false, and_self, and_true, true_and, and_false, false_and, or_true, true_or, or_false, false_or, not_true, not_false_iff] <;> rfl) rfl rfl rfl
    · refine w_iload_n rfl rfl rfl ?_
      refine w_iload_n rfl rfl rfl ?_
      refine w_ic_eq (t := 25) (f := 21) rfl rfl rfl (fun c18 => ?_) (fun c18 => ?_)
      · refine w_iconst (x := Int32.ofNat 0) rfl rfl (by decide) ?_
        exact w_bret rfl (by decide) (by simp only [*, ite_true, ite_false, and_self, and_true, true_and, and_false, false_and, or_true, true_or, or_false, false_or, not_true, not_false_iff] <;> rfl) rfl rfl rfl
      · refine w_iconst (x := Int32.ofNat 1) rfl rfl (by decide) ?_
        refine w_goto (pc' := 26) rfl rfl ?_
        exact w_bret rfl (by decide) (by simp only [*, ite_true, ite_false, and_self, and_true, true_and, and_false, false_and, or_true, true_or, or_false, false_or, not_true, not_false_iff] <;> rfl) rfl rfl rfl
theorem c_rests {k : Nat} {I : hI} {J : hJ} {R : hR} {N : Nat → Nat} (t : tok I N) {a c : Nat} (ha : a < N 0) (hc : c < N 0) (hac : a ≠ c) (hk : 3 ≤ k) : ct k 263 [.ref 110, .int (Int32.ofNat a), .int (Int32.ofNat c)] I J R (some (.int (m_ra (m_z I) a c (Int32.ofInt (-1)) 4 0 0))) (m_z I) J R := by
  obtain ⟨k, rfl⟩ : ∃ k', k = k' + 1 := ⟨k - 1, by omega⟩
  have hn0 := t.1.1
  have h12 := t.2.1.1
  have h5 : ¬ ¬ ((¬ Int32.ofNat a < 0 ∧ Int32.ofNat a < am_u I 110 2 (Int32.ofNat 0) 110 12) ∧ (¬ Int32.ofNat c < 0 ∧ Int32.ofNat c < am_u I 110 2 (Int32.ofNat 0) 110 12) ∧ ¬ Int32.ofNat a = Int32.ofNat c) := not_not_intro ⟨Decidable.of_not_not (isok ha (by omega) ((am_u_nk (by decide)).trans h12)), Decidable.of_not_not (isok hc (by omega) ((am_u_nk (by decide)).trans h12)), fun z => hac ((am_eqN (by omega) (by omega)).mp z)⟩
  refine ct_of (q := am_m263) (L := [_, _, _]) rfl rfl rfl rfl rfl rfl ?_
  refine w_aload_n rfl rfl rfl ?_
  refine w_iconst (x := Int32.ofNat 0) rfl rfl (by decide) ?_
  refine w_pf rfl rfl rfl sp110 rfl rfl rfl ?_
  refine w_aload_n rfl rfl rfl ?_
  refine w_iload_n rfl rfl rfl ?_
  refine w_iload_n rfl rfl rfl ?_
  refine w_cv (q := am_m262) (as := [_, _]) (rest := []) (st' := [_]) rfl rfl rfl rfl rfl rfl sp110 rfl rfl rfl rfl (c_areTwo (by omega)) rfl rfl ?_
  refine w_if_eqB (t := 24) (f := 14) rfl rfl rfl (fun c11 => absurd c11 h5) (fun c11 => ?_)
  refine w_aload_n rfl rfl rfl ?_
  refine w_iload_n rfl rfl rfl ?_
  refine w_iload_n rfl rfl rfl ?_
  refine w_iconst (x := Int32.ofInt (-1)) rfl rfl (by decide) ?_
  refine w_cv (q := am_m261) (as := [_, _, _]) (rest := []) (st' := [_]) rfl rfl rfl rfl rfl rfl sp110 rfl rfl rfl rfl (c_restAt (by omega) (by omega) (by omega)) rfl rfl ?_
  refine w_goto (pc' := 25) rfl rfl ?_
  exact w_iret rfl rfl rfl rfl rfl
theorem c_rests_no {k : Nat} {I : hI} {J : hJ} {R : hR} {x y : Int32} (hx : ¬ ((¬ x < 0 ∧ x < I 110 12) ∧ (¬ y < 0 ∧ y < I 110 12) ∧ ¬ x = y)) (hk : 3 ≤ k) : ct k 263 [.ref 110, .int x, .int y] I J R (some (.int (Int32.ofInt (-1)))) (m_z I) J R := by
  obtain ⟨k, rfl⟩ : ∃ k', k = k' + 1 := ⟨k - 1, by omega⟩
  refine ct_of (q := am_m263) (L := [_, _, _]) rfl rfl rfl rfl rfl rfl ?_
  refine w_aload_n rfl rfl rfl ?_
  refine w_iconst (x := Int32.ofNat 0) rfl rfl (by decide) ?_
  refine w_pf rfl rfl rfl sp110 rfl rfl rfl ?_
  refine w_aload_n rfl rfl rfl ?_
  refine w_iload_n rfl rfl rfl ?_
  refine w_iload_n rfl rfl rfl ?_
  refine w_cv (q := am_m262) (as := [_, _]) (rest := []) (st' := [_]) rfl rfl rfl rfl rfl rfl sp110 rfl rfl rfl rfl (c_areTwo (by omega)) rfl rfl ?_
  refine w_if_eqB (t := 24) (f := 14) rfl rfl rfl (fun c11 => ?_) (fun c11 => absurd c11 hx)
  refine w_iconst (x := Int32.ofInt (-1)) rfl rfl (by decide) ?_
  exact w_iret rfl rfl rfl rfl rfl
theorem c_rest {k : Nat} {I : hI} {J : hJ} {R : hR} {N : Nat → Nat} (t : tok I N) {a c : Nat} (ha : a < N 0) (hc : c < N 0) (hac : a ≠ c) {w : Int32} (hw : ¬ w < 0) (hk : 3 ≤ k) : ct k 264 [.ref 110, .int (Int32.ofNat a), .int (Int32.ofNat c), .int w] I J R (some (.int (m_ra (m_z I) a c w 4 0 0))) (m_z I) J R := by
  obtain ⟨k, rfl⟩ : ∃ k', k = k' + 1 := ⟨k - 1, by omega⟩
  have hn0 := t.1.1
  have h12 := t.2.1.1
  have h5 : ¬ ¬ ((¬ Int32.ofNat a < 0 ∧ Int32.ofNat a < am_u I 110 2 (Int32.ofNat 0) 110 12) ∧ (¬ Int32.ofNat c < 0 ∧ Int32.ofNat c < am_u I 110 2 (Int32.ofNat 0) 110 12) ∧ ¬ Int32.ofNat a = Int32.ofNat c) := not_not_intro ⟨Decidable.of_not_not (isok ha (by omega) ((am_u_nk (by decide)).trans h12)), Decidable.of_not_not (isok hc (by omega) ((am_u_nk (by decide)).trans h12)), fun z => hac ((am_eqN (by omega) (by omega)).mp z)⟩
  refine ct_of (q := am_m264) (L := [_, _, _, _]) rfl rfl rfl rfl rfl rfl ?_
  refine w_aload_n rfl rfl rfl ?_
  refine w_iconst (x := Int32.ofNat 0) rfl rfl (by decide) ?_
  refine w_pf rfl rfl rfl sp110 rfl rfl rfl ?_
  refine w_aload_n rfl rfl rfl ?_
  refine w_iload_n rfl rfl rfl ?_
  refine w_iload_n rfl rfl rfl ?_
  refine w_cv (q := am_m262) (as := [_, _]) (rest := []) (st' := [_]) rfl rfl rfl rfl rfl rfl sp110 rfl rfl rfl rfl (c_areTwo (by omega)) rfl rfl ?_
  refine w_if_eqB (t := 28) (f := 14) rfl rfl rfl (fun c11 => absurd c11 h5) (fun c11 => ?_)
  refine w_iload_n rfl rfl rfl ?_
  refine w_if_lt (t := 28) (f := 18) rfl rfl rfl (fun c15 => absurd c15 hw) (fun c15 => ?_)
  refine w_aload_n rfl rfl rfl ?_
  refine w_iload_n rfl rfl rfl ?_
  refine w_iload_n rfl rfl rfl ?_
  refine w_iload_n rfl rfl rfl ?_
  refine w_cv (q := am_m261) (as := [_, _, _]) (rest := []) (st' := [_]) rfl rfl rfl rfl rfl rfl sp110 rfl rfl rfl rfl (c_restAt (by omega) (by omega) (by omega)) rfl rfl ?_
  refine w_goto (pc' := 29) rfl rfl ?_
  exact w_iret rfl rfl rfl rfl rfl
theorem c_rest_no {k : Nat} {I : hI} {J : hJ} {R : hR} {x y w : Int32} (hx : ¬ (((¬ x < 0 ∧ x < I 110 12) ∧ (¬ y < 0 ∧ y < I 110 12) ∧ ¬ x = y) ∧ ¬ w < 0)) (hk : 3 ≤ k) : ct k 264 [.ref 110, .int x, .int y, .int w] I J R (some (.int (Int32.ofInt (-1)))) (m_z I) J R := by
  obtain ⟨k, rfl⟩ : ∃ k', k = k' + 1 := ⟨k - 1, by omega⟩
  refine ct_of (q := am_m264) (L := [_, _, _, _]) rfl rfl rfl rfl rfl rfl ?_
  refine w_aload_n rfl rfl rfl ?_
  refine w_iconst (x := Int32.ofNat 0) rfl rfl (by decide) ?_
  refine w_pf rfl rfl rfl sp110 rfl rfl rfl ?_
  refine w_aload_n rfl rfl rfl ?_
  refine w_iload_n rfl rfl rfl ?_
  refine w_iload_n rfl rfl rfl ?_
  refine w_cv (q := am_m262) (as := [_, _]) (rest := []) (st' := [_]) rfl rfl rfl rfl rfl rfl sp110 rfl rfl rfl rfl (c_areTwo (by omega)) rfl rfl ?_
  refine w_if_eqB (t := 28) (f := 14) rfl rfl rfl (fun c11 => ?_) (fun c11 => ?_)
  · refine w_iconst (x := Int32.ofInt (-1)) rfl rfl (by decide) ?_
    exact w_iret rfl rfl rfl rfl rfl
  · refine w_iload_n rfl rfl rfl ?_
    refine w_if_lt (t := 28) (f := 18) rfl rfl rfl (fun c15 => ?_) (fun c15 => ?_)
    · refine w_iconst (x := Int32.ofInt (-1)) rfl rfl (by decide) ?_
      exact w_iret rfl rfl rfl rfl rfl
    · exact (hx ⟨c11, c15⟩).elim
def m_noI (I : hI) (q : Nat) (a b c : Int32) : hI := am_u (am_u (am_u (am_u I 149 (3 * q) a) 149 (3 * q + 1) b) 149 (3 * q + 2) c) 110 79 (Int32.ofNat (q + 1))
theorem c_noted {k : Nat} {I : hI} {J : hJ} {R : hR} {q : Nat} {a b c : Int32} (hq : q < 24) (h79 : I 110 79 = Int32.ofNat q) (hk : 1 ≤ k) : ct k 266 [.ref 110, .int a, .int b, .int c] I J R (some (.int (Int32.ofNat q))) (m_noI I q a b c) J R := by
  obtain ⟨k, rfl⟩ : ∃ k', k = k' + 1 := ⟨k - 1, by omega⟩
  refine ct_of (q := am_m266) (L := [_, _, _, _]) rfl rfl rfl rfl rfl rfl ?_
  refine w_aload_n rfl rfl rfl ?_
  refine w_gf (t := .ref (149)) (v := .ref (149)) rfl rfl rfl sp110 rfl rfl rfl ?_
  refine w_iconst (x := Int32.ofNat 3) rfl rfl (by decide) ?_
  refine w_aload_n rfl rfl rfl ?_
  refine w_gf (t := .int 0) (v := .int _) rfl rfl rfl sp110 rfl (congrArg Value.int h79) rfl ?_
  refine w_imulN rfl rfl ?_
  refine w_iload_n rfl rfl rfl ?_
  refine w_iastore rfl rfl sp149 rfl ⟨by omega, by omega⟩ ?_
  refine w_aload_n rfl rfl rfl ?_
  refine w_gf (t := .ref (149)) (v := .ref (149)) rfl rfl rfl sp110 rfl rfl rfl ?_
  refine w_iconst (x := Int32.ofNat 3) rfl rfl (by decide) ?_
  refine w_aload_n rfl rfl rfl ?_
  refine w_gf (t := .int 0) (v := .int _) rfl rfl rfl sp110 rfl (congrArg Value.int ((congrFun (am_u_ne (by decide)) _).trans h79)) rfl ?_
  refine w_imulN rfl rfl ?_
  refine w_iconst (x := Int32.ofNat 1) rfl rfl (by decide) ?_
  refine w_iaddN rfl rfl ?_
  refine w_iload_n rfl rfl rfl ?_
  refine w_iastore rfl rfl sp149 rfl ⟨by omega, by omega⟩ ?_
  refine w_aload_n rfl rfl rfl ?_
  refine w_gf (t := .ref (149)) (v := .ref (149)) rfl rfl rfl sp110 rfl rfl rfl ?_
  refine w_iconst (x := Int32.ofNat 3) rfl rfl (by decide) ?_
  refine w_aload_n rfl rfl rfl ?_
  refine w_gf (t := .int 0) (v := .int _) rfl rfl rfl sp110 rfl (congrArg Value.int (((congrFun (am_u_ne (by decide)) _).trans (congrFun (am_u_ne (by decide)) _)).trans h79)) rfl ?_
  refine w_imulN rfl rfl ?_
  refine w_iconst (x := Int32.ofNat 2) rfl rfl (by decide) ?_
  refine w_iaddN rfl rfl ?_
  refine w_iload_n rfl rfl rfl ?_
  refine w_iastore rfl rfl sp149 rfl ⟨by omega, by omega⟩ ?_
  refine w_aload_n rfl rfl rfl ?_
  refine w_dup rfl rfl rfl ?_
  refine w_gf (t := .int 0) (v := .int _) rfl rfl rfl sp110 rfl (congrArg Value.int (((congrFun (am_u_ne (by decide)) _).trans ((congrFun (am_u_ne (by decide)) _).trans (congrFun (am_u_ne (by decide)) _))).trans h79)) rfl ?_
  refine w_iconst (x := Int32.ofNat 1) rfl rfl (by decide) ?_
  refine w_iaddN rfl rfl ?_
  refine w_pf rfl rfl rfl sp110 rfl rfl rfl ?_
  refine w_aload_n rfl rfl rfl ?_
  refine w_gf (t := .int 0) (v := .int _) rfl rfl rfl sp110 rfl (congrArg Value.int am_u_at) rfl ?_
  refine w_iconst (x := Int32.ofNat 1) rfl rfl (by decide) ?_
  refine w_isubN rfl rfl (by omega) ?_
  exact w_iret rfl rfl rfl rfl rfl
theorem c_see {k : Nat} {I : hI} {J : hJ} {R : hR} {N : Nat → Nat} (t : tok I N) {s n : Nat} {x : Int32} (hs : s < N 2) (h1 : 1 ≤ n) (h2 : n ≤ 60) {q : Nat} (hq : q < 24) (h79 : I 110 79 = Int32.ofNat q) (hk : 2 ≤ k) : ct k 267 [.ref 110, .int (Int32.ofNat n), .int (Int32.ofNat s), .int x] I J R (some (.int (Int32.ofNat q))) (m_noI (m_z I) q (Int32.ofNat n) (Int32.ofNat s) (if x = 0 then Int32.ofNat 0 else Int32.ofNat 1)) J R := by
  obtain ⟨k, rfl⟩ : ∃ k', k = k' + 1 := ⟨k - 1, by omega⟩
  have hn := t.1.2.1
  have h13 := t.2.1.2.1
  have hn2 := t.1.2.2.1
  have h14 := t.2.1.2.2.1
  have t1 := tok_z t
  refine ct_of (q := am_m267) (L := [_, _, _, _]) rfl rfl rfl rfl rfl rfl ?_
  refine w_aload_n rfl rfl rfl ?_
  refine w_iconst (x := Int32.ofNat 0) rfl rfl (by decide) ?_
  refine w_pf rfl rfl rfl sp110 rfl rfl rfl ?_
  refine w_aload_n rfl rfl rfl ?_
  refine w_gf (t := .int 0) (v := .int _) rfl rfl rfl sp110 rfl (congrArg Value.int ((am_u_nk (by decide)).trans h79)) rfl ?_
  refine w_bipush (x := Int32.ofNat 24) rfl rfl (by decide) ?_
  refine w_ic_eqN (t := 32) (f := 14) rfl rfl rfl (by omega) (by omega) (fun c11 => absurd c11 (by omega)) (fun c11 => ?_)
  refine w_iload_n rfl rfl rfl ?_
  refine w_iconst (x := Int32.ofNat 1) rfl rfl (by decide) ?_
  refine w_bipush (x := Int32.ofNat 60) rfl rfl (by decide) ?_
  refine w_cs (q := am_m168) (na := 3) (as := [_, _, _]) (st' := [_]) rfl rfl rfl rfl (by decide) rfl rfl (Nat.le_of_ble_eq_true rfl) rfl rfl rfl (c_isIn (by omega)) rfl rfl ?_
  refine w_if_eqB (t := 32) (f := 24) rfl rfl rfl (fun c21 => absurd c21 (inok h1 h2 (by decide))) (fun c21 => ?_)
  refine w_aload_n rfl rfl rfl ?_
  refine w_iload_n rfl rfl rfl ?_
  refine w_cv (q := am_m216) (as := [_]) (rest := []) (st' := [_]) rfl rfl rfl rfl rfl rfl sp110 rfl rfl rfl rfl (c_isShip (by omega)) rfl rfl ?_
  refine w_if_neB (t := 36) (f := 32) rfl rfl rfl (fun c29 => ?_) (fun c29 => absurd c29 (isok hs (by omega) ((am_u_nk (by decide)).trans h14)))
  refine w_aload_n rfl rfl rfl ?_
  refine w_iload_n rfl rfl rfl ?_
  refine w_iload_n rfl rfl rfl ?_
  refine w_iload_n rfl rfl rfl ?_
  refine w_if_eq (t := 47) (f := 43) rfl rfl rfl (fun c40 => ?_) (fun c40 => ?_)
  · refine w_iconst (x := Int32.ofNat 0) rfl rfl (by decide) ?_
    refine w_cv (q := am_m266) (as := [_, _, _]) (rest := []) (st' := [_]) rfl rfl rfl rfl rfl rfl sp110 rfl rfl rfl rfl (c_noted hq ((am_u_nk (by decide)).trans h79) (by omega)) rfl rfl ?_
    exact w_iret rfl rfl (by simp only [*, ite_true, ite_false, and_self, and_true, true_and, and_false, false_and, or_true, true_or, or_false, false_or, not_true, not_false_iff] <;> rfl) rfl rfl
  · refine w_iconst (x := Int32.ofNat 1) rfl rfl (by decide) ?_
    refine w_goto (pc' := 48) rfl rfl ?_
    refine w_cv (q := am_m266) (as := [_, _, _]) (rest := []) (st' := [_]) rfl rfl rfl rfl rfl rfl sp110 rfl rfl rfl rfl (c_noted hq ((am_u_nk (by decide)).trans h79) (by omega)) rfl rfl ?_
    exact w_iret rfl rfl (by simp only [*, ite_true, ite_false, and_self, and_true, true_and, and_false, false_and, or_true, true_or, or_false, false_or, not_true, not_false_iff] <;> rfl) rfl rfl
theorem c_see_no {k : Nat} {I : hI} {J : hJ} {R : hR} {x y z : Int32} (hx : ¬ (¬ I 110 79 = Int32.ofNat 24 ∧ (¬ x < Int32.ofNat 1 ∧ ¬ Int32.ofNat 60 < x) ∧ ¬ y < 0 ∧ y < I 110 14)) (hk : 2 ≤ k) : ct k 267 [.ref 110, .int x, .int y, .int z] I J R (some (.int (Int32.ofInt (-1)))) (m_z I) J R := by
  obtain ⟨k, rfl⟩ : ∃ k', k = k' + 1 := ⟨k - 1, by omega⟩
  refine ct_of (q := am_m267) (L := [_, _, _, _]) rfl rfl rfl rfl rfl rfl ?_
  refine w_aload_n rfl rfl rfl ?_
  refine w_iconst (x := Int32.ofNat 0) rfl rfl (by decide) ?_
  refine w_pf rfl rfl rfl sp110 rfl rfl rfl ?_
  refine w_aload_n rfl rfl rfl ?_
  refine w_gf (t := .int 0) (v := .int _) rfl rfl rfl sp110 rfl (congrArg Value.int (am_u_nk (by decide))) rfl ?_
  refine w_bipush (x := Int32.ofNat 24) rfl rfl (by decide) ?_
  refine w_ic_eq (t := 32) (f := 14) rfl rfl rfl (fun c11 => ?_) (fun c11 => ?_)
  · refine w_iconst (x := Int32.ofInt (-1)) rfl rfl (by decide) ?_
    refine w_goto (pc' := 51) rfl rfl ?_
    exact w_iret rfl rfl rfl rfl rfl
  · refine w_iload_n rfl rfl rfl ?_
    refine w_iconst (x := Int32.ofNat 1) rfl rfl (by decide) ?_
    refine w_bipush (x := Int32.ofNat 60) rfl rfl (by decide) ?_
    refine w_cs (q := am_m168) (na := 3) (as := [_, _, _]) (st' := [_]) rfl rfl rfl rfl (by decide) rfl rfl (Nat.le_of_ble_eq_true rfl) rfl rfl rfl (c_isIn (by omega)) rfl rfl ?_
    refine w_if_eqB (t := 32) (f := 24) rfl rfl rfl (fun c21 => ?_) (fun c21 => ?_)
    · refine w_iconst (x := Int32.ofInt (-1)) rfl rfl (by decide) ?_
      refine w_goto (pc' := 51) rfl rfl ?_
      exact w_iret rfl rfl rfl rfl rfl
    · refine w_aload_n rfl rfl rfl ?_
      refine w_iload_n rfl rfl rfl ?_
      refine w_cv (q := am_m216) (as := [_]) (rest := []) (st' := [_]) rfl rfl rfl rfl rfl rfl sp110 rfl rfl rfl rfl (c_isShip (by omega)) rfl rfl ?_
      refine w_if_neB (t := 36) (f := 32) rfl rfl rfl (fun c29 => ?_) (fun c29 => ?_)
      · exact (hx ⟨c11, c21, c29⟩).elim
      · refine w_iconst (x := Int32.ofInt (-1)) rfl rfl (by decide) ?_
        refine w_goto (pc' := 51) rfl rfl ?_
        exact w_iret rfl rfl rfl rfl rfl
theorem c_strike {k : Nat} {I : hI} {J : hJ} {R : hR} {i : Nat} {q : Nat} (hq : q < 24) (h79 : I 110 79 = Int32.ofNat q) (hi : i < q) (hk : 2 ≤ k) : ct k 268 [.ref 110, .int (Int32.ofNat i)] I J R (some (.int (Int32.ofNat q))) (m_noI (m_z I) q (Int32.ofInt (-1)) (Int32.ofNat i) (Int32.ofNat 0)) J R := by
  obtain ⟨k, rfl⟩ : ∃ k', k = k' + 1 := ⟨k - 1, by omega⟩
  refine ct_of (q := am_m268) (L := [_, _]) rfl rfl rfl rfl rfl rfl ?_
  refine w_aload_n rfl rfl rfl ?_
  refine w_iconst (x := Int32.ofNat 0) rfl rfl (by decide) ?_
  refine w_pf rfl rfl rfl sp110 rfl rfl rfl ?_
  refine w_aload_n rfl rfl rfl ?_
  refine w_gf (t := .int 0) (v := .int _) rfl rfl rfl sp110 rfl (congrArg Value.int ((am_u_nk (by decide)).trans h79)) rfl ?_
  refine w_bipush (x := Int32.ofNat 24) rfl rfl (by decide) ?_
  refine w_ic_eqN (t := 26) (f := 14) rfl rfl rfl (by omega) (by omega) (fun c11 => absurd c11 (by omega)) (fun c11 => ?_)
  refine w_iload_n rfl rfl rfl ?_
  refine w_if_lt (t := 26) (f := 18) rfl rfl rfl (fun c15 => absurd c15 (am_oN0 (by omega))) (fun c15 => ?_)
  refine w_iload_n rfl rfl rfl ?_
  refine w_aload_n rfl rfl rfl ?_
  refine w_gf (t := .int 0) (v := .int _) rfl rfl rfl sp110 rfl (congrArg Value.int ((am_u_nk (by decide)).trans h79)) rfl ?_
  refine w_ic_ltN (t := 30) (f := 26) rfl rfl rfl (by omega) (by omega) (fun c23 => ?_) (fun c23 => absurd c23 (by omega))
  refine w_aload_n rfl rfl rfl ?_
  refine w_iconst (x := Int32.ofInt (-1)) rfl rfl (by decide) ?_
  refine w_iload_n rfl rfl rfl ?_
  refine w_iconst (x := Int32.ofNat 0) rfl rfl (by decide) ?_
  refine w_cv (q := am_m266) (as := [_, _, _]) (rest := []) (st' := [_]) rfl rfl rfl rfl rfl rfl sp110 rfl rfl rfl rfl (c_noted hq ((am_u_nk (by decide)).trans h79) (by omega)) rfl rfl ?_
  exact w_iret rfl rfl rfl rfl rfl
theorem c_strike_no {k : Nat} {I : hI} {J : hJ} {R : hR} {x : Int32} (hx : ¬ (¬ I 110 79 = Int32.ofNat 24 ∧ ¬ x < 0 ∧ x < I 110 79)) (hk : 1 ≤ k) : ct k 268 [.ref 110, .int x] I J R (some (.int (Int32.ofInt (-1)))) (m_z I) J R := by
  obtain ⟨k, rfl⟩ : ∃ k', k = k' + 1 := ⟨k - 1, by omega⟩
  refine ct_of (q := am_m268) (L := [_, _]) rfl rfl rfl rfl rfl rfl ?_
  refine w_aload_n rfl rfl rfl ?_
  refine w_iconst (x := Int32.ofNat 0) rfl rfl (by decide) ?_
  refine w_pf rfl rfl rfl sp110 rfl rfl rfl ?_
  refine w_aload_n rfl rfl rfl ?_
  refine w_gf (t := .int 0) (v := .int _) rfl rfl rfl sp110 rfl (congrArg Value.int (am_u_nk (by decide))) rfl ?_
  refine w_bipush (x := Int32.ofNat 24) rfl rfl (by decide) ?_
  refine w_ic_eq (t := 26) (f := 14) rfl rfl rfl (fun c11 => ?_) (fun c11 => ?_)
  · refine w_iconst (x := Int32.ofInt (-1)) rfl rfl (by decide) ?_
    refine w_goto (pc' := 37) rfl rfl ?_
    exact w_iret rfl rfl rfl rfl rfl
  · refine w_iload_n rfl rfl rfl ?_
    refine w_if_lt (t := 26) (f := 18) rfl rfl rfl (fun c15 => ?_) (fun c15 => ?_)
    · refine w_iconst (x := Int32.ofInt (-1)) rfl rfl (by decide) ?_
      refine w_goto (pc' := 37) rfl rfl ?_
      exact w_iret rfl rfl rfl rfl rfl
    · refine w_iload_n rfl rfl rfl ?_
      refine w_aload_n rfl rfl rfl ?_
      refine w_gf (t := .int 0) (v := .int _) rfl rfl rfl sp110 rfl (congrArg Value.int (am_u_nk (by decide))) rfl ?_
      refine w_ic_lt (t := 30) (f := 26) rfl rfl rfl (fun c23 => ?_) (fun c23 => ?_)
      · exact (hx ⟨c11, c15, c23⟩).elim
      · refine w_iconst (x := Int32.ofInt (-1)) rfl rfl (by decide) ?_
        refine w_goto (pc' := 37) rfl rfl ?_
        exact w_iret rfl rfl rfl rfl rfl
def m_knP (I : hI) (x : Int32) : Prop := ¬ x < Int32.ofInt (-1) ∧ ¬ I 110 79 < x
theorem c_known {k : Nat} {I : hI} {J : hJ} {R : hR} {x : Int32} (hx : m_knP I x) (hk : 2 ≤ k) : ct k 269 [.ref 110, .int x] I J R (some (.int 1)) (am_u (m_z I) 110 80 x) J R := by
  obtain ⟨k, rfl⟩ : ∃ k', k = k' + 1 := ⟨k - 1, by omega⟩
  refine ct_of (q := am_m269) (L := [_, _]) rfl rfl rfl rfl rfl rfl ?_
  refine w_aload_n rfl rfl rfl ?_
  refine w_iconst (x := Int32.ofNat 0) rfl rfl (by decide) ?_
  refine w_pf rfl rfl rfl sp110 rfl rfl rfl ?_
  refine w_iload_n rfl rfl rfl ?_
  refine w_iconst (x := Int32.ofInt (-1)) rfl rfl (by decide) ?_
  refine w_aload_n rfl rfl rfl ?_
  refine w_gf (t := .int 0) (v := .int _) rfl rfl rfl sp110 rfl (congrArg Value.int (am_u_nk (by decide))) rfl ?_
  refine w_cs (q := am_m168) (na := 3) (as := [_, _, _]) (st' := [_]) rfl rfl rfl rfl (by decide) rfl rfl (Nat.le_of_ble_eq_true rfl) rfl rfl rfl (c_isIn (by omega)) rfl rfl ?_
  refine w_if_neB (t := 19) (f := 17) rfl rfl rfl (fun c14 => ?_) (fun c14 => absurd c14 (not_not_intro hx))
  refine w_aload_n rfl rfl rfl ?_
  refine w_iload_n rfl rfl rfl ?_
  refine w_pf rfl rfl rfl sp110 rfl rfl rfl ?_
  refine w_iconst (x := Int32.ofNat 1) rfl rfl (by decide) ?_
  exact w_bret rfl (by decide) rfl rfl rfl rfl
theorem c_known_no {k : Nat} {I : hI} {J : hJ} {R : hR} {x : Int32} (hx : ¬ m_knP I x) (hk : 2 ≤ k) : ct k 269 [.ref 110, .int x] I J R (some (.int 0)) (m_z I) J R := by
  obtain ⟨k, rfl⟩ : ∃ k', k = k' + 1 := ⟨k - 1, by omega⟩
  refine ct_of (q := am_m269) (L := [_, _]) rfl rfl rfl rfl rfl rfl ?_
  refine w_aload_n rfl rfl rfl ?_
  refine w_iconst (x := Int32.ofNat 0) rfl rfl (by decide) ?_
  refine w_pf rfl rfl rfl sp110 rfl rfl rfl ?_
  refine w_iload_n rfl rfl rfl ?_
  refine w_iconst (x := Int32.ofInt (-1)) rfl rfl (by decide) ?_
  refine w_aload_n rfl rfl rfl ?_
  refine w_gf (t := .int 0) (v := .int _) rfl rfl rfl sp110 rfl (congrArg Value.int (am_u_nk (by decide))) rfl ?_
  refine w_cs (q := am_m168) (na := 3) (as := [_, _, _]) (st' := [_]) rfl rfl rfl rfl (by decide) rfl rfl (Nat.le_of_ble_eq_true rfl) rfl rfl rfl (c_isIn (by omega)) rfl rfl ?_
  refine w_if_neB (t := 19) (f := 17) rfl rfl rfl (fun c14 => absurd c14 hx) (fun c14 => ?_)
  refine w_iconst (x := Int32.ofNat 0) rfl rfl (by decide) ?_
  exact w_bret rfl (by decide) rfl rfl rfl rfl
