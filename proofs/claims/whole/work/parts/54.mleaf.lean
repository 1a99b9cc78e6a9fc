/-! The reference: a law's sum, leaf by leaf and sign by sign. -/
/-- a sum being read: d is 1 while a value is wanted -/
def sm (I : hI) (W H K C d : Nat) : Prop := (I 110 45 = Int32.ofNat W ∧ I 110 46 = Int32.ofNat H ∧ I 110 21 = Int32.ofNat K ∧ I 110 47 = Int32.ofNat (cz (I 134) W) ∧ I 110 48 = Int32.ofNat C) ∧ H + d = cb (I 134) W + 1 ∧ K + W = C + cz (I 134) W ∧ C ≤ 64 ∧ cz (I 134) W ≤ 8 ∧ (∀ i, i < W → okn (I 134 i) 15 ∧ nn (I 134 i) ≠ 1)
theorem sm_sw0 {I : hI} {W H K C : Nat} (s : sm I W H K C 0) : sw0 I W H K C := ⟨s.1.1, s.1.2.1, s.1.2.2.1, by have := s.2.1; omega, s.2.2.1, s.2.2.2.1, s.2.2.2.2.1, s.2.2.2.2.2⟩
theorem pv_gr {I : hI} {f : Nat → Int32} {st K H : Nat} {x y z : Int32} (g : pv I f st) : pv (m_gr I K H x y z) f st := pv_c (fun a i h => m_gr_f (by omega) (by omega) (by omega)) g
theorem pv_wr {I : hI} {f : Nat → Int32} {st : Nat} {x : Int32} (g : pv I f st) : pv (m_wr I x) f st := pv_u (by omega) (by omega) (pv_u (by omega) (by omega) g)
def m_leaf (I : hI) (W H K B C : Nat) : Int32 × hI :=
  if I 110 8 = Int32.ofNat 4 ∧ I 110 9 = Int32.ofNat 40 then (if B = 8 then (0, m_wr I (Int32.ofNat 2)) else (1, m_tok (am_u (am_u (am_u (am_u I 110 47 (Int32.ofNat (B + 1))) 134 W (Int32.ofNat 0)) 110 45 (Int32.ofNat (W + 1))) 110 50 (Int32.ofNat 1))))
  else if (I 110 8 = Int32.ofNat 1 ∧ I 110 9 = Int32.ofNat 13) ∧ ¬ I 110 50 = 0 then (if C = 64 then (0, m_wr I (Int32.ofNat 2)) else (1, m_tok (am_u (am_u (am_u I 110 48 (Int32.ofNat (C + 1))) 134 W (Int32.ofNat 2)) 110 45 (Int32.ofNat (W + 1)))))
  else if m_nmt I < 0 ∧ ¬ I 110 8 = Int32.ofNat 3 then (0, m_wr I (Int32.ofNat 1))
  else if m_nmt I < 0 ∧ Int32.ofNat 9999 < I 110 9 then (0, m_wr I (Int32.ofNat 2))
  else if C = 64 then (0, m_wr I (Int32.ofNat 2))
  else (1, m_tok (am_u (m_gr (am_u I 110 48 (Int32.ofNat (C + 1))) K H (if m_nmt I < 0 then Int32.ofNat 0 else Int32.ofNat 1) (if m_nmt I < 0 then I 110 9 else m_nmt I) (Int32.ofNat 0)) 110 49 (Int32.ofNat 0)))
theorem am_na3 {P Q : Prop} (q : ¬ Q) : ¬ (P ∧ Q) := fun z => q z.2
theorem c_leaf1 {k : Nat} {I : hI} {J : hJ} {R : hR} {f : Nat → Int32} {st : Nat} (g : pv I f st) {W H K C : Nat} (s : sm I W H K C 1) (hC : C = 64) (hk : 3 ≤ k) : ct k 203 [.ref 110] I J R (some (.int (m_leaf I W H K (cz (I 134) W) C).1)) ((m_leaf I W H K (cz (I 134) W) C).2) J R := by
  obtain ⟨k, rfl⟩ : ∃ k', k = k' + 1 := ⟨k - 1, by omega⟩
  have h45 := s.1.1
  have h46 := s.1.2.1
  have h21 := s.1.2.2.1
  have h47 := s.1.2.2.2.1
  have h48 := s.1.2.2.2.2
  have b1 := s.2.1
  have b2 := s.2.2.1
  have b3 := s.2.2.2.1
  have b4 := s.2.2.2.2.1
  have b5 := cb_le (I 134) W
  have hW : W < 96 := by omega
  have hH : H < 96 := by omega
  refine ct_of (q := am_m203) (L := [_, _]) rfl rfl rfl rfl rfl rfl ?_
  refine w_aload_n rfl rfl rfl ?_
  refine w_bipush (x := Int32.ofNat 40) rfl rfl (by decide) ?_
  refine w_cv (q := am_m178) (as := [_]) (rest := []) (st' := [_]) rfl rfl rfl rfl rfl rfl sp110 rfl rfl rfl rfl (c_isSign (by omega)) rfl rfl ?_
  refine w_if_eqB (t := 50) (f := 9) rfl rfl rfl (fun c6 => ?_) (fun c6 => ?_)
  · refine w_aload_n rfl rfl rfl ?_
    refine w_bipush (x := Int32.ofNat 13) rfl rfl (by decide) ?_
    refine w_cv (q := am_m177) (as := [_]) (rest := []) (st' := [_]) rfl rfl rfl rfl rfl rfl sp110 rfl rfl rfl rfl (c_isKey (by omega)) rfl rfl ?_
    refine w_if_eqB (t := 86) (f := 59) rfl rfl rfl (fun c56 => ?_) (fun c56 => ?_)
    · refine w_aload_n rfl rfl rfl ?_
      refine w_cv (q := am_m202) (as := []) (rest := []) (st' := [_]) rfl rfl rfl rfl rfl rfl sp110 rfl rfl rfl rfl (c_nameMet (by omega)) rfl rfl ?_
      refine w_istore_n (L' := [_, _]) rfl rfl rfl ?_
      refine w_iload_n rfl rfl rfl ?_
      refine w_if_ge (t := 109) (f := 95) rfl rfl rfl (fun c92 => ?_) (fun c92 => ?_)
      · refine w_iload_n rfl rfl rfl ?_
        refine w_if_ge (t := 129) (f := 113) rfl rfl rfl (fun c110 => ?_) (fun c110 => ?_)
        · refine w_aload_n rfl rfl rfl ?_
          refine w_cv (q := am_m200) (as := []) (rest := []) (st' := [_]) rfl rfl rfl rfl rfl rfl sp110 rfl rfl rfl rfl (c_isCounted_no (hC ▸ h48) (by omega)) rfl rfl ?_
          refine w_if_ne (t := 138) (f := 136) rfl rfl rfl (fun c133 => absurd c133 (by decide)) (fun c133 => ?_)
          clear c133
          refine w_iconst (x := Int32.ofNat 0) rfl rfl (by decide) ?_
          exact w_bret rfl (by decide) (by first | contradiction | exact absurd (c56.1.symm.trans c100) (by decide) | (simp +decide only [m_leaf, *, ite_true, ite_false, and_self, and_true, true_and, and_false, false_and, or_true, true_or, or_false, false_or, not_true, not_false_iff, eq_self] <;> rfl)) (by first | contradiction | exact absurd (c56.1.symm.trans c100) (by decide) | (simp +decide only [m_leaf, *, ite_true, ite_false, and_self, and_true, true_and, and_false, false_and, or_true, true_or, or_false, false_or, not_true, not_false_iff, eq_self] <;> rfl)) rfl rfl
        · refine w_aload_n rfl rfl rfl ?_
          refine w_gf (t := .int 0) (v := .int _) rfl rfl rfl sp110 rfl (congrArg Value.int rfl) rfl ?_
          refine w_sipush (x := Int32.ofNat 9999) rfl rfl (by decide) ?_
          refine w_ic_le (t := 129) (f := 123) rfl rfl rfl (fun c120 => ?_) (fun c120 => ?_)
          · refine w_aload_n rfl rfl rfl ?_
            refine w_cv (q := am_m200) (as := []) (rest := []) (st' := [_]) rfl rfl rfl rfl rfl rfl sp110 rfl rfl rfl rfl (c_isCounted_no (hC ▸ h48) (by omega)) rfl rfl ?_
            refine w_if_ne (t := 138) (f := 136) rfl rfl rfl (fun c133 => absurd c133 (by decide)) (fun c133 => ?_)
            clear c133
            refine w_iconst (x := Int32.ofNat 0) rfl rfl (by decide) ?_
            exact w_bret rfl (by decide) (by first | contradiction | exact absurd (c56.1.symm.trans c100) (by decide) | (simp +decide only [m_leaf, *, ite_true, ite_false, and_self, and_true, true_and, and_false, false_and, or_true, true_or, or_false, false_or, not_true, not_false_iff, eq_self] <;> rfl)) (by first | contradiction | exact absurd (c56.1.symm.trans c100) (by decide) | (simp +decide only [m_leaf, *, ite_true, ite_false, and_self, and_true, true_and, and_false, false_and, or_true, true_or, or_false, false_or, not_true, not_false_iff, eq_self] <;> rfl)) rfl rfl
          · refine w_aload_n rfl rfl rfl ?_
            refine w_iconst (x := Int32.ofNat 2) rfl rfl (by decide) ?_
            refine w_cv (q := am_m170) (as := [_]) (rest := []) (st' := [_]) rfl rfl rfl rfl rfl rfl sp110 rfl rfl rfl rfl (c_wrong (by omega)) rfl rfl ?_
            exact w_bret rfl (by decide) (by first | contradiction | exact absurd (c56.1.symm.trans c100) (by decide) | (simp +decide only [m_leaf, *, ite_true, ite_false, and_self, and_true, true_and, and_false, false_and, or_true, true_or, or_false, false_or, not_true, not_false_iff, eq_self] <;> rfl)) (by first | contradiction | exact absurd (c56.1.symm.trans c100) (by decide) | (simp +decide only [m_leaf, *, ite_true, ite_false, and_self, and_true, true_and, and_false, false_and, or_true, true_or, or_false, false_or, not_true, not_false_iff, eq_self] <;> rfl)) rfl rfl
      · refine w_aload_n rfl rfl rfl ?_
        refine w_gf (t := .int 0) (v := .int _) rfl rfl rfl sp110 rfl (congrArg Value.int rfl) rfl ?_
        refine w_iconst (x := Int32.ofNat 3) rfl rfl (by decide) ?_
        refine w_ic_eq (t := 109) (f := 103) rfl rfl rfl (fun c100 => ?_) (fun c100 => ?_)
        · refine w_iload_n rfl rfl rfl ?_
          refine w_if_ge (t := 129) (f := 113) rfl rfl rfl (fun c110 => ?_) (fun c110 => ?_)
          · refine w_aload_n rfl rfl rfl ?_
            refine w_cv (q := am_m200) (as := []) (rest := []) (st' := [_]) rfl rfl rfl rfl rfl rfl sp110 rfl rfl rfl rfl (c_isCounted_no (hC ▸ h48) (by omega)) rfl rfl ?_
            refine w_if_ne (t := 138) (f := 136) rfl rfl rfl (fun c133 => absurd c133 (by decide)) (fun c133 => ?_)
            clear c133
            refine w_iconst (x := Int32.ofNat 0) rfl rfl (by decide) ?_
            exact w_bret rfl (by decide) (by first | contradiction | exact absurd (c56.1.symm.trans c100) (by decide) | (simp +decide only [m_leaf, *, ite_true, ite_false, and_self, and_true, true_and, and_false, false_and, or_true, true_or, or_false, false_or, not_true, not_false_iff, eq_self] <;> rfl)) (by first | contradiction | exact absurd (c56.1.symm.trans c100) (by decide) | (simp +decide only [m_leaf, *, ite_true, ite_false, and_self, and_true, true_and, and_false, false_and, or_true, true_or, or_false, false_or, not_true, not_false_iff, eq_self] <;> rfl)) rfl rfl
          · refine w_aload_n rfl rfl rfl ?_
            refine w_gf (t := .int 0) (v := .int _) rfl rfl rfl sp110 rfl (congrArg Value.int rfl) rfl ?_
            refine w_sipush (x := Int32.ofNat 9999) rfl rfl (by decide) ?_
            refine w_ic_le (t := 129) (f := 123) rfl rfl rfl (fun c120 => ?_) (fun c120 => ?_)
            · refine w_aload_n rfl rfl rfl ?_
              refine w_cv (q := am_m200) (as := []) (rest := []) (st' := [_]) rfl rfl rfl rfl rfl rfl sp110 rfl rfl rfl rfl (c_isCounted_no (hC ▸ h48) (by omega)) rfl rfl ?_
              refine w_if_ne (t := 138) (f := 136) rfl rfl rfl (fun c133 => absurd c133 (by decide)) (fun c133 => ?_)
              clear c133
              refine w_iconst (x := Int32.ofNat 0) rfl rfl (by decide) ?_
              exact w_bret rfl (by decide) (by first | contradiction | exact absurd (c56.1.symm.trans c100) (by decide) | (simp +decide only [m_leaf, *, ite_true, ite_false, and_self, and_true, true_and, and_false, false_and, or_true, true_or, or_false, false_or, not_true, not_false_iff, eq_self] <;> rfl)) (by first | contradiction | exact absurd (c56.1.symm.trans c100) (by decide) | (simp +decide only [m_leaf, *, ite_true, ite_false, and_self, and_true, true_and, and_false, false_and, or_true, true_or, or_false, false_or, not_true, not_false_iff, eq_self] <;> rfl)) rfl rfl
            · refine w_aload_n rfl rfl rfl ?_
              refine w_iconst (x := Int32.ofNat 2) rfl rfl (by decide) ?_
              refine w_cv (q := am_m170) (as := [_]) (rest := []) (st' := [_]) rfl rfl rfl rfl rfl rfl sp110 rfl rfl rfl rfl (c_wrong (by omega)) rfl rfl ?_
              exact w_bret rfl (by decide) (by first | contradiction | exact absurd (c56.1.symm.trans c100) (by decide) | (simp +decide only [m_leaf, *, ite_true, ite_false, and_self, and_true, true_and, and_false, false_and, or_true, true_or, or_false, false_or, not_true, not_false_iff, eq_self] <;> rfl)) (by first | contradiction | exact absurd (c56.1.symm.trans c100) (by decide) | (simp +decide only [m_leaf, *, ite_true, ite_false, and_self, and_true, true_and, and_false, false_and, or_true, true_or, or_false, false_or, not_true, not_false_iff, eq_self] <;> rfl)) rfl rfl
        · refine w_aload_n rfl rfl rfl ?_
          refine w_iconst (x := Int32.ofNat 1) rfl rfl (by decide) ?_
          refine w_cv (q := am_m170) (as := [_]) (rest := []) (st' := [_]) rfl rfl rfl rfl rfl rfl sp110 rfl rfl rfl rfl (c_wrong (by omega)) rfl rfl ?_
          exact w_bret rfl (by decide) (by first | contradiction | exact absurd (c56.1.symm.trans c100) (by decide) | (simp +decide only [m_leaf, *, ite_true, ite_false, and_self, and_true, true_and, and_false, false_and, or_true, true_or, or_false, false_or, not_true, not_false_iff, eq_self] <;> rfl)) (by first | contradiction | exact absurd (c56.1.symm.trans c100) (by decide) | (simp +decide only [m_leaf, *, ite_true, ite_false, and_self, and_true, true_and, and_false, false_and, or_true, true_or, or_false, false_or, not_true, not_false_iff, eq_self] <;> rfl)) rfl rfl
    · refine w_aload_n rfl rfl rfl ?_
      refine w_gf (t := .int 0) (v := .int _) rfl rfl rfl sp110 rfl (congrArg Value.int rfl) rfl ?_
      refine w_if_eq (t := 86) (f := 66) rfl rfl rfl (fun c63 => ?_) (fun c63 => ?_)
      · refine w_aload_n rfl rfl rfl ?_
        refine w_cv (q := am_m202) (as := []) (rest := []) (st' := [_]) rfl rfl rfl rfl rfl rfl sp110 rfl rfl rfl rfl (c_nameMet (by omega)) rfl rfl ?_
        refine w_istore_n (L' := [_, _]) rfl rfl rfl ?_
        refine w_iload_n rfl rfl rfl ?_
        refine w_if_ge (t := 109) (f := 95) rfl rfl rfl (fun c92 => ?_) (fun c92 => ?_)
        · refine w_iload_n rfl rfl rfl ?_
          refine w_if_ge (t := 129) (f := 113) rfl rfl rfl (fun c110 => ?_) (fun c110 => ?_)
          · refine w_aload_n rfl rfl rfl ?_
            refine w_cv (q := am_m200) (as := []) (rest := []) (st' := [_]) rfl rfl rfl rfl rfl rfl sp110 rfl rfl rfl rfl (c_isCounted_no (hC ▸ h48) (by omega)) rfl rfl ?_
            refine w_if_ne (t := 138) (f := 136) rfl rfl rfl (fun c133 => absurd c133 (by decide)) (fun c133 => ?_)
            clear c133
            refine w_iconst (x := Int32.ofNat 0) rfl rfl (by decide) ?_
            exact w_bret rfl (by decide) (by first | contradiction | exact absurd (c56.1.symm.trans c100) (by decide) | (simp +decide only [m_leaf, *, ite_true, ite_false, and_self, and_true, true_and, and_false, false_and, or_true, true_or, or_false, false_or, not_true, not_false_iff, eq_self] <;> rfl)) (by first | contradiction | exact absurd (c56.1.symm.trans c100) (by decide) | (simp +decide only [m_leaf, *, ite_true, ite_false, and_self, and_true, true_and, and_false, false_and, or_true, true_or, or_false, false_or, not_true, not_false_iff, eq_self] <;> rfl)) rfl rfl
          · refine w_aload_n rfl rfl rfl ?_
            refine w_gf (t := .int 0) (v := .int _) rfl rfl rfl sp110 rfl (congrArg Value.int rfl) rfl ?_
            refine w_sipush (x := Int32.ofNat 9999) rfl rfl (by decide) ?_
            refine w_ic_le (t := 129) (f := 123) rfl rfl rfl (fun c120 => ?_) (fun c120 => ?_)
            · refine w_aload_n rfl rfl rfl ?_
              refine w_cv (q := am_m200) (as := []) (rest := []) (st' := [_]) rfl rfl rfl rfl rfl rfl sp110 rfl rfl rfl rfl (c_isCounted_no (hC ▸ h48) (by omega)) rfl rfl ?_
              refine w_if_ne (t := 138) (f := 136) rfl rfl rfl (fun c133 => absurd c133 (by decide)) (fun c133 => ?_)
              clear c133
              refine w_iconst (x := Int32.ofNat 0) rfl rfl (by decide) ?_
              exact w_bret rfl (by decide) (by first | contradiction | exact absurd (c56.1.symm.trans c100) (by decide) | (simp +decide only [m_leaf, *, ite_true, ite_false, and_self, and_true, true_and, and_false, false_and, or_true, true_or, or_false, false_or, not_true, not_false_iff, eq_self] <;> rfl)) (by first | contradiction | exact absurd (c56.1.symm.trans c100) (by decide) | (simp +decide only [m_leaf, *, ite_true, ite_false, and_self, and_true, true_and, and_false, false_and, or_true, true_or, or_false, false_or, not_true, not_false_iff, eq_self] <;> rfl)) rfl rfl
            · refine w_aload_n rfl rfl rfl ?_
              refine w_iconst (x := Int32.ofNat 2) rfl rfl (by decide) ?_
              refine w_cv (q := am_m170) (as := [_]) (rest := []) (st' := [_]) rfl rfl rfl rfl rfl rfl sp110 rfl rfl rfl rfl (c_wrong (by omega)) rfl rfl ?_
              exact w_bret rfl (by decide) (by first | contradiction | exact absurd (c56.1.symm.trans c100) (by decide) | (simp +decide only [m_leaf, *, ite_true, ite_false, and_self, and_true, true_and, and_false, false_and, or_true, true_or, or_false, false_or, not_true, not_false_iff, eq_self] <;> rfl)) (by first | contradiction | exact absurd (c56.1.symm.trans c100) (by decide) | (simp +decide only [m_leaf, *, ite_true, ite_false, and_self, and_true, true_and, and_false, false_and, or_true, true_or, or_false, false_or, not_true, not_false_iff, eq_self] <;> rfl)) rfl rfl
        · refine w_aload_n rfl rfl rfl ?_
          refine w_gf (t := .int 0) (v := .int _) rfl rfl rfl sp110 rfl (congrArg Value.int rfl) rfl ?_
          refine w_iconst (x := Int32.ofNat 3) rfl rfl (by decide) ?_
          refine w_ic_eq (t := 109) (f := 103) rfl rfl rfl (fun c100 => ?_) (fun c100 => ?_)
          · refine w_iload_n rfl rfl rfl ?_
            refine w_if_ge (t := 129) (f := 113) rfl rfl rfl (fun c110 => ?_) (fun c110 => ?_)
            · refine w_aload_n rfl rfl rfl ?_
              refine w_cv (q := am_m200) (as := []) (rest := []) (st' := [_]) rfl rfl rfl rfl rfl rfl sp110 rfl rfl rfl rfl (c_isCounted_no (hC ▸ h48) (by omega)) rfl rfl ?_
              refine w_if_ne (t := 138) (f := 136) rfl rfl rfl (fun c133 => absurd c133 (by decide)) (fun c133 => ?_)
              clear c133
              refine w_iconst (x := Int32.ofNat 0) rfl rfl (by decide) ?_
              exact w_bret rfl (by decide) (by first | contradiction | exact absurd (c56.1.symm.trans c100) (by decide) | (simp +decide only [m_leaf, *, ite_true, ite_false, and_self, and_true, true_and, and_false, false_and, or_true, true_or, or_false, false_or, not_true, not_false_iff, eq_self] <;> rfl)) (by first | contradiction | exact absurd (c56.1.symm.trans c100) (by decide) | (simp +decide only [m_leaf, *, ite_true, ite_false, and_self, and_true, true_and, and_false, false_and, or_true, true_or, or_false, false_or, not_true, not_false_iff, eq_self] <;> rfl)) rfl rfl
            · refine w_aload_n rfl rfl rfl ?_
              refine w_gf (t := .int 0) (v := .int _) rfl rfl rfl sp110 rfl (congrArg Value.int rfl) rfl ?_
              refine w_sipush (x := Int32.ofNat 9999) rfl rfl (by decide) ?_
              refine w_ic_le (t := 129) (f := 123) rfl rfl rfl (fun c120 => ?_) (fun c120 => ?_)
              · refine w_aload_n rfl rfl rfl ?_
                refine w_cv (q := am_m200) (as := []) (rest := []) (st' := [_]) rfl rfl rfl rfl rfl rfl sp110 rfl rfl rfl rfl (c_isCounted_no (hC ▸ h48) (by omega)) rfl rfl ?_
                refine w_if_ne (t := 138) (f := 136) rfl rfl rfl (fun c133 => absurd c133 (by decide)) (fun c133 => ?_)
                clear c133
                refine w_iconst (x := Int32.ofNat 0) rfl rfl (by decide) ?_
                exact w_bret rfl (by decide) (by first | contradiction | exact absurd (c56.1.symm.trans c100) (by decide) | (simp +decide only [m_leaf, *, ite_true, ite_false, and_self, and_true, true_and, and_false, false_and, or_true, true_or, or_false, false_or, not_true, not_false_iff, eq_self] <;> rfl)) (by first | contradiction | exact absurd (c56.1.symm.trans c100) (by decide) | (simp +decide only [m_leaf, *, ite_true, ite_false, and_self, and_true, true_and, and_false, false_and, or_true, true_or, or_false, false_or, not_true, not_false_iff, eq_self] <;> rfl)) rfl rfl
              · refine w_aload_n rfl rfl rfl ?_
                refine w_iconst (x := Int32.ofNat 2) rfl rfl (by decide) ?_
                refine w_cv (q := am_m170) (as := [_]) (rest := []) (st' := [_]) rfl rfl rfl rfl rfl rfl sp110 rfl rfl rfl rfl (c_wrong (by omega)) rfl rfl ?_
                exact w_bret rfl (by decide) (by first | contradiction | exact absurd (c56.1.symm.trans c100) (by decide) | (simp +decide only [m_leaf, *, ite_true, ite_false, and_self, and_true, true_and, and_false, false_and, or_true, true_or, or_false, false_or, not_true, not_false_iff, eq_self] <;> rfl)) (by first | contradiction | exact absurd (c56.1.symm.trans c100) (by decide) | (simp +decide only [m_leaf, *, ite_true, ite_false, and_self, and_true, true_and, and_false, false_and, or_true, true_or, or_false, false_or, not_true, not_false_iff, eq_self] <;> rfl)) rfl rfl
          · refine w_aload_n rfl rfl rfl ?_
            refine w_iconst (x := Int32.ofNat 1) rfl rfl (by decide) ?_
            refine w_cv (q := am_m170) (as := [_]) (rest := []) (st' := [_]) rfl rfl rfl rfl rfl rfl sp110 rfl rfl rfl rfl (c_wrong (by omega)) rfl rfl ?_
            exact w_bret rfl (by decide) (by first | contradiction | exact absurd (c56.1.symm.trans c100) (by decide) | (simp +decide only [m_leaf, *, ite_true, ite_false, and_self, and_true, true_and, and_false, false_and, or_true, true_or, or_false, false_or, not_true, not_false_iff, eq_self] <;> rfl)) (by first | contradiction | exact absurd (c56.1.symm.trans c100) (by decide) | (simp +decide only [m_leaf, *, ite_true, ite_false, and_self, and_true, true_and, and_false, false_and, or_true, true_or, or_false, false_or, not_true, not_false_iff, eq_self] <;> rfl)) rfl rfl
      · refine w_aload_n rfl rfl rfl ?_
        refine w_cv (q := am_m200) (as := []) (rest := []) (st' := [_]) rfl rfl rfl rfl rfl rfl sp110 rfl rfl rfl rfl (c_isCounted_no (hC ▸ h48) (by omega)) rfl rfl ?_
        refine w_if_ne (t := 75) (f := 73) rfl rfl rfl (fun c70 => absurd c70 (by decide)) (fun c70 => ?_)
        clear c70
        refine w_iconst (x := Int32.ofNat 0) rfl rfl (by decide) ?_
        exact w_bret rfl (by decide) (by first | contradiction | exact absurd (c56.1.symm.trans c100) (by decide) | (simp +decide only [m_leaf, *, ite_true, ite_false, and_self, and_true, true_and, and_false, false_and, or_true, true_or, or_false, false_or, not_true, not_false_iff, eq_self] <;> rfl)) (by first | contradiction | exact absurd (c56.1.symm.trans c100) (by decide) | (simp +decide only [m_leaf, *, ite_true, ite_false, and_self, and_true, true_and, and_false, false_and, or_true, true_or, or_false, false_or, not_true, not_false_iff, eq_self] <;> rfl)) rfl rfl
  · refine w_aload_n rfl rfl rfl ?_
    refine w_gf (t := .int 0) (v := .int _) rfl rfl rfl sp110 rfl (congrArg Value.int h47) rfl ?_
    refine w_bipush (x := Int32.ofNat 8) rfl rfl (by decide) ?_
    refine w_ic_neN (t := 24) (f := 18) rfl rfl rfl (by omega) (by omega) (fun c15 => ?_) (fun c15 => ?_)
    · refine w_aload_n rfl rfl rfl ?_
      refine w_dup rfl rfl rfl ?_
      refine w_gf (t := .int 0) (v := .int _) rfl rfl rfl sp110 rfl (congrArg Value.int h47) rfl ?_
      refine w_iconst (x := Int32.ofNat 1) rfl rfl (by decide) ?_
      refine w_iaddN rfl rfl ?_
      refine w_pf rfl rfl rfl sp110 rfl rfl rfl ?_
      refine w_aload_n rfl rfl rfl ?_
      refine w_iconst (x := Int32.ofNat 0) rfl rfl (by decide) ?_
      refine w_cv (q := am_m201) (as := [_]) (rest := []) (st' := []) rfl rfl rfl rfl rfl rfl sp110 rfl rfl rfl rfl (c_waitsFor hW ((am_u_nk (by decide)).trans h45) (by omega)) rfl rfl ?_
      refine w_aload_n rfl rfl rfl ?_
      refine w_iconst (x := Int32.ofNat 1) rfl rfl (by decide) ?_
      refine w_pf rfl rfl rfl sp110 rfl rfl rfl ?_
      refine w_aload_n rfl rfl rfl ?_
      refine w_cv (q := am_m174) (as := []) (rest := []) (st' := []) rfl rfl rfl rfl rfl rfl sp110 rfl rfl rfl rfl (c_tok (pv_u (by omega) (by omega) (pv_u (by omega) (by omega) (pv_u (by omega) (by omega) (pv_u (by omega) (by omega) g)))) (by omega)) rfl rfl ?_
      refine w_iconst (x := Int32.ofNat 1) rfl rfl (by decide) ?_
      exact w_bret rfl (by decide) (by first | contradiction | exact absurd (c56.1.symm.trans c100) (by decide) | (simp +decide only [m_leaf, *, ite_true, ite_false, and_self, and_true, true_and, and_false, false_and, or_true, true_or, or_false, false_or, not_true, not_false_iff, eq_self] <;> rfl)) (by first | contradiction | exact absurd (c56.1.symm.trans c100) (by decide) | (simp +decide only [m_leaf, *, ite_true, ite_false, and_self, and_true, true_and, and_false, false_and, or_true, true_or, or_false, false_or, not_true, not_false_iff, eq_self] <;> rfl)) rfl rfl
    · refine w_aload_n rfl rfl rfl ?_
      refine w_iconst (x := Int32.ofNat 2) rfl rfl (by decide) ?_
      refine w_cv (q := am_m170) (as := [_]) (rest := []) (st' := [_]) rfl rfl rfl rfl rfl rfl sp110 rfl rfl rfl rfl (c_wrong (by omega)) rfl rfl ?_
      exact w_bret rfl (by decide) (by first | contradiction | exact absurd (c56.1.symm.trans c100) (by decide) | (simp +decide only [m_leaf, *, ite_true, ite_false, and_self, and_true, true_and, and_false, false_and, or_true, true_or, or_false, false_or, not_true, not_false_iff, eq_self] <;> rfl)) (by first | contradiction | exact absurd (c56.1.symm.trans c100) (by decide) | (simp +decide only [m_leaf, *, ite_true, ite_false, and_self, and_true, true_and, and_false, false_and, or_true, true_or, or_false, false_or, not_true, not_false_iff, eq_self] <;> rfl)) rfl rfl
theorem c_leaf0 {k : Nat} {I : hI} {J : hJ} {R : hR} {f : Nat → Int32} {st : Nat} (g : pv I f st) {W H K C : Nat} (s : sm I W H K C 1) (hC : C < 64) (hk : 3 ≤ k) : ct k 203 [.ref 110] I J R (some (.int (m_leaf I W H K (cz (I 134) W) C).1)) ((m_leaf I W H K (cz (I 134) W) C).2) J R := by
  obtain ⟨k, rfl⟩ : ∃ k', k = k' + 1 := ⟨k - 1, by omega⟩
  have h45 := s.1.1
  have h46 := s.1.2.1
  have h21 := s.1.2.2.1
  have h47 := s.1.2.2.2.1
  have h48 := s.1.2.2.2.2
  have b1 := s.2.1
  have b2 := s.2.2.1
  have b3 := s.2.2.2.1
  have b4 := s.2.2.2.2.1
  have b5 := cb_le (I 134) W
  have hW : W < 96 := by omega
  have hH : H < 96 := by omega
  have hC2 : ¬ C = 64 := by omega
  refine ct_of (q := am_m203) (L := [_, _]) rfl rfl rfl rfl rfl rfl ?_
  refine w_aload_n rfl rfl rfl ?_
  refine w_bipush (x := Int32.ofNat 40) rfl rfl (by decide) ?_
  refine w_cv (q := am_m178) (as := [_]) (rest := []) (st' := [_]) rfl rfl rfl rfl rfl rfl sp110 rfl rfl rfl rfl (c_isSign (by omega)) rfl rfl ?_
  refine w_if_eqB (t := 50) (f := 9) rfl rfl rfl (fun c6 => ?_) (fun c6 => ?_)
  · refine w_aload_n rfl rfl rfl ?_
    refine w_bipush (x := Int32.ofNat 13) rfl rfl (by decide) ?_
    refine w_cv (q := am_m177) (as := [_]) (rest := []) (st' := [_]) rfl rfl rfl rfl rfl rfl sp110 rfl rfl rfl rfl (c_isKey (by omega)) rfl rfl ?_
    refine w_if_eqB (t := 86) (f := 59) rfl rfl rfl (fun c56 => ?_) (fun c56 => ?_)
    · refine w_aload_n rfl rfl rfl ?_
      refine w_cv (q := am_m202) (as := []) (rest := []) (st' := [_]) rfl rfl rfl rfl rfl rfl sp110 rfl rfl rfl rfl (c_nameMet (by omega)) rfl rfl ?_
      refine w_istore_n (L' := [_, _]) rfl rfl rfl ?_
      refine w_iload_n rfl rfl rfl ?_
      refine w_if_ge (t := 109) (f := 95) rfl rfl rfl (fun c92 => ?_) (fun c92 => ?_)
      · refine w_iload_n rfl rfl rfl ?_
        refine w_if_ge (t := 129) (f := 113) rfl rfl rfl (fun c110 => ?_) (fun c110 => ?_)
        · refine w_aload_n rfl rfl rfl ?_
          refine w_cv (q := am_m200) (as := []) (rest := []) (st' := [_]) rfl rfl rfl rfl rfl rfl sp110 rfl rfl rfl rfl (c_isCounted hC h48 (by omega)) rfl rfl ?_
          refine w_if_ne (t := 138) (f := 136) rfl rfl rfl (fun c133 => ?_) (fun c133 => absurd c133 (by decide))
          clear c133
          refine w_aload_n rfl rfl rfl ?_
          refine w_iload_n rfl rfl rfl ?_
          refine w_if_lt (t := 147) (f := 143) rfl rfl rfl (fun c140 => ?_) (fun c140 => ?_)
          · refine w_iconst (x := Int32.ofNat 0) rfl rfl (by decide) ?_
            refine w_iload_n rfl rfl rfl ?_
            refine w_if_lt (t := 156) (f := 152) rfl rfl rfl (fun c149 => ?_) (fun c149 => ?_)
            · refine w_aload_n rfl rfl rfl ?_
              refine w_gf (t := .int 0) (v := .int _) rfl rfl rfl sp110 rfl (congrArg Value.int rfl) rfl ?_
              refine w_iconst (x := Int32.ofNat 0) rfl rfl (by decide) ?_
              refine w_cv (q := am_m197) (as := [_, _, _]) (rest := []) (st' := []) rfl rfl rfl rfl rfl rfl sp110 rfl rfl rfl rfl (c_grown (by omega) ((am_u_nk (by decide)).trans h21) hH ((am_u_nk (by decide)).trans h46) (by omega)) rfl rfl ?_
              refine w_aload_n rfl rfl rfl ?_
              refine w_iconst (x := Int32.ofNat 0) rfl rfl (by decide) ?_
              refine w_pf rfl rfl rfl sp110 rfl rfl rfl ?_
              refine w_aload_n rfl rfl rfl ?_
              refine w_cv (q := am_m174) (as := []) (rest := []) (st' := []) rfl rfl rfl rfl rfl rfl sp110 rfl rfl rfl rfl (c_tok (pv_u (by omega) (by omega) (pv_gr (pv_u (by omega) (by omega) g))) (by omega)) rfl rfl ?_
              refine w_iconst (x := Int32.ofNat 1) rfl rfl (by decide) ?_
              exact w_bret rfl (by decide) (by first | contradiction | exact absurd (c56.1.symm.trans c100) (by decide) | (simp +decide only [m_leaf, *, ite_true, ite_false, and_self, and_true, true_and, and_false, false_and, or_true, true_or, or_false, false_or, not_true, not_false_iff, eq_self] <;> rfl)) (by first | contradiction | exact absurd (c56.1.symm.trans c100) (by decide) | (simp +decide only [m_leaf, *, ite_true, ite_false, and_self, and_true, true_and, and_false, false_and, or_true, true_or, or_false, false_or, not_true, not_false_iff, eq_self] <;> rfl)) rfl rfl
            · refine w_iload_n rfl rfl rfl ?_
              refine w_goto (pc' := 160) rfl rfl ?_
              refine w_iconst (x := Int32.ofNat 0) rfl rfl (by decide) ?_
              refine w_cv (q := am_m197) (as := [_, _, _]) (rest := []) (st' := []) rfl rfl rfl rfl rfl rfl sp110 rfl rfl rfl rfl (c_grown (by omega) ((am_u_nk (by decide)).trans h21) hH ((am_u_nk (by decide)).trans h46) (by omega)) rfl rfl ?_
              refine w_aload_n rfl rfl rfl ?_
              refine w_iconst (x := Int32.ofNat 0) rfl rfl (by decide) ?_
              refine w_pf rfl rfl rfl sp110 rfl rfl rfl ?_
              refine w_aload_n rfl rfl rfl ?_
              refine w_cv (q := am_m174) (as := []) (rest := []) (st' := []) rfl rfl rfl rfl rfl rfl sp110 rfl rfl rfl rfl (c_tok (pv_u (by omega) (by omega) (pv_gr (pv_u (by omega) (by omega) g))) (by omega)) rfl rfl ?_
              refine w_iconst (x := Int32.ofNat 1) rfl rfl (by decide) ?_
              exact w_bret rfl (by decide) (by first | contradiction | exact absurd (c56.1.symm.trans c100) (by decide) | (simp +decide only [m_leaf, *, ite_true, ite_false, and_self, and_true, true_and, and_false, false_and, or_true, true_or, or_false, false_or, not_true, not_false_iff, eq_self] <;> rfl)) (by first | contradiction | exact absurd (c56.1.symm.trans c100) (by decide) | (simp +decide only [m_leaf, *, ite_true, ite_false, and_self, and_true, true_and, and_false, false_and, or_true, true_or, or_false, false_or, not_true, not_false_iff, eq_self] <;> rfl)) rfl rfl
          · refine w_iconst (x := Int32.ofNat 1) rfl rfl (by decide) ?_
            refine w_goto (pc' := 148) rfl rfl ?_
            refine w_iload_n rfl rfl rfl ?_
            refine w_if_lt (t := 156) (f := 152) rfl rfl rfl (fun c149 => ?_) (fun c149 => ?_)
            · refine w_aload_n rfl rfl rfl ?_
              refine w_gf (t := .int 0) (v := .int _) rfl rfl rfl sp110 rfl (congrArg Value.int rfl) rfl ?_
              refine w_iconst (x := Int32.ofNat 0) rfl rfl (by decide) ?_
              refine w_cv (q := am_m197) (as := [_, _, _]) (rest := []) (st' := []) rfl rfl rfl rfl rfl rfl sp110 rfl rfl rfl rfl (c_grown (by omega) ((am_u_nk (by decide)).trans h21) hH ((am_u_nk (by decide)).trans h46) (by omega)) rfl rfl ?_
              refine w_aload_n rfl rfl rfl ?_
              refine w_iconst (x := Int32.ofNat 0) rfl rfl (by decide) ?_
              refine w_pf rfl rfl rfl sp110 rfl rfl rfl ?_
              refine w_aload_n rfl rfl rfl ?_
              refine w_cv (q := am_m174) (as := []) (rest := []) (st' := []) rfl rfl rfl rfl rfl rfl sp110 rfl rfl rfl rfl (c_tok (pv_u (by omega) (by omega) (pv_gr (pv_u (by omega) (by omega) g))) (by omega)) rfl rfl ?_
              refine w_iconst (x := Int32.ofNat 1) rfl rfl (by decide) ?_
              exact w_bret rfl (by decide) (by first | contradiction | exact absurd (c56.1.symm.trans c100) (by decide) | (simp +decide only [m_leaf, *, ite_true, ite_false, and_self, and_true, true_and, and_false, false_and, or_true, true_or, or_false, false_or, not_true, not_false_iff, eq_self] <;> rfl)) (by first | contradiction | exact absurd (c56.1.symm.trans c100) (by decide) | (simp +decide only [m_leaf, *, ite_true, ite_false, and_self, and_true, true_and, and_false, false_and, or_true, true_or, or_false, false_or, not_true, not_false_iff, eq_self] <;> rfl)) rfl rfl
            · refine w_iload_n rfl rfl rfl ?_
              refine w_goto (pc' := 160) rfl rfl ?_
              refine w_iconst (x := Int32.ofNat 0) rfl rfl (by decide) ?_
              refine w_cv (q := am_m197) (as := [_, _, _]) (rest := []) (st' := []) rfl rfl rfl rfl rfl rfl sp110 rfl rfl rfl rfl (c_grown (by omega) ((am_u_nk (by decide)).trans h21) hH ((am_u_nk (by decide)).trans h46) (by omega)) rfl rfl ?_
              refine w_aload_n rfl rfl rfl ?_
              refine w_iconst (x := Int32.ofNat 0) rfl rfl (by decide) ?_
              refine w_pf rfl rfl rfl sp110 rfl rfl rfl ?_
              refine w_aload_n rfl rfl rfl ?_
              refine w_cv (q := am_m174) (as := []) (rest := []) (st' := []) rfl rfl rfl rfl rfl rfl sp110 rfl rfl rfl rfl (c_tok (pv_u (by omega) (by omega) (pv_gr (pv_u (by omega) (by omega) g))) (by omega)) rfl rfl ?_
              refine w_iconst (x := Int32.ofNat 1) rfl rfl (by decide) ?_
              exact w_bret rfl (by decide) (by first | contradiction | exact absurd (c56.1.symm.trans c100) (by decide) | (simp +decide only [m_leaf, *, ite_true, ite_false, and_self, and_true, true_and, and_false, false_and, or_true, true_or, or_false, false_or, not_true, not_false_iff, eq_self] <;> rfl)) (by first | contradiction | exact absurd (c56.1.symm.trans c100) (by decide) | (simp +decide only [m_leaf, *, ite_true, ite_false, and_self, and_true, true_and, and_false, false_and, or_true, true_or, or_false, false_or, not_true, not_false_iff, eq_self] <;> rfl)) rfl rfl
        · refine w_aload_n rfl rfl rfl ?_
          refine w_gf (t := .int 0) (v := .int _) rfl rfl rfl sp110 rfl (congrArg Value.int rfl) rfl ?_
          refine w_sipush (x := Int32.ofNat 9999) rfl rfl (by decide) ?_
          refine w_ic_le (t := 129) (f := 123) rfl rfl rfl (fun c120 => ?_) (fun c120 => ?_)
          · refine w_aload_n rfl rfl rfl ?_
            refine w_cv (q := am_m200) (as := []) (rest := []) (st' := [_]) rfl rfl rfl rfl rfl rfl sp110 rfl rfl rfl rfl (c_isCounted hC h48 (by omega)) rfl rfl ?_
            refine w_if_ne (t := 138) (f := 136) rfl rfl rfl (fun c133 => ?_) (fun c133 => absurd c133 (by decide))
            clear c133
            refine w_aload_n rfl rfl rfl ?_
            refine w_iload_n rfl rfl rfl ?_
            refine w_if_lt (t := 147) (f := 143) rfl rfl rfl (fun c140 => ?_) (fun c140 => ?_)
            · refine w_iconst (x := Int32.ofNat 0) rfl rfl (by decide) ?_
              refine w_iload_n rfl rfl rfl ?_
              refine w_if_lt (t := 156) (f := 152) rfl rfl rfl (fun c149 => ?_) (fun c149 => ?_)
              · refine w_aload_n rfl rfl rfl ?_
                refine w_gf (t := .int 0) (v := .int _) rfl rfl rfl sp110 rfl (congrArg Value.int rfl) rfl ?_
                refine w_iconst (x := Int32.ofNat 0) rfl rfl (by decide) ?_
                refine w_cv (q := am_m197) (as := [_, _, _]) (rest := []) (st' := []) rfl rfl rfl rfl rfl rfl sp110 rfl rfl rfl rfl (c_grown (by omega) ((am_u_nk (by decide)).trans h21) hH ((am_u_nk (by decide)).trans h46) (by omega)) rfl rfl ?_
                refine w_aload_n rfl rfl rfl ?_
                refine w_iconst (x := Int32.ofNat 0) rfl rfl (by decide) ?_
                refine w_pf rfl rfl rfl sp110 rfl rfl rfl ?_
                refine w_aload_n rfl rfl rfl ?_
                refine w_cv (q := am_m174) (as := []) (rest := []) (st' := []) rfl rfl rfl rfl rfl rfl sp110 rfl rfl rfl rfl (c_tok (pv_u (by omega) (by omega) (pv_gr (pv_u (by omega) (by omega) g))) (by omega)) rfl rfl ?_
                refine w_iconst (x := Int32.ofNat 1) rfl rfl (by decide) ?_
                exact w_bret rfl (by decide) (by first | contradiction | exact absurd (c56.1.symm.trans c100) (by decide) | (simp +decide only [m_leaf, *, ite_true, ite_false, and_self, and_true, true_and, and_false, false_and, or_true, true_or, or_false, false_or, not_true, not_false_iff, eq_self] <;> rfl)) (by first | contradiction | exact absurd (c56.1.symm.trans c100) (by decide) | (simp +decide only [m_leaf, *, ite_true, ite_false, and_self, and_true, true_and, and_false, false_and, or_true, true_or, or_false, false_or, not_true, not_false_iff, eq_self] <;> rfl)) rfl rfl
              · refine w_iload_n rfl rfl rfl ?_
                refine w_goto (pc' := 160) rfl rfl ?_
                refine w_iconst (x := Int32.ofNat 0) rfl rfl (by decide) ?_
                refine w_cv (q := am_m197) (as := [_, _, _]) (rest := []) (st' := []) rfl rfl rfl rfl rfl rfl sp110 rfl rfl rfl rfl (c_grown (by omega) ((am_u_nk (by decide)).trans h21) hH ((am_u_nk (by decide)).trans h46) (by omega)) rfl rfl ?_
                refine w_aload_n rfl rfl rfl ?_
                refine w_iconst (x := Int32.ofNat 0) rfl rfl (by decide) ?_
                refine w_pf rfl rfl rfl sp110 rfl rfl rfl ?_
                refine w_aload_n rfl rfl rfl ?_
                refine w_cv (q := am_m174) (as := []) (rest := []) (st' := []) rfl rfl rfl rfl rfl rfl sp110 rfl rfl rfl rfl (c_tok (pv_u (by omega) (by omega) (pv_gr (pv_u (by omega) (by omega) g))) (by omega)) rfl rfl ?_
                refine w_iconst (x := Int32.ofNat 1) rfl rfl (by decide) ?_
                exact w_bret rfl (by decide) (by first | contradiction | exact absurd (c56.1.symm.trans c100) (by decide) | (simp +decide only [m_leaf, *, ite_true, ite_false, and_self, and_true, true_and, and_false, false_and, or_true, true_or, or_false, false_or, not_true, not_false_iff, eq_self] <;> rfl)) (by first | contradiction | exact absurd (c56.1.symm.trans c100) (by decide) | (simp +decide only [m_leaf, *, ite_true, ite_false, and_self, and_true, true_and, and_false, false_and, or_true, true_or, or_false, false_or, not_true, not_false_iff, eq_self] <;> rfl)) rfl rfl
            · refine w_iconst (x := Int32.ofNat 1) rfl rfl (by decide) ?_
              refine w_goto (pc' := 148) rfl rfl ?_
              refine w_iload_n rfl rfl rfl ?_
              refine w_if_lt (t := 156) (f := 152) rfl rfl rfl (fun c149 => ?_) (fun c149 => ?_)
              · refine w_aload_n rfl rfl rfl ?_
                refine w_gf (t := .int 0) (v := .int _) rfl rfl rfl sp110 rfl (congrArg Value.int rfl) rfl ?_
                refine w_iconst (x := Int32.ofNat 0) rfl rfl (by decide) ?_
                refine w_cv (q := am_m197) (as := [_, _, _]) (rest := []) (st' := []) rfl rfl rfl rfl rfl rfl sp110 rfl rfl rfl rfl (c_grown (by omega) ((am_u_nk (by decide)).trans h21) hH ((am_u_nk (by decide)).trans h46) (by omega)) rfl rfl ?_
                refine w_aload_n rfl rfl rfl ?_
                refine w_iconst (x := Int32.ofNat 0) rfl rfl (by decide) ?_
                refine w_pf rfl rfl rfl sp110 rfl rfl rfl ?_
                refine w_aload_n rfl rfl rfl ?_
                refine w_cv (q := am_m174) (as := []) (rest := []) (st' := []) rfl rfl rfl rfl rfl rfl sp110 rfl rfl rfl rfl (c_tok (pv_u (by omega) (by omega) (pv_gr (pv_u (by omega) (by omega) g))) (by omega)) rfl rfl ?_
                refine w_iconst (x := Int32.ofNat 1) rfl rfl (by decide) ?_
                exact w_bret rfl (by decide) (by first | contradiction | exact absurd (c56.1.symm.trans c100) (by decide) | (simp +decide only [m_leaf, *, ite_true, ite_false, and_self, and_true, true_and, and_false, false_and, or_true, true_or, or_false, false_or, not_true, not_false_iff, eq_self] <;> rfl)) (by first | contradiction | exact absurd (c56.1.symm.trans c100) (by decide) | (simp +decide only [m_leaf, *, ite_true, ite_false, and_self, and_true, true_and, and_false, false_and, or_true, true_or, or_false, false_or, not_true, not_false_iff, eq_self] <;> rfl)) rfl rfl
              · refine w_iload_n rfl rfl rfl ?_
                refine w_goto (pc' := 160) rfl rfl ?_
                refine w_iconst (x := Int32.ofNat 0) rfl rfl (by decide) ?_
                refine w_cv (q := am_m197) (as := [_, _, _]) (rest := []) (st' := []) rfl rfl rfl rfl rfl rfl sp110 rfl rfl rfl rfl (c_grown (by omega) ((am_u_nk (by decide)).trans h21) hH ((am_u_nk (by decide)).trans h46) (by omega)) rfl rfl ?_
                refine w_aload_n rfl rfl rfl ?_
                refine w_iconst (x := Int32.ofNat 0) rfl rfl (by decide) ?_
                refine w_pf rfl rfl rfl sp110 rfl rfl rfl ?_
                refine w_aload_n rfl rfl rfl ?_
                refine w_cv (q := am_m174) (as := []) (rest := []) (st' := []) rfl rfl rfl rfl rfl rfl sp110 rfl rfl rfl rfl (c_tok (pv_u (by omega) (by omega) (pv_gr (pv_u (by omega) (by omega) g))) (by omega)) rfl rfl ?_
                refine w_iconst (x := Int32.ofNat 1) rfl rfl (by decide) ?_
                exact w_bret rfl (by decide) (by first | contradiction | exact absurd (c56.1.symm.trans c100) (by decide) | (simp +decide only [m_leaf, *, ite_true, ite_false, and_self, and_true, true_and, and_false, false_and, or_true, true_or, or_false, false_or, not_true, not_false_iff, eq_self] <;> rfl)) (by first | contradiction | exact absurd (c56.1.symm.trans c100) (by decide) | (simp +decide only [m_leaf, *, ite_true, ite_false, and_self, and_true, true_and, and_false, false_and, or_true, true_or, or_false, false_or, not_true, not_false_iff, eq_self] <;> rfl)) rfl rfl
          · refine w_aload_n rfl rfl rfl ?_
            refine w_iconst (x := Int32.ofNat 2) rfl rfl (by decide) ?_
            refine w_cv (q := am_m170) (as := [_]) (rest := []) (st' := [_]) rfl rfl rfl rfl rfl rfl sp110 rfl rfl rfl rfl (c_wrong (by omega)) rfl rfl ?_
            exact w_bret rfl (by decide) (by first | contradiction | exact absurd (c56.1.symm.trans c100) (by decide) | (simp +decide only [m_leaf, *, ite_true, ite_false, and_self, and_true, true_and, and_false, false_and, or_true, true_or, or_false, false_or, not_true, not_false_iff, eq_self] <;> rfl)) (by first | contradiction | exact absurd (c56.1.symm.trans c100) (by decide) | (simp +decide only [m_leaf, *, ite_true, ite_false, and_self, and_true, true_and, and_false, false_and, or_true, true_or, or_false, false_or, not_true, not_false_iff, eq_self] <;> rfl)) rfl rfl
      · refine w_aload_n rfl rfl rfl ?_
        refine w_gf (t := .int 0) (v := .int _) rfl rfl rfl sp110 rfl (congrArg Value.int rfl) rfl ?_
        refine w_iconst (x := Int32.ofNat 3) rfl rfl (by decide) ?_
        refine w_ic_eq (t := 109) (f := 103) rfl rfl rfl (fun c100 => ?_) (fun c100 => ?_)
        · refine w_iload_n rfl rfl rfl ?_
          refine w_if_ge (t := 129) (f := 113) rfl rfl rfl (fun c110 => ?_) (fun c110 => ?_)
          · refine w_aload_n rfl rfl rfl ?_
            refine w_cv (q := am_m200) (as := []) (rest := []) (st' := [_]) rfl rfl rfl rfl rfl rfl sp110 rfl rfl rfl rfl (c_isCounted hC h48 (by omega)) rfl rfl ?_
            refine w_if_ne (t := 138) (f := 136) rfl rfl rfl (fun c133 => ?_) (fun c133 => absurd c133 (by decide))
            clear c133
            refine w_aload_n rfl rfl rfl ?_
            refine w_iload_n rfl rfl rfl ?_
            refine w_if_lt (t := 147) (f := 143) rfl rfl rfl (fun c140 => ?_) (fun c140 => ?_)
            · refine w_iconst (x := Int32.ofNat 0) rfl rfl (by decide) ?_
              refine w_iload_n rfl rfl rfl ?_
              refine w_if_lt (t := 156) (f := 152) rfl rfl rfl (fun c149 => ?_) (fun c149 => ?_)
              · refine w_aload_n rfl rfl rfl ?_
                refine w_gf (t := .int 0) (v := .int _) rfl rfl rfl sp110 rfl (congrArg Value.int rfl) rfl ?_
                refine w_iconst (x := Int32.ofNat 0) rfl rfl (by decide) ?_
                refine w_cv (q := am_m197) (as := [_, _, _]) (rest := []) (st' := []) rfl rfl rfl rfl rfl rfl sp110 rfl rfl rfl rfl (c_grown (by omega) ((am_u_nk (by decide)).trans h21) hH ((am_u_nk (by decide)).trans h46) (by omega)) rfl rfl ?_
                refine w_aload_n rfl rfl rfl ?_
                refine w_iconst (x := Int32.ofNat 0) rfl rfl (by decide) ?_
                refine w_pf rfl rfl rfl sp110 rfl rfl rfl ?_
                refine w_aload_n rfl rfl rfl ?_
                refine w_cv (q := am_m174) (as := []) (rest := []) (st' := []) rfl rfl rfl rfl rfl rfl sp110 rfl rfl rfl rfl (c_tok (pv_u (by omega) (by omega) (pv_gr (pv_u (by omega) (by omega) g))) (by omega)) rfl rfl ?_
                refine w_iconst (x := Int32.ofNat 1) rfl rfl (by decide) ?_
                exact w_bret rfl (by decide) (by first | contradiction | exact absurd (c56.1.symm.trans c100) (by decide) | (simp +decide only [m_leaf, *, ite_true, ite_false, and_self, and_true, true_and, and_false, false_and, or_true, true_or, or_false, false_or, not_true, not_false_iff, eq_self] <;> rfl)) (by first | contradiction | exact absurd (c56.1.symm.trans c100) (by decide) | (simp +decide only [m_leaf, *, ite_true, ite_false, and_self, and_true, true_and, and_false, false_and, or_true, true_or, or_false, false_or, not_true, not_false_iff, eq_self] <;> rfl)) rfl rfl
              · refine w_iload_n rfl rfl rfl ?_
                refine w_goto (pc' := 160) rfl rfl ?_
                refine w_iconst (x := Int32.ofNat 0) rfl rfl (by decide) ?_
                refine w_cv (q := am_m197) (as := [_, _, _]) (rest := []) (st' := []) rfl rfl rfl rfl rfl rfl sp110 rfl rfl rfl rfl (c_grown (by omega) ((am_u_nk (by decide)).trans h21) hH ((am_u_nk (by decide)).trans h46) (by omega)) rfl rfl ?_
                refine w_aload_n rfl rfl rfl ?_
                refine w_iconst (x := Int32.ofNat 0) rfl rfl (by decide) ?_
                refine w_pf rfl rfl rfl sp110 rfl rfl rfl ?_
                refine w_aload_n rfl rfl rfl ?_
                refine w_cv (q := am_m174) (as := []) (rest := []) (st' := []) rfl rfl rfl rfl rfl rfl sp110 rfl rfl rfl rfl (c_tok (pv_u (by omega) (by omega) (pv_gr (pv_u (by omega) (by omega) g))) (by omega)) rfl rfl ?_
                refine w_iconst (x := Int32.ofNat 1) rfl rfl (by decide) ?_
                exact w_bret rfl (by decide) (by first | contradiction | exact absurd (c56.1.symm.trans c100) (by decide) | (simp +decide only [m_leaf, *, ite_true, ite_false, and_self, and_true, true_and, and_false, false_and, or_true, true_or, or_false, false_or, not_true, not_false_iff, eq_self] <;> rfl)) (by first | contradiction | exact absurd (c56.1.symm.trans c100) (by decide) | (simp +decide only [m_leaf, *, ite_true, ite_false, and_self, and_true, true_and, and_false, false_and, or_true, true_or, or_false, false_or, not_true, not_false_iff, eq_self] <;> rfl)) rfl rfl
            · refine w_iconst (x := Int32.ofNat 1) rfl rfl (by decide) ?_
              refine w_goto (pc' := 148) rfl rfl ?_
              refine w_iload_n rfl rfl rfl ?_
              refine w_if_lt (t := 156) (f := 152) rfl rfl rfl (fun c149 => ?_) (fun c149 => ?_)
              · refine w_aload_n rfl rfl rfl ?_
                refine w_gf (t := .int 0) (v := .int _) rfl rfl rfl sp110 rfl (congrArg Value.int rfl) rfl ?_
                refine w_iconst (x := Int32.ofNat 0) rfl rfl (by decide) ?_
                refine w_cv (q := am_m197) (as := [_, _, _]) (rest := []) (st' := []) rfl rfl rfl rfl rfl rfl sp110 rfl rfl rfl rfl (c_grown (by omega) ((am_u_nk (by decide)).trans h21) hH ((am_u_nk (by decide)).trans h46) (by omega)) rfl rfl ?_
                refine w_aload_n rfl rfl rfl ?_
                refine w_iconst (x := Int32.ofNat 0) rfl rfl (by decide) ?_
                refine w_pf rfl rfl rfl sp110 rfl rfl rfl ?_
                refine w_aload_n rfl rfl rfl ?_
                refine w_cv (q := am_m174) (as := []) (rest := []) (st' := []) rfl rfl rfl rfl rfl rfl sp110 rfl rfl rfl rfl (c_tok (pv_u (by omega) (by omega) (pv_gr (pv_u (by omega) (by omega) g))) (by omega)) rfl rfl ?_
                refine w_iconst (x := Int32.ofNat 1) rfl rfl (by decide) ?_
                exact w_bret rfl (by decide) (by first | contradiction | exact absurd (c56.1.symm.trans c100) (by decide) | (simp +decide only [m_leaf, *, ite_true, ite_false, and_self, and_true, true_and, and_false, false_and, or_true, true_or, or_false, false_or, not_true, not_false_iff, eq_self] <;> rfl)) (by first | contradiction | exact absurd (c56.1.symm.trans c100) (by decide) | (simp +decide only [m_leaf, *, ite_true, ite_false, and_self, and_true, true_and, and_false, false_and, or_true, true_or, or_false, false_or, not_true, not_false_iff, eq_self] <;> rfl)) rfl rfl
              · refine w_iload_n rfl rfl rfl ?_
                refine w_goto (pc' := 160) rfl rfl ?_
                refine w_iconst (x := Int32.ofNat 0) rfl rfl (by decide) ?_
                refine w_cv (q := am_m197) (as := [_, _, _]) (rest := []) (st' := []) rfl rfl rfl rfl rfl rfl sp110 rfl rfl rfl rfl (c_grown (by omega) ((am_u_nk (by decide)).trans h21) hH ((am_u_nk (by decide)).trans h46) (by omega)) rfl rfl ?_
                refine w_aload_n rfl rfl rfl ?_
                refine w_iconst (x := Int32.ofNat 0) rfl rfl (by decide) ?_
                refine w_pf rfl rfl rfl sp110 rfl rfl rfl ?_
                refine w_aload_n rfl rfl rfl ?_
                refine w_cv (q := am_m174) (as := []) (rest := []) (st' := []) rfl rfl rfl rfl rfl rfl sp110 rfl rfl rfl rfl (c_tok (pv_u (by omega) (by omega) (pv_gr (pv_u (by omega) (by omega) g))) (by omega)) rfl rfl ?_
                refine w_iconst (x := Int32.ofNat 1) rfl rfl (by decide) ?_
                exact w_bret rfl (by decide) (by first | contradiction | exact absurd (c56.1.symm.trans c100) (by decide) | (simp +decide only [m_leaf, *, ite_true, ite_false, and_self, and_true, true_and, and_false, false_and, or_true, true_or, or_false, false_or, not_true, not_false_iff, eq_self] <;> rfl)) (by first | contradiction | exact absurd (c56.1.symm.trans c100) (by decide) | (simp +decide only [m_leaf, *, ite_true, ite_false, and_self, and_true, true_and, and_false, false_and, or_true, true_or, or_false, false_or, not_true, not_false_iff, eq_self] <;> rfl)) rfl rfl
          · refine w_aload_n rfl rfl rfl ?_
            refine w_gf (t := .int 0) (v := .int _) rfl rfl rfl sp110 rfl (congrArg Value.int rfl) rfl ?_
            refine w_sipush (x := Int32.ofNat 9999) rfl rfl (by decide) ?_
            refine w_ic_le (t := 129) (f := 123) rfl rfl rfl (fun c120 => ?_) (fun c120 => ?_)
            · refine w_aload_n rfl rfl rfl ?_
              refine w_cv (q := am_m200) (as := []) (rest := []) (st' := [_]) rfl rfl rfl rfl rfl rfl sp110 rfl rfl rfl rfl (c_isCounted hC h48 (by omega)) rfl rfl ?_
              refine w_if_ne (t := 138) (f := 136) rfl rfl rfl (fun c133 => ?_) (fun c133 => absurd c133 (by decide))
              clear c133
              refine w_aload_n rfl rfl rfl ?_
              refine w_iload_n rfl rfl rfl ?_
              refine w_if_lt (t := 147) (f := 143) rfl rfl rfl (fun c140 => ?_) (fun c140 => ?_)
              · refine w_iconst (x := Int32.ofNat 0) rfl rfl (by decide) ?_
                refine w_iload_n rfl rfl rfl ?_
                refine w_if_lt (t := 156) (f := 152) rfl rfl rfl (fun c149 => ?_) (fun c149 => ?_)
                · refine w_aload_n rfl rfl rfl ?_
                  refine w_gf (t := .int 0) (v := .int _) rfl rfl rfl sp110 rfl (congrArg Value.int rfl) rfl ?_
                  refine w_iconst (x := Int32.ofNat 0) rfl rfl (by decide) ?_
                  refine w_cv (q := am_m197) (as := [_, _, _]) (rest := []) (st' := []) rfl rfl rfl rfl rfl rfl sp110 rfl rfl rfl rfl (c_grown (by omega) ((am_u_nk (by decide)).trans h21) hH ((am_u_nk (by decide)).trans h46) (by omega)) rfl rfl ?_
                  refine w_aload_n rfl rfl rfl ?_
                  refine w_iconst (x := Int32.ofNat 0) rfl rfl (by decide) ?_
                  refine w_pf rfl rfl rfl sp110 rfl rfl rfl ?_
                  refine w_aload_n rfl rfl rfl ?_
                  refine w_cv (q := am_m174) (as := []) (rest := []) (st' := []) rfl rfl rfl rfl rfl rfl sp110 rfl rfl rfl rfl (c_tok (pv_u (by omega) (by omega) (pv_gr (pv_u (by omega) (by omega) g))) (by omega)) rfl rfl ?_
                  refine w_iconst (x := Int32.ofNat 1) rfl rfl (by decide) ?_
                  exact w_bret rfl (by decide) (by first | contradiction | exact absurd (c56.1.symm.trans c100) (by decide) | (simp +decide only [m_leaf, *, ite_true, ite_false, and_self, and_true, true_and, and_false, false_and, or_true, true_or, or_false, false_or, not_true, not_false_iff, eq_self] <;> rfl)) (by first | contradiction | exact absurd (c56.1.symm.trans c100) (by decide) | (simp +decide only [m_leaf, *, ite_true, ite_false, and_self, and_true, true_and, and_false, false_and, or_true, true_or, or_false, false_or, not_true, not_false_iff, eq_self] <;> rfl)) rfl rfl
                · refine w_iload_n rfl rfl rfl ?_
                  refine w_goto (pc' := 160) rfl rfl ?_
                  refine w_iconst (x := Int32.ofNat 0) rfl rfl (by decide) ?_
                  refine w_cv (q := am_m197) (as := [_, _, _]) (rest := []) (st' := []) rfl rfl rfl rfl rfl rfl sp110 rfl rfl rfl rfl (c_grown (by omega) ((am_u_nk (by decide)).trans h21) hH ((am_u_nk (by decide)).trans h46) (by omega)) rfl rfl ?_
                  refine w_aload_n rfl rfl rfl ?_
                  refine w_iconst (x := Int32.ofNat 0) rfl rfl (by decide) ?_
                  refine w_pf rfl rfl rfl sp110 rfl rfl rfl ?_
                  refine w_aload_n rfl rfl rfl ?_
                  refine w_cv (q := am_m174) (as := []) (rest := []) (st' := []) rfl rfl rfl rfl rfl rfl sp110 rfl rfl rfl rfl (c_tok (pv_u (by omega) (by omega) (pv_gr (pv_u (by omega) (by omega) g))) (by omega)) rfl rfl ?_
                  refine w_iconst (x := Int32.ofNat 1) rfl rfl (by decide) ?_
                  exact w_bret rfl (by decide) (by first | contradiction | exact absurd (c56.1.symm.trans c100) (by decide) | (simp +decide only [m_leaf, *, ite_true, ite_false, and_self, and_true, true_and, and_false, false_and, or_true, true_or, or_false, false_or, not_true, not_false_iff, eq_self] <;> rfl)) (by first | contradiction | exact absurd (c56.1.symm.trans c100) (by decide) | (simp +decide only [m_leaf, *, ite_true, ite_false, and_self, and_true, true_and, and_false, false_and, or_true, true_or, or_false, false_or, not_true, not_false_iff, eq_self] <;> rfl)) rfl rfl
              · refine w_iconst (x := Int32.ofNat 1) rfl rfl (by decide) ?_
                refine w_goto (pc' := 148) rfl rfl ?_
                refine w_iload_n rfl rfl rfl ?_
                refine w_if_lt (t := 156) (f := 152) rfl rfl rfl (fun c149 => ?_) (fun c149 => ?_)
                · refine w_aload_n rfl rfl rfl ?_
                  refine w_gf (t := .int 0) (v := .int _) rfl rfl rfl sp110 rfl (congrArg Value.int rfl) rfl ?_
                  refine w_iconst (x := Int32.ofNat 0) rfl rfl (by decide) ?_
                  refine w_cv (q := am_m197) (as := [_, _, _]) (rest := []) (st' := []) rfl rfl rfl rfl rfl rfl sp110 rfl rfl rfl rfl (c_grown (by omega) ((am_u_nk (by decide)).trans h21) hH ((am_u_nk (by decide)).trans h46) (by omega)) rfl rfl ?_
                  refine w_aload_n rfl rfl rfl ?_
                  refine w_iconst (x := Int32.ofNat 0) rfl rfl (by decide) ?_
                  refine w_pf rfl rfl rfl sp110 rfl rfl rfl ?_
                  refine w_aload_n rfl rfl rfl ?_
                  refine w_cv (q := am_m174) (as := []) (rest := []) (st' := []) rfl rfl rfl rfl rfl rfl sp110 rfl rfl rfl rfl (c_tok (pv_u (by omega) (by omega) (pv_gr (pv_u (by omega) (by omega) g))) (by omega)) rfl rfl ?_
                  refine w_iconst (x := Int32.ofNat 1) rfl rfl (by decide) ?_
                  exact w_bret rfl (by decide) (by first | contradiction | exact absurd (c56.1.symm.trans c100) (by decide) | (simp +decide only [m_leaf, *, ite_true, ite_false, and_self, and_true, true_and, and_false, false_and, or_true, true_or, or_false, false_or, not_true, not_false_iff, eq_self] <;> rfl)) (by first | contradiction | exact absurd (c56.1.symm.trans c100) (by decide) | (simp +decide only [m_leaf, *, ite_true, ite_false, and_self, and_true, true_and, and_false, false_and, or_true, true_or, or_false, false_or, not_true, not_false_iff, eq_self] <;> rfl)) rfl rfl
                · refine w_iload_n rfl rfl rfl ?_
                  refine w_goto (pc' := 160) rfl rfl ?_
                  refine w_iconst (x := Int32.ofNat 0) rfl rfl (by decide) ?_
                  refine w_cv (q := am_m197) (as := [_, _, _]) (rest := []) (st' := []) rfl rfl rfl rfl rfl rfl sp110 rfl rfl rfl rfl (c_grown (by omega) ((am_u_nk (by decide)).trans h21) hH ((am_u_nk (by decide)).trans h46) (by omega)) rfl rfl ?_
                  refine w_aload_n rfl rfl rfl ?_
                  refine w_iconst (x := Int32.ofNat 0) rfl rfl (by decide) ?_
                  refine w_pf rfl rfl rfl sp110 rfl rfl rfl ?_
                  refine w_aload_n rfl rfl rfl ?_
                  refine w_cv (q := am_m174) (as := []) (rest := []) (st' := []) rfl rfl rfl rfl rfl rfl sp110 rfl rfl rfl rfl (c_tok (pv_u (by omega) (by omega) (pv_gr (pv_u (by omega) (by omega) g))) (by omega)) rfl rfl ?_
                  refine w_iconst (x := Int32.ofNat 1) rfl rfl (by decide) ?_
                  exact w_bret rfl (by decide) (by first | contradiction | exact absurd (c56.1.symm.trans c100) (by decide) | (simp +decide only [m_leaf, *, ite_true, ite_false, and_self, and_true, true_and, and_false, false_and, or_true, true_or, or_false, false_or, not_true, not_false_iff, eq_self] <;> rfl)) (by first | contradiction | exact absurd (c56.1.symm.trans c100) (by decide) | (simp +decide only [m_leaf, *, ite_true, ite_false, and_self, and_true, true_and, and_false, false_and, or_true, true_or, or_false, false_or, not_true, not_false_iff, eq_self] <;> rfl)) rfl rfl
            · refine w_aload_n rfl rfl rfl ?_
              refine w_iconst (x := Int32.ofNat 2) rfl rfl (by decide) ?_
              refine w_cv (q := am_m170) (as := [_]) (rest := []) (st' := [_]) rfl rfl rfl rfl rfl rfl sp110 rfl rfl rfl rfl (c_wrong (by omega)) rfl rfl ?_
              exact w_bret rfl (by decide) (by first | contradiction | exact absurd (c56.1.symm.trans c100) (by decide) | (simp +decide only [m_leaf, *, ite_true, ite_false, and_self, and_true, true_and, and_false, false_and, or_true, true_or, or_false, false_or, not_true, not_false_iff, eq_self] <;> rfl)) (by first | contradiction | exact absurd (c56.1.symm.trans c100) (by decide) | (simp +decide only [m_leaf, *, ite_true, ite_false, and_self, and_true, true_and, and_false, false_and, or_true, true_or, or_false, false_or, not_true, not_false_iff, eq_self] <;> rfl)) rfl rfl
        · refine w_aload_n rfl rfl rfl ?_
          refine w_iconst (x := Int32.ofNat 1) rfl rfl (by decide) ?_
          refine w_cv (q := am_m170) (as := [_]) (rest := []) (st' := [_]) rfl rfl rfl rfl rfl rfl sp110 rfl rfl rfl rfl (c_wrong (by omega)) rfl rfl ?_
          exact w_bret rfl (by decide) (by first | contradiction | exact absurd (c56.1.symm.trans c100) (by decide) | (simp +decide only [m_leaf, *, ite_true, ite_false, and_self, and_true, true_and, and_false, false_and, or_true, true_or, or_false, false_or, not_true, not_false_iff, eq_self] <;> rfl)) (by first | contradiction | exact absurd (c56.1.symm.trans c100) (by decide) | (simp +decide only [m_leaf, *, ite_true, ite_false, and_self, and_true, true_and, and_false, false_and, or_true, true_or, or_false, false_or, not_true, not_false_iff, eq_self] <;> rfl)) rfl rfl
    · refine w_aload_n rfl rfl rfl ?_
      refine w_gf (t := .int 0) (v := .int _) rfl rfl rfl sp110 rfl (congrArg Value.int rfl) rfl ?_
      refine w_if_eq (t := 86) (f := 66) rfl rfl rfl (fun c63 => ?_) (fun c63 => ?_)
      · refine w_aload_n rfl rfl rfl ?_
        refine w_cv (q := am_m202) (as := []) (rest := []) (st' := [_]) rfl rfl rfl rfl rfl rfl sp110 rfl rfl rfl rfl (c_nameMet (by omega)) rfl rfl ?_
        refine w_istore_n (L' := [_, _]) rfl rfl rfl ?_
        refine w_iload_n rfl rfl rfl ?_
        refine w_if_ge (t := 109) (f := 95) rfl rfl rfl (fun c92 => ?_) (fun c92 => ?_)
        · refine w_iload_n rfl rfl rfl ?_
          refine w_if_ge (t := 129) (f := 113) rfl rfl rfl (fun c110 => ?_) (fun c110 => ?_)
          · refine w_aload_n rfl rfl rfl ?_
            refine w_cv (q := am_m200) (as := []) (rest := []) (st' := [_]) rfl rfl rfl rfl rfl rfl sp110 rfl rfl rfl rfl (c_isCounted hC h48 (by omega)) rfl rfl ?_
            refine w_if_ne (t := 138) (f := 136) rfl rfl rfl (fun c133 => ?_) (fun c133 => absurd c133 (by decide))
            clear c133
            refine w_aload_n rfl rfl rfl ?_
            refine w_iload_n rfl rfl rfl ?_
            refine w_if_lt (t := 147) (f := 143) rfl rfl rfl (fun c140 => ?_) (fun c140 => ?_)
            · refine w_iconst (x := Int32.ofNat 0) rfl rfl (by decide) ?_
              refine w_iload_n rfl rfl rfl ?_
              refine w_if_lt (t := 156) (f := 152) rfl rfl rfl (fun c149 => ?_) (fun c149 => ?_)
              · refine w_aload_n rfl rfl rfl ?_
                refine w_gf (t := .int 0) (v := .int _) rfl rfl rfl sp110 rfl (congrArg Value.int rfl) rfl ?_
                refine w_iconst (x := Int32.ofNat 0) rfl rfl (by decide) ?_
                refine w_cv (q := am_m197) (as := [_, _, _]) (rest := []) (st' := []) rfl rfl rfl rfl rfl rfl sp110 rfl rfl rfl rfl (c_grown (by omega) ((am_u_nk (by decide)).trans h21) hH ((am_u_nk (by decide)).trans h46) (by omega)) rfl rfl ?_
                refine w_aload_n rfl rfl rfl ?_
                refine w_iconst (x := Int32.ofNat 0) rfl rfl (by decide) ?_
                refine w_pf rfl rfl rfl sp110 rfl rfl rfl ?_
                refine w_aload_n rfl rfl rfl ?_
                refine w_cv (q := am_m174) (as := []) (rest := []) (st' := []) rfl rfl rfl rfl rfl rfl sp110 rfl rfl rfl rfl (c_tok (pv_u (by omega) (by omega) (pv_gr (pv_u (by omega) (by omega) g))) (by omega)) rfl rfl ?_
                refine w_iconst (x := Int32.ofNat 1) rfl rfl (by decide) ?_
                exact w_bret rfl (by decide) (by first | contradiction | exact absurd (c56.1.symm.trans c100) (by decide) | (simp +decide only [m_leaf, *, ite_true, ite_false, and_self, and_true, true_and, and_false, false_and, or_true, true_or, or_false, false_or, not_true, not_false_iff, eq_self] <;> rfl)) (by first | contradiction | exact absurd (c56.1.symm.trans c100) (by decide) | (simp +decide only [m_leaf, *, ite_true, ite_false, and_self, and_true, true_and, and_false, false_and, or_true, true_or, or_false, false_or, not_true, not_false_iff, eq_self] <;> rfl)) rfl rfl
              · refine w_iload_n rfl rfl rfl ?_
                refine w_goto (pc' := 160) rfl rfl ?_
                refine w_iconst (x := Int32.ofNat 0) rfl rfl (by decide) ?_
                refine w_cv (q := am_m197) (as := [_, _, _]) (rest := []) (st' := []) rfl rfl rfl rfl rfl rfl sp110 rfl rfl rfl rfl (c_grown (by omega) ((am_u_nk (by decide)).trans h21) hH ((am_u_nk (by decide)).trans h46) (by omega)) rfl rfl ?_
                refine w_aload_n rfl rfl rfl ?_
                refine w_iconst (x := Int32.ofNat 0) rfl rfl (by decide) ?_
                refine w_pf rfl rfl rfl sp110 rfl rfl rfl ?_
                refine w_aload_n rfl rfl rfl ?_
                refine w_cv (q := am_m174) (as := []) (rest := []) (st' := []) rfl rfl rfl rfl rfl rfl sp110 rfl rfl rfl rfl (c_tok (pv_u (by omega) (by omega) (pv_gr (pv_u (by omega) (by omega) g))) (by omega)) rfl rfl ?_
                refine w_iconst (x := Int32.ofNat 1) rfl rfl (by decide) ?_
                exact w_bret rfl (by decide) (by first | contradiction | exact absurd (c56.1.symm.trans c100) (by decide) | (simp +decide only [m_leaf, *, ite_true, ite_false, and_self, and_true, true_and, and_false, false_and, or_true, true_or, or_false, false_or, not_true, not_false_iff, eq_self] <;> rfl)) (by first | contradiction | exact absurd (c56.1.symm.trans c100) (by decide) | (simp +decide only [m_leaf, *, ite_true, ite_false, and_self, and_true, true_and, and_false, false_and, or_true, true_or, or_false, false_or, not_true, not_false_iff, eq_self] <;> rfl)) rfl rfl
            · refine w_iconst (x := Int32.ofNat 1) rfl rfl (by decide) ?_
              refine w_goto (pc' := 148) rfl rfl ?_
              refine w_iload_n rfl rfl rfl ?_
              refine w_if_lt (t := 156) (f := 152) rfl rfl rfl (fun c149 => ?_) (fun c149 => ?_)
              · refine w_aload_n rfl rfl rfl ?_
                refine w_gf (t := .int 0) (v := .int _) rfl rfl rfl sp110 rfl (congrArg Value.int rfl) rfl ?_
                refine w_iconst (x := Int32.ofNat 0) rfl rfl (by decide) ?_
                refine w_cv (q := am_m197) (as := [_, _, _]) (rest := []) (st' := []) rfl rfl rfl rfl rfl rfl sp110 rfl rfl rfl rfl (c_grown (by omega) ((am_u_nk (by decide)).trans h21) hH ((am_u_nk (by decide)).trans h46) (by omega)) rfl rfl ?_
                refine w_aload_n rfl rfl rfl ?_
                refine w_iconst (x := Int32.ofNat 0) rfl rfl (by decide) ?_
                refine w_pf rfl rfl rfl sp110 rfl rfl rfl ?_
                refine w_aload_n rfl rfl rfl ?_
                refine w_cv (q := am_m174) (as := []) (rest := []) (st' := []) rfl rfl rfl rfl rfl rfl sp110 rfl rfl rfl rfl (c_tok (pv_u (by omega) (by omega) (pv_gr (pv_u (by omega) (by omega) g))) (by omega)) rfl rfl ?_
                refine w_iconst (x := Int32.ofNat 1) rfl rfl (by decide) ?_
                exact w_bret rfl (by decide) (by first | contradiction | exact absurd (c56.1.symm.trans c100) (by decide) | (simp +decide only [m_leaf, *, ite_true, ite_false, and_self, and_true, true_and, and_false, false_and, or_true, true_or, or_false, false_or, not_true, not_false_iff, eq_self] <;> rfl)) (by first | contradiction | exact absurd (c56.1.symm.trans c100) (by decide) | (simp +decide only [m_leaf, *, ite_true, ite_false, and_self, and_true, true_and, and_false, false_and, or_true, true_or, or_false, false_or, not_true, not_false_iff, eq_self] <;> rfl)) rfl rfl
              · refine w_iload_n rfl rfl rfl ?_
                refine w_goto (pc' := 160) rfl rfl ?_
                refine w_iconst (x := Int32.ofNat 0) rfl rfl (by decide) ?_
                refine w_cv (q := am_m197) (as := [_, _, _]) (rest := []) (st' := []) rfl rfl rfl rfl rfl rfl sp110 rfl rfl rfl rfl (c_grown (by omega) ((am_u_nk (by decide)).trans h21) hH ((am_u_nk (by decide)).trans h46) (by omega)) rfl rfl ?_
                refine w_aload_n rfl rfl rfl ?_
                refine w_iconst (x := Int32.ofNat 0) rfl rfl (by decide) ?_
                refine w_pf rfl rfl rfl sp110 rfl rfl rfl ?_
                refine w_aload_n rfl rfl rfl ?_
                refine w_cv (q := am_m174) (as := []) (rest := []) (st' := []) rfl rfl rfl rfl rfl rfl sp110 rfl rfl rfl rfl (c_tok (pv_u (by omega) (by omega) (pv_gr (pv_u (by omega) (by omega) g))) (by omega)) rfl rfl ?_
                refine w_iconst (x := Int32.ofNat 1) rfl rfl (by decide) ?_
                exact w_bret rfl (by decide) (by first | contradiction | exact absurd (c56.1.symm.trans c100) (by decide) | (simp +decide only [m_leaf, *, ite_true, ite_false, and_self, and_true, true_and, and_false, false_and, or_true, true_or, or_false, false_or, not_true, not_false_iff, eq_self] <;> rfl)) (by first | contradiction | exact absurd (c56.1.symm.trans c100) (by decide) | (simp +decide only [m_leaf, *, ite_true, ite_false, and_self, and_true, true_and, and_false, false_and, or_true, true_or, or_false, false_or, not_true, not_false_iff, eq_self] <;> rfl)) rfl rfl
          · refine w_aload_n rfl rfl rfl ?_
            refine w_gf (t := .int 0) (v := .int _) rfl rfl rfl sp110 rfl (congrArg Value.int rfl) rfl ?_
            refine w_sipush (x := Int32.ofNat 9999) rfl rfl (by decide) ?_
            refine w_ic_le (t := 129) (f := 123) rfl rfl rfl (fun c120 => ?_) (fun c120 => ?_)
            · refine w_aload_n rfl rfl rfl ?_
              refine w_cv (q := am_m200) (as := []) (rest := []) (st' := [_]) rfl rfl rfl rfl rfl rfl sp110 rfl rfl rfl rfl (c_isCounted hC h48 (by omega)) rfl rfl ?_
              refine w_if_ne (t := 138) (f := 136) rfl rfl rfl (fun c133 => ?_) (fun c133 => absurd c133 (by decide))
              clear c133
              refine w_aload_n rfl rfl rfl ?_
              refine w_iload_n rfl rfl rfl ?_
              refine w_if_lt (t := 147) (f := 143) rfl rfl rfl (fun c140 => ?_) (fun c140 => ?_)
              · refine w_iconst (x := Int32.ofNat 0) rfl rfl (by decide) ?_
                refine w_iload_n rfl rfl rfl ?_
                refine w_if_lt (t := 156) (f := 152) rfl rfl rfl (fun c149 => ?_) (fun c149 => ?_)
                · refine w_aload_n rfl rfl rfl ?_
                  refine w_gf (t := .int 0) (v := .int _) rfl rfl rfl sp110 rfl (congrArg Value.int rfl) rfl ?_
                  refine w_iconst (x := Int32.ofNat 0) rfl rfl (by decide) ?_
                  refine w_cv (q := am_m197) (as := [_, _, _]) (rest := []) (st' := []) rfl rfl rfl rfl rfl rfl sp110 rfl rfl rfl rfl (c_grown (by omega) ((am_u_nk (by decide)).trans h21) hH ((am_u_nk (by decide)).trans h46) (by omega)) rfl rfl ?_
                  refine w_aload_n rfl rfl rfl ?_
                  refine w_iconst (x := Int32.ofNat 0) rfl rfl (by decide) ?_
                  refine w_pf rfl rfl rfl sp110 rfl rfl rfl ?_
                  refine w_aload_n rfl rfl rfl ?_
                  refine w_cv (q := am_m174) (as := []) (rest := []) (st' := []) rfl rfl rfl rfl rfl rfl sp110 rfl rfl rfl rfl (c_tok (pv_u (by omega) (by omega) (pv_gr (pv_u (by omega) (by omega) g))) (by omega)) rfl rfl ?_
                  refine w_iconst (x := Int32.ofNat 1) rfl rfl (by decide) ?_
                  exact w_bret rfl (by decide) (by first | contradiction | exact absurd (c56.1.symm.trans c100) (by decide) | (simp +decide only [m_leaf, *, ite_true, ite_false, and_self, and_true, true_and, and_false, false_and, or_true, true_or, or_false, false_or, not_true, not_false_iff, eq_self] <;> rfl)) (by first | contradiction | exact absurd (c56.1.symm.trans c100) (by decide) | (simp +decide only [m_leaf, *, ite_true, ite_false, and_self, and_true, true_and, and_false, false_and, or_true, true_or, or_false, false_or, not_true, not_false_iff, eq_self] <;> rfl)) rfl rfl
                · refine w_iload_n rfl rfl rfl ?_
                  refine w_goto (pc' := 160) rfl rfl ?_
                  refine w_iconst (x := Int32.ofNat 0) rfl rfl (by decide) ?_
                  refine w_cv (q := am_m197) (as := [_, _, _]) (rest := []) (st' := []) rfl rfl rfl rfl rfl rfl sp110 rfl rfl rfl rfl (c_grown (by omega) ((am_u_nk (by decide)).trans h21) hH ((am_u_nk (by decide)).trans h46) (by omega)) rfl rfl ?_
                  refine w_aload_n rfl rfl rfl ?_
                  refine w_iconst (x := Int32.ofNat 0) rfl rfl (by decide) ?_
                  refine w_pf rfl rfl rfl sp110 rfl rfl rfl ?_
                  refine w_aload_n rfl rfl rfl ?_
                  refine w_cv (q := am_m174) (as := []) (rest := []) (st' := []) rfl rfl rfl rfl rfl rfl sp110 rfl rfl rfl rfl (c_tok (pv_u (by omega) (by omega) (pv_gr (pv_u (by omega) (by omega) g))) (by omega)) rfl rfl ?_
                  refine w_iconst (x := Int32.ofNat 1) rfl rfl (by decide) ?_
                  exact w_bret rfl (by decide) (by first | contradiction | exact absurd (c56.1.symm.trans c100) (by decide) | (simp +decide only [m_leaf, *, ite_true, ite_false, and_self, and_true, true_and, and_false, false_and, or_true, true_or, or_false, false_or, not_true, not_false_iff, eq_self] <;> rfl)) (by first | contradiction | exact absurd (c56.1.symm.trans c100) (by decide) | (simp +decide only [m_leaf, *, ite_true, ite_false, and_self, and_true, true_and, and_false, false_and, or_true, true_or, or_false, false_or, not_true, not_false_iff, eq_self] <;> rfl)) rfl rfl
              · refine w_iconst (x := Int32.ofNat 1) rfl rfl (by decide) ?_
                refine w_goto (pc' := 148) rfl rfl ?_
                refine w_iload_n rfl rfl rfl ?_
                refine w_if_lt (t := 156) (f := 152) rfl rfl rfl (fun c149 => ?_) (fun c149 => ?_)
                · refine w_aload_n rfl rfl rfl ?_
                  refine w_gf (t := .int 0) (v := .int _) rfl rfl rfl sp110 rfl (congrArg Value.int rfl) rfl ?_
                  refine w_iconst (x := Int32.ofNat 0) rfl rfl (by decide) ?_
                  refine w_cv (q := am_m197) (as := [_, _, _]) (rest := []) (st' := []) rfl rfl rfl rfl rfl rfl sp110 rfl rfl rfl rfl (c_grown (by omega) ((am_u_nk (by decide)).trans h21) hH ((am_u_nk (by decide)).trans h46) (by omega)) rfl rfl ?_
                  refine w_aload_n rfl rfl rfl ?_
                  refine w_iconst (x := Int32.ofNat 0) rfl rfl (by decide) ?_
                  refine w_pf rfl rfl rfl sp110 rfl rfl rfl ?_
                  refine w_aload_n rfl rfl rfl ?_
                  refine w_cv (q := am_m174) (as := []) (rest := []) (st' := []) rfl rfl rfl rfl rfl rfl sp110 rfl rfl rfl rfl (c_tok (pv_u (by omega) (by omega) (pv_gr (pv_u (by omega) (by omega) g))) (by omega)) rfl rfl ?_
                  refine w_iconst (x := Int32.ofNat 1) rfl rfl (by decide) ?_
                  exact w_bret rfl (by decide) (by first | contradiction | exact absurd (c56.1.symm.trans c100) (by decide) | (simp +decide only [m_leaf, *, ite_true, ite_false, and_self, and_true, true_and, and_false, false_and, or_true, true_or, or_false, false_or, not_true, not_false_iff, eq_self] <;> rfl)) (by first | contradiction | exact absurd (c56.1.symm.trans c100) (by decide) | (simp +decide only [m_leaf, *, ite_true, ite_false, and_self, and_true, true_and, and_false, false_and, or_true, true_or, or_false, false_or, not_true, not_false_iff, eq_self] <;> rfl)) rfl rfl
                · refine w_iload_n rfl rfl rfl ?_
                  refine w_goto (pc' := 160) rfl rfl ?_
                  refine w_iconst (x := Int32.ofNat 0) rfl rfl (by decide) ?_
                  refine w_cv (q := am_m197) (as := [_, _, _]) (rest := []) (st' := []) rfl rfl rfl rfl rfl rfl sp110 rfl rfl rfl rfl (c_grown (by omega) ((am_u_nk (by decide)).trans h21) hH ((am_u_nk (by decide)).trans h46) (by omega)) rfl rfl ?_
                  refine w_aload_n rfl rfl rfl ?_
                  refine w_iconst (x := Int32.ofNat 0) rfl rfl (by decide) ?_
                  refine w_pf rfl rfl rfl sp110 rfl rfl rfl ?_
                  refine w_aload_n rfl rfl rfl ?_
                  refine w_cv (q := am_m174) (as := []) (rest := []) (st' := []) rfl rfl rfl rfl rfl rfl sp110 rfl rfl rfl rfl (c_tok (pv_u (by omega) (by omega) (pv_gr (pv_u (by omega) (by omega) g))) (by omega)) rfl rfl ?_
                  refine w_iconst (x := Int32.ofNat 1) rfl rfl (by decide) ?_
                  exact w_bret rfl (by decide) (by first | contradiction | exact absurd (c56.1.symm.trans c100) (by decide) | (simp +decide only [m_leaf, *, ite_true, ite_false, and_self, and_true, true_and, and_false, false_and, or_true, true_or, or_false, false_or, not_true, not_false_iff, eq_self] <;> rfl)) (by first | contradiction | exact absurd (c56.1.symm.trans c100) (by decide) | (simp +decide only [m_leaf, *, ite_true, ite_false, and_self, and_true, true_and, and_false, false_and, or_true, true_or, or_false, false_or, not_true, not_false_iff, eq_self] <;> rfl)) rfl rfl
            · refine w_aload_n rfl rfl rfl ?_
              refine w_iconst (x := Int32.ofNat 2) rfl rfl (by decide) ?_
              refine w_cv (q := am_m170) (as := [_]) (rest := []) (st' := [_]) rfl rfl rfl rfl rfl rfl sp110 rfl rfl rfl rfl (c_wrong (by omega)) rfl rfl ?_
              exact w_bret rfl (by decide) (by first | contradiction | exact absurd (c56.1.symm.trans c100) (by decide) | (simp +decide only [m_leaf, *, ite_true, ite_false, and_self, and_true, true_and, and_false, false_and, or_true, true_or, or_false, false_or, not_true, not_false_iff, eq_self] <;> rfl)) (by first | contradiction | exact absurd (c56.1.symm.trans c100) (by decide) | (simp +decide only [m_leaf, *, ite_true, ite_false, and_self, and_true, true_and, and_false, false_and, or_true, true_or, or_false, false_or, not_true, not_false_iff, eq_self] <;> rfl)) rfl rfl
        · refine w_aload_n rfl rfl rfl ?_
          refine w_gf (t := .int 0) (v := .int _) rfl rfl rfl sp110 rfl (congrArg Value.int rfl) rfl ?_
          refine w_iconst (x := Int32.ofNat 3) rfl rfl (by decide) ?_
          refine w_ic_eq (t := 109) (f := 103) rfl rfl rfl (fun c100 => ?_) (fun c100 => ?_)
          · refine w_iload_n rfl rfl rfl ?_
            refine w_if_ge (t := 129) (f := 113) rfl rfl rfl (fun c110 => ?_) (fun c110 => ?_)
            · refine w_aload_n rfl rfl rfl ?_
              refine w_cv (q := am_m200) (as := []) (rest := []) (st' := [_]) rfl rfl rfl rfl rfl rfl sp110 rfl rfl rfl rfl (c_isCounted hC h48 (by omega)) rfl rfl ?_
              refine w_if_ne (t := 138) (f := 136) rfl rfl rfl (fun c133 => ?_) (fun c133 => absurd c133 (by decide))
              clear c133
              refine w_aload_n rfl rfl rfl ?_
              refine w_iload_n rfl rfl rfl ?_
              refine w_if_lt (t := 147) (f := 143) rfl rfl rfl (fun c140 => ?_) (fun c140 => ?_)
              · refine w_iconst (x := Int32.ofNat 0) rfl rfl (by decide) ?_
                refine w_iload_n rfl rfl rfl ?_
                refine w_if_lt (t := 156) (f := 152) rfl rfl rfl (fun c149 => ?_) (fun c149 => ?_)
                · refine w_aload_n rfl rfl rfl ?_
                  refine w_gf (t := .int 0) (v := .int _) rfl rfl rfl sp110 rfl (congrArg Value.int rfl) rfl ?_
                  refine w_iconst (x := Int32.ofNat 0) rfl rfl (by decide) ?_
                  refine w_cv (q := am_m197) (as := [_, _, _]) (rest := []) (st' := []) rfl rfl rfl rfl rfl rfl sp110 rfl rfl rfl rfl (c_grown (by omega) ((am_u_nk (by decide)).trans h21) hH ((am_u_nk (by decide)).trans h46) (by omega)) rfl rfl ?_
                  refine w_aload_n rfl rfl rfl ?_
                  refine w_iconst (x := Int32.ofNat 0) rfl rfl (by decide) ?_
                  refine w_pf rfl rfl rfl sp110 rfl rfl rfl ?_
                  refine w_aload_n rfl rfl rfl ?_
                  refine w_cv (q := am_m174) (as := []) (rest := []) (st' := []) rfl rfl rfl rfl rfl rfl sp110 rfl rfl rfl rfl (c_tok (pv_u (by omega) (by omega) (pv_gr (pv_u (by omega) (by omega) g))) (by omega)) rfl rfl ?_
                  refine w_iconst (x := Int32.ofNat 1) rfl rfl (by decide) ?_
                  exact w_bret rfl (by decide) (by first | contradiction | exact absurd (c56.1.symm.trans c100) (by decide) | (simp +decide only [m_leaf, *, ite_true, ite_false, and_self, and_true, true_and, and_false, false_and, or_true, true_or, or_false, false_or, not_true, not_false_iff, eq_self] <;> rfl)) (by first | contradiction | exact absurd (c56.1.symm.trans c100) (by decide) | (simp +decide only [m_leaf, *, ite_true, ite_false, and_self, and_true, true_and, and_false, false_and, or_true, true_or, or_false, false_or, not_true, not_false_iff, eq_self] <;> rfl)) rfl rfl
                · refine w_iload_n rfl rfl rfl ?_
                  refine w_goto (pc' := 160) rfl rfl ?_
                  refine w_iconst (x := Int32.ofNat 0) rfl rfl (by decide) ?_
                  refine w_cv (q := am_m197) (as := [_, _, _]) (rest := []) (st' := []) rfl rfl rfl rfl rfl rfl sp110 rfl rfl rfl rfl (c_grown (by omega) ((am_u_nk (by decide)).trans h21) hH ((am_u_nk (by decide)).trans h46) (by omega)) rfl rfl ?_
                  refine w_aload_n rfl rfl rfl ?_
                  refine w_iconst (x := Int32.ofNat 0) rfl rfl (by decide) ?_
                  refine w_pf rfl rfl rfl sp110 rfl rfl rfl ?_
                  refine w_aload_n rfl rfl rfl ?_
                  refine w_cv (q := am_m174) (as := []) (rest := []) (st' := []) rfl rfl rfl rfl rfl rfl sp110 rfl rfl rfl rfl (c_tok (pv_u (by omega) (by omega) (pv_gr (pv_u (by omega) (by omega) g))) (by omega)) rfl rfl ?_
                  refine w_iconst (x := Int32.ofNat 1) rfl rfl (by decide) ?_
                  exact w_bret rfl (by decide) (by first | contradiction | exact absurd (c56.1.symm.trans c100) (by decide) | (simp +decide only [m_leaf, *, ite_true, ite_false, and_self, and_true, true_and, and_false, false_and, or_true, true_or, or_false, false_or, not_true, not_false_iff, eq_self] <;> rfl)) (by first | contradiction | exact absurd (c56.1.symm.trans c100) (by decide) | (simp +decide only [m_leaf, *, ite_true, ite_false, and_self, and_true, true_and, and_false, false_and, or_true, true_or, or_false, false_or, not_true, not_false_iff, eq_self] <;> rfl)) rfl rfl
              · refine w_iconst (x := Int32.ofNat 1) rfl rfl (by decide) ?_
                refine w_goto (pc' := 148) rfl rfl ?_
                refine w_iload_n rfl rfl rfl ?_
                refine w_if_lt (t := 156) (f := 152) rfl rfl rfl (fun c149 => ?_) (fun c149 => ?_)
                · refine w_aload_n rfl rfl rfl ?_
                  refine w_gf (t := .int 0) (v := .int _) rfl rfl rfl sp110 rfl (congrArg Value.int rfl) rfl ?_
                  refine w_iconst (x := Int32.ofNat 0) rfl rfl (by decide) ?_
                  refine w_cv (q := am_m197) (as := [_, _, _]) (rest := []) (st' := []) rfl rfl rfl rfl rfl rfl sp110 rfl rfl rfl rfl (c_grown (by omega) ((am_u_nk (by decide)).trans h21) hH ((am_u_nk (by decide)).trans h46) (by omega)) rfl rfl ?_
                  refine w_aload_n rfl rfl rfl ?_
                  refine w_iconst (x := Int32.ofNat 0) rfl rfl (by decide) ?_
                  refine w_pf rfl rfl rfl sp110 rfl rfl rfl ?_
                  refine w_aload_n rfl rfl rfl ?_
                  refine w_cv (q := am_m174) (as := []) (rest := []) (st' := []) rfl rfl rfl rfl rfl rfl sp110 rfl rfl rfl rfl (c_tok (pv_u (by omega) (by omega) (pv_gr (pv_u (by omega) (by omega) g))) (by omega)) rfl rfl ?_
                  refine w_iconst (x := Int32.ofNat 1) rfl rfl (by decide) ?_
                  exact w_bret rfl (by decide) (by first | contradiction | exact absurd (c56.1.symm.trans c100) (by decide) | (simp +decide only [m_leaf, *, ite_true, ite_false, and_self, and_true, true_and, and_false, false_and, or_true, true_or, or_false, false_or, not_true, not_false_iff, eq_self] <;> rfl)) (by first | contradiction | exact absurd (c56.1.symm.trans c100) (by decide) | (simp +decide only [m_leaf, *, ite_true, ite_false, and_self, and_true, true_and, and_false, false_and, or_true, true_or, or_false, false_or, not_true, not_false_iff, eq_self] <;> rfl)) rfl rfl
                · refine w_iload_n rfl rfl rfl ?_
                  refine w_goto (pc' := 160) rfl rfl ?_
                  refine w_iconst (x := Int32.ofNat 0) rfl rfl (by decide) ?_
                  refine w_cv (q := am_m197) (as := [_, _, _]) (rest := []) (st' := []) rfl rfl rfl rfl rfl rfl sp110 rfl rfl rfl rfl (c_grown (by omega) ((am_u_nk (by decide)).trans h21) hH ((am_u_nk (by decide)).trans h46) (by omega)) rfl rfl ?_
                  refine w_aload_n rfl rfl rfl ?_
                  refine w_iconst (x := Int32.ofNat 0) rfl rfl (by decide) ?_
                  refine w_pf rfl rfl rfl sp110 rfl rfl rfl ?_
                  refine w_aload_n rfl rfl rfl ?_
                  refine w_cv (q := am_m174) (as := []) (rest := []) (st' := []) rfl rfl rfl rfl rfl rfl sp110 rfl rfl rfl rfl (c_tok (pv_u (by omega) (by omega) (pv_gr (pv_u (by omega) (by omega) g))) (by omega)) rfl rfl ?_
                  refine w_iconst (x := Int32.ofNat 1) rfl rfl (by decide) ?_
                  exact w_bret rfl (by decide) (by first | contradiction | exact absurd (c56.1.symm.trans c100) (by decide) | (simp +decide only [m_leaf, *, ite_true, ite_false, and_self, and_true, true_and, and_false, false_and, or_true, true_or, or_false, false_or, not_true, not_false_iff, eq_self] <;> rfl)) (by first | contradiction | exact absurd (c56.1.symm.trans c100) (by decide) | (simp +decide only [m_leaf, *, ite_true, ite_false, and_self, and_true, true_and, and_false, false_and, or_true, true_or, or_false, false_or, not_true, not_false_iff, eq_self] <;> rfl)) rfl rfl
            · refine w_aload_n rfl rfl rfl ?_
              refine w_gf (t := .int 0) (v := .int _) rfl rfl rfl sp110 rfl (congrArg Value.int rfl) rfl ?_
              refine w_sipush (x := Int32.ofNat 9999) rfl rfl (by decide) ?_
              refine w_ic_le (t := 129) (f := 123) rfl rfl rfl (fun c120 => ?_) (fun c120 => ?_)
              · refine w_aload_n rfl rfl rfl ?_
                refine w_cv (q := am_m200) (as := []) (rest := []) (st' := [_]) rfl rfl rfl rfl rfl rfl sp110 rfl rfl rfl rfl (c_isCounted hC h48 (by omega)) rfl rfl ?_
                refine w_if_ne (t := 138) (f := 136) rfl rfl rfl (fun c133 => ?_) (fun c133 => absurd c133 (by decide))
                clear c133
                refine w_aload_n rfl rfl rfl ?_
                refine w_iload_n rfl rfl rfl ?_
                refine w_if_lt (t := 147) (f := 143) rfl rfl rfl (fun c140 => ?_) (fun c140 => ?_)
                · refine w_iconst (x := Int32.ofNat 0) rfl rfl (by decide) ?_
                  refine w_iload_n rfl rfl rfl ?_
                  refine w_if_lt (t := 156) (f := 152) rfl rfl rfl (fun c149 => ?_) (fun c149 => ?_)
                  · refine w_aload_n rfl rfl rfl ?_
                    refine w_gf (t := .int 0) (v := .int _) rfl rfl rfl sp110 rfl (congrArg Value.int rfl) rfl ?_
                    refine w_iconst (x := Int32.ofNat 0) rfl rfl (by decide) ?_
                    refine w_cv (q := am_m197) (as := [_, _, _]) (rest := []) (st' := []) rfl rfl rfl rfl rfl rfl sp110 rfl rfl rfl rfl (c_grown (by omega) ((am_u_nk (by decide)).trans h21) hH ((am_u_nk (by decide)).trans h46) (by omega)) rfl rfl ?_
                    refine w_aload_n rfl rfl rfl ?_
                    refine w_iconst (x := Int32.ofNat 0) rfl rfl (by decide) ?_
                    refine w_pf rfl rfl rfl sp110 rfl rfl rfl ?_
                    refine w_aload_n rfl rfl rfl ?_
                    refine w_cv (q := am_m174) (as := []) (rest := []) (st' := []) rfl rfl rfl rfl rfl rfl sp110 rfl rfl rfl rfl (c_tok (pv_u (by omega) (by omega) (pv_gr (pv_u (by omega) (by omega) g))) (by omega)) rfl rfl ?_
                    refine w_iconst (x := Int32.ofNat 1) rfl rfl (by decide) ?_
                    exact w_bret rfl (by decide) (by first | contradiction | exact absurd (c56.1.symm.trans c100) (by decide) | (simp +decide only [m_leaf, *, ite_true, ite_false, and_self, and_true, true_and, and_false, false_and, or_true, true_or, or_false, false_or, not_true, not_false_iff, eq_self] <;> rfl)) (by first | contradiction | exact absurd (c56.1.symm.trans c100) (by decide) | (simp +decide only [m_leaf, *, ite_true, ite_false, and_self, and_true, true_and, and_false, false_and, or_true, true_or, or_false, false_or, not_true, not_false_iff, eq_self] <;> rfl)) rfl rfl
                  · refine w_iload_n rfl rfl rfl ?_
                    refine w_goto (pc' := 160) rfl rfl ?_
                    refine w_iconst (x := Int32.ofNat 0) rfl rfl (by decide) ?_
                    refine w_cv (q := am_m197) (as := [_, _, _]) (rest := []) (st' := []) rfl rfl rfl rfl rfl rfl sp110 rfl rfl rfl rfl (c_grown (by omega) ((am_u_nk (by decide)).trans h21) hH ((am_u_nk (by decide)).trans h46) (by omega)) rfl rfl ?_
                    refine w_aload_n rfl rfl rfl ?_
                    refine w_iconst (x := Int32.ofNat 0) rfl rfl (by decide) ?_
                    refine w_pf rfl rfl rfl sp110 rfl rfl rfl ?_
                    refine w_aload_n rfl rfl rfl ?_
                    refine w_cv (q := am_m174) (as := []) (rest := []) (st' := []) rfl rfl rfl rfl rfl rfl sp110 rfl rfl rfl rfl (c_tok (pv_u (by omega) (by omega) (pv_gr (pv_u (by omega) (by omega) g))) (by omega)) rfl rfl ?_
                    refine w_iconst (x := Int32.ofNat 1) rfl rfl (by decide) ?_
                    exact w_bret rfl (by decide) (by first | contradiction | exact absurd (c56.1.symm.trans c100) (by decide) | (simp +decide only [m_leaf, *, ite_true, ite_false, and_self, and_true, true_and, and_false, false_and, or_true, true_or, or_false, false_or, not_true, not_false_iff, eq_self] <;> rfl)) (by first | contradiction | exact absurd (c56.1.symm.trans c100) (by decide) | (simp +decide only [m_leaf, *, ite_true, ite_false, and_self, and_true, true_and, and_false, false_and, or_true, true_or, or_false, false_or, not_true, not_false_iff, eq_self] <;> rfl)) rfl rfl
                · refine w_iconst (x := Int32.ofNat 1) rfl rfl (by decide) ?_
                  refine w_goto (pc' := 148) rfl rfl ?_
                  refine w_iload_n rfl rfl rfl ?_
                  refine w_if_lt (t := 156) (f := 152) rfl rfl rfl (fun c149 => ?_) (fun c149 => ?_)
                  · refine w_aload_n rfl rfl rfl ?_
                    refine w_gf (t := .int 0) (v := .int _) rfl rfl rfl sp110 rfl (congrArg Value.int rfl) rfl ?_
                    refine w_iconst (x := Int32.ofNat 0) rfl rfl (by decide) ?_
                    refine w_cv (q := am_m197) (as := [_, _, _]) (rest := []) (st' := []) rfl rfl rfl rfl rfl rfl sp110 rfl rfl rfl rfl (c_grown (by omega) ((am_u_nk (by decide)).trans h21) hH ((am_u_nk (by decide)).trans h46) (by omega)) rfl rfl ?_
                    refine w_aload_n rfl rfl rfl ?_
                    refine w_iconst (x := Int32.ofNat 0) rfl rfl (by decide) ?_
                    refine w_pf rfl rfl rfl sp110 rfl rfl rfl ?_
                    refine w_aload_n rfl rfl rfl ?_
                    refine w_cv (q := am_m174) (as := []) (rest := []) (st' := []) rfl rfl rfl rfl rfl rfl sp110 rfl rfl rfl rfl (c_tok (pv_u (by omega) (by omega) (pv_gr (pv_u (by omega) (by omega) g))) (by omega)) rfl rfl ?_
                    refine w_iconst (x := Int32.ofNat 1) rfl rfl (by decide) ?_
                    exact w_bret rfl (by decide) (by first | contradiction | exact absurd (c56.1.symm.trans c100) (by decide) | (simp +decide only [m_leaf, *, ite_true, ite_false, and_self, and_true, true_and, and_false, false_and, or_true, true_or, or_false, false_or, not_true, not_false_iff, eq_self] <;> rfl)) (by first | contradiction | exact absurd (c56.1.symm.trans c100) (by decide) | (simp +decide only [m_leaf, *, ite_true, ite_false, and_self, and_true, true_and, and_false, false_and, or_true, true_or, or_false, false_or, not_true, not_false_iff, eq_self] <;> rfl)) rfl rfl
                  · refine w_iload_n rfl rfl rfl ?_
                    refine w_goto (pc' := 160) rfl rfl ?_
                    refine w_iconst (x := Int32.ofNat 0) rfl rfl (by decide) ?_
                    refine w_cv (q := am_m197) (as := [_, _, _]) (rest := []) (st' := []) rfl rfl rfl rfl rfl rfl sp110 rfl rfl rfl rfl (c_grown (by omega) ((am_u_nk (by decide)).trans h21) hH ((am_u_nk (by decide)).trans h46) (by omega)) rfl rfl ?_
                    refine w_aload_n rfl rfl rfl ?_
                    refine w_iconst (x := Int32.ofNat 0) rfl rfl (by decide) ?_
                    refine w_pf rfl rfl rfl sp110 rfl rfl rfl ?_
                    refine w_aload_n rfl rfl rfl ?_
                    refine w_cv (q := am_m174) (as := []) (rest := []) (st' := []) rfl rfl rfl rfl rfl rfl sp110 rfl rfl rfl rfl (c_tok (pv_u (by omega) (by omega) (pv_gr (pv_u (by omega) (by omega) g))) (by omega)) rfl rfl ?_
                    refine w_iconst (x := Int32.ofNat 1) rfl rfl (by decide) ?_
                    exact w_bret rfl (by decide) (by first | contradiction | exact absurd (c56.1.symm.trans c100) (by decide) | (simp +decide only [m_leaf, *, ite_true, ite_false, and_self, and_true, true_and, and_false, false_and, or_true, true_or, or_false, false_or, not_true, not_false_iff, eq_self] <;> rfl)) (by first | contradiction | exact absurd (c56.1.symm.trans c100) (by decide) | (simp +decide only [m_leaf, *, ite_true, ite_false, and_self, and_true, true_and, and_false, false_and, or_true, true_or, or_false, false_or, not_true, not_false_iff, eq_self] <;> rfl)) rfl rfl
              · refine w_aload_n rfl rfl rfl ?_
                refine w_iconst (x := Int32.ofNat 2) rfl rfl (by decide) ?_
                refine w_cv (q := am_m170) (as := [_]) (rest := []) (st' := [_]) rfl rfl rfl rfl rfl rfl sp110 rfl rfl rfl rfl (c_wrong (by omega)) rfl rfl ?_
                exact w_bret rfl (by decide) (by first | contradiction | exact absurd (c56.1.symm.trans c100) (by decide) | (simp +decide only [m_leaf, *, ite_true, ite_false, and_self, and_true, true_and, and_false, false_and, or_true, true_or, or_false, false_or, not_true, not_false_iff, eq_self] <;> rfl)) (by first | contradiction | exact absurd (c56.1.symm.trans c100) (by decide) | (simp +decide only [m_leaf, *, ite_true, ite_false, and_self, and_true, true_and, and_false, false_and, or_true, true_or, or_false, false_or, not_true, not_false_iff, eq_self] <;> rfl)) rfl rfl
          · refine w_aload_n rfl rfl rfl ?_
            refine w_iconst (x := Int32.ofNat 1) rfl rfl (by decide) ?_
            refine w_cv (q := am_m170) (as := [_]) (rest := []) (st' := [_]) rfl rfl rfl rfl rfl rfl sp110 rfl rfl rfl rfl (c_wrong (by omega)) rfl rfl ?_
            exact w_bret rfl (by decide) (by first | contradiction | exact absurd (c56.1.symm.trans c100) (by decide) | (simp +decide only [m_leaf, *, ite_true, ite_false, and_self, and_true, true_and, and_false, false_and, or_true, true_or, or_false, false_or, not_true, not_false_iff, eq_self] <;> rfl)) (by first | contradiction | exact absurd (c56.1.symm.trans c100) (by decide) | (simp +decide only [m_leaf, *, ite_true, ite_false, and_self, and_true, true_and, and_false, false_and, or_true, true_or, or_false, false_or, not_true, not_false_iff, eq_self] <;> rfl)) rfl rfl
      · refine w_aload_n rfl rfl rfl ?_
        refine w_cv (q := am_m200) (as := []) (rest := []) (st' := [_]) rfl rfl rfl rfl rfl rfl sp110 rfl rfl rfl rfl (c_isCounted hC h48 (by omega)) rfl rfl ?_
        refine w_if_ne (t := 75) (f := 73) rfl rfl rfl (fun c70 => ?_) (fun c70 => absurd c70 (by decide))
        clear c70
        refine w_aload_n rfl rfl rfl ?_
        refine w_iconst (x := Int32.ofNat 2) rfl rfl (by decide) ?_
        refine w_cv (q := am_m201) (as := [_]) (rest := []) (st' := []) rfl rfl rfl rfl rfl rfl sp110 rfl rfl rfl rfl (c_waitsFor hW ((am_u_nk (by decide)).trans h45) (by omega)) rfl rfl ?_
        refine w_aload_n rfl rfl rfl ?_
        refine w_cv (q := am_m174) (as := []) (rest := []) (st' := []) rfl rfl rfl rfl rfl rfl sp110 rfl rfl rfl rfl (c_tok (pv_u (by omega) (by omega) (pv_u (by omega) (by omega) (pv_u (by omega) (by omega) g))) (by omega)) rfl rfl ?_
        refine w_iconst (x := Int32.ofNat 1) rfl rfl (by decide) ?_
        exact w_bret rfl (by decide) (by first | contradiction | exact absurd (c56.1.symm.trans c100) (by decide) | (simp +decide only [m_leaf, *, ite_true, ite_false, and_self, and_true, true_and, and_false, false_and, or_true, true_or, or_false, false_or, not_true, not_false_iff, eq_self] <;> rfl)) (by first | contradiction | exact absurd (c56.1.symm.trans c100) (by decide) | (simp +decide only [m_leaf, *, ite_true, ite_false, and_self, and_true, true_and, and_false, false_and, or_true, true_or, or_false, false_or, not_true, not_false_iff, eq_self] <;> rfl)) rfl rfl
  · refine w_aload_n rfl rfl rfl ?_
    refine w_gf (t := .int 0) (v := .int _) rfl rfl rfl sp110 rfl (congrArg Value.int h47) rfl ?_
    refine w_bipush (x := Int32.ofNat 8) rfl rfl (by decide) ?_
    refine w_ic_neN (t := 24) (f := 18) rfl rfl rfl (by omega) (by omega) (fun c15 => ?_) (fun c15 => ?_)
    · refine w_aload_n rfl rfl rfl ?_
      refine w_dup rfl rfl rfl ?_
      refine w_gf (t := .int 0) (v := .int _) rfl rfl rfl sp110 rfl (congrArg Value.int h47) rfl ?_
      refine w_iconst (x := Int32.ofNat 1) rfl rfl (by decide) ?_
      refine w_iaddN rfl rfl ?_
      refine w_pf rfl rfl rfl sp110 rfl rfl rfl ?_
      refine w_aload_n rfl rfl rfl ?_
      refine w_iconst (x := Int32.ofNat 0) rfl rfl (by decide) ?_
      refine w_cv (q := am_m201) (as := [_]) (rest := []) (st' := []) rfl rfl rfl rfl rfl rfl sp110 rfl rfl rfl rfl (c_waitsFor hW ((am_u_nk (by decide)).trans h45) (by omega)) rfl rfl ?_
      refine w_aload_n rfl rfl rfl ?_
      refine w_iconst (x := Int32.ofNat 1) rfl rfl (by decide) ?_
      refine w_pf rfl rfl rfl sp110 rfl rfl rfl ?_
      refine w_aload_n rfl rfl rfl ?_
      refine w_cv (q := am_m174) (as := []) (rest := []) (st' := []) rfl rfl rfl rfl rfl rfl sp110 rfl rfl rfl rfl (c_tok (pv_u (by omega) (by omega) (pv_u (by omega) (by omega) (pv_u (by omega) (by omega) (pv_u (by omega) (by omega) g)))) (by omega)) rfl rfl ?_
      refine w_iconst (x := Int32.ofNat 1) rfl rfl (by decide) ?_
      exact w_bret rfl (by decide) (by first | contradiction | exact absurd (c56.1.symm.trans c100) (by decide) | (simp +decide only [m_leaf, *, ite_true, ite_false, and_self, and_true, true_and, and_false, false_and, or_true, true_or, or_false, false_or, not_true, not_false_iff, eq_self] <;> rfl)) (by first | contradiction | exact absurd (c56.1.symm.trans c100) (by decide) | (simp +decide only [m_leaf, *, ite_true, ite_false, and_self, and_true, true_and, and_false, false_and, or_true, true_or, or_false, false_or, not_true, not_false_iff, eq_self] <;> rfl)) rfl rfl
    · refine w_aload_n rfl rfl rfl ?_
      refine w_iconst (x := Int32.ofNat 2) rfl rfl (by decide) ?_
      refine w_cv (q := am_m170) (as := [_]) (rest := []) (st' := [_]) rfl rfl rfl rfl rfl rfl sp110 rfl rfl rfl rfl (c_wrong (by omega)) rfl rfl ?_
      exact w_bret rfl (by decide) (by first | contradiction | exact absurd (c56.1.symm.trans c100) (by decide) | (simp +decide only [m_leaf, *, ite_true, ite_false, and_self, and_true, true_and, and_false, false_and, or_true, true_or, or_false, false_or, not_true, not_false_iff, eq_self] <;> rfl)) (by first | contradiction | exact absurd (c56.1.symm.trans c100) (by decide) | (simp +decide only [m_leaf, *, ite_true, ite_false, and_self, and_true, true_and, and_false, false_and, or_true, true_or, or_false, false_or, not_true, not_false_iff, eq_self] <;> rfl)) rfl rfl
