/-! The reference: the signs of a sum. -/
def tv (I : hI) : Prop := (I 110 8 = Int32.ofNat 5 → okn (I 110 9) 6) ∧ (I 110 8 = Int32.ofNat 1 → okn (I 110 9) 21)
def m_sgk (I : hI) : Int32 := if I 110 8 = Int32.ofNat 1 ∧ I 110 9 = Int32.ofNat 11 then Int32.ofNat 3 else if I 110 8 = Int32.ofNat 1 ∧ I 110 9 = Int32.ofNat 12 then Int32.ofNat 4 else if I 110 8 = Int32.ofNat 5 then Int32.ofNat (5 + nn (I 110 9)) else if I 110 8 = Int32.ofNat 4 ∧ I 110 9 = Int32.ofNat 43 then Int32.ofNat 11 else if I 110 8 = Int32.ofNat 4 ∧ I 110 9 = Int32.ofNat 45 then Int32.ofNat 12 else if I 110 8 = Int32.ofNat 4 ∧ I 110 9 = Int32.ofNat 42 then Int32.ofNat 13 else if I 110 8 = Int32.ofNat 4 ∧ I 110 9 = Int32.ofNat 47 then Int32.ofNat 14 else Int32.ofNat 0
def m_sgl (x : Int32) : Int32 := if m_rk x = Int32.ofNat 4 then Int32.ofNat 5 else m_rk x
def m_sg1 (I : hI) (W H K C : Nat) (x : Int32) : Int32 × hI := if m_rk x = Int32.ofNat 4 ∧ 0 < Int32.ofNat (m_biW (m_sgl x) W I) ∧ m_rk (m_bi (m_sgl x) W H K I 134 (m_biW (m_sgl x) W I - 1)) = Int32.ofNat 4 then (0, m_wr (m_bi (m_sgl x) W H K I) (Int32.ofNat 1)) else if C = 64 then (0, m_wr (m_bi (m_sgl x) W H K I) (Int32.ofNat 2)) else (1, m_tok (am_u (am_u (am_u (am_u (am_u (m_bi (m_sgl x) W H K I) 110 48 (Int32.ofNat (C + 1))) 134 (m_biW (m_sgl x) W I) x) 110 45 (Int32.ofNat (m_biW (m_sgl x) W I + 1))) 110 49 (Int32.ofNat 1)) 110 50 (if m_rk x < Int32.ofNat 3 then Int32.ofNat 1 else Int32.ofNat 0)))
def m_sg0 (I : hI) (W H K B : Nat) : Int32 × hI := (1, m_tok (am_u (am_u (m_bi (Int32.ofNat 1) W H K I) 110 45 (Int32.ofNat (m_biW (Int32.ofNat 1) W I - 1))) 110 47 (Int32.ofNat (B - 1))))
def m_sg (I : hI) (W H K B C : Nat) : Int32 × hI := if (I 110 8 = Int32.ofNat 4 ∧ I 110 9 = Int32.ofNat 41) ∧ 0 < Int32.ofNat B then m_sg0 I W H K B else if m_sgk I = 0 then (0, m_wr I (Int32.ofNat 1)) else m_sg1 I W H K C (m_sgk I)
theorem c_rankC {k : Nat} {I : hI} {J : hJ} {R : hR} {x v : Int32} (h : m_rk x = v) (hk : 1 ≤ k) : ct k 196 [.int x] I J R (some (.int v)) I J R := by
  subst h; exact c_rank hk
theorem rk_cmp {w : Nat} (h : w < 6) : m_rk (Int32.ofNat (5 + w)) = Int32.ofNat 4 := by
  have : ∀ w : Fin 6, m_rk (Int32.ofNat (5 + w.val)) = Int32.ofNat 4 := by decide
  exact this ⟨w, h⟩
theorem am_pos {n : Nat} (h : n < 96) (h0 : 0 < Int32.ofNat n) : 1 ≤ n := (am_ltN (x := 0) (by omega) (by omega)).mp h0
theorem pv_bi {I : hI} {f : Nat → Int32} {st W H K : Nat} {l : Int32} (g : pv I f st) : pv (m_bi l W H K I) f st := pv_c (fun a i h => m_bi_f (by omega) (by omega) (by omega) W H K I) g
theorem bi_cz {I : hI} {W H K C l : Nat} (h1 : 1 ≤ l) (hl : l ≤ 6) (s : sw0 I W H K C) : cz (I 134) (m_biW (Int32.ofNat l) W I) = cz (I 134) W := by
  have h := bi_ok h1 hl W H K I s
  have e := h.1.2.2.2.2.1
  rw [show m_bi (Int32.ofNat l) W H K I 134 = I 134 from funext h.2] at e
  have e2 := s.2.2.2.2.1
  have := m_biW_le (Int32.ofNat l) I W
  omega
theorem rkv3 : m_rk (Int32.ofNat 3) = Int32.ofNat 2 := by decide
theorem rkv4 : m_rk (Int32.ofNat 4) = Int32.ofNat 1 := by decide
theorem rkv11 : m_rk (Int32.ofNat 11) = Int32.ofNat 5 := by decide
theorem rkv12 : m_rk (Int32.ofNat 12) = Int32.ofNat 5 := by decide
theorem rkv13 : m_rk (Int32.ofNat 13) = Int32.ofNat 6 := by decide
theorem rkv14 : m_rk (Int32.ofNat 14) = Int32.ofNat 6 := by decide
theorem c_signs1 {k : Nat} {I : hI} {J : hJ} {R : hR} {f : Nat → Int32} {st : Nat} (g : pv I f st) (v : tv I) {W H K C : Nat} (s : sm I W H K C 0) (hC : C = 64) (hk : 4 ≤ k) : ct k 204 [.ref 110] I J R (some (.int (m_sg I W H K (cz (I 134) W) C).1)) ((m_sg I W H K (cz (I 134) W) C).2) J R := by
  obtain ⟨k, rfl⟩ : ∃ k', k = k' + 1 := ⟨k - 1, by omega⟩
  have s0 := sm_sw0 s
  have h47 := s.1.2.2.2.1
  have h48 := s.1.2.2.2.2
  have b2 := s.2.2.1
  have b3 := s.2.2.2.1
  have b4 := s.2.2.2.2.1
  have hW : W < 96 := by omega
  refine ct_of (q := am_m204) (L := [_, _]) rfl rfl rfl rfl rfl rfl ?_
  refine w_aload_n rfl rfl rfl ?_
  refine w_bipush (x := Int32.ofNat 41) rfl rfl (by decide) ?_
  refine w_cv (q := am_m178) (as := [_]) (rest := []) (st' := [_]) rfl rfl rfl rfl rfl rfl sp110 rfl rfl rfl rfl (c_isSign (by omega)) rfl rfl ?_
  refine w_if_eqB (t := 47) (f := 9) rfl rfl rfl (fun c6 => ?_) (fun c6 => ?_)
  · refine w_aload_n rfl rfl rfl ?_
    refine w_bipush (x := Int32.ofNat 11) rfl rfl (by decide) ?_
    refine w_cv (q := am_m177) (as := [_]) (rest := []) (st' := [_]) rfl rfl rfl rfl rfl rfl sp110 rfl rfl rfl rfl (c_isKey (by omega)) rfl rfl ?_
    refine w_if_eqB (t := 60) (f := 56) rfl rfl rfl (fun c53 => ?_) (fun c53 => ?_)
    · refine w_aload_n rfl rfl rfl ?_
      refine w_bipush (x := Int32.ofNat 12) rfl rfl (by decide) ?_
      refine w_cv (q := am_m177) (as := [_]) (rest := []) (st' := [_]) rfl rfl rfl rfl rfl rfl sp110 rfl rfl rfl rfl (c_isKey (by omega)) rfl rfl ?_
      refine w_if_eqB (t := 73) (f := 69) rfl rfl rfl (fun c66 => ?_) (fun c66 => ?_)
      · refine w_aload_n rfl rfl rfl ?_
        refine w_gf (t := .int 0) (v := .int _) rfl rfl rfl sp110 rfl (congrArg Value.int rfl) rfl ?_
        refine w_iconst (x := Int32.ofNat 5) rfl rfl (by decide) ?_
        refine w_ic_ne (t := 90) (f := 81) rfl rfl rfl (fun c78 => ?_) (fun c78 => ?_)
        · refine w_aload_n rfl rfl rfl ?_
          refine w_bipush (x := Int32.ofNat 43) rfl rfl (by decide) ?_
          refine w_cv (q := am_m178) (as := [_]) (rest := []) (st' := [_]) rfl rfl rfl rfl rfl rfl sp110 rfl rfl rfl rfl (c_isSign (by omega)) rfl rfl ?_
          refine w_if_eqB (t := 104) (f := 99) rfl rfl rfl (fun c96 => ?_) (fun c96 => ?_)
          · refine w_aload_n rfl rfl rfl ?_
            refine w_bipush (x := Int32.ofNat 45) rfl rfl (by decide) ?_
            refine w_cv (q := am_m178) (as := [_]) (rest := []) (st' := [_]) rfl rfl rfl rfl rfl rfl sp110 rfl rfl rfl rfl (c_isSign (by omega)) rfl rfl ?_
            refine w_if_eqB (t := 118) (f := 113) rfl rfl rfl (fun c110 => ?_) (fun c110 => ?_)
            · refine w_aload_n rfl rfl rfl ?_
              refine w_bipush (x := Int32.ofNat 42) rfl rfl (by decide) ?_
              refine w_cv (q := am_m178) (as := [_]) (rest := []) (st' := [_]) rfl rfl rfl rfl rfl rfl sp110 rfl rfl rfl rfl (c_isSign (by omega)) rfl rfl ?_
              refine w_if_eqB (t := 132) (f := 127) rfl rfl rfl (fun c124 => ?_) (fun c124 => ?_)
              · refine w_aload_n rfl rfl rfl ?_
                refine w_bipush (x := Int32.ofNat 47) rfl rfl (by decide) ?_
                refine w_cv (q := am_m178) (as := [_]) (rest := []) (st' := [_]) rfl rfl rfl rfl rfl rfl sp110 rfl rfl rfl rfl (c_isSign (by omega)) rfl rfl ?_
                refine w_if_eqB (t := 146) (f := 141) rfl rfl rfl (fun c138 => ?_) (fun c138 => ?_)
                · refine w_iconst (x := Int32.ofNat 0) rfl rfl (by decide) ?_
                  refine w_istore_n (L' := [_, _]) rfl rfl rfl ?_
                  refine w_iload_n rfl rfl rfl ?_
                  refine w_if_ne (t := 158) (f := 152) rfl rfl rfl (fun c149 => absurd c149 (by decide)) (fun c149 => ?_)
                  clear c149
                  refine w_aload_n rfl rfl rfl ?_
                  refine w_iconst (x := Int32.ofNat 1) rfl rfl (by decide) ?_
                  refine w_cv (q := am_m170) (as := [_]) (rest := []) (st' := [_]) rfl rfl rfl rfl rfl rfl sp110 rfl rfl rfl rfl (c_wrong (by omega)) rfl rfl ?_
                  exact w_bret rfl (by decide) (by clear s s0 b2 b3 b4; first | contradiction | exact absurd (c6.2.symm.trans c138.2) (by decide) | exact absurd (c6.2.symm.trans c124.2) (by decide) | exact absurd (c6.2.symm.trans c110.2) (by decide) | exact absurd (c6.2.symm.trans c96.2) (by decide) | exact absurd (c6.1.symm.trans c78) (by decide) | exact absurd (c6.1.symm.trans c53.1) (by decide) | exact absurd (c6.1.symm.trans c66.1) (by decide) | (simp +decide only [m_sg, m_sg0, m_sg1, m_sgl, m_sgk, rkv3, rkv4, rkv11, rkv12, rkv13, rkv14, *, ite_true, ite_false, and_self, and_true, true_and, and_false, false_and, or_true, true_or, or_false, false_or, not_true, not_false_iff, eq_self, rk_cmp (v.1 c78).2] <;> rfl) | (simp +decide only [m_sg, m_sg0, m_sg1, m_sgl, m_sgk, rkv3, rkv4, rkv11, rkv12, rkv13, rkv14, *, ite_true, ite_false, and_self, and_true, true_and, and_false, false_and, or_true, true_or, or_false, false_or, not_true, not_false_iff, eq_self] <;> rfl)) (by clear s s0 b2 b3 b4; first | contradiction | exact absurd (c6.2.symm.trans c138.2) (by decide) | exact absurd (c6.2.symm.trans c124.2) (by decide) | exact absurd (c6.2.symm.trans c110.2) (by decide) | exact absurd (c6.2.symm.trans c96.2) (by decide) | exact absurd (c6.1.symm.trans c78) (by decide) | exact absurd (c6.1.symm.trans c53.1) (by decide) | exact absurd (c6.1.symm.trans c66.1) (by decide) | (simp +decide only [m_sg, m_sg0, m_sg1, m_sgl, m_sgk, rkv3, rkv4, rkv11, rkv12, rkv13, rkv14, *, ite_true, ite_false, and_self, and_true, true_and, and_false, false_and, or_true, true_or, or_false, false_or, not_true, not_false_iff, eq_self, rk_cmp (v.1 c78).2] <;> rfl) | (simp +decide only [m_sg, m_sg0, m_sg1, m_sgl, m_sgk, rkv3, rkv4, rkv11, rkv12, rkv13, rkv14, *, ite_true, ite_false, and_self, and_true, true_and, and_false, false_and, or_true, true_or, or_false, false_or, not_true, not_false_iff, eq_self] <;> rfl)) rfl rfl
                · refine w_bipush (x := Int32.ofNat 14) rfl rfl (by decide) ?_
                  refine w_goto (pc' := 147) rfl rfl ?_
                  refine w_istore_n (L' := [_, _]) rfl rfl rfl ?_
                  refine w_iload_n rfl rfl rfl ?_
                  refine w_if_ne (t := 158) (f := 152) rfl rfl rfl (fun c149 => ?_) (fun c149 => absurd c149 (by decide))
                  clear c149
                  refine w_aload_n rfl rfl rfl ?_
                  refine w_iload_n rfl rfl rfl ?_
                  refine w_cs (q := am_m196) (na := 1) (as := [_]) (st' := [_, _]) rfl rfl rfl rfl (by decide) rfl rfl (Nat.le_of_ble_eq_true rfl) rfl rfl rfl (c_rankC (v := Int32.ofNat 6) (by decide) (by omega)) rfl rfl ?_
                  refine w_iconst (x := Int32.ofNat 4) rfl rfl (by decide) ?_
                  refine w_ic_neN (t := 171) (f := 167) rfl rfl rfl (by omega) (by omega) (fun c164 => ?_) (fun c164 => absurd c164 (by omega))
                  clear c164
                  refine w_iload_n rfl rfl rfl ?_
                  refine w_cs (q := am_m196) (na := 1) (as := [_]) (st' := [_, _]) rfl rfl rfl rfl (by decide) rfl rfl (Nat.le_of_ble_eq_true rfl) rfl rfl rfl (c_rankC (v := Int32.ofNat 6) (by decide) (by omega)) rfl rfl ?_
                  refine w_cv (q := am_m199) (as := [_]) (rest := []) (st' := []) rfl rfl rfl rfl rfl rfl sp110 rfl rfl rfl rfl (c_bind (by decide) (by decide) s0 (by omega)) rfl rfl ?_
                  refine w_iload_n rfl rfl rfl ?_
                  refine w_cs (q := am_m196) (na := 1) (as := [_]) (st' := [_]) rfl rfl rfl rfl (by decide) rfl rfl (Nat.le_of_ble_eq_true rfl) rfl rfl rfl (c_rankC (v := Int32.ofNat 6) (by decide) (by omega)) rfl rfl ?_
                  refine w_iconst (x := Int32.ofNat 4) rfl rfl (by decide) ?_
                  refine w_ic_neN (t := 217) (f := 186) rfl rfl rfl (by omega) (by omega) (fun c183 => ?_) (fun c183 => absurd c183 (by omega))
                  clear c183
                  refine w_aload_n rfl rfl rfl ?_
                  refine w_cv (q := am_m200) (as := []) (rest := []) (st' := [_]) rfl rfl rfl rfl rfl rfl sp110 rfl rfl rfl rfl (c_isCounted_no ((((m_bi_f (by omega) (by omega) (by omega) W H K I).trans h48)).trans (congrArg Int32.ofNat hC)) (by omega)) rfl rfl ?_
                  refine w_if_ne (t := 226) (f := 224) rfl rfl rfl (fun c221 => absurd c221 (by decide)) (fun c221 => ?_)
                  clear c221
                  refine w_iconst (x := Int32.ofNat 0) rfl rfl (by decide) ?_
                  exact w_bret rfl (by decide) (by clear s s0 b2 b3 b4; first | contradiction | exact absurd (c6.2.symm.trans c138.2) (by decide) | exact absurd (c6.2.symm.trans c124.2) (by decide) | exact absurd (c6.2.symm.trans c110.2) (by decide) | exact absurd (c6.2.symm.trans c96.2) (by decide) | exact absurd (c6.1.symm.trans c78) (by decide) | exact absurd (c6.1.symm.trans c53.1) (by decide) | exact absurd (c6.1.symm.trans c66.1) (by decide) | (simp +decide only [m_sg, m_sg0, m_sg1, m_sgl, m_sgk, rkv3, rkv4, rkv11, rkv12, rkv13, rkv14, *, ite_true, ite_false, and_self, and_true, true_and, and_false, false_and, or_true, true_or, or_false, false_or, not_true, not_false_iff, eq_self, rk_cmp (v.1 c78).2] <;> rfl) | (simp +decide only [m_sg, m_sg0, m_sg1, m_sgl, m_sgk, rkv3, rkv4, rkv11, rkv12, rkv13, rkv14, *, ite_true, ite_false, and_self, and_true, true_and, and_false, false_and, or_true, true_or, or_false, false_or, not_true, not_false_iff, eq_self] <;> rfl)) (by clear s s0 b2 b3 b4; first | contradiction | exact absurd (c6.2.symm.trans c138.2) (by decide) | exact absurd (c6.2.symm.trans c124.2) (by decide) | exact absurd (c6.2.symm.trans c110.2) (by decide) | exact absurd (c6.2.symm.trans c96.2) (by decide) | exact absurd (c6.1.symm.trans c78) (by decide) | exact absurd (c6.1.symm.trans c53.1) (by decide) | exact absurd (c6.1.symm.trans c66.1) (by decide) | (simp +decide only [m_sg, m_sg0, m_sg1, m_sgl, m_sgk, rkv3, rkv4, rkv11, rkv12, rkv13, rkv14, *, ite_true, ite_false, and_self, and_true, true_and, and_false, false_and, or_true, true_or, or_false, false_or, not_true, not_false_iff, eq_self, rk_cmp (v.1 c78).2] <;> rfl) | (simp +decide only [m_sg, m_sg0, m_sg1, m_sgl, m_sgk, rkv3, rkv4, rkv11, rkv12, rkv13, rkv14, *, ite_true, ite_false, and_self, and_true, true_and, and_false, false_and, or_true, true_or, or_false, false_or, not_true, not_false_iff, eq_self] <;> rfl)) rfl rfl
              · refine w_bipush (x := Int32.ofNat 13) rfl rfl (by decide) ?_
                refine w_goto (pc' := 147) rfl rfl ?_
                refine w_istore_n (L' := [_, _]) rfl rfl rfl ?_
                refine w_iload_n rfl rfl rfl ?_
                refine w_if_ne (t := 158) (f := 152) rfl rfl rfl (fun c149 => ?_) (fun c149 => absurd c149 (by decide))
                clear c149
                refine w_aload_n rfl rfl rfl ?_
                refine w_iload_n rfl rfl rfl ?_
                refine w_cs (q := am_m196) (na := 1) (as := [_]) (st' := [_, _]) rfl rfl rfl rfl (by decide) rfl rfl (Nat.le_of_ble_eq_true rfl) rfl rfl rfl (c_rankC (v := Int32.ofNat 6) (by decide) (by omega)) rfl rfl ?_
                refine w_iconst (x := Int32.ofNat 4) rfl rfl (by decide) ?_
                refine w_ic_neN (t := 171) (f := 167) rfl rfl rfl (by omega) (by omega) (fun c164 => ?_) (fun c164 => absurd c164 (by omega))
                clear c164
                refine w_iload_n rfl rfl rfl ?_
                refine w_cs (q := am_m196) (na := 1) (as := [_]) (st' := [_, _]) rfl rfl rfl rfl (by decide) rfl rfl (Nat.le_of_ble_eq_true rfl) rfl rfl rfl (c_rankC (v := Int32.ofNat 6) (by decide) (by omega)) rfl rfl ?_
                refine w_cv (q := am_m199) (as := [_]) (rest := []) (st' := []) rfl rfl rfl rfl rfl rfl sp110 rfl rfl rfl rfl (c_bind (by decide) (by decide) s0 (by omega)) rfl rfl ?_
                refine w_iload_n rfl rfl rfl ?_
                refine w_cs (q := am_m196) (na := 1) (as := [_]) (st' := [_]) rfl rfl rfl rfl (by decide) rfl rfl (Nat.le_of_ble_eq_true rfl) rfl rfl rfl (c_rankC (v := Int32.ofNat 6) (by decide) (by omega)) rfl rfl ?_
                refine w_iconst (x := Int32.ofNat 4) rfl rfl (by decide) ?_
                refine w_ic_neN (t := 217) (f := 186) rfl rfl rfl (by omega) (by omega) (fun c183 => ?_) (fun c183 => absurd c183 (by omega))
                clear c183
                refine w_aload_n rfl rfl rfl ?_
                refine w_cv (q := am_m200) (as := []) (rest := []) (st' := [_]) rfl rfl rfl rfl rfl rfl sp110 rfl rfl rfl rfl (c_isCounted_no ((((m_bi_f (by omega) (by omega) (by omega) W H K I).trans h48)).trans (congrArg Int32.ofNat hC)) (by omega)) rfl rfl ?_
                refine w_if_ne (t := 226) (f := 224) rfl rfl rfl (fun c221 => absurd c221 (by decide)) (fun c221 => ?_)
                clear c221
                refine w_iconst (x := Int32.ofNat 0) rfl rfl (by decide) ?_
                exact w_bret rfl (by decide) (by clear s s0 b2 b3 b4; first | contradiction | exact absurd (c6.2.symm.trans c138.2) (by decide) | exact absurd (c6.2.symm.trans c124.2) (by decide) | exact absurd (c6.2.symm.trans c110.2) (by decide) | exact absurd (c6.2.symm.trans c96.2) (by decide) | exact absurd (c6.1.symm.trans c78) (by decide) | exact absurd (c6.1.symm.trans c53.1) (by decide) | exact absurd (c6.1.symm.trans c66.1) (by decide) | (simp +decide only [m_sg, m_sg0, m_sg1, m_sgl, m_sgk, rkv3, rkv4, rkv11, rkv12, rkv13, rkv14, *, ite_true, ite_false, and_self, and_true, true_and, and_false, false_and, or_true, true_or, or_false, false_or, not_true, not_false_iff, eq_self, rk_cmp (v.1 c78).2] <;> rfl) | (simp +decide only [m_sg, m_sg0, m_sg1, m_sgl, m_sgk, rkv3, rkv4, rkv11, rkv12, rkv13, rkv14, *, ite_true, ite_false, and_self, and_true, true_and, and_false, false_and, or_true, true_or, or_false, false_or, not_true, not_false_iff, eq_self] <;> rfl)) (by clear s s0 b2 b3 b4; first | contradiction | exact absurd (c6.2.symm.trans c138.2) (by decide) | exact absurd (c6.2.symm.trans c124.2) (by decide) | exact absurd (c6.2.symm.trans c110.2) (by decide) | exact absurd (c6.2.symm.trans c96.2) (by decide) | exact absurd (c6.1.symm.trans c78) (by decide) | exact absurd (c6.1.symm.trans c53.1) (by decide) | exact absurd (c6.1.symm.trans c66.1) (by decide) | (simp +decide only [m_sg, m_sg0, m_sg1, m_sgl, m_sgk, rkv3, rkv4, rkv11, rkv12, rkv13, rkv14, *, ite_true, ite_false, and_self, and_true, true_and, and_false, false_and, or_true, true_or, or_false, false_or, not_true, not_false_iff, eq_self, rk_cmp (v.1 c78).2] <;> rfl) | (simp +decide only [m_sg, m_sg0, m_sg1, m_sgl, m_sgk, rkv3, rkv4, rkv11, rkv12, rkv13, rkv14, *, ite_true, ite_false, and_self, and_true, true_and, and_false, false_and, or_true, true_or, or_false, false_or, not_true, not_false_iff, eq_self] <;> rfl)) rfl rfl
            · refine w_bipush (x := Int32.ofNat 12) rfl rfl (by decide) ?_
              refine w_goto (pc' := 147) rfl rfl ?_
              refine w_istore_n (L' := [_, _]) rfl rfl rfl ?_
              refine w_iload_n rfl rfl rfl ?_
              refine w_if_ne (t := 158) (f := 152) rfl rfl rfl (fun c149 => ?_) (fun c149 => absurd c149 (by decide))
              clear c149
              refine w_aload_n rfl rfl rfl ?_
              refine w_iload_n rfl rfl rfl ?_
              refine w_cs (q := am_m196) (na := 1) (as := [_]) (st' := [_, _]) rfl rfl rfl rfl (by decide) rfl rfl (Nat.le_of_ble_eq_true rfl) rfl rfl rfl (c_rankC (v := Int32.ofNat 5) (by decide) (by omega)) rfl rfl ?_
              refine w_iconst (x := Int32.ofNat 4) rfl rfl (by decide) ?_
              refine w_ic_neN (t := 171) (f := 167) rfl rfl rfl (by omega) (by omega) (fun c164 => ?_) (fun c164 => absurd c164 (by omega))
              clear c164
              refine w_iload_n rfl rfl rfl ?_
              refine w_cs (q := am_m196) (na := 1) (as := [_]) (st' := [_, _]) rfl rfl rfl rfl (by decide) rfl rfl (Nat.le_of_ble_eq_true rfl) rfl rfl rfl (c_rankC (v := Int32.ofNat 5) (by decide) (by omega)) rfl rfl ?_
              refine w_cv (q := am_m199) (as := [_]) (rest := []) (st' := []) rfl rfl rfl rfl rfl rfl sp110 rfl rfl rfl rfl (c_bind (by decide) (by decide) s0 (by omega)) rfl rfl ?_
              refine w_iload_n rfl rfl rfl ?_
              refine w_cs (q := am_m196) (na := 1) (as := [_]) (st' := [_]) rfl rfl rfl rfl (by decide) rfl rfl (Nat.le_of_ble_eq_true rfl) rfl rfl rfl (c_rankC (v := Int32.ofNat 5) (by decide) (by omega)) rfl rfl ?_
              refine w_iconst (x := Int32.ofNat 4) rfl rfl (by decide) ?_
              refine w_ic_neN (t := 217) (f := 186) rfl rfl rfl (by omega) (by omega) (fun c183 => ?_) (fun c183 => absurd c183 (by omega))
              clear c183
              refine w_aload_n rfl rfl rfl ?_
              refine w_cv (q := am_m200) (as := []) (rest := []) (st' := [_]) rfl rfl rfl rfl rfl rfl sp110 rfl rfl rfl rfl (c_isCounted_no ((((m_bi_f (by omega) (by omega) (by omega) W H K I).trans h48)).trans (congrArg Int32.ofNat hC)) (by omega)) rfl rfl ?_
              refine w_if_ne (t := 226) (f := 224) rfl rfl rfl (fun c221 => absurd c221 (by decide)) (fun c221 => ?_)
              clear c221
              refine w_iconst (x := Int32.ofNat 0) rfl rfl (by decide) ?_
              exact w_bret rfl (by decide) (by clear s s0 b2 b3 b4; first | contradiction | exact absurd (c6.2.symm.trans c138.2) (by decide) | exact absurd (c6.2.symm.trans c124.2) (by decide) | exact absurd (c6.2.symm.trans c110.2) (by decide) | exact absurd (c6.2.symm.trans c96.2) (by decide) | exact absurd (c6.1.symm.trans c78) (by decide) | exact absurd (c6.1.symm.trans c53.1) (by decide) | exact absurd (c6.1.symm.trans c66.1) (by decide) | (simp +decide only [m_sg, m_sg0, m_sg1, m_sgl, m_sgk, rkv3, rkv4, rkv11, rkv12, rkv13, rkv14, *, ite_true, ite_false, and_self, and_true, true_and, and_false, false_and, or_true, true_or, or_false, false_or, not_true, not_false_iff, eq_self, rk_cmp (v.1 c78).2] <;> rfl) | (simp +decide only [m_sg, m_sg0, m_sg1, m_sgl, m_sgk, rkv3, rkv4, rkv11, rkv12, rkv13, rkv14, *, ite_true, ite_false, and_self, and_true, true_and, and_false, false_and, or_true, true_or, or_false, false_or, not_true, not_false_iff, eq_self] <;> rfl)) (by clear s s0 b2 b3 b4; first | contradiction | exact absurd (c6.2.symm.trans c138.2) (by decide) | exact absurd (c6.2.symm.trans c124.2) (by decide) | exact absurd (c6.2.symm.trans c110.2) (by decide) | exact absurd (c6.2.symm.trans c96.2) (by decide) | exact absurd (c6.1.symm.trans c78) (by decide) | exact absurd (c6.1.symm.trans c53.1) (by decide) | exact absurd (c6.1.symm.trans c66.1) (by decide) | (simp +decide only [m_sg, m_sg0, m_sg1, m_sgl, m_sgk, rkv3, rkv4, rkv11, rkv12, rkv13, rkv14, *, ite_true, ite_false, and_self, and_true, true_and, and_false, false_and, or_true, true_or, or_false, false_or, not_true, not_false_iff, eq_self, rk_cmp (v.1 c78).2] <;> rfl) | (simp +decide only [m_sg, m_sg0, m_sg1, m_sgl, m_sgk, rkv3, rkv4, rkv11, rkv12, rkv13, rkv14, *, ite_true, ite_false, and_self, and_true, true_and, and_false, false_and, or_true, true_or, or_false, false_or, not_true, not_false_iff, eq_self] <;> rfl)) rfl rfl
          · refine w_bipush (x := Int32.ofNat 11) rfl rfl (by decide) ?_
            refine w_goto (pc' := 147) rfl rfl ?_
            refine w_istore_n (L' := [_, _]) rfl rfl rfl ?_
            refine w_iload_n rfl rfl rfl ?_
            refine w_if_ne (t := 158) (f := 152) rfl rfl rfl (fun c149 => ?_) (fun c149 => absurd c149 (by decide))
            clear c149
            refine w_aload_n rfl rfl rfl ?_
            refine w_iload_n rfl rfl rfl ?_
            refine w_cs (q := am_m196) (na := 1) (as := [_]) (st' := [_, _]) rfl rfl rfl rfl (by decide) rfl rfl (Nat.le_of_ble_eq_true rfl) rfl rfl rfl (c_rankC (v := Int32.ofNat 5) (by decide) (by omega)) rfl rfl ?_
            refine w_iconst (x := Int32.ofNat 4) rfl rfl (by decide) ?_
            refine w_ic_neN (t := 171) (f := 167) rfl rfl rfl (by omega) (by omega) (fun c164 => ?_) (fun c164 => absurd c164 (by omega))
            clear c164
            refine w_iload_n rfl rfl rfl ?_
            refine w_cs (q := am_m196) (na := 1) (as := [_]) (st' := [_, _]) rfl rfl rfl rfl (by decide) rfl rfl (Nat.le_of_ble_eq_true rfl) rfl rfl rfl (c_rankC (v := Int32.ofNat 5) (by decide) (by omega)) rfl rfl ?_
            refine w_cv (q := am_m199) (as := [_]) (rest := []) (st' := []) rfl rfl rfl rfl rfl rfl sp110 rfl rfl rfl rfl (c_bind (by decide) (by decide) s0 (by omega)) rfl rfl ?_
            refine w_iload_n rfl rfl rfl ?_
            refine w_cs (q := am_m196) (na := 1) (as := [_]) (st' := [_]) rfl rfl rfl rfl (by decide) rfl rfl (Nat.le_of_ble_eq_true rfl) rfl rfl rfl (c_rankC (v := Int32.ofNat 5) (by decide) (by omega)) rfl rfl ?_
            refine w_iconst (x := Int32.ofNat 4) rfl rfl (by decide) ?_
            refine w_ic_neN (t := 217) (f := 186) rfl rfl rfl (by omega) (by omega) (fun c183 => ?_) (fun c183 => absurd c183 (by omega))
            clear c183
            refine w_aload_n rfl rfl rfl ?_
            refine w_cv (q := am_m200) (as := []) (rest := []) (st' := [_]) rfl rfl rfl rfl rfl rfl sp110 rfl rfl rfl rfl (c_isCounted_no ((((m_bi_f (by omega) (by omega) (by omega) W H K I).trans h48)).trans (congrArg Int32.ofNat hC)) (by omega)) rfl rfl ?_
            refine w_if_ne (t := 226) (f := 224) rfl rfl rfl (fun c221 => absurd c221 (by decide)) (fun c221 => ?_)
            clear c221
            refine w_iconst (x := Int32.ofNat 0) rfl rfl (by decide) ?_
            exact w_bret rfl (by decide) (by clear s s0 b2 b3 b4; first | contradiction | exact absurd (c6.2.symm.trans c138.2) (by decide) | exact absurd (c6.2.symm.trans c124.2) (by decide) | exact absurd (c6.2.symm.trans c110.2) (by decide) | exact absurd (c6.2.symm.trans c96.2) (by decide) | exact absurd (c6.1.symm.trans c78) (by decide) | exact absurd (c6.1.symm.trans c53.1) (by decide) | exact absurd (c6.1.symm.trans c66.1) (by decide) | (simp +decide only [m_sg, m_sg0, m_sg1, m_sgl, m_sgk, rkv3, rkv4, rkv11, rkv12, rkv13, rkv14, *, ite_true, ite_false, and_self, and_true, true_and, and_false, false_and, or_true, true_or, or_false, false_or, not_true, not_false_iff, eq_self, rk_cmp (v.1 c78).2] <;> rfl) | (simp +decide only [m_sg, m_sg0, m_sg1, m_sgl, m_sgk, rkv3, rkv4, rkv11, rkv12, rkv13, rkv14, *, ite_true, ite_false, and_self, and_true, true_and, and_false, false_and, or_true, true_or, or_false, false_or, not_true, not_false_iff, eq_self] <;> rfl)) (by clear s s0 b2 b3 b4; first | contradiction | exact absurd (c6.2.symm.trans c138.2) (by decide) | exact absurd (c6.2.symm.trans c124.2) (by decide) | exact absurd (c6.2.symm.trans c110.2) (by decide) | exact absurd (c6.2.symm.trans c96.2) (by decide) | exact absurd (c6.1.symm.trans c78) (by decide) | exact absurd (c6.1.symm.trans c53.1) (by decide) | exact absurd (c6.1.symm.trans c66.1) (by decide) | (simp +decide only [m_sg, m_sg0, m_sg1, m_sgl, m_sgk, rkv3, rkv4, rkv11, rkv12, rkv13, rkv14, *, ite_true, ite_false, and_self, and_true, true_and, and_false, false_and, or_true, true_or, or_false, false_or, not_true, not_false_iff, eq_self, rk_cmp (v.1 c78).2] <;> rfl) | (simp +decide only [m_sg, m_sg0, m_sg1, m_sgl, m_sgk, rkv3, rkv4, rkv11, rkv12, rkv13, rkv14, *, ite_true, ite_false, and_self, and_true, true_and, and_false, false_and, or_true, true_or, or_false, false_or, not_true, not_false_iff, eq_self] <;> rfl)) rfl rfl
        · refine w_iconst (x := Int32.ofNat 5) rfl rfl (by decide) ?_
          refine w_aload_n rfl rfl rfl ?_
          refine w_gf (t := .int 0) (v := .int _) rfl rfl rfl sp110 rfl (congrArg Value.int (v.1 c78).1) rfl ?_
          refine w_iaddN rfl rfl ?_
          refine w_goto (pc' := 147) rfl rfl ?_
          refine w_istore_n (L' := [_, _]) rfl rfl rfl ?_
          refine w_iload_n rfl rfl rfl ?_
          refine w_if_ne (t := 158) (f := 152) rfl rfl rfl (fun c149 => ?_) (fun c149 => ?_)
          · refine w_aload_n rfl rfl rfl ?_
            refine w_iload_n rfl rfl rfl ?_
            refine w_cs (q := am_m196) (na := 1) (as := [_]) (st' := [_, _]) rfl rfl rfl rfl (by decide) rfl rfl (Nat.le_of_ble_eq_true rfl) rfl rfl rfl (c_rankC (v := Int32.ofNat 4) (rk_cmp (v.1 c78).2) (by omega)) rfl rfl ?_
            refine w_iconst (x := Int32.ofNat 4) rfl rfl (by decide) ?_
            refine w_ic_neN (t := 171) (f := 167) rfl rfl rfl (by omega) (by omega) (fun c164 => absurd c164 (by omega)) (fun c164 => ?_)
            clear c164
            refine w_iconst (x := Int32.ofNat 5) rfl rfl (by decide) ?_
            refine w_goto (pc' := 175) rfl rfl ?_
            refine w_cv (q := am_m199) (as := [_]) (rest := []) (st' := []) rfl rfl rfl rfl rfl rfl sp110 rfl rfl rfl rfl (c_bind (by decide) (by decide) s0 (by omega)) rfl rfl ?_
            refine w_iload_n rfl rfl rfl ?_
            refine w_cs (q := am_m196) (na := 1) (as := [_]) (st' := [_]) rfl rfl rfl rfl (by decide) rfl rfl (Nat.le_of_ble_eq_true rfl) rfl rfl rfl (c_rankC (v := Int32.ofNat 4) (rk_cmp (v.1 c78).2) (by omega)) rfl rfl ?_
            refine w_iconst (x := Int32.ofNat 4) rfl rfl (by decide) ?_
            refine w_ic_neN (t := 217) (f := 186) rfl rfl rfl (by omega) (by omega) (fun c183 => absurd c183 (by omega)) (fun c183 => ?_)
            clear c183
            refine w_aload_n rfl rfl rfl ?_
            refine w_gf (t := .int 0) (v := .int _) rfl rfl rfl sp110 rfl (congrArg Value.int (bi_ok (by decide) (by decide) W H K I s0).1.1) rfl ?_
            refine w_if_le (t := 217) (f := 193) rfl rfl rfl (fun c190 => ?_) (fun c190 => ?_)
            · refine w_aload_n rfl rfl rfl ?_
              refine w_cv (q := am_m200) (as := []) (rest := []) (st' := [_]) rfl rfl rfl rfl rfl rfl sp110 rfl rfl rfl rfl (c_isCounted_no ((((m_bi_f (by omega) (by omega) (by omega) W H K I).trans h48)).trans (congrArg Int32.ofNat hC)) (by omega)) rfl rfl ?_
              refine w_if_ne (t := 226) (f := 224) rfl rfl rfl (fun c221 => absurd c221 (by decide)) (fun c221 => ?_)
              clear c221
              refine w_iconst (x := Int32.ofNat 0) rfl rfl (by decide) ?_
              exact w_bret rfl (by decide) (by clear s s0 b2 b3 b4; first | contradiction | exact absurd (c6.2.symm.trans c138.2) (by decide) | exact absurd (c6.2.symm.trans c124.2) (by decide) | exact absurd (c6.2.symm.trans c110.2) (by decide) | exact absurd (c6.2.symm.trans c96.2) (by decide) | exact absurd (c6.1.symm.trans c78) (by decide) | exact absurd (c6.1.symm.trans c53.1) (by decide) | exact absurd (c6.1.symm.trans c66.1) (by decide) | (simp +decide only [m_sg, m_sg0, m_sg1, m_sgl, m_sgk, rkv3, rkv4, rkv11, rkv12, rkv13, rkv14, *, ite_true, ite_false, and_self, and_true, true_and, and_false, false_and, or_true, true_or, or_false, false_or, not_true, not_false_iff, eq_self, rk_cmp (v.1 c78).2] <;> rfl) | (simp +decide only [m_sg, m_sg0, m_sg1, m_sgl, m_sgk, rkv3, rkv4, rkv11, rkv12, rkv13, rkv14, *, ite_true, ite_false, and_self, and_true, true_and, and_false, false_and, or_true, true_or, or_false, false_or, not_true, not_false_iff, eq_self] <;> rfl)) (by clear s s0 b2 b3 b4; first | contradiction | exact absurd (c6.2.symm.trans c138.2) (by decide) | exact absurd (c6.2.symm.trans c124.2) (by decide) | exact absurd (c6.2.symm.trans c110.2) (by decide) | exact absurd (c6.2.symm.trans c96.2) (by decide) | exact absurd (c6.1.symm.trans c78) (by decide) | exact absurd (c6.1.symm.trans c53.1) (by decide) | exact absurd (c6.1.symm.trans c66.1) (by decide) | (simp +decide only [m_sg, m_sg0, m_sg1, m_sgl, m_sgk, rkv3, rkv4, rkv11, rkv12, rkv13, rkv14, *, ite_true, ite_false, and_self, and_true, true_and, and_false, false_and, or_true, true_or, or_false, false_or, not_true, not_false_iff, eq_self, rk_cmp (v.1 c78).2] <;> rfl) | (simp +decide only [m_sg, m_sg0, m_sg1, m_sgl, m_sgk, rkv3, rkv4, rkv11, rkv12, rkv13, rkv14, *, ite_true, ite_false, and_self, and_true, true_and, and_false, false_and, or_true, true_or, or_false, false_or, not_true, not_false_iff, eq_self] <;> rfl)) rfl rfl
            · refine w_aload_n rfl rfl rfl ?_
              refine w_gf (t := .ref (134)) (v := .ref (134)) rfl rfl rfl sp110 rfl rfl rfl ?_
              refine w_aload_n rfl rfl rfl ?_
              refine w_gf (t := .int 0) (v := .int _) rfl rfl rfl sp110 rfl (congrArg Value.int (bi_ok (by decide) (by decide) W H K I s0).1.1) rfl ?_
              refine w_iconst (x := Int32.ofNat 1) rfl rfl (by decide) ?_
              refine w_isubN rfl rfl (am_pos (Nat.lt_of_le_of_lt (m_biW_le _ _ _) hW) c190) ?_
              refine w_iaload rfl rfl sp134 rfl ⟨(Nat.lt_of_le_of_lt (Nat.sub_le _ _) (Nat.lt_of_le_of_lt (m_biW_le _ _ _) hW)), by omega⟩ rfl ?_
              refine w_cs (q := am_m196) (na := 1) (as := [_]) (st' := [_]) rfl rfl rfl rfl (by decide) rfl rfl (Nat.le_of_ble_eq_true rfl) rfl rfl rfl (c_rank (by omega)) rfl rfl ?_
              refine w_iconst (x := Int32.ofNat 4) rfl rfl (by decide) ?_
              refine w_ic_ne (t := 217) (f := 211) rfl rfl rfl (fun c208 => ?_) (fun c208 => ?_)
              · refine w_aload_n rfl rfl rfl ?_
                refine w_cv (q := am_m200) (as := []) (rest := []) (st' := [_]) rfl rfl rfl rfl rfl rfl sp110 rfl rfl rfl rfl (c_isCounted_no ((((m_bi_f (by omega) (by omega) (by omega) W H K I).trans h48)).trans (congrArg Int32.ofNat hC)) (by omega)) rfl rfl ?_
                refine w_if_ne (t := 226) (f := 224) rfl rfl rfl (fun c221 => absurd c221 (by decide)) (fun c221 => ?_)
                clear c221
                refine w_iconst (x := Int32.ofNat 0) rfl rfl (by decide) ?_
                exact w_bret rfl (by decide) (by clear s s0 b2 b3 b4; first | contradiction | exact absurd (c6.2.symm.trans c138.2) (by decide) | exact absurd (c6.2.symm.trans c124.2) (by decide) | exact absurd (c6.2.symm.trans c110.2) (by decide) | exact absurd (c6.2.symm.trans c96.2) (by decide) | exact absurd (c6.1.symm.trans c78) (by decide) | exact absurd (c6.1.symm.trans c53.1) (by decide) | exact absurd (c6.1.symm.trans c66.1) (by decide) | (simp +decide only [m_sg, m_sg0, m_sg1, m_sgl, m_sgk, rkv3, rkv4, rkv11, rkv12, rkv13, rkv14, *, ite_true, ite_false, and_self, and_true, true_and, and_false, false_and, or_true, true_or, or_false, false_or, not_true, not_false_iff, eq_self, rk_cmp (v.1 c78).2] <;> rfl) | (simp +decide only [m_sg, m_sg0, m_sg1, m_sgl, m_sgk, rkv3, rkv4, rkv11, rkv12, rkv13, rkv14, *, ite_true, ite_false, and_self, and_true, true_and, and_false, false_and, or_true, true_or, or_false, false_or, not_true, not_false_iff, eq_self] <;> rfl)) (by clear s s0 b2 b3 b4; first | contradiction | exact absurd (c6.2.symm.trans c138.2) (by decide) | exact absurd (c6.2.symm.trans c124.2) (by decide) | exact absurd (c6.2.symm.trans c110.2) (by decide) | exact absurd (c6.2.symm.trans c96.2) (by decide) | exact absurd (c6.1.symm.trans c78) (by decide) | exact absurd (c6.1.symm.trans c53.1) (by decide) | exact absurd (c6.1.symm.trans c66.1) (by decide) | (simp +decide only [m_sg, m_sg0, m_sg1, m_sgl, m_sgk, rkv3, rkv4, rkv11, rkv12, rkv13, rkv14, *, ite_true, ite_false, and_self, and_true, true_and, and_false, false_and, or_true, true_or, or_false, false_or, not_true, not_false_iff, eq_self, rk_cmp (v.1 c78).2] <;> rfl) | (simp +decide only [m_sg, m_sg0, m_sg1, m_sgl, m_sgk, rkv3, rkv4, rkv11, rkv12, rkv13, rkv14, *, ite_true, ite_false, and_self, and_true, true_and, and_false, false_and, or_true, true_or, or_false, false_or, not_true, not_false_iff, eq_self] <;> rfl)) rfl rfl
              · refine w_aload_n rfl rfl rfl ?_
                refine w_iconst (x := Int32.ofNat 1) rfl rfl (by decide) ?_
                refine w_cv (q := am_m170) (as := [_]) (rest := []) (st' := [_]) rfl rfl rfl rfl rfl rfl sp110 rfl rfl rfl rfl (c_wrong (by omega)) rfl rfl ?_
                exact w_bret rfl (by decide) (by clear s s0 b2 b3 b4; first | contradiction | exact absurd (c6.2.symm.trans c138.2) (by decide) | exact absurd (c6.2.symm.trans c124.2) (by decide) | exact absurd (c6.2.symm.trans c110.2) (by decide) | exact absurd (c6.2.symm.trans c96.2) (by decide) | exact absurd (c6.1.symm.trans c78) (by decide) | exact absurd (c6.1.symm.trans c53.1) (by decide) | exact absurd (c6.1.symm.trans c66.1) (by decide) | (simp +decide only [m_sg, m_sg0, m_sg1, m_sgl, m_sgk, rkv3, rkv4, rkv11, rkv12, rkv13, rkv14, *, ite_true, ite_false, and_self, and_true, true_and, and_false, false_and, or_true, true_or, or_false, false_or, not_true, not_false_iff, eq_self, rk_cmp (v.1 c78).2] <;> rfl) | (simp +decide only [m_sg, m_sg0, m_sg1, m_sgl, m_sgk, rkv3, rkv4, rkv11, rkv12, rkv13, rkv14, *, ite_true, ite_false, and_self, and_true, true_and, and_false, false_and, or_true, true_or, or_false, false_or, not_true, not_false_iff, eq_self] <;> rfl)) (by clear s s0 b2 b3 b4; first | contradiction | exact absurd (c6.2.symm.trans c138.2) (by decide) | exact absurd (c6.2.symm.trans c124.2) (by decide) | exact absurd (c6.2.symm.trans c110.2) (by decide) | exact absurd (c6.2.symm.trans c96.2) (by decide) | exact absurd (c6.1.symm.trans c78) (by decide) | exact absurd (c6.1.symm.trans c53.1) (by decide) | exact absurd (c6.1.symm.trans c66.1) (by decide) | (simp +decide only [m_sg, m_sg0, m_sg1, m_sgl, m_sgk, rkv3, rkv4, rkv11, rkv12, rkv13, rkv14, *, ite_true, ite_false, and_self, and_true, true_and, and_false, false_and, or_true, true_or, or_false, false_or, not_true, not_false_iff, eq_self, rk_cmp (v.1 c78).2] <;> rfl) | (simp +decide only [m_sg, m_sg0, m_sg1, m_sgl, m_sgk, rkv3, rkv4, rkv11, rkv12, rkv13, rkv14, *, ite_true, ite_false, and_self, and_true, true_and, and_false, false_and, or_true, true_or, or_false, false_or, not_true, not_false_iff, eq_self] <;> rfl)) rfl rfl
          · refine w_aload_n rfl rfl rfl ?_
            refine w_iconst (x := Int32.ofNat 1) rfl rfl (by decide) ?_
            refine w_cv (q := am_m170) (as := [_]) (rest := []) (st' := [_]) rfl rfl rfl rfl rfl rfl sp110 rfl rfl rfl rfl (c_wrong (by omega)) rfl rfl ?_
            exact w_bret rfl (by decide) (by clear s s0 b2 b3 b4; first | contradiction | exact absurd (c6.2.symm.trans c138.2) (by decide) | exact absurd (c6.2.symm.trans c124.2) (by decide) | exact absurd (c6.2.symm.trans c110.2) (by decide) | exact absurd (c6.2.symm.trans c96.2) (by decide) | exact absurd (c6.1.symm.trans c78) (by decide) | exact absurd (c6.1.symm.trans c53.1) (by decide) | exact absurd (c6.1.symm.trans c66.1) (by decide) | (simp +decide only [m_sg, m_sg0, m_sg1, m_sgl, m_sgk, rkv3, rkv4, rkv11, rkv12, rkv13, rkv14, *, ite_true, ite_false, and_self, and_true, true_and, and_false, false_and, or_true, true_or, or_false, false_or, not_true, not_false_iff, eq_self, rk_cmp (v.1 c78).2] <;> rfl) | (simp +decide only [m_sg, m_sg0, m_sg1, m_sgl, m_sgk, rkv3, rkv4, rkv11, rkv12, rkv13, rkv14, *, ite_true, ite_false, and_self, and_true, true_and, and_false, false_and, or_true, true_or, or_false, false_or, not_true, not_false_iff, eq_self] <;> rfl)) (by clear s s0 b2 b3 b4; first | contradiction | exact absurd (c6.2.symm.trans c138.2) (by decide) | exact absurd (c6.2.symm.trans c124.2) (by decide) | exact absurd (c6.2.symm.trans c110.2) (by decide) | exact absurd (c6.2.symm.trans c96.2) (by decide) | exact absurd (c6.1.symm.trans c78) (by decide) | exact absurd (c6.1.symm.trans c53.1) (by decide) | exact absurd (c6.1.symm.trans c66.1) (by decide) | (simp +decide only [m_sg, m_sg0, m_sg1, m_sgl, m_sgk, rkv3, rkv4, rkv11, rkv12, rkv13, rkv14, *, ite_true, ite_false, and_self, and_true, true_and, and_false, false_and, or_true, true_or, or_false, false_or, not_true, not_false_iff, eq_self, rk_cmp (v.1 c78).2] <;> rfl) | (simp +decide only [m_sg, m_sg0, m_sg1, m_sgl, m_sgk, rkv3, rkv4, rkv11, rkv12, rkv13, rkv14, *, ite_true, ite_false, and_self, and_true, true_and, and_false, false_and, or_true, true_or, or_false, false_or, not_true, not_false_iff, eq_self] <;> rfl)) rfl rfl
      · refine w_iconst (x := Int32.ofNat 4) rfl rfl (by decide) ?_
        refine w_goto (pc' := 147) rfl rfl ?_
        refine w_istore_n (L' := [_, _]) rfl rfl rfl ?_
        refine w_iload_n rfl rfl rfl ?_
        refine w_if_ne (t := 158) (f := 152) rfl rfl rfl (fun c149 => ?_) (fun c149 => absurd c149 (by decide))
        clear c149
        refine w_aload_n rfl rfl rfl ?_
        refine w_iload_n rfl rfl rfl ?_
        refine w_cs (q := am_m196) (na := 1) (as := [_]) (st' := [_, _]) rfl rfl rfl rfl (by decide) rfl rfl (Nat.le_of_ble_eq_true rfl) rfl rfl rfl (c_rankC (v := Int32.ofNat 1) (by decide) (by omega)) rfl rfl ?_
        refine w_iconst (x := Int32.ofNat 4) rfl rfl (by decide) ?_
        refine w_ic_neN (t := 171) (f := 167) rfl rfl rfl (by omega) (by omega) (fun c164 => ?_) (fun c164 => absurd c164 (by omega))
        clear c164
        refine w_iload_n rfl rfl rfl ?_
        refine w_cs (q := am_m196) (na := 1) (as := [_]) (st' := [_, _]) rfl rfl rfl rfl (by decide) rfl rfl (Nat.le_of_ble_eq_true rfl) rfl rfl rfl (c_rankC (v := Int32.ofNat 1) (by decide) (by omega)) rfl rfl ?_
        refine w_cv (q := am_m199) (as := [_]) (rest := []) (st' := []) rfl rfl rfl rfl rfl rfl sp110 rfl rfl rfl rfl (c_bind (by decide) (by decide) s0 (by omega)) rfl rfl ?_
        refine w_iload_n rfl rfl rfl ?_
        refine w_cs (q := am_m196) (na := 1) (as := [_]) (st' := [_]) rfl rfl rfl rfl (by decide) rfl rfl (Nat.le_of_ble_eq_true rfl) rfl rfl rfl (c_rankC (v := Int32.ofNat 1) (by decide) (by omega)) rfl rfl ?_
        refine w_iconst (x := Int32.ofNat 4) rfl rfl (by decide) ?_
        refine w_ic_neN (t := 217) (f := 186) rfl rfl rfl (by omega) (by omega) (fun c183 => ?_) (fun c183 => absurd c183 (by omega))
        clear c183
        refine w_aload_n rfl rfl rfl ?_
        refine w_cv (q := am_m200) (as := []) (rest := []) (st' := [_]) rfl rfl rfl rfl rfl rfl sp110 rfl rfl rfl rfl (c_isCounted_no ((((m_bi_f (by omega) (by omega) (by omega) W H K I).trans h48)).trans (congrArg Int32.ofNat hC)) (by omega)) rfl rfl ?_
        refine w_if_ne (t := 226) (f := 224) rfl rfl rfl (fun c221 => absurd c221 (by decide)) (fun c221 => ?_)
        clear c221
        refine w_iconst (x := Int32.ofNat 0) rfl rfl (by decide) ?_
        exact w_bret rfl (by decide) (by clear s s0 b2 b3 b4; first | contradiction | exact absurd (c6.2.symm.trans c138.2) (by decide) | exact absurd (c6.2.symm.trans c124.2) (by decide) | exact absurd (c6.2.symm.trans c110.2) (by decide) | exact absurd (c6.2.symm.trans c96.2) (by decide) | exact absurd (c6.1.symm.trans c78) (by decide) | exact absurd (c6.1.symm.trans c53.1) (by decide) | exact absurd (c6.1.symm.trans c66.1) (by decide) | (simp +decide only [m_sg, m_sg0, m_sg1, m_sgl, m_sgk, rkv3, rkv4, rkv11, rkv12, rkv13, rkv14, *, ite_true, ite_false, and_self, and_true, true_and, and_false, false_and, or_true, true_or, or_false, false_or, not_true, not_false_iff, eq_self, rk_cmp (v.1 c78).2] <;> rfl) | (simp +decide only [m_sg, m_sg0, m_sg1, m_sgl, m_sgk, rkv3, rkv4, rkv11, rkv12, rkv13, rkv14, *, ite_true, ite_false, and_self, and_true, true_and, and_false, false_and, or_true, true_or, or_false, false_or, not_true, not_false_iff, eq_self] <;> rfl)) (by clear s s0 b2 b3 b4; first | contradiction | exact absurd (c6.2.symm.trans c138.2) (by decide) | exact absurd (c6.2.symm.trans c124.2) (by decide) | exact absurd (c6.2.symm.trans c110.2) (by decide) | exact absurd (c6.2.symm.trans c96.2) (by decide) | exact absurd (c6.1.symm.trans c78) (by decide) | exact absurd (c6.1.symm.trans c53.1) (by decide) | exact absurd (c6.1.symm.trans c66.1) (by decide) | (simp +decide only [m_sg, m_sg0, m_sg1, m_sgl, m_sgk, rkv3, rkv4, rkv11, rkv12, rkv13, rkv14, *, ite_true, ite_false, and_self, and_true, true_and, and_false, false_and, or_true, true_or, or_false, false_or, not_true, not_false_iff, eq_self, rk_cmp (v.1 c78).2] <;> rfl) | (simp +decide only [m_sg, m_sg0, m_sg1, m_sgl, m_sgk, rkv3, rkv4, rkv11, rkv12, rkv13, rkv14, *, ite_true, ite_false, and_self, and_true, true_and, and_false, false_and, or_true, true_or, or_false, false_or, not_true, not_false_iff, eq_self] <;> rfl)) rfl rfl
    · refine w_iconst (x := Int32.ofNat 3) rfl rfl (by decide) ?_
      refine w_goto (pc' := 147) rfl rfl ?_
      refine w_istore_n (L' := [_, _]) rfl rfl rfl ?_
      refine w_iload_n rfl rfl rfl ?_
      refine w_if_ne (t := 158) (f := 152) rfl rfl rfl (fun c149 => ?_) (fun c149 => absurd c149 (by decide))
      clear c149
      refine w_aload_n rfl rfl rfl ?_
      refine w_iload_n rfl rfl rfl ?_
      refine w_cs (q := am_m196) (na := 1) (as := [_]) (st' := [_, _]) rfl rfl rfl rfl (by decide) rfl rfl (Nat.le_of_ble_eq_true rfl) rfl rfl rfl (c_rankC (v := Int32.ofNat 2) (by decide) (by omega)) rfl rfl ?_
      refine w_iconst (x := Int32.ofNat 4) rfl rfl (by decide) ?_
      refine w_ic_neN (t := 171) (f := 167) rfl rfl rfl (by omega) (by omega) (fun c164 => ?_) (fun c164 => absurd c164 (by omega))
      clear c164
      refine w_iload_n rfl rfl rfl ?_
      refine w_cs (q := am_m196) (na := 1) (as := [_]) (st' := [_, _]) rfl rfl rfl rfl (by decide) rfl rfl (Nat.le_of_ble_eq_true rfl) rfl rfl rfl (c_rankC (v := Int32.ofNat 2) (by decide) (by omega)) rfl rfl ?_
      refine w_cv (q := am_m199) (as := [_]) (rest := []) (st' := []) rfl rfl rfl rfl rfl rfl sp110 rfl rfl rfl rfl (c_bind (by decide) (by decide) s0 (by omega)) rfl rfl ?_
      refine w_iload_n rfl rfl rfl ?_
      refine w_cs (q := am_m196) (na := 1) (as := [_]) (st' := [_]) rfl rfl rfl rfl (by decide) rfl rfl (Nat.le_of_ble_eq_true rfl) rfl rfl rfl (c_rankC (v := Int32.ofNat 2) (by decide) (by omega)) rfl rfl ?_
      refine w_iconst (x := Int32.ofNat 4) rfl rfl (by decide) ?_
      refine w_ic_neN (t := 217) (f := 186) rfl rfl rfl (by omega) (by omega) (fun c183 => ?_) (fun c183 => absurd c183 (by omega))
      clear c183
      refine w_aload_n rfl rfl rfl ?_
      refine w_cv (q := am_m200) (as := []) (rest := []) (st' := [_]) rfl rfl rfl rfl rfl rfl sp110 rfl rfl rfl rfl (c_isCounted_no ((((m_bi_f (by omega) (by omega) (by omega) W H K I).trans h48)).trans (congrArg Int32.ofNat hC)) (by omega)) rfl rfl ?_
      refine w_if_ne (t := 226) (f := 224) rfl rfl rfl (fun c221 => absurd c221 (by decide)) (fun c221 => ?_)
      clear c221
      refine w_iconst (x := Int32.ofNat 0) rfl rfl (by decide) ?_
      exact w_bret rfl (by decide) (by clear s s0 b2 b3 b4; first | contradiction | exact absurd (c6.2.symm.trans c138.2) (by decide) | exact absurd (c6.2.symm.trans c124.2) (by decide) | exact absurd (c6.2.symm.trans c110.2) (by decide) | exact absurd (c6.2.symm.trans c96.2) (by decide) | exact absurd (c6.1.symm.trans c78) (by decide) | exact absurd (c6.1.symm.trans c53.1) (by decide) | exact absurd (c6.1.symm.trans c66.1) (by decide) | (simp +decide only [m_sg, m_sg0, m_sg1, m_sgl, m_sgk, rkv3, rkv4, rkv11, rkv12, rkv13, rkv14, *, ite_true, ite_false, and_self, and_true, true_and, and_false, false_and, or_true, true_or, or_false, false_or, not_true, not_false_iff, eq_self, rk_cmp (v.1 c78).2] <;> rfl) | (simp +decide only [m_sg, m_sg0, m_sg1, m_sgl, m_sgk, rkv3, rkv4, rkv11, rkv12, rkv13, rkv14, *, ite_true, ite_false, and_self, and_true, true_and, and_false, false_and, or_true, true_or, or_false, false_or, not_true, not_false_iff, eq_self] <;> rfl)) (by clear s s0 b2 b3 b4; first | contradiction | exact absurd (c6.2.symm.trans c138.2) (by decide) | exact absurd (c6.2.symm.trans c124.2) (by decide) | exact absurd (c6.2.symm.trans c110.2) (by decide) | exact absurd (c6.2.symm.trans c96.2) (by decide) | exact absurd (c6.1.symm.trans c78) (by decide) | exact absurd (c6.1.symm.trans c53.1) (by decide) | exact absurd (c6.1.symm.trans c66.1) (by decide) | (simp +decide only [m_sg, m_sg0, m_sg1, m_sgl, m_sgk, rkv3, rkv4, rkv11, rkv12, rkv13, rkv14, *, ite_true, ite_false, and_self, and_true, true_and, and_false, false_and, or_true, true_or, or_false, false_or, not_true, not_false_iff, eq_self, rk_cmp (v.1 c78).2] <;> rfl) | (simp +decide only [m_sg, m_sg0, m_sg1, m_sgl, m_sgk, rkv3, rkv4, rkv11, rkv12, rkv13, rkv14, *, ite_true, ite_false, and_self, and_true, true_and, and_false, false_and, or_true, true_or, or_false, false_or, not_true, not_false_iff, eq_self] <;> rfl)) rfl rfl
  · refine w_aload_n rfl rfl rfl ?_
    refine w_gf (t := .int 0) (v := .int _) rfl rfl rfl sp110 rfl (congrArg Value.int h47) rfl ?_
    refine w_if_le (t := 47) (f := 16) rfl rfl rfl (fun c13 => ?_) (fun c13 => ?_)
    · refine w_aload_n rfl rfl rfl ?_
      refine w_bipush (x := Int32.ofNat 11) rfl rfl (by decide) ?_
      refine w_cv (q := am_m177) (as := [_]) (rest := []) (st' := [_]) rfl rfl rfl rfl rfl rfl sp110 rfl rfl rfl rfl (c_isKey (by omega)) rfl rfl ?_
      refine w_if_eqB (t := 60) (f := 56) rfl rfl rfl (fun c53 => ?_) (fun c53 => ?_)
      · refine w_aload_n rfl rfl rfl ?_
        refine w_bipush (x := Int32.ofNat 12) rfl rfl (by decide) ?_
        refine w_cv (q := am_m177) (as := [_]) (rest := []) (st' := [_]) rfl rfl rfl rfl rfl rfl sp110 rfl rfl rfl rfl (c_isKey (by omega)) rfl rfl ?_
        refine w_if_eqB (t := 73) (f := 69) rfl rfl rfl (fun c66 => ?_) (fun c66 => ?_)
        · refine w_aload_n rfl rfl rfl ?_
          refine w_gf (t := .int 0) (v := .int _) rfl rfl rfl sp110 rfl (congrArg Value.int rfl) rfl ?_
          refine w_iconst (x := Int32.ofNat 5) rfl rfl (by decide) ?_
          refine w_ic_ne (t := 90) (f := 81) rfl rfl rfl (fun c78 => ?_) (fun c78 => ?_)
          · refine w_aload_n rfl rfl rfl ?_
            refine w_bipush (x := Int32.ofNat 43) rfl rfl (by decide) ?_
            refine w_cv (q := am_m178) (as := [_]) (rest := []) (st' := [_]) rfl rfl rfl rfl rfl rfl sp110 rfl rfl rfl rfl (c_isSign (by omega)) rfl rfl ?_
            refine w_if_eqB (t := 104) (f := 99) rfl rfl rfl (fun c96 => ?_) (fun c96 => ?_)
            · refine w_aload_n rfl rfl rfl ?_
              refine w_bipush (x := Int32.ofNat 45) rfl rfl (by decide) ?_
              refine w_cv (q := am_m178) (as := [_]) (rest := []) (st' := [_]) rfl rfl rfl rfl rfl rfl sp110 rfl rfl rfl rfl (c_isSign (by omega)) rfl rfl ?_
              refine w_if_eqB (t := 118) (f := 113) rfl rfl rfl (fun c110 => ?_) (fun c110 => ?_)
              · refine w_aload_n rfl rfl rfl ?_
                refine w_bipush (x := Int32.ofNat 42) rfl rfl (by decide) ?_
                refine w_cv (q := am_m178) (as := [_]) (rest := []) (st' := [_]) rfl rfl rfl rfl rfl rfl sp110 rfl rfl rfl rfl (c_isSign (by omega)) rfl rfl ?_
                refine w_if_eqB (t := 132) (f := 127) rfl rfl rfl (fun c124 => ?_) (fun c124 => ?_)
                · refine w_aload_n rfl rfl rfl ?_
                  refine w_bipush (x := Int32.ofNat 47) rfl rfl (by decide) ?_
                  refine w_cv (q := am_m178) (as := [_]) (rest := []) (st' := [_]) rfl rfl rfl rfl rfl rfl sp110 rfl rfl rfl rfl (c_isSign (by omega)) rfl rfl ?_
                  refine w_if_eqB (t := 146) (f := 141) rfl rfl rfl (fun c138 => ?_) (fun c138 => ?_)
                  · refine w_iconst (x := Int32.ofNat 0) rfl rfl (by decide) ?_
                    refine w_istore_n (L' := [_, _]) rfl rfl rfl ?_
                    refine w_iload_n rfl rfl rfl ?_
                    refine w_if_ne (t := 158) (f := 152) rfl rfl rfl (fun c149 => absurd c149 (by decide)) (fun c149 => ?_)
                    clear c149
                    refine w_aload_n rfl rfl rfl ?_
                    refine w_iconst (x := Int32.ofNat 1) rfl rfl (by decide) ?_
                    refine w_cv (q := am_m170) (as := [_]) (rest := []) (st' := [_]) rfl rfl rfl rfl rfl rfl sp110 rfl rfl rfl rfl (c_wrong (by omega)) rfl rfl ?_
                    exact w_bret rfl (by decide) (by clear s s0 b2 b3 b4; first | contradiction | exact absurd (c6.2.symm.trans c138.2) (by decide) | exact absurd (c6.2.symm.trans c124.2) (by decide) | exact absurd (c6.2.symm.trans c110.2) (by decide) | exact absurd (c6.2.symm.trans c96.2) (by decide) | exact absurd (c6.1.symm.trans c78) (by decide) | exact absurd (c6.1.symm.trans c53.1) (by decide) | exact absurd (c6.1.symm.trans c66.1) (by decide) | (simp +decide only [m_sg, m_sg0, m_sg1, m_sgl, m_sgk, rkv3, rkv4, rkv11, rkv12, rkv13, rkv14, *, ite_true, ite_false, and_self, and_true, true_and, and_false, false_and, or_true, true_or, or_false, false_or, not_true, not_false_iff, eq_self, rk_cmp (v.1 c78).2] <;> rfl) | (simp +decide only [m_sg, m_sg0, m_sg1, m_sgl, m_sgk, rkv3, rkv4, rkv11, rkv12, rkv13, rkv14, *, ite_true, ite_false, and_self, and_true, true_and, and_false, false_and, or_true, true_or, or_false, false_or, not_true, not_false_iff, eq_self] <;> rfl)) (by clear s s0 b2 b3 b4; first | contradiction | exact absurd (c6.2.symm.trans c138.2) (by decide) | exact absurd (c6.2.symm.trans c124.2) (by decide) | exact absurd (c6.2.symm.trans c110.2) (by decide) | exact absurd (c6.2.symm.trans c96.2) (by decide) | exact absurd (c6.1.symm.trans c78) (by decide) | exact absurd (c6.1.symm.trans c53.1) (by decide) | exact absurd (c6.1.symm.trans c66.1) (by decide) | (simp +decide only [m_sg, m_sg0, m_sg1, m_sgl, m_sgk, rkv3, rkv4, rkv11, rkv12, rkv13, rkv14, *, ite_true, ite_false, and_self, and_true, true_and, and_false, false_and, or_true, true_or, or_false, false_or, not_true, not_false_iff, eq_self, rk_cmp (v.1 c78).2] <;> rfl) | (simp +decide only [m_sg, m_sg0, m_sg1, m_sgl, m_sgk, rkv3, rkv4, rkv11, rkv12, rkv13, rkv14, *, ite_true, ite_false, and_self, and_true, true_and, and_false, false_and, or_true, true_or, or_false, false_or, not_true, not_false_iff, eq_self] <;> rfl)) rfl rfl
                  · refine w_bipush (x := Int32.ofNat 14) rfl rfl (by decide) ?_
                    refine w_goto (pc' := 147) rfl rfl ?_
                    refine w_istore_n (L' := [_, _]) rfl rfl rfl ?_
                    refine w_iload_n rfl rfl rfl ?_
                    refine w_if_ne (t := 158) (f := 152) rfl rfl rfl (fun c149 => ?_) (fun c149 => absurd c149 (by decide))
                    clear c149
                    refine w_aload_n rfl rfl rfl ?_
                    refine w_iload_n rfl rfl rfl ?_
                    refine w_cs (q := am_m196) (na := 1) (as := [_]) (st' := [_, _]) rfl rfl rfl rfl (by decide) rfl rfl (Nat.le_of_ble_eq_true rfl) rfl rfl rfl (c_rankC (v := Int32.ofNat 6) (by decide) (by omega)) rfl rfl ?_
                    refine w_iconst (x := Int32.ofNat 4) rfl rfl (by decide) ?_
                    refine w_ic_neN (t := 171) (f := 167) rfl rfl rfl (by omega) (by omega) (fun c164 => ?_) (fun c164 => absurd c164 (by omega))
                    clear c164
                    refine w_iload_n rfl rfl rfl ?_
                    refine w_cs (q := am_m196) (na := 1) (as := [_]) (st' := [_, _]) rfl rfl rfl rfl (by decide) rfl rfl (Nat.le_of_ble_eq_true rfl) rfl rfl rfl (c_rankC (v := Int32.ofNat 6) (by decide) (by omega)) rfl rfl ?_
                    refine w_cv (q := am_m199) (as := [_]) (rest := []) (st' := []) rfl rfl rfl rfl rfl rfl sp110 rfl rfl rfl rfl (c_bind (by decide) (by decide) s0 (by omega)) rfl rfl ?_
                    refine w_iload_n rfl rfl rfl ?_
                    refine w_cs (q := am_m196) (na := 1) (as := [_]) (st' := [_]) rfl rfl rfl rfl (by decide) rfl rfl (Nat.le_of_ble_eq_true rfl) rfl rfl rfl (c_rankC (v := Int32.ofNat 6) (by decide) (by omega)) rfl rfl ?_
                    refine w_iconst (x := Int32.ofNat 4) rfl rfl (by decide) ?_
                    refine w_ic_neN (t := 217) (f := 186) rfl rfl rfl (by omega) (by omega) (fun c183 => ?_) (fun c183 => absurd c183 (by omega))
                    clear c183
                    refine w_aload_n rfl rfl rfl ?_
                    refine w_cv (q := am_m200) (as := []) (rest := []) (st' := [_]) rfl rfl rfl rfl rfl rfl sp110 rfl rfl rfl rfl (c_isCounted_no ((((m_bi_f (by omega) (by omega) (by omega) W H K I).trans h48)).trans (congrArg Int32.ofNat hC)) (by omega)) rfl rfl ?_
                    refine w_if_ne (t := 226) (f := 224) rfl rfl rfl (fun c221 => absurd c221 (by decide)) (fun c221 => ?_)
                    clear c221
                    refine w_iconst (x := Int32.ofNat 0) rfl rfl (by decide) ?_
                    exact w_bret rfl (by decide) (by clear s s0 b2 b3 b4; first | contradiction | exact absurd (c6.2.symm.trans c138.2) (by decide) | exact absurd (c6.2.symm.trans c124.2) (by decide) | exact absurd (c6.2.symm.trans c110.2) (by decide) | exact absurd (c6.2.symm.trans c96.2) (by decide) | exact absurd (c6.1.symm.trans c78) (by decide) | exact absurd (c6.1.symm.trans c53.1) (by decide) | exact absurd (c6.1.symm.trans c66.1) (by decide) | (simp +decide only [m_sg, m_sg0, m_sg1, m_sgl, m_sgk, rkv3, rkv4, rkv11, rkv12, rkv13, rkv14, *, ite_true, ite_false, and_self, and_true, true_and, and_false, false_and, or_true, true_or, or_false, false_or, not_true, not_false_iff, eq_self, rk_cmp (v.1 c78).2] <;> rfl) | (simp +decide only [m_sg, m_sg0, m_sg1, m_sgl, m_sgk, rkv3, rkv4, rkv11, rkv12, rkv13, rkv14, *, ite_true, ite_false, and_self, and_true, true_and, and_false, false_and, or_true, true_or, or_false, false_or, not_true, not_false_iff, eq_self] <;> rfl)) (by clear s s0 b2 b3 b4; first | contradiction | exact absurd (c6.2.symm.trans c138.2) (by decide) | exact absurd (c6.2.symm.trans c124.2) (by decide) | exact absurd (c6.2.symm.trans c110.2) (by decide) | exact absurd (c6.2.symm.trans c96.2) (by decide) | exact absurd (c6.1.symm.trans c78) (by decide) | exact absurd (c6.1.symm.trans c53.1) (by decide) | exact absurd (c6.1.symm.trans c66.1) (by decide) | (simp +decide only [m_sg, m_sg0, m_sg1, m_sgl, m_sgk, rkv3, rkv4, rkv11, rkv12, rkv13, rkv14, *, ite_true, ite_false, and_self, and_true, true_and, and_false, false_and, or_true, true_or, or_false, false_or, not_true, not_false_iff, eq_self, rk_cmp (v.1 c78).2] <;> rfl) | (simp +decide only [m_sg, m_sg0, m_sg1, m_sgl, m_sgk, rkv3, rkv4, rkv11, rkv12, rkv13, rkv14, *, ite_true, ite_false, and_self, and_true, true_and, and_false, false_and, or_true, true_or, or_false, false_or, not_true, not_false_iff, eq_self] <;> rfl)) rfl rfl
                · refine w_bipush (x := Int32.ofNat 13) rfl rfl (by decide) ?_
                  refine w_goto (pc' := 147) rfl rfl ?_
                  refine w_istore_n (L' := [_, _]) rfl rfl rfl ?_
                  refine w_iload_n rfl rfl rfl ?_
                  refine w_if_ne (t := 158) (f := 152) rfl rfl rfl (fun c149 => ?_) (fun c149 => absurd c149 (by decide))
                  clear c149
                  refine w_aload_n rfl rfl rfl ?_
                  refine w_iload_n rfl rfl rfl ?_
                  refine w_cs (q := am_m196) (na := 1) (as := [_]) (st' := [_, _]) rfl rfl rfl rfl (by decide) rfl rfl (Nat.le_of_ble_eq_true rfl) rfl rfl rfl (c_rankC (v := Int32.ofNat 6) (by decide) (by omega)) rfl rfl ?_
                  refine w_iconst (x := Int32.ofNat 4) rfl rfl (by decide) ?_
                  refine w_ic_neN (t := 171) (f := 167) rfl rfl rfl (by omega) (by omega) (fun c164 => ?_) (fun c164 => absurd c164 (by omega))
                  clear c164
                  refine w_iload_n rfl rfl rfl ?_
                  refine w_cs (q := am_m196) (na := 1) (as := [_]) (st' := [_, _]) rfl rfl rfl rfl (by decide) rfl rfl (Nat.le_of_ble_eq_true rfl) rfl rfl rfl (c_rankC (v := Int32.ofNat 6) (by decide) (by omega)) rfl rfl ?_
                  refine w_cv (q := am_m199) (as := [_]) (rest := []) (st' := []) rfl rfl rfl rfl rfl rfl sp110 rfl rfl rfl rfl (c_bind (by decide) (by decide) s0 (by omega)) rfl rfl ?_
                  refine w_iload_n rfl rfl rfl ?_
                  refine w_cs (q := am_m196) (na := 1) (as := [_]) (st' := [_]) rfl rfl rfl rfl (by decide) rfl rfl (Nat.le_of_ble_eq_true rfl) rfl rfl rfl (c_rankC (v := Int32.ofNat 6) (by decide) (by omega)) rfl rfl ?_
                  refine w_iconst (x := Int32.ofNat 4) rfl rfl (by decide) ?_
                  refine w_ic_neN (t := 217) (f := 186) rfl rfl rfl (by omega) (by omega) (fun c183 => ?_) (fun c183 => absurd c183 (by omega))
                  clear c183
                  refine w_aload_n rfl rfl rfl ?_
                  refine w_cv (q := am_m200) (as := []) (rest := []) (st' := [_]) rfl rfl rfl rfl rfl rfl sp110 rfl rfl rfl rfl (c_isCounted_no ((((m_bi_f (by omega) (by omega) (by omega) W H K I).trans h48)).trans (congrArg Int32.ofNat hC)) (by omega)) rfl rfl ?_
                  refine w_if_ne (t := 226) (f := 224) rfl rfl rfl (fun c221 => absurd c221 (by decide)) (fun c221 => ?_)
                  clear c221
                  refine w_iconst (x := Int32.ofNat 0) rfl rfl (by decide) ?_
                  exact w_bret rfl (by decide) (by clear s s0 b2 b3 b4; first | contradiction | exact absurd (c6.2.symm.trans c138.2) (by decide) | exact absurd (c6.2.symm.trans c124.2) (by decide) | exact absurd (c6.2.symm.trans c110.2) (by decide) | exact absurd (c6.2.symm.trans c96.2) (by decide) | exact absurd (c6.1.symm.trans c78) (by decide) | exact absurd (c6.1.symm.trans c53.1) (by decide) | exact absurd (c6.1.symm.trans c66.1) (by decide) | (simp +decide only [m_sg, m_sg0, m_sg1, m_sgl, m_sgk, rkv3, rkv4, rkv11, rkv12, rkv13, rkv14, *, ite_true, ite_false, and_self, and_true, true_and, and_false, false_and, or_true, true_or, or_false, false_or, not_true, not_false_iff, eq_self, rk_cmp (v.1 c78).2] <;> rfl) | (simp +decide only [m_sg, m_sg0, m_sg1, m_sgl, m_sgk, rkv3, rkv4, rkv11, rkv12, rkv13, rkv14, *, ite_true, ite_false, and_self, and_true, true_and, and_false, false_and, or_true, true_or, or_false, false_or, not_true, not_false_iff, eq_self] <;> rfl)) (by clear s s0 b2 b3 b4; first | contradiction | exact absurd (c6.2.symm.trans c138.2) (by decide) | exact absurd (c6.2.symm.trans c124.2) (by decide) | exact absurd (c6.2.symm.trans c110.2) (by decide) | exact absurd (c6.2.symm.trans c96.2) (by decide) | exact absurd (c6.1.symm.trans c78) (by decide) | exact absurd (c6.1.symm.trans c53.1) (by decide) | exact absurd (c6.1.symm.trans c66.1) (by decide) | (simp +decide only [m_sg, m_sg0, m_sg1, m_sgl, m_sgk, rkv3, rkv4, rkv11, rkv12, rkv13, rkv14, *, ite_true, ite_false, and_self, and_true, true_and, and_false, false_and, or_true, true_or, or_false, false_or, not_true, not_false_iff, eq_self, rk_cmp (v.1 c78).2] <;> rfl) | (simp +decide only [m_sg, m_sg0, m_sg1, m_sgl, m_sgk, rkv3, rkv4, rkv11, rkv12, rkv13, rkv14, *, ite_true, ite_false, and_self, and_true, true_and, and_false, false_and, or_true, true_or, or_false, false_or, not_true, not_false_iff, eq_self] <;> rfl)) rfl rfl
              · refine w_bipush (x := Int32.ofNat 12) rfl rfl (by decide) ?_
                refine w_goto (pc' := 147) rfl rfl ?_
                refine w_istore_n (L' := [_, _]) rfl rfl rfl ?_
                refine w_iload_n rfl rfl rfl ?_
                refine w_if_ne (t := 158) (f := 152) rfl rfl rfl (fun c149 => ?_) (fun c149 => absurd c149 (by decide))
                clear c149
                refine w_aload_n rfl rfl rfl ?_
                refine w_iload_n rfl rfl rfl ?_
                refine w_cs (q := am_m196) (na := 1) (as := [_]) (st' := [_, _]) rfl rfl rfl rfl (by decide) rfl rfl (Nat.le_of_ble_eq_true rfl) rfl rfl rfl (c_rankC (v := Int32.ofNat 5) (by decide) (by omega)) rfl rfl ?_
                refine w_iconst (x := Int32.ofNat 4) rfl rfl (by decide) ?_
                refine w_ic_neN (t := 171) (f := 167) rfl rfl rfl (by omega) (by omega) (fun c164 => ?_) (fun c164 => absurd c164 (by omega))
                clear c164
                refine w_iload_n rfl rfl rfl ?_
                refine w_cs (q := am_m196) (na := 1) (as := [_]) (st' := [_, _]) rfl rfl rfl rfl (by decide) rfl rfl (Nat.le_of_ble_eq_true rfl) rfl rfl rfl (c_rankC (v := Int32.ofNat 5) (by decide) (by omega)) rfl rfl ?_
                refine w_cv (q := am_m199) (as := [_]) (rest := []) (st' := []) rfl rfl rfl rfl rfl rfl sp110 rfl rfl rfl rfl (c_bind (by decide) (by decide) s0 (by omega)) rfl rfl ?_
                refine w_iload_n rfl rfl rfl ?_
                refine w_cs (q := am_m196) (na := 1) (as := [_]) (st' := [_]) rfl rfl rfl rfl (by decide) rfl rfl (Nat.le_of_ble_eq_true rfl) rfl rfl rfl (c_rankC (v := Int32.ofNat 5) (by decide) (by omega)) rfl rfl ?_
                refine w_iconst (x := Int32.ofNat 4) rfl rfl (by decide) ?_
                refine w_ic_neN (t := 217) (f := 186) rfl rfl rfl (by omega) (by omega) (fun c183 => ?_) (fun c183 => absurd c183 (by omega))
                clear c183
                refine w_aload_n rfl rfl rfl ?_
                refine w_cv (q := am_m200) (as := []) (rest := []) (st' := [_]) rfl rfl rfl rfl rfl rfl sp110 rfl rfl rfl rfl (c_isCounted_no ((((m_bi_f (by omega) (by omega) (by omega) W H K I).trans h48)).trans (congrArg Int32.ofNat hC)) (by omega)) rfl rfl ?_
                refine w_if_ne (t := 226) (f := 224) rfl rfl rfl (fun c221 => absurd c221 (by decide)) (fun c221 => ?_)
                clear c221
                refine w_iconst (x := Int32.ofNat 0) rfl rfl (by decide) ?_
                exact w_bret rfl (by decide) (by clear s s0 b2 b3 b4; first | contradiction | exact absurd (c6.2.symm.trans c138.2) (by decide) | exact absurd (c6.2.symm.trans c124.2) (by decide) | exact absurd (c6.2.symm.trans c110.2) (by decide) | exact absurd (c6.2.symm.trans c96.2) (by decide) | exact absurd (c6.1.symm.trans c78) (by decide) | exact absurd (c6.1.symm.trans c53.1) (by decide) | exact absurd (c6.1.symm.trans c66.1) (by decide) | (simp +decide only [m_sg, m_sg0, m_sg1, m_sgl, m_sgk, rkv3, rkv4, rkv11, rkv12, rkv13, rkv14, *, ite_true, ite_false, and_self, and_true, true_and, and_false, false_and, or_true, true_or, or_false, false_or, not_true, not_false_iff, eq_self, rk_cmp (v.1 c78).2] <;> rfl) | (simp +decide only [m_sg, m_sg0, m_sg1, m_sgl, m_sgk, rkv3, rkv4, rkv11, rkv12, rkv13, rkv14, *, ite_true, ite_false, and_self, and_true, true_and, and_false, false_and, or_true, true_or, or_false, false_or, not_true, not_false_iff, eq_self] <;> rfl)) (by clear s s0 b2 b3 b4; first | contradiction | exact absurd (c6.2.symm.trans c138.2) (by decide) | exact absurd (c6.2.symm.trans c124.2) (by decide) | exact absurd (c6.2.symm.trans c110.2) (by decide) | exact absurd (c6.2.symm.trans c96.2) (by decide) | exact absurd (c6.1.symm.trans c78) (by decide) | exact absurd (c6.1.symm.trans c53.1) (by decide) | exact absurd (c6.1.symm.trans c66.1) (by decide) | (simp +decide only [m_sg, m_sg0, m_sg1, m_sgl, m_sgk, rkv3, rkv4, rkv11, rkv12, rkv13, rkv14, *, ite_true, ite_false, and_self, and_true, true_and, and_false, false_and, or_true, true_or, or_false, false_or, not_true, not_false_iff, eq_self, rk_cmp (v.1 c78).2] <;> rfl) | (simp +decide only [m_sg, m_sg0, m_sg1, m_sgl, m_sgk, rkv3, rkv4, rkv11, rkv12, rkv13, rkv14, *, ite_true, ite_false, and_self, and_true, true_and, and_false, false_and, or_true, true_or, or_false, false_or, not_true, not_false_iff, eq_self] <;> rfl)) rfl rfl
            · refine w_bipush (x := Int32.ofNat 11) rfl rfl (by decide) ?_
              refine w_goto (pc' := 147) rfl rfl ?_
              refine w_istore_n (L' := [_, _]) rfl rfl rfl ?_
              refine w_iload_n rfl rfl rfl ?_
              refine w_if_ne (t := 158) (f := 152) rfl rfl rfl (fun c149 => ?_) (fun c149 => absurd c149 (by decide))
              clear c149
              refine w_aload_n rfl rfl rfl ?_
              refine w_iload_n rfl rfl rfl ?_
              refine w_cs (q := am_m196) (na := 1) (as := [_]) (st' := [_, _]) rfl rfl rfl rfl (by decide) rfl rfl (Nat.le_of_ble_eq_true rfl) rfl rfl rfl (c_rankC (v := Int32.ofNat 5) (by decide) (by omega)) rfl rfl ?_
              refine w_iconst (x := Int32.ofNat 4) rfl rfl (by decide) ?_
              refine w_ic_neN (t := 171) (f := 167) rfl rfl rfl (by omega) (by omega) (fun c164 => ?_) (fun c164 => absurd c164 (by omega))
              clear c164
              refine w_iload_n rfl rfl rfl ?_
              refine w_cs (q := am_m196) (na := 1) (as := [_]) (st' := [_, _]) rfl rfl rfl rfl (by decide) rfl rfl (Nat.le_of_ble_eq_true rfl) rfl rfl rfl (c_rankC (v := Int32.ofNat 5) (by decide) (by omega)) rfl rfl ?_
              refine w_cv (q := am_m199) (as := [_]) (rest := []) (st' := []) rfl rfl rfl rfl rfl rfl sp110 rfl rfl rfl rfl (c_bind (by decide) (by decide) s0 (by omega)) rfl rfl ?_
              refine w_iload_n rfl rfl rfl ?_
              refine w_cs (q := am_m196) (na := 1) (as := [_]) (st' := [_]) rfl rfl rfl rfl (by decide) rfl rfl (Nat.le_of_ble_eq_true rfl) rfl rfl rfl (c_rankC (v := Int32.ofNat 5) (by decide) (by omega)) rfl rfl ?_
              refine w_iconst (x := Int32.ofNat 4) rfl rfl (by decide) ?_
              refine w_ic_neN (t := 217) (f := 186) rfl rfl rfl (by omega) (by omega) (fun c183 => ?_) (fun c183 => absurd c183 (by omega))
              clear c183
              refine w_aload_n rfl rfl rfl ?_
              refine w_cv (q := am_m200) (as := []) (rest := []) (st' := [_]) rfl rfl rfl rfl rfl rfl sp110 rfl rfl rfl rfl (c_isCounted_no ((((m_bi_f (by omega) (by omega) (by omega) W H K I).trans h48)).trans (congrArg Int32.ofNat hC)) (by omega)) rfl rfl ?_
              refine w_if_ne (t := 226) (f := 224) rfl rfl rfl (fun c221 => absurd c221 (by decide)) (fun c221 => ?_)
              clear c221
              refine w_iconst (x := Int32.ofNat 0) rfl rfl (by decide) ?_
              exact w_bret rfl (by decide) (by clear s s0 b2 b3 b4; first | contradiction | exact absurd (c6.2.symm.trans c138.2) (by decide) | exact absurd (c6.2.symm.trans c124.2) (by decide) | exact absurd (c6.2.symm.trans c110.2) (by decide) | exact absurd (c6.2.symm.trans c96.2) (by decide) | exact absurd (c6.1.symm.trans c78) (by decide) | exact absurd (c6.1.symm.trans c53.1) (by decide) | exact absurd (c6.1.symm.trans c66.1) (by decide) | (simp +decide only [m_sg, m_sg0, m_sg1, m_sgl, m_sgk, rkv3, rkv4, rkv11, rkv12, rkv13, rkv14, *, ite_true, ite_false, and_self, and_true, true_and, and_false, false_and, or_true, true_or, or_false, false_or, not_true, not_false_iff, eq_self, rk_cmp (v.1 c78).2] <;> rfl) | (simp +decide only [m_sg, m_sg0, m_sg1, m_sgl, m_sgk, rkv3, rkv4, rkv11, rkv12, rkv13, rkv14, *, ite_true, ite_false, and_self, and_true, true_and, and_false, false_and, or_true, true_or, or_false, false_or, not_true, not_false_iff, eq_self] <;> rfl)) (by clear s s0 b2 b3 b4; first | contradiction | exact absurd (c6.2.symm.trans c138.2) (by decide) | exact absurd (c6.2.symm.trans c124.2) (by decide) | exact absurd (c6.2.symm.trans c110.2) (by decide) | exact absurd (c6.2.symm.trans c96.2) (by decide) | exact absurd (c6.1.symm.trans c78) (by decide) | exact absurd (c6.1.symm.trans c53.1) (by decide) | exact absurd (c6.1.symm.trans c66.1) (by decide) | (simp +decide only [m_sg, m_sg0, m_sg1, m_sgl, m_sgk, rkv3, rkv4, rkv11, rkv12, rkv13, rkv14, *, ite_true, ite_false, and_self, and_true, true_and, and_false, false_and, or_true, true_or, or_false, false_or, not_true, not_false_iff, eq_self, rk_cmp (v.1 c78).2] <;> rfl) | (simp +decide only [m_sg, m_sg0, m_sg1, m_sgl, m_sgk, rkv3, rkv4, rkv11, rkv12, rkv13, rkv14, *, ite_true, ite_false, and_self, and_true, true_and, and_false, false_and, or_true, true_or, or_false, false_or, not_true, not_false_iff, eq_self] <;> rfl)) rfl rfl
          · refine w_iconst (x := Int32.ofNat 5) rfl rfl (by decide) ?_
            refine w_aload_n rfl rfl rfl ?_
            refine w_gf (t := .int 0) (v := .int _) rfl rfl rfl sp110 rfl (congrArg Value.int (v.1 c78).1) rfl ?_
            refine w_iaddN rfl rfl ?_
            refine w_goto (pc' := 147) rfl rfl ?_
            refine w_istore_n (L' := [_, _]) rfl rfl rfl ?_
            refine w_iload_n rfl rfl rfl ?_
            refine w_if_ne (t := 158) (f := 152) rfl rfl rfl (fun c149 => ?_) (fun c149 => ?_)
            · refine w_aload_n rfl rfl rfl ?_
              refine w_iload_n rfl rfl rfl ?_
              refine w_cs (q := am_m196) (na := 1) (as := [_]) (st' := [_, _]) rfl rfl rfl rfl (by decide) rfl rfl (Nat.le_of_ble_eq_true rfl) rfl rfl rfl (c_rankC (v := Int32.ofNat 4) (rk_cmp (v.1 c78).2) (by omega)) rfl rfl ?_
              refine w_iconst (x := Int32.ofNat 4) rfl rfl (by decide) ?_
              refine w_ic_neN (t := 171) (f := 167) rfl rfl rfl (by omega) (by omega) (fun c164 => absurd c164 (by omega)) (fun c164 => ?_)
              clear c164
              refine w_iconst (x := Int32.ofNat 5) rfl rfl (by decide) ?_
              refine w_goto (pc' := 175) rfl rfl ?_
              refine w_cv (q := am_m199) (as := [_]) (rest := []) (st' := []) rfl rfl rfl rfl rfl rfl sp110 rfl rfl rfl rfl (c_bind (by decide) (by decide) s0 (by omega)) rfl rfl ?_
              refine w_iload_n rfl rfl rfl ?_
              refine w_cs (q := am_m196) (na := 1) (as := [_]) (st' := [_]) rfl rfl rfl rfl (by decide) rfl rfl (Nat.le_of_ble_eq_true rfl) rfl rfl rfl (c_rankC (v := Int32.ofNat 4) (rk_cmp (v.1 c78).2) (by omega)) rfl rfl ?_
              refine w_iconst (x := Int32.ofNat 4) rfl rfl (by decide) ?_
              refine w_ic_neN (t := 217) (f := 186) rfl rfl rfl (by omega) (by omega) (fun c183 => absurd c183 (by omega)) (fun c183 => ?_)
              clear c183
              refine w_aload_n rfl rfl rfl ?_
              refine w_gf (t := .int 0) (v := .int _) rfl rfl rfl sp110 rfl (congrArg Value.int (bi_ok (by decide) (by decide) W H K I s0).1.1) rfl ?_
              refine w_if_le (t := 217) (f := 193) rfl rfl rfl (fun c190 => ?_) (fun c190 => ?_)
              · refine w_aload_n rfl rfl rfl ?_
                refine w_cv (q := am_m200) (as := []) (rest := []) (st' := [_]) rfl rfl rfl rfl rfl rfl sp110 rfl rfl rfl rfl (c_isCounted_no ((((m_bi_f (by omega) (by omega) (by omega) W H K I).trans h48)).trans (congrArg Int32.ofNat hC)) (by omega)) rfl rfl ?_
                refine w_if_ne (t := 226) (f := 224) rfl rfl rfl (fun c221 => absurd c221 (by decide)) (fun c221 => ?_)
                clear c221
                refine w_iconst (x := Int32.ofNat 0) rfl rfl (by decide) ?_
                exact w_bret rfl (by decide) (by clear s s0 b2 b3 b4; first | contradiction | exact absurd (c6.2.symm.trans c138.2) (by decide) | exact absurd (c6.2.symm.trans c124.2) (by decide) | exact absurd (c6.2.symm.trans c110.2) (by decide) | exact absurd (c6.2.symm.trans c96.2) (by decide) | exact absurd (c6.1.symm.trans c78) (by decide) | exact absurd (c6.1.symm.trans c53.1) (by decide) | exact absurd (c6.1.symm.trans c66.1) (by decide) | (simp +decide only [m_sg, m_sg0, m_sg1, m_sgl, m_sgk, rkv3, rkv4, rkv11, rkv12, rkv13, rkv14, *, ite_true, ite_false, and_self, and_true, true_and, and_false, false_and, or_true, true_or, or_false, false_or, not_true, not_false_iff, eq_self, rk_cmp (v.1 c78).2] <;> rfl) | (simp +decide only [m_sg, m_sg0, m_sg1, m_sgl, m_sgk, rkv3, rkv4, rkv11, rkv12, rkv13, rkv14, *, ite_true, ite_false, and_self, and_true, true_and, and_false, false_and, or_true, true_or, or_false, false_or, not_true, not_false_iff, eq_self] <;> rfl)) (by clear s s0 b2 b3 b4; first | contradiction | exact absurd (c6.2.symm.trans c138.2) (by decide) | exact absurd (c6.2.symm.trans c124.2) (by decide) | exact absurd (c6.2.symm.trans c110.2) (by decide) | exact absurd (c6.2.symm.trans c96.2) (by decide) | exact absurd (c6.1.symm.trans c78) (by decide) | exact absurd (c6.1.symm.trans c53.1) (by decide) | exact absurd (c6.1.symm.trans c66.1) (by decide) | (simp +decide only [m_sg, m_sg0, m_sg1, m_sgl, m_sgk, rkv3, rkv4, rkv11, rkv12, rkv13, rkv14, *, ite_true, ite_false, and_self, and_true, true_and, and_false, false_and, or_true, true_or, or_false, false_or, not_true, not_false_iff, eq_self, rk_cmp (v.1 c78).2] <;> rfl) | (simp +decide only [m_sg, m_sg0, m_sg1, m_sgl, m_sgk, rkv3, rkv4, rkv11, rkv12, rkv13, rkv14, *, ite_true, ite_false, and_self, and_true, true_and, and_false, false_and, or_true, true_or, or_false, false_or, not_true, not_false_iff, eq_self] <;> rfl)) rfl rfl
              · refine w_aload_n rfl rfl rfl ?_
                refine w_gf (t := .ref (134)) (v := .ref (134)) rfl rfl rfl sp110 rfl rfl rfl ?_
                refine w_aload_n rfl rfl rfl ?_
                refine w_gf (t := .int 0) (v := .int _) rfl rfl rfl sp110 rfl (congrArg Value.int (bi_ok (by decide) (by decide) W H K I s0).1.1) rfl ?_
                refine w_iconst (x := Int32.ofNat 1) rfl rfl (by decide) ?_
                refine w_isubN rfl rfl (am_pos (Nat.lt_of_le_of_lt (m_biW_le _ _ _) hW) c190) ?_
                refine w_iaload rfl rfl sp134 rfl ⟨(Nat.lt_of_le_of_lt (Nat.sub_le _ _) (Nat.lt_of_le_of_lt (m_biW_le _ _ _) hW)), by omega⟩ rfl ?_
                refine w_cs (q := am_m196) (na := 1) (as := [_]) (st' := [_]) rfl rfl rfl rfl (by decide) rfl rfl (Nat.le_of_ble_eq_true rfl) rfl rfl rfl (c_rank (by omega)) rfl rfl ?_
                refine w_iconst (x := Int32.ofNat 4) rfl rfl (by decide) ?_
                refine w_ic_ne (t := 217) (f := 211) rfl rfl rfl (fun c208 => ?_) (fun c208 => ?_)
                · refine w_aload_n rfl rfl rfl ?_
                  refine w_cv (q := am_m200) (as := []) (rest := []) (st' := [_]) rfl rfl rfl rfl rfl rfl sp110 rfl rfl rfl rfl (c_isCounted_no ((((m_bi_f (by omega) (by omega) (by omega) W H K I).trans h48)).trans (congrArg Int32.ofNat hC)) (by omega)) rfl rfl ?_
                  refine w_if_ne (t := 226) (f := 224) rfl rfl rfl (fun c221 => absurd c221 (by decide)) (fun c221 => ?_)
                  clear c221
                  refine w_iconst (x := Int32.ofNat 0) rfl rfl (by decide) ?_
                  exact w_bret rfl (by decide) (by clear s s0 b2 b3 b4; first | contradiction | exact absurd (c6.2.symm.trans c138.2) (by decide) | exact absurd (c6.2.symm.trans c124.2) (by decide) | exact absurd (c6.2.symm.trans c110.2) (by decide) | exact absurd (c6.2.symm.trans c96.2) (by decide) | exact absurd (c6.1.symm.trans c78) (by decide) | exact absurd (c6.1.symm.trans c53.1) (by decide) | exact absurd (c6.1.symm.trans c66.1) (by decide) | (simp +decide only [m_sg, m_sg0, m_sg1, m_sgl, m_sgk, rkv3, rkv4, rkv11, rkv12, rkv13, rkv14, *, ite_true, ite_false, and_self, and_true, true_and, and_false, false_and, or_true, true_or, or_false, false_or, not_true, not_false_iff, eq_self, rk_cmp (v.1 c78).2] <;> rfl) | (simp +decide only [m_sg, m_sg0, m_sg1, m_sgl, m_sgk, rkv3, rkv4, rkv11, rkv12, rkv13, rkv14, *, ite_true, ite_false, and_self, and_true, true_and, and_false, false_and, or_true, true_or, or_false, false_or, not_true, not_false_iff, eq_self] <;> rfl)) (by clear s s0 b2 b3 b4; first | contradiction | exact absurd (c6.2.symm.trans c138.2) (by decide) | exact absurd (c6.2.symm.trans c124.2) (by decide) | exact absurd (c6.2.symm.trans c110.2) (by decide) | exact absurd (c6.2.symm.trans c96.2) (by decide) | exact absurd (c6.1.symm.trans c78) (by decide) | exact absurd (c6.1.symm.trans c53.1) (by decide) | exact absurd (c6.1.symm.trans c66.1) (by decide) | (simp +decide only [m_sg, m_sg0, m_sg1, m_sgl, m_sgk, rkv3, rkv4, rkv11, rkv12, rkv13, rkv14, *, ite_true, ite_false, and_self, and_true, true_and, and_false, false_and, or_true, true_or, or_false, false_or, not_true, not_false_iff, eq_self, rk_cmp (v.1 c78).2] <;> rfl) | (simp +decide only [m_sg, m_sg0, m_sg1, m_sgl, m_sgk, rkv3, rkv4, rkv11, rkv12, rkv13, rkv14, *, ite_true, ite_false, and_self, and_true, true_and, and_false, false_and, or_true, true_or, or_false, false_or, not_true, not_false_iff, eq_self] <;> rfl)) rfl rfl
                · refine w_aload_n rfl rfl rfl ?_
                  refine w_iconst (x := Int32.ofNat 1) rfl rfl (by decide) ?_
                  refine w_cv (q := am_m170) (as := [_]) (rest := []) (st' := [_]) rfl rfl rfl rfl rfl rfl sp110 rfl rfl rfl rfl (c_wrong (by omega)) rfl rfl ?_
                  exact w_bret rfl (by decide) (by clear s s0 b2 b3 b4; first | contradiction | exact absurd (c6.2.symm.trans c138.2) (by decide) | exact absurd (c6.2.symm.trans c124.2) (by decide) | exact absurd (c6.2.symm.trans c110.2) (by decide) | exact absurd (c6.2.symm.trans c96.2) (by decide) | exact absurd (c6.1.symm.trans c78) (by decide) | exact absurd (c6.1.symm.trans c53.1) (by decide) | exact absurd (c6.1.symm.trans c66.1) (by decide) | (simp +decide only [m_sg, m_sg0, m_sg1, m_sgl, m_sgk, rkv3, rkv4, rkv11, rkv12, rkv13, rkv14, *, ite_true, ite_false, and_self, and_true, true_and, and_false, false_and, or_true, true_or, or_false, false_or, not_true, not_false_iff, eq_self, rk_cmp (v.1 c78).2] <;> rfl) | (simp +decide only [m_sg, m_sg0, m_sg1, m_sgl, m_sgk, rkv3, rkv4, rkv11, rkv12, rkv13, rkv14, *, ite_true, ite_false, and_self, and_true, true_and, and_false, false_and, or_true, true_or, or_false, false_or, not_true, not_false_iff, eq_self] <;> rfl)) (by clear s s0 b2 b3 b4; first | contradiction | exact absurd (c6.2.symm.trans c138.2) (by decide) | exact absurd (c6.2.symm.trans c124.2) (by decide) | exact absurd (c6.2.symm.trans c110.2) (by decide) | exact absurd (c6.2.symm.trans c96.2) (by decide) | exact absurd (c6.1.symm.trans c78) (by decide) | exact absurd (c6.1.symm.trans c53.1) (by decide) | exact absurd (c6.1.symm.trans c66.1) (by decide) | (simp +decide only [m_sg, m_sg0, m_sg1, m_sgl, m_sgk, rkv3, rkv4, rkv11, rkv12, rkv13, rkv14, *, ite_true, ite_false, and_self, and_true, true_and, and_false, false_and, or_true, true_or, or_false, false_or, not_true, not_false_iff, eq_self, rk_cmp (v.1 c78).2] <;> rfl) | (simp +decide only [m_sg, m_sg0, m_sg1, m_sgl, m_sgk, rkv3, rkv4, rkv11, rkv12, rkv13, rkv14, *, ite_true, ite_false, and_self, and_true, true_and, and_false, false_and, or_true, true_or, or_false, false_or, not_true, not_false_iff, eq_self] <;> rfl)) rfl rfl
            · refine w_aload_n rfl rfl rfl ?_
              refine w_iconst (x := Int32.ofNat 1) rfl rfl (by decide) ?_
              refine w_cv (q := am_m170) (as := [_]) (rest := []) (st' := [_]) rfl rfl rfl rfl rfl rfl sp110 rfl rfl rfl rfl (c_wrong (by omega)) rfl rfl ?_
              exact w_bret rfl (by decide) (by clear s s0 b2 b3 b4; first | contradiction | exact absurd (c6.2.symm.trans c138.2) (by decide) | exact absurd (c6.2.symm.trans c124.2) (by decide) | exact absurd (c6.2.symm.trans c110.2) (by decide) | exact absurd (c6.2.symm.trans c96.2) (by decide) | exact absurd (c6.1.symm.trans c78) (by decide) | exact absurd (c6.1.symm.trans c53.1) (by decide) | exact absurd (c6.1.symm.trans c66.1) (by decide) | (simp +decide only [m_sg, m_sg0, m_sg1, m_sgl, m_sgk, rkv3, rkv4, rkv11, rkv12, rkv13, rkv14, *, ite_true, ite_false, and_self, and_true, true_and, and_false, false_and, or_true, true_or, or_false, false_or, not_true, not_false_iff, eq_self, rk_cmp (v.1 c78).2] <;> rfl) | (simp +decide only [m_sg, m_sg0, m_sg1, m_sgl, m_sgk, rkv3, rkv4, rkv11, rkv12, rkv13, rkv14, *, ite_true, ite_false, and_self, and_true, true_and, and_false, false_and, or_true, true_or, or_false, false_or, not_true, not_false_iff, eq_self] <;> rfl)) (by clear s s0 b2 b3 b4; first | contradiction | exact absurd (c6.2.symm.trans c138.2) (by decide) | exact absurd (c6.2.symm.trans c124.2) (by decide) | exact absurd (c6.2.symm.trans c110.2) (by decide) | exact absurd (c6.2.symm.trans c96.2) (by decide) | exact absurd (c6.1.symm.trans c78) (by decide) | exact absurd (c6.1.symm.trans c53.1) (by decide) | exact absurd (c6.1.symm.trans c66.1) (by decide) | (simp +decide only [m_sg, m_sg0, m_sg1, m_sgl, m_sgk, rkv3, rkv4, rkv11, rkv12, rkv13, rkv14, *, ite_true, ite_false, and_self, and_true, true_and, and_false, false_and, or_true, true_or, or_false, false_or, not_true, not_false_iff, eq_self, rk_cmp (v.1 c78).2] <;> rfl) | (simp +decide only [m_sg, m_sg0, m_sg1, m_sgl, m_sgk, rkv3, rkv4, rkv11, rkv12, rkv13, rkv14, *, ite_true, ite_false, and_self, and_true, true_and, and_false, false_and, or_true, true_or, or_false, false_or, not_true, not_false_iff, eq_self] <;> rfl)) rfl rfl
        · refine w_iconst (x := Int32.ofNat 4) rfl rfl (by decide) ?_
          refine w_goto (pc' := 147) rfl rfl ?_
          refine w_istore_n (L' := [_, _]) rfl rfl rfl ?_
          refine w_iload_n rfl rfl rfl ?_
          refine w_if_ne (t := 158) (f := 152) rfl rfl rfl (fun c149 => ?_) (fun c149 => absurd c149 (by decide))
          clear c149
          refine w_aload_n rfl rfl rfl ?_
          refine w_iload_n rfl rfl rfl ?_
          refine w_cs (q := am_m196) (na := 1) (as := [_]) (st' := [_, _]) rfl rfl rfl rfl (by decide) rfl rfl (Nat.le_of_ble_eq_true rfl) rfl rfl rfl (c_rankC (v := Int32.ofNat 1) (by decide) (by omega)) rfl rfl ?_
          refine w_iconst (x := Int32.ofNat 4) rfl rfl (by decide) ?_
          refine w_ic_neN (t := 171) (f := 167) rfl rfl rfl (by omega) (by omega) (fun c164 => ?_) (fun c164 => absurd c164 (by omega))
          clear c164
          refine w_iload_n rfl rfl rfl ?_
          refine w_cs (q := am_m196) (na := 1) (as := [_]) (st' := [_, _]) rfl rfl rfl rfl (by decide) rfl rfl (Nat.le_of_ble_eq_true rfl) rfl rfl rfl (c_rankC (v := Int32.ofNat 1) (by decide) (by omega)) rfl rfl ?_
          refine w_cv (q := am_m199) (as := [_]) (rest := []) (st' := []) rfl rfl rfl rfl rfl rfl sp110 rfl rfl rfl rfl (c_bind (by decide) (by decide) s0 (by omega)) rfl rfl ?_
          refine w_iload_n rfl rfl rfl ?_
          refine w_cs (q := am_m196) (na := 1) (as := [_]) (st' := [_]) rfl rfl rfl rfl (by decide) rfl rfl (Nat.le_of_ble_eq_true rfl) rfl rfl rfl (c_rankC (v := Int32.ofNat 1) (by decide) (by omega)) rfl rfl ?_
          refine w_iconst (x := Int32.ofNat 4) rfl rfl (by decide) ?_
          refine w_ic_neN (t := 217) (f := 186) rfl rfl rfl (by omega) (by omega) (fun c183 => ?_) (fun c183 => absurd c183 (by omega))
          clear c183
          refine w_aload_n rfl rfl rfl ?_
          refine w_cv (q := am_m200) (as := []) (rest := []) (st' := [_]) rfl rfl rfl rfl rfl rfl sp110 rfl rfl rfl rfl (c_isCounted_no ((((m_bi_f (by omega) (by omega) (by omega) W H K I).trans h48)).trans (congrArg Int32.ofNat hC)) (by omega)) rfl rfl ?_
          refine w_if_ne (t := 226) (f := 224) rfl rfl rfl (fun c221 => absurd c221 (by decide)) (fun c221 => ?_)
          clear c221
          refine w_iconst (x := Int32.ofNat 0) rfl rfl (by decide) ?_
          exact w_bret rfl (by decide) (by clear s s0 b2 b3 b4; first | contradiction | exact absurd (c6.2.symm.trans c138.2) (by decide) | exact absurd (c6.2.symm.trans c124.2) (by decide) | exact absurd (c6.2.symm.trans c110.2) (by decide) | exact absurd (c6.2.symm.trans c96.2) (by decide) | exact absurd (c6.1.symm.trans c78) (by decide) | exact absurd (c6.1.symm.trans c53.1) (by decide) | exact absurd (c6.1.symm.trans c66.1) (by decide) | (simp +decide only [m_sg, m_sg0, m_sg1, m_sgl, m_sgk, rkv3, rkv4, rkv11, rkv12, rkv13, rkv14, *, ite_true, ite_false, and_self, and_true, true_and, and_false, false_and, or_true, true_or, or_false, false_or, not_true, not_false_iff, eq_self, rk_cmp (v.1 c78).2] <;> rfl) | (simp +decide only [m_sg, m_sg0, m_sg1, m_sgl, m_sgk, rkv3, rkv4, rkv11, rkv12, rkv13, rkv14, *, ite_true, ite_false, and_self, and_true, true_and, and_false, false_and, or_true, true_or, or_false, false_or, not_true, not_false_iff, eq_self] <;> rfl)) (by clear s s0 b2 b3 b4; first | contradiction | exact absurd (c6.2.symm.trans c138.2) (by decide) | exact absurd (c6.2.symm.trans c124.2) (by decide) | exact absurd (c6.2.symm.trans c110.2) (by decide) | exact absurd (c6.2.symm.trans c96.2) (by decide) | exact absurd (c6.1.symm.trans c78) (by decide) | exact absurd (c6.1.symm.trans c53.1) (by decide) | exact absurd (c6.1.symm.trans c66.1) (by decide) | (simp +decide only [m_sg, m_sg0, m_sg1, m_sgl, m_sgk, rkv3, rkv4, rkv11, rkv12, rkv13, rkv14, *, ite_true, ite_false, and_self, and_true, true_and, and_false, false_and, or_true, true_or, or_false, false_or, not_true, not_false_iff, eq_self, rk_cmp (v.1 c78).2] <;> rfl) | (simp +decide only [m_sg, m_sg0, m_sg1, m_sgl, m_sgk, rkv3, rkv4, rkv11, rkv12, rkv13, rkv14, *, ite_true, ite_false, and_self, and_true, true_and, and_false, false_and, or_true, true_or, or_false, false_or, not_true, not_false_iff, eq_self] <;> rfl)) rfl rfl
      · refine w_iconst (x := Int32.ofNat 3) rfl rfl (by decide) ?_
        refine w_goto (pc' := 147) rfl rfl ?_
        refine w_istore_n (L' := [_, _]) rfl rfl rfl ?_
        refine w_iload_n rfl rfl rfl ?_
        refine w_if_ne (t := 158) (f := 152) rfl rfl rfl (fun c149 => ?_) (fun c149 => absurd c149 (by decide))
        clear c149
        refine w_aload_n rfl rfl rfl ?_
        refine w_iload_n rfl rfl rfl ?_
        refine w_cs (q := am_m196) (na := 1) (as := [_]) (st' := [_, _]) rfl rfl rfl rfl (by decide) rfl rfl (Nat.le_of_ble_eq_true rfl) rfl rfl rfl (c_rankC (v := Int32.ofNat 2) (by decide) (by omega)) rfl rfl ?_
        refine w_iconst (x := Int32.ofNat 4) rfl rfl (by decide) ?_
        refine w_ic_neN (t := 171) (f := 167) rfl rfl rfl (by omega) (by omega) (fun c164 => ?_) (fun c164 => absurd c164 (by omega))
        clear c164
        refine w_iload_n rfl rfl rfl ?_
        refine w_cs (q := am_m196) (na := 1) (as := [_]) (st' := [_, _]) rfl rfl rfl rfl (by decide) rfl rfl (Nat.le_of_ble_eq_true rfl) rfl rfl rfl (c_rankC (v := Int32.ofNat 2) (by decide) (by omega)) rfl rfl ?_
        refine w_cv (q := am_m199) (as := [_]) (rest := []) (st' := []) rfl rfl rfl rfl rfl rfl sp110 rfl rfl rfl rfl (c_bind (by decide) (by decide) s0 (by omega)) rfl rfl ?_
        refine w_iload_n rfl rfl rfl ?_
        refine w_cs (q := am_m196) (na := 1) (as := [_]) (st' := [_]) rfl rfl rfl rfl (by decide) rfl rfl (Nat.le_of_ble_eq_true rfl) rfl rfl rfl (c_rankC (v := Int32.ofNat 2) (by decide) (by omega)) rfl rfl ?_
        refine w_iconst (x := Int32.ofNat 4) rfl rfl (by decide) ?_
        refine w_ic_neN (t := 217) (f := 186) rfl rfl rfl (by omega) (by omega) (fun c183 => ?_) (fun c183 => absurd c183 (by omega))
        clear c183
        refine w_aload_n rfl rfl rfl ?_
        refine w_cv (q := am_m200) (as := []) (rest := []) (st' := [_]) rfl rfl rfl rfl rfl rfl sp110 rfl rfl rfl rfl (c_isCounted_no ((((m_bi_f (by omega) (by omega) (by omega) W H K I).trans h48)).trans (congrArg Int32.ofNat hC)) (by omega)) rfl rfl ?_
        refine w_if_ne (t := 226) (f := 224) rfl rfl rfl (fun c221 => absurd c221 (by decide)) (fun c221 => ?_)
        clear c221
        refine w_iconst (x := Int32.ofNat 0) rfl rfl (by decide) ?_
        exact w_bret rfl (by decide) (by clear s s0 b2 b3 b4; first | contradiction | exact absurd (c6.2.symm.trans c138.2) (by decide) | exact absurd (c6.2.symm.trans c124.2) (by decide) | exact absurd (c6.2.symm.trans c110.2) (by decide) | exact absurd (c6.2.symm.trans c96.2) (by decide) | exact absurd (c6.1.symm.trans c78) (by decide) | exact absurd (c6.1.symm.trans c53.1) (by decide) | exact absurd (c6.1.symm.trans c66.1) (by decide) | (simp +decide only [m_sg, m_sg0, m_sg1, m_sgl, m_sgk, rkv3, rkv4, rkv11, rkv12, rkv13, rkv14, *, ite_true, ite_false, and_self, and_true, true_and, and_false, false_and, or_true, true_or, or_false, false_or, not_true, not_false_iff, eq_self, rk_cmp (v.1 c78).2] <;> rfl) | (simp +decide only [m_sg, m_sg0, m_sg1, m_sgl, m_sgk, rkv3, rkv4, rkv11, rkv12, rkv13, rkv14, *, ite_true, ite_false, and_self, and_true, true_and, and_false, false_and, or_true, true_or, or_false, false_or, not_true, not_false_iff, eq_self] <;> rfl)) (by clear s s0 b2 b3 b4; first | contradiction | exact absurd (c6.2.symm.trans c138.2) (by decide) | exact absurd (c6.2.symm.trans c124.2) (by decide) | exact absurd (c6.2.symm.trans c110.2) (by decide) | exact absurd (c6.2.symm.trans c96.2) (by decide) | exact absurd (c6.1.symm.trans c78) (by decide) | exact absurd (c6.1.symm.trans c53.1) (by decide) | exact absurd (c6.1.symm.trans c66.1) (by decide) | (simp +decide only [m_sg, m_sg0, m_sg1, m_sgl, m_sgk, rkv3, rkv4, rkv11, rkv12, rkv13, rkv14, *, ite_true, ite_false, and_self, and_true, true_and, and_false, false_and, or_true, true_or, or_false, false_or, not_true, not_false_iff, eq_self, rk_cmp (v.1 c78).2] <;> rfl) | (simp +decide only [m_sg, m_sg0, m_sg1, m_sgl, m_sgk, rkv3, rkv4, rkv11, rkv12, rkv13, rkv14, *, ite_true, ite_false, and_self, and_true, true_and, and_false, false_and, or_true, true_or, or_false, false_or, not_true, not_false_iff, eq_self] <;> rfl)) rfl rfl
    · have hB : 1 ≤ cz (I 134) W := am_pos (by omega) c13
      have hW1 : 1 ≤ m_biW (Int32.ofNat 1) W I := by
        have e := bi_cz (l := 1) (by decide) (by decide) s0
        have := cz_le (I 134) (m_biW (Int32.ofNat 1) W I)
        omega
      refine w_aload_n rfl rfl rfl ?_
      refine w_iconst (x := Int32.ofNat 1) rfl rfl (by decide) ?_
      refine w_cv (q := am_m199) (as := [_]) (rest := []) (st' := []) rfl rfl rfl rfl rfl rfl sp110 rfl rfl rfl rfl (c_bind (by decide) (by decide) s0 (by omega)) rfl rfl ?_
      refine w_aload_n rfl rfl rfl ?_
      refine w_dup rfl rfl rfl ?_
      refine w_gf (t := .int 0) (v := .int _) rfl rfl rfl sp110 rfl (congrArg Value.int (bi_ok (by decide) (by decide) W H K I s0).1.1) rfl ?_
      refine w_iconst (x := Int32.ofNat 1) rfl rfl (by decide) ?_
      refine w_isubN rfl rfl hW1 ?_
      refine w_pf rfl rfl rfl sp110 rfl rfl rfl ?_
      refine w_aload_n rfl rfl rfl ?_
      refine w_dup rfl rfl rfl ?_
      refine w_gf (t := .int 0) (v := .int _) rfl rfl rfl sp110 rfl (congrArg Value.int ((am_u_nk (by decide)).trans ((m_bi_f (by omega) (by omega) (by omega) W H K I).trans h47))) rfl ?_
      refine w_iconst (x := Int32.ofNat 1) rfl rfl (by decide) ?_
      refine w_isubN rfl rfl hB ?_
      refine w_pf rfl rfl rfl sp110 rfl rfl rfl ?_
      refine w_aload_n rfl rfl rfl ?_
      refine w_cv (q := am_m174) (as := []) (rest := []) (st' := []) rfl rfl rfl rfl rfl rfl sp110 rfl rfl rfl rfl (c_tok (pv_u (by omega) (by omega) (pv_u (by omega) (by omega) (pv_bi g))) (by omega)) rfl rfl ?_
      refine w_iconst (x := Int32.ofNat 1) rfl rfl (by decide) ?_
      exact w_bret rfl (by decide) (by clear s s0 b2 b3 b4; first | contradiction | exact absurd (c6.2.symm.trans c138.2) (by decide) | exact absurd (c6.2.symm.trans c124.2) (by decide) | exact absurd (c6.2.symm.trans c110.2) (by decide) | exact absurd (c6.2.symm.trans c96.2) (by decide) | exact absurd (c6.1.symm.trans c78) (by decide) | exact absurd (c6.1.symm.trans c53.1) (by decide) | exact absurd (c6.1.symm.trans c66.1) (by decide) | (simp +decide only [m_sg, m_sg0, m_sg1, m_sgl, m_sgk, rkv3, rkv4, rkv11, rkv12, rkv13, rkv14, *, ite_true, ite_false, and_self, and_true, true_and, and_false, false_and, or_true, true_or, or_false, false_or, not_true, not_false_iff, eq_self, rk_cmp (v.1 c78).2] <;> rfl) | (simp +decide only [m_sg, m_sg0, m_sg1, m_sgl, m_sgk, rkv3, rkv4, rkv11, rkv12, rkv13, rkv14, *, ite_true, ite_false, and_self, and_true, true_and, and_false, false_and, or_true, true_or, or_false, false_or, not_true, not_false_iff, eq_self] <;> rfl)) (by clear s s0 b2 b3 b4; first | contradiction | exact absurd (c6.2.symm.trans c138.2) (by decide) | exact absurd (c6.2.symm.trans c124.2) (by decide) | exact absurd (c6.2.symm.trans c110.2) (by decide) | exact absurd (c6.2.symm.trans c96.2) (by decide) | exact absurd (c6.1.symm.trans c78) (by decide) | exact absurd (c6.1.symm.trans c53.1) (by decide) | exact absurd (c6.1.symm.trans c66.1) (by decide) | (simp +decide only [m_sg, m_sg0, m_sg1, m_sgl, m_sgk, rkv3, rkv4, rkv11, rkv12, rkv13, rkv14, *, ite_true, ite_false, and_self, and_true, true_and, and_false, false_and, or_true, true_or, or_false, false_or, not_true, not_false_iff, eq_self, rk_cmp (v.1 c78).2] <;> rfl) | (simp +decide only [m_sg, m_sg0, m_sg1, m_sgl, m_sgk, rkv3, rkv4, rkv11, rkv12, rkv13, rkv14, *, ite_true, ite_false, and_self, and_true, true_and, and_false, false_and, or_true, true_or, or_false, false_or, not_true, not_false_iff, eq_self] <;> rfl)) rfl rfl
theorem c_signs0 {k : Nat} {I : hI} {J : hJ} {R : hR} {f : Nat → Int32} {st : Nat} (g : pv I f st) (v : tv I) {W H K C : Nat} (s : sm I W H K C 0) (hC : C < 64) (hk : 4 ≤ k) : ct k 204 [.ref 110] I J R (some (.int (m_sg I W H K (cz (I 134) W) C).1)) ((m_sg I W H K (cz (I 134) W) C).2) J R := by
  obtain ⟨k, rfl⟩ : ∃ k', k = k' + 1 := ⟨k - 1, by omega⟩
  have s0 := sm_sw0 s
  have h47 := s.1.2.2.2.1
  have h48 := s.1.2.2.2.2
  have b2 := s.2.2.1
  have b3 := s.2.2.2.1
  have b4 := s.2.2.2.2.1
  have hW : W < 96 := by omega
  have hC2 : ¬ C = 64 := by omega
  refine ct_of (q := am_m204) (L := [_, _]) rfl rfl rfl rfl rfl rfl ?_
  refine w_aload_n rfl rfl rfl ?_
  refine w_bipush (x := Int32.ofNat 41) rfl rfl (by decide) ?_
  refine w_cv (q := am_m178) (as := [_]) (rest := []) (st' := [_]) rfl rfl rfl rfl rfl rfl sp110 rfl rfl rfl rfl (c_isSign (by omega)) rfl rfl ?_
  refine w_if_eqB (t := 47) (f := 9) rfl rfl rfl (fun c6 => ?_) (fun c6 => ?_)
  · refine w_aload_n rfl rfl rfl ?_
    refine w_bipush (x := Int32.ofNat 11) rfl rfl (by decide) ?_
    refine w_cv (q := am_m177) (as := [_]) (rest := []) (st' := [_]) rfl rfl rfl rfl rfl rfl sp110 rfl rfl rfl rfl (c_isKey (by omega)) rfl rfl ?_
    refine w_if_eqB (t := 60) (f := 56) rfl rfl rfl (fun c53 => ?_) (fun c53 => ?_)
    · refine w_aload_n rfl rfl rfl ?_
      refine w_bipush (x := Int32.ofNat 12) rfl rfl (by decide) ?_
      refine w_cv (q := am_m177) (as := [_]) (rest := []) (st' := [_]) rfl rfl rfl rfl rfl rfl sp110 rfl rfl rfl rfl (c_isKey (by omega)) rfl rfl ?_
      refine w_if_eqB (t := 73) (f := 69) rfl rfl rfl (fun c66 => ?_) (fun c66 => ?_)
      · refine w_aload_n rfl rfl rfl ?_
        refine w_gf (t := .int 0) (v := .int _) rfl rfl rfl sp110 rfl (congrArg Value.int rfl) rfl ?_
        refine w_iconst (x := Int32.ofNat 5) rfl rfl (by decide) ?_
        refine w_ic_ne (t := 90) (f := 81) rfl rfl rfl (fun c78 => ?_) (fun c78 => ?_)
        · refine w_aload_n rfl rfl rfl ?_
          refine w_bipush (x := Int32.ofNat 43) rfl rfl (by decide) ?_
          refine w_cv (q := am_m178) (as := [_]) (rest := []) (st' := [_]) rfl rfl rfl rfl rfl rfl sp110 rfl rfl rfl rfl (c_isSign (by omega)) rfl rfl ?_
          refine w_if_eqB (t := 104) (f := 99) rfl rfl rfl (fun c96 => ?_) (fun c96 => ?_)
          · refine w_aload_n rfl rfl rfl ?_
            refine w_bipush (x := Int32.ofNat 45) rfl rfl (by decide) ?_
            refine w_cv (q := am_m178) (as := [_]) (rest := []) (st' := [_]) rfl rfl rfl rfl rfl rfl sp110 rfl rfl rfl rfl (c_isSign (by omega)) rfl rfl ?_
            refine w_if_eqB (t := 118) (f := 113) rfl rfl rfl (fun c110 => ?_) (fun c110 => ?_)
            · refine w_aload_n rfl rfl rfl ?_
              refine w_bipush (x := Int32.ofNat 42) rfl rfl (by decide) ?_
              refine w_cv (q := am_m178) (as := [_]) (rest := []) (st' := [_]) rfl rfl rfl rfl rfl rfl sp110 rfl rfl rfl rfl (c_isSign (by omega)) rfl rfl ?_
              refine w_if_eqB (t := 132) (f := 127) rfl rfl rfl (fun c124 => ?_) (fun c124 => ?_)
              · refine w_aload_n rfl rfl rfl ?_
                refine w_bipush (x := Int32.ofNat 47) rfl rfl (by decide) ?_
                refine w_cv (q := am_m178) (as := [_]) (rest := []) (st' := [_]) rfl rfl rfl rfl rfl rfl sp110 rfl rfl rfl rfl (c_isSign (by omega)) rfl rfl ?_
                refine w_if_eqB (t := 146) (f := 141) rfl rfl rfl (fun c138 => ?_) (fun c138 => ?_)
                · refine w_iconst (x := Int32.ofNat 0) rfl rfl (by decide) ?_
                  refine w_istore_n (L' := [_, _]) rfl rfl rfl ?_
                  refine w_iload_n rfl rfl rfl ?_
                  refine w_if_ne (t := 158) (f := 152) rfl rfl rfl (fun c149 => absurd c149 (by decide)) (fun c149 => ?_)
                  clear c149
                  refine w_aload_n rfl rfl rfl ?_
                  refine w_iconst (x := Int32.ofNat 1) rfl rfl (by decide) ?_
                  refine w_cv (q := am_m170) (as := [_]) (rest := []) (st' := [_]) rfl rfl rfl rfl rfl rfl sp110 rfl rfl rfl rfl (c_wrong (by omega)) rfl rfl ?_
                  exact w_bret rfl (by decide) (by clear s s0 b2 b3 b4; first | contradiction | exact absurd (c6.2.symm.trans c138.2) (by decide) | exact absurd (c6.2.symm.trans c124.2) (by decide) | exact absurd (c6.2.symm.trans c110.2) (by decide) | exact absurd (c6.2.symm.trans c96.2) (by decide) | exact absurd (c6.1.symm.trans c78) (by decide) | exact absurd (c6.1.symm.trans c53.1) (by decide) | exact absurd (c6.1.symm.trans c66.1) (by decide) | (simp +decide only [m_sg, m_sg0, m_sg1, m_sgl, m_sgk, rkv3, rkv4, rkv11, rkv12, rkv13, rkv14, *, ite_true, ite_false, and_self, and_true, true_and, and_false, false_and, or_true, true_or, or_false, false_or, not_true, not_false_iff, eq_self, rk_cmp (v.1 c78).2] <;> rfl) | (simp +decide only [m_sg, m_sg0, m_sg1, m_sgl, m_sgk, rkv3, rkv4, rkv11, rkv12, rkv13, rkv14, *, ite_true, ite_false, and_self, and_true, true_and, and_false, false_and, or_true, true_or, or_false, false_or, not_true, not_false_iff, eq_self] <;> rfl)) (by clear s s0 b2 b3 b4; first | contradiction | exact absurd (c6.2.symm.trans c138.2) (by decide) | exact absurd (c6.2.symm.trans c124.2) (by decide) | exact absurd (c6.2.symm.trans c110.2) (by decide) | exact absurd (c6.2.symm.trans c96.2) (by decide) | exact absurd (c6.1.symm.trans c78) (by decide) | exact absurd (c6.1.symm.trans c53.1) (by decide) | exact absurd (c6.1.symm.trans c66.1) (by decide) | (simp +decide only [m_sg, m_sg0, m_sg1, m_sgl, m_sgk, rkv3, rkv4, rkv11, rkv12, rkv13, rkv14, *, ite_true, ite_false, and_self, and_true, true_and, and_false, false_and, or_true, true_or, or_false, false_or, not_true, not_false_iff, eq_self, rk_cmp (v.1 c78).2] <;> rfl) | (simp +decide only [m_sg, m_sg0, m_sg1, m_sgl, m_sgk, rkv3, rkv4, rkv11, rkv12, rkv13, rkv14, *, ite_true, ite_false, and_self, and_true, true_and, and_false, false_and, or_true, true_or, or_false, false_or, not_true, not_false_iff, eq_self] <;> rfl)) rfl rfl
                · refine w_bipush (x := Int32.ofNat 14) rfl rfl (by decide) ?_
                  refine w_goto (pc' := 147) rfl rfl ?_
                  refine w_istore_n (L' := [_, _]) rfl rfl rfl ?_
                  refine w_iload_n rfl rfl rfl ?_
                  refine w_if_ne (t := 158) (f := 152) rfl rfl rfl (fun c149 => ?_) (fun c149 => absurd c149 (by decide))
                  clear c149
                  refine w_aload_n rfl rfl rfl ?_
                  refine w_iload_n rfl rfl rfl ?_
                  refine w_cs (q := am_m196) (na := 1) (as := [_]) (st' := [_, _]) rfl rfl rfl rfl (by decide) rfl rfl (Nat.le_of_ble_eq_true rfl) rfl rfl rfl (c_rankC (v := Int32.ofNat 6) (by decide) (by omega)) rfl rfl ?_
                  refine w_iconst (x := Int32.ofNat 4) rfl rfl (by decide) ?_
                  refine w_ic_neN (t := 171) (f := 167) rfl rfl rfl (by omega) (by omega) (fun c164 => ?_) (fun c164 => absurd c164 (by omega))
                  clear c164
                  refine w_iload_n rfl rfl rfl ?_
                  refine w_cs (q := am_m196) (na := 1) (as := [_]) (st' := [_, _]) rfl rfl rfl rfl (by decide) rfl rfl (Nat.le_of_ble_eq_true rfl) rfl rfl rfl (c_rankC (v := Int32.ofNat 6) (by decide) (by omega)) rfl rfl ?_
                  refine w_cv (q := am_m199) (as := [_]) (rest := []) (st' := []) rfl rfl rfl rfl rfl rfl sp110 rfl rfl rfl rfl (c_bind (by decide) (by decide) s0 (by omega)) rfl rfl ?_
                  refine w_iload_n rfl rfl rfl ?_
                  refine w_cs (q := am_m196) (na := 1) (as := [_]) (st' := [_]) rfl rfl rfl rfl (by decide) rfl rfl (Nat.le_of_ble_eq_true rfl) rfl rfl rfl (c_rankC (v := Int32.ofNat 6) (by decide) (by omega)) rfl rfl ?_
                  refine w_iconst (x := Int32.ofNat 4) rfl rfl (by decide) ?_
                  refine w_ic_neN (t := 217) (f := 186) rfl rfl rfl (by omega) (by omega) (fun c183 => ?_) (fun c183 => absurd c183 (by omega))
                  clear c183
                  refine w_aload_n rfl rfl rfl ?_
                  refine w_cv (q := am_m200) (as := []) (rest := []) (st' := [_]) rfl rfl rfl rfl rfl rfl sp110 rfl rfl rfl rfl (c_isCounted hC ((m_bi_f (by omega) (by omega) (by omega) W H K I).trans h48) (by omega)) rfl rfl ?_
                  refine w_if_ne (t := 226) (f := 224) rfl rfl rfl (fun c221 => ?_) (fun c221 => absurd c221 (by decide))
                  clear c221
                  refine w_aload_n rfl rfl rfl ?_
                  refine w_iload_n rfl rfl rfl ?_
                  refine w_cv (q := am_m201) (as := [_]) (rest := []) (st' := []) rfl rfl rfl rfl rfl rfl sp110 rfl rfl rfl rfl (c_waitsFor (Nat.lt_of_le_of_lt (m_biW_le _ _ _) hW) ((am_u_nk (by decide)).trans (bi_ok (by decide) (by decide) W H K I s0).1.1) (by omega)) rfl rfl ?_
                  refine w_aload_n rfl rfl rfl ?_
                  refine w_iconst (x := Int32.ofNat 1) rfl rfl (by decide) ?_
                  refine w_pf rfl rfl rfl sp110 rfl rfl rfl ?_
                  refine w_aload_n rfl rfl rfl ?_
                  refine w_iload_n rfl rfl rfl ?_
                  refine w_cs (q := am_m196) (na := 1) (as := [_]) (st' := [_, _]) rfl rfl rfl rfl (by decide) rfl rfl (Nat.le_of_ble_eq_true rfl) rfl rfl rfl (c_rankC (v := Int32.ofNat 6) (by decide) (by omega)) rfl rfl ?_
                  refine w_iconst (x := Int32.ofNat 3) rfl rfl (by decide) ?_
                  refine w_ic_geN (t := 249) (f := 245) rfl rfl rfl (by omega) (by omega) (fun c242 => ?_) (fun c242 => absurd c242 (by omega))
                  clear c242
                  refine w_iconst (x := Int32.ofNat 0) rfl rfl (by decide) ?_
                  refine w_pf rfl rfl rfl sp110 rfl rfl rfl ?_
                  refine w_aload_n rfl rfl rfl ?_
                  refine w_cv (q := am_m174) (as := []) (rest := []) (st' := []) rfl rfl rfl rfl rfl rfl sp110 rfl rfl rfl rfl (c_tok (pv_u (by omega) (by omega) (pv_u (by omega) (by omega) (pv_u (by omega) (by omega) (pv_u (by omega) (by omega) (pv_u (by omega) (by omega) (pv_bi g)))))) (by omega)) rfl rfl ?_
                  refine w_iconst (x := Int32.ofNat 1) rfl rfl (by decide) ?_
                  exact w_bret rfl (by decide) (by clear s s0 b2 b3 b4; first | contradiction | exact absurd (c6.2.symm.trans c138.2) (by decide) | exact absurd (c6.2.symm.trans c124.2) (by decide) | exact absurd (c6.2.symm.trans c110.2) (by decide) | exact absurd (c6.2.symm.trans c96.2) (by decide) | exact absurd (c6.1.symm.trans c78) (by decide) | exact absurd (c6.1.symm.trans c53.1) (by decide) | exact absurd (c6.1.symm.trans c66.1) (by decide) | (simp +decide only [m_sg, m_sg0, m_sg1, m_sgl, m_sgk, rkv3, rkv4, rkv11, rkv12, rkv13, rkv14, *, ite_true, ite_false, and_self, and_true, true_and, and_false, false_and, or_true, true_or, or_false, false_or, not_true, not_false_iff, eq_self, rk_cmp (v.1 c78).2] <;> rfl) | (simp +decide only [m_sg, m_sg0, m_sg1, m_sgl, m_sgk, rkv3, rkv4, rkv11, rkv12, rkv13, rkv14, *, ite_true, ite_false, and_self, and_true, true_and, and_false, false_and, or_true, true_or, or_false, false_or, not_true, not_false_iff, eq_self] <;> rfl)) (by clear s s0 b2 b3 b4; first | contradiction | exact absurd (c6.2.symm.trans c138.2) (by decide) | exact absurd (c6.2.symm.trans c124.2) (by decide) | exact absurd (c6.2.symm.trans c110.2) (by decide) | exact absurd (c6.2.symm.trans c96.2) (by decide) | exact absurd (c6.1.symm.trans c78) (by decide) | exact absurd (c6.1.symm.trans c53.1) (by decide) | exact absurd (c6.1.symm.trans c66.1) (by decide) | (simp +decide only [m_sg, m_sg0, m_sg1, m_sgl, m_sgk, rkv3, rkv4, rkv11, rkv12, rkv13, rkv14, *, ite_true, ite_false, and_self, and_true, true_and, and_false, false_and, or_true, true_or, or_false, false_or, not_true, not_false_iff, eq_self, rk_cmp (v.1 c78).2] <;> rfl) | (simp +decide only [m_sg, m_sg0, m_sg1, m_sgl, m_sgk, rkv3, rkv4, rkv11, rkv12, rkv13, rkv14, *, ite_true, ite_false, and_self, and_true, true_and, and_false, false_and, or_true, true_or, or_false, false_or, not_true, not_false_iff, eq_self] <;> rfl)) rfl rfl
              · refine w_bipush (x := Int32.ofNat 13) rfl rfl (by decide) ?_
                refine w_goto (pc' := 147) rfl rfl ?_
                refine w_istore_n (L' := [_, _]) rfl rfl rfl ?_
                refine w_iload_n rfl rfl rfl ?_
                refine w_if_ne (t := 158) (f := 152) rfl rfl rfl (fun c149 => ?_) (fun c149 => absurd c149 (by decide))
                clear c149
                refine w_aload_n rfl rfl rfl ?_
                refine w_iload_n rfl rfl rfl ?_
                refine w_cs (q := am_m196) (na := 1) (as := [_]) (st' := [_, _]) rfl rfl rfl rfl (by decide) rfl rfl (Nat.le_of_ble_eq_true rfl) rfl rfl rfl (c_rankC (v := Int32.ofNat 6) (by decide) (by omega)) rfl rfl ?_
                refine w_iconst (x := Int32.ofNat 4) rfl rfl (by decide) ?_
                refine w_ic_neN (t := 171) (f := 167) rfl rfl rfl (by omega) (by omega) (fun c164 => ?_) (fun c164 => absurd c164 (by omega))
                clear c164
                refine w_iload_n rfl rfl rfl ?_
                refine w_cs (q := am_m196) (na := 1) (as := [_]) (st' := [_, _]) rfl rfl rfl rfl (by decide) rfl rfl (Nat.le_of_ble_eq_true rfl) rfl rfl rfl (c_rankC (v := Int32.ofNat 6) (by decide) (by omega)) rfl rfl ?_
                refine w_cv (q := am_m199) (as := [_]) (rest := []) (st' := []) rfl rfl rfl rfl rfl rfl sp110 rfl rfl rfl rfl (c_bind (by decide) (by decide) s0 (by omega)) rfl rfl ?_
                refine w_iload_n rfl rfl rfl ?_
                refine w_cs (q := am_m196) (na := 1) (as := [_]) (st' := [_]) rfl rfl rfl rfl (by decide) rfl rfl (Nat.le_of_ble_eq_true rfl) rfl rfl rfl (c_rankC (v := Int32.ofNat 6) (by decide) (by omega)) rfl rfl ?_
                refine w_iconst (x := Int32.ofNat 4) rfl rfl (by decide) ?_
                refine w_ic_neN (t := 217) (f := 186) rfl rfl rfl (by omega) (by omega) (fun c183 => ?_) (fun c183 => absurd c183 (by omega))
                clear c183
                refine w_aload_n rfl rfl rfl ?_
                refine w_cv (q := am_m200) (as := []) (rest := []) (st' := [_]) rfl rfl rfl rfl rfl rfl sp110 rfl rfl rfl rfl (c_isCounted hC ((m_bi_f (by omega) (by omega) (by omega) W H K I).trans h48) (by omega)) rfl rfl ?_
                refine w_if_ne (t := 226) (f := 224) rfl rfl rfl (fun c221 => ?_) (fun c221 => absurd c221 (by decide))
                clear c221
                refine w_aload_n rfl rfl rfl ?_
                refine w_iload_n rfl rfl rfl ?_
                refine w_cv (q := am_m201) (as := [_]) (rest := []) (st' := []) rfl rfl rfl rfl rfl rfl sp110 rfl rfl rfl rfl (c_waitsFor (Nat.lt_of_le_of_lt (m_biW_le _ _ _) hW) ((am_u_nk (by decide)).trans (bi_ok (by decide) (by decide) W H K I s0).1.1) (by omega)) rfl rfl ?_
                refine w_aload_n rfl rfl rfl ?_
                refine w_iconst (x := Int32.ofNat 1) rfl rfl (by decide) ?_
                refine w_pf rfl rfl rfl sp110 rfl rfl rfl ?_
                refine w_aload_n rfl rfl rfl ?_
                refine w_iload_n rfl rfl rfl ?_
                refine w_cs (q := am_m196) (na := 1) (as := [_]) (st' := [_, _]) rfl rfl rfl rfl (by decide) rfl rfl (Nat.le_of_ble_eq_true rfl) rfl rfl rfl (c_rankC (v := Int32.ofNat 6) (by decide) (by omega)) rfl rfl ?_
                refine w_iconst (x := Int32.ofNat 3) rfl rfl (by decide) ?_
                refine w_ic_geN (t := 249) (f := 245) rfl rfl rfl (by omega) (by omega) (fun c242 => ?_) (fun c242 => absurd c242 (by omega))
                clear c242
                refine w_iconst (x := Int32.ofNat 0) rfl rfl (by decide) ?_
                refine w_pf rfl rfl rfl sp110 rfl rfl rfl ?_
                refine w_aload_n rfl rfl rfl ?_
                refine w_cv (q := am_m174) (as := []) (rest := []) (st' := []) rfl rfl rfl rfl rfl rfl sp110 rfl rfl rfl rfl (c_tok (pv_u (by omega) (by omega) (pv_u (by omega) (by omega) (pv_u (by omega) (by omega) (pv_u (by omega) (by omega) (pv_u (by omega) (by omega) (pv_bi g)))))) (by omega)) rfl rfl ?_
                refine w_iconst (x := Int32.ofNat 1) rfl rfl (by decide) ?_
                exact w_bret rfl (by decide) (by clear s s0 b2 b3 b4; first | contradiction | exact absurd (c6.2.symm.trans c138.2) (by decide) | exact absurd (c6.2.symm.trans c124.2) (by decide) | exact absurd (c6.2.symm.trans c110.2) (by decide) | exact absurd (c6.2.symm.trans c96.2) (by decide) | exact absurd (c6.1.symm.trans c78) (by decide) | exact absurd (c6.1.symm.trans c53.1) (by decide) | exact absurd (c6.1.symm.trans c66.1) (by decide) | (simp +decide only [m_sg, m_sg0, m_sg1, m_sgl, m_sgk, rkv3, rkv4, rkv11, rkv12, rkv13, rkv14, *, ite_true, ite_false, and_self, and_true, true_and, and_false, false_and, or_true, true_or, or_false, false_or, not_true, not_false_iff, eq_self, rk_cmp (v.1 c78).2] <;> rfl) | (simp +decide only [m_sg, m_sg0, m_sg1, m_sgl, m_sgk, rkv3, rkv4, rkv11, rkv12, rkv13, rkv14, *, ite_true, ite_false, and_self, and_true, true_and, and_false, false_and, or_true, true_or, or_false, false_or, not_true, not_false_iff, eq_self] <;> rfl)) (by clear s s0 b2 b3 b4; first | contradiction | exact absurd (c6.2.symm.trans c138.2) (by decide) | exact absurd (c6.2.symm.trans c124.2) (by decide) | exact absurd (c6.2.symm.trans c110.2) (by decide) | exact absurd (c6.2.symm.trans c96.2) (by decide) | exact absurd (c6.1.symm.trans c78) (by decide) | exact absurd (c6.1.symm.trans c53.1) (by decide) | exact absurd (c6.1.symm.trans c66.1) (by decide) | (simp +decide only [m_sg, m_sg0, m_sg1, m_sgl, m_sgk, rkv3, rkv4, rkv11, rkv12, rkv13, rkv14, *, ite_true, ite_false, and_self, and_true, true_and, and_false, false_and, or_true, true_or, or_false, false_or, not_true, not_false_iff, eq_self, rk_cmp (v.1 c78).2] <;> rfl) | (simp +decide only [m_sg, m_sg0, m_sg1, m_sgl, m_sgk, rkv3, rkv4, rkv11, rkv12, rkv13, rkv14, *, ite_true, ite_false, and_self, and_true, true_and, and_false, false_and, or_true, true_or, or_false, false_or, not_true, not_false_iff, eq_self] <;> rfl)) rfl rfl
            · refine w_bipush (x := Int32.ofNat 12) rfl rfl (by decide) ?_
              refine w_goto (pc' := 147) rfl rfl ?_
              refine w_istore_n (L' := [_, _]) rfl rfl rfl ?_
              refine w_iload_n rfl rfl rfl ?_
              refine w_if_ne (t := 158) (f := 152) rfl rfl rfl (fun c149 => ?_) (fun c149 => absurd c149 (by decide))
              clear c149
              refine w_aload_n rfl rfl rfl ?_
              refine w_iload_n rfl rfl rfl ?_
              refine w_cs (q := am_m196) (na := 1) (as := [_]) (st' := [_, _]) rfl rfl rfl rfl (by decide) rfl rfl (Nat.le_of_ble_eq_true rfl) rfl rfl rfl (c_rankC (v := Int32.ofNat 5) (by decide) (by omega)) rfl rfl ?_
              refine w_iconst (x := Int32.ofNat 4) rfl rfl (by decide) ?_
              refine w_ic_neN (t := 171) (f := 167) rfl rfl rfl (by omega) (by omega) (fun c164 => ?_) (fun c164 => absurd c164 (by omega))
              clear c164
              refine w_iload_n rfl rfl rfl ?_
              refine w_cs (q := am_m196) (na := 1) (as := [_]) (st' := [_, _]) rfl rfl rfl rfl (by decide) rfl rfl (Nat.le_of_ble_eq_true rfl) rfl rfl rfl (c_rankC (v := Int32.ofNat 5) (by decide) (by omega)) rfl rfl ?_
              refine w_cv (q := am_m199) (as := [_]) (rest := []) (st' := []) rfl rfl rfl rfl rfl rfl sp110 rfl rfl rfl rfl (c_bind (by decide) (by decide) s0 (by omega)) rfl rfl ?_
              refine w_iload_n rfl rfl rfl ?_
              refine w_cs (q := am_m196) (na := 1) (as := [_]) (st' := [_]) rfl rfl rfl rfl (by decide) rfl rfl (Nat.le_of_ble_eq_true rfl) rfl rfl rfl (c_rankC (v := Int32.ofNat 5) (by decide) (by omega)) rfl rfl ?_
              refine w_iconst (x := Int32.ofNat 4) rfl rfl (by decide) ?_
              refine w_ic_neN (t := 217) (f := 186) rfl rfl rfl (by omega) (by omega) (fun c183 => ?_) (fun c183 => absurd c183 (by omega))
              clear c183
              refine w_aload_n rfl rfl rfl ?_
              refine w_cv (q := am_m200) (as := []) (rest := []) (st' := [_]) rfl rfl rfl rfl rfl rfl sp110 rfl rfl rfl rfl (c_isCounted hC ((m_bi_f (by omega) (by omega) (by omega) W H K I).trans h48) (by omega)) rfl rfl ?_
              refine w_if_ne (t := 226) (f := 224) rfl rfl rfl (fun c221 => ?_) (fun c221 => absurd c221 (by decide))
              clear c221
              refine w_aload_n rfl rfl rfl ?_
              refine w_iload_n rfl rfl rfl ?_
              refine w_cv (q := am_m201) (as := [_]) (rest := []) (st' := []) rfl rfl rfl rfl rfl rfl sp110 rfl rfl rfl rfl (c_waitsFor (Nat.lt_of_le_of_lt (m_biW_le _ _ _) hW) ((am_u_nk (by decide)).trans (bi_ok (by decide) (by decide) W H K I s0).1.1) (by omega)) rfl rfl ?_
              refine w_aload_n rfl rfl rfl ?_
              refine w_iconst (x := Int32.ofNat 1) rfl rfl (by decide) ?_
              refine w_pf rfl rfl rfl sp110 rfl rfl rfl ?_
              refine w_aload_n rfl rfl rfl ?_
              refine w_iload_n rfl rfl rfl ?_
              refine w_cs (q := am_m196) (na := 1) (as := [_]) (st' := [_, _]) rfl rfl rfl rfl (by decide) rfl rfl (Nat.le_of_ble_eq_true rfl) rfl rfl rfl (c_rankC (v := Int32.ofNat 5) (by decide) (by omega)) rfl rfl ?_
              refine w_iconst (x := Int32.ofNat 3) rfl rfl (by decide) ?_
              refine w_ic_geN (t := 249) (f := 245) rfl rfl rfl (by omega) (by omega) (fun c242 => ?_) (fun c242 => absurd c242 (by omega))
              clear c242
              refine w_iconst (x := Int32.ofNat 0) rfl rfl (by decide) ?_
              refine w_pf rfl rfl rfl sp110 rfl rfl rfl ?_
              refine w_aload_n rfl rfl rfl ?_
              refine w_cv (q := am_m174) (as := []) (rest := []) (st' := []) rfl rfl rfl rfl rfl rfl sp110 rfl rfl rfl rfl (c_tok (pv_u (by omega) (by omega) (pv_u (by omega) (by omega) (pv_u (by omega) (by omega) (pv_u (by omega) (by omega) (pv_u (by omega) (by omega) (pv_bi g)))))) (by omega)) rfl rfl ?_
              refine w_iconst (x := Int32.ofNat 1) rfl rfl (by decide) ?_
              exact w_bret rfl (by decide) (by clear s s0 b2 b3 b4; first | contradiction | exact absurd (c6.2.symm.trans c138.2) (by decide) | exact absurd (c6.2.symm.trans c124.2) (by decide) | exact absurd (c6.2.symm.trans c110.2) (by decide) | exact absurd (c6.2.symm.trans c96.2) (by decide) | exact absurd (c6.1.symm.trans c78) (by decide) | exact absurd (c6.1.symm.trans c53.1) (by decide) | exact absurd (c6.1.symm.trans c66.1) (by decide) | (simp +decide only [m_sg, m_sg0, m_sg1, m_sgl, m_sgk, rkv3, rkv4, rkv11, rkv12, rkv13, rkv14, *, ite_true, ite_false, and_self, and_true, true_and, and_false, false_and, or_true, true_or, or_false, false_or, not_true, not_false_iff, eq_self, rk_cmp (v.1 c78).2] <;> rfl) | (simp +decide only [m_sg, m_sg0, m_sg1, m_sgl, m_sgk, rkv3, rkv4, rkv11, rkv12, rkv13, rkv14, *, ite_true, ite_false, and_self, and_true, true_and, and_false, false_and, or_true, true_or, or_false, false_or, not_true, not_false_iff, eq_self] <;> rfl)) (by clear s s0 b2 b3 b4; first | contradiction | exact absurd (c6.2.symm.trans c138.2) (by decide) | exact absurd (c6.2.symm.trans c124.2) (by decide) | exact absurd (c6.2.symm.trans c110.2) (by decide) | exact absurd (c6.2.symm.trans c96.2) (by decide) | exact absurd (c6.1.symm.trans c78) (by decide) | exact absurd (c6.1.symm.trans c53.1) (by decide) | exact absurd (c6.1.symm.trans c66.1) (by decide) | (simp +decide only [m_sg, m_sg0, m_sg1, m_sgl, m_sgk, rkv3, rkv4, rkv11, rkv12, rkv13, rkv14, *, ite_true, ite_false, and_self, and_true, true_and, and_false, false_and, or_true, true_or, or_false, false_or, not_true, not_false_iff, eq_self, rk_cmp (v.1 c78).2] <;> rfl) | (simp +decide only [m_sg, m_sg0, m_sg1, m_sgl, m_sgk, rkv3, rkv4, rkv11, rkv12, rkv13, rkv14, *, ite_true, ite_false, and_self, and_true, true_and, and_false, false_and, or_true, true_or, or_false, false_or, not_true, not_false_iff, eq_self] <;> rfl)) rfl rfl
          · refine w_bipush (x := Int32.ofNat 11) rfl rfl (by decide) ?_
            refine w_goto (pc' := 147) rfl rfl ?_
            refine w_istore_n (L' := [_, _]) rfl rfl rfl ?_
            refine w_iload_n rfl rfl rfl ?_
            refine w_if_ne (t := 158) (f := 152) rfl rfl rfl (fun c149 => ?_) (fun c149 => absurd c149 (by decide))
            clear c149
            refine w_aload_n rfl rfl rfl ?_
            refine w_iload_n rfl rfl rfl ?_
            refine w_cs (q := am_m196) (na := 1) (as := [_]) (st' := [_, _]) rfl rfl rfl rfl (by decide) rfl rfl (Nat.le_of_ble_eq_true rfl) rfl rfl rfl (c_rankC (v := Int32.ofNat 5) (by decide) (by omega)) rfl rfl ?_
            refine w_iconst (x := Int32.ofNat 4) rfl rfl (by decide) ?_
            refine w_ic_neN (t := 171) (f := 167) rfl rfl rfl (by omega) (by omega) (fun c164 => ?_) (fun c164 => absurd c164 (by omega))
            clear c164
            refine w_iload_n rfl rfl rfl ?_
            refine w_cs (q := am_m196) (na := 1) (as := [_]) (st' := [_, _]) rfl rfl rfl rfl (by decide) rfl rfl (Nat.le_of_ble_eq_true rfl) rfl rfl rfl (c_rankC (v := Int32.ofNat 5) (by decide) (by omega)) rfl rfl ?_
            refine w_cv (q := am_m199) (as := [_]) (rest := []) (st' := []) rfl rfl rfl rfl rfl rfl sp110 rfl rfl rfl rfl (c_bind (by decide) (by decide) s0 (by omega)) rfl rfl ?_
            refine w_iload_n rfl rfl rfl ?_
            refine w_cs (q := am_m196) (na := 1) (as := [_]) (st' := [_]) rfl rfl rfl rfl (by decide) rfl rfl (Nat.le_of_ble_eq_true rfl) rfl rfl rfl (c_rankC (v := Int32.ofNat 5) (by decide) (by omega)) rfl rfl ?_
            refine w_iconst (x := Int32.ofNat 4) rfl rfl (by decide) ?_
            refine w_ic_neN (t := 217) (f := 186) rfl rfl rfl (by omega) (by omega) (fun c183 => ?_) (fun c183 => absurd c183 (by omega))
            clear c183
            refine w_aload_n rfl rfl rfl ?_
            refine w_cv (q := am_m200) (as := []) (rest := []) (st' := [_]) rfl rfl rfl rfl rfl rfl sp110 rfl rfl rfl rfl (c_isCounted hC ((m_bi_f (by omega) (by omega) (by omega) W H K I).trans h48) (by omega)) rfl rfl ?_
            refine w_if_ne (t := 226) (f := 224) rfl rfl rfl (fun c221 => ?_) (fun c221 => absurd c221 (by decide))
            clear c221
            refine w_aload_n rfl rfl rfl ?_
            refine w_iload_n rfl rfl rfl ?_
            refine w_cv (q := am_m201) (as := [_]) (rest := []) (st' := []) rfl rfl rfl rfl rfl rfl sp110 rfl rfl rfl rfl (c_waitsFor (Nat.lt_of_le_of_lt (m_biW_le _ _ _) hW) ((am_u_nk (by decide)).trans (bi_ok (by decide) (by decide) W H K I s0).1.1) (by omega)) rfl rfl ?_
            refine w_aload_n rfl rfl rfl ?_
            refine w_iconst (x := Int32.ofNat 1) rfl rfl (by decide) ?_
            refine w_pf rfl rfl rfl sp110 rfl rfl rfl ?_
            refine w_aload_n rfl rfl rfl ?_
            refine w_iload_n rfl rfl rfl ?_
            refine w_cs (q := am_m196) (na := 1) (as := [_]) (st' := [_, _]) rfl rfl rfl rfl (by decide) rfl rfl (Nat.le_of_ble_eq_true rfl) rfl rfl rfl (c_rankC (v := Int32.ofNat 5) (by decide) (by omega)) rfl rfl ?_
            refine w_iconst (x := Int32.ofNat 3) rfl rfl (by decide) ?_
            refine w_ic_geN (t := 249) (f := 245) rfl rfl rfl (by omega) (by omega) (fun c242 => ?_) (fun c242 => absurd c242 (by omega))
            clear c242
            refine w_iconst (x := Int32.ofNat 0) rfl rfl (by decide) ?_
            refine w_pf rfl rfl rfl sp110 rfl rfl rfl ?_
            refine w_aload_n rfl rfl rfl ?_
            refine w_cv (q := am_m174) (as := []) (rest := []) (st' := []) rfl rfl rfl rfl rfl rfl sp110 rfl rfl rfl rfl (c_tok (pv_u (by omega) (by omega) (pv_u (by omega) (by omega) (pv_u (by omega) (by omega) (pv_u (by omega) (by omega) (pv_u (by omega) (by omega) (pv_bi g)))))) (by omega)) rfl rfl ?_
            refine w_iconst (x := Int32.ofNat 1) rfl rfl (by decide) ?_
            exact w_bret rfl (by decide) (by clear s s0 b2 b3 b4; first | contradiction | exact absurd (c6.2.symm.trans c138.2) (by decide) | exact absurd (c6.2.symm.trans c124.2) (by decide) | exact absurd (c6.2.symm.trans c110.2) (by decide) | exact absurd (c6.2.symm.trans c96.2) (by decide) | exact absurd (c6.1.symm.trans c78) (by decide) | exact absurd (c6.1.symm.trans c53.1) (by decide) | exact absurd (c6.1.symm.trans c66.1) (by decide) | (simp +decide only [m_sg, m_sg0, m_sg1, m_sgl, m_sgk, rkv3, rkv4, rkv11, rkv12, rkv13, rkv14, *, ite_true, ite_false, and_self, and_true, true_and, and_false, false_and, or_true, true_or, or_false, false_or, not_true, not_false_iff, eq_self, rk_cmp (v.1 c78).2] <;> rfl) | (simp +decide only [m_sg, m_sg0, m_sg1, m_sgl, m_sgk, rkv3, rkv4, rkv11, rkv12, rkv13, rkv14, *, ite_true, ite_false, and_self, and_true, true_and, and_false, false_and, or_true, true_or, or_false, false_or, not_true, not_false_iff, eq_self] <;> rfl)) (by clear s s0 b2 b3 b4; first | contradiction | exact absurd (c6.2.symm.trans c138.2) (by decide) | exact absurd (c6.2.symm.trans c124.2) (by decide) | exact absurd (c6.2.symm.trans c110.2) (by decide) | exact absurd (c6.2.symm.trans c96.2) (by decide) | exact absurd (c6.1.symm.trans c78) (by decide) | exact absurd (c6.1.symm.trans c53.1) (by decide) | exact absurd (c6.1.symm.trans c66.1) (by decide) | (simp +decide only [m_sg, m_sg0, m_sg1, m_sgl, m_sgk, rkv3, rkv4, rkv11, rkv12, rkv13, rkv14, *, ite_true, ite_false, and_self, and_true, true_and, and_false, false_and, or_true, true_or, or_false, false_or, not_true, not_false_iff, eq_self, rk_cmp (v.1 c78).2] <;> rfl) | (simp +decide only [m_sg, m_sg0, m_sg1, m_sgl, m_sgk, rkv3, rkv4, rkv11, rkv12, rkv13, rkv14, *, ite_true, ite_false, and_self, and_true, true_and, and_false, false_and, or_true, true_or, or_false, false_or, not_true, not_false_iff, eq_self] <;> rfl)) rfl rfl
        · refine w_iconst (x := Int32.ofNat 5) rfl rfl (by decide) ?_
          refine w_aload_n rfl rfl rfl ?_
          refine w_gf (t := .int 0) (v := .int _) rfl rfl rfl sp110 rfl (congrArg Value.int (v.1 c78).1) rfl ?_
          refine w_iaddN rfl rfl ?_
          refine w_goto (pc' := 147) rfl rfl ?_
          refine w_istore_n (L' := [_, _]) rfl rfl rfl ?_
          refine w_iload_n rfl rfl rfl ?_
          refine w_if_ne (t := 158) (f := 152) rfl rfl rfl (fun c149 => ?_) (fun c149 => ?_)
          · refine w_aload_n rfl rfl rfl ?_
            refine w_iload_n rfl rfl rfl ?_
            refine w_cs (q := am_m196) (na := 1) (as := [_]) (st' := [_, _]) rfl rfl rfl rfl (by decide) rfl rfl (Nat.le_of_ble_eq_true rfl) rfl rfl rfl (c_rankC (v := Int32.ofNat 4) (rk_cmp (v.1 c78).2) (by omega)) rfl rfl ?_
            refine w_iconst (x := Int32.ofNat 4) rfl rfl (by decide) ?_
            refine w_ic_neN (t := 171) (f := 167) rfl rfl rfl (by omega) (by omega) (fun c164 => absurd c164 (by omega)) (fun c164 => ?_)
            clear c164
            refine w_iconst (x := Int32.ofNat 5) rfl rfl (by decide) ?_
            refine w_goto (pc' := 175) rfl rfl ?_
            refine w_cv (q := am_m199) (as := [_]) (rest := []) (st' := []) rfl rfl rfl rfl rfl rfl sp110 rfl rfl rfl rfl (c_bind (by decide) (by decide) s0 (by omega)) rfl rfl ?_
            refine w_iload_n rfl rfl rfl ?_
            refine w_cs (q := am_m196) (na := 1) (as := [_]) (st' := [_]) rfl rfl rfl rfl (by decide) rfl rfl (Nat.le_of_ble_eq_true rfl) rfl rfl rfl (c_rankC (v := Int32.ofNat 4) (rk_cmp (v.1 c78).2) (by omega)) rfl rfl ?_
            refine w_iconst (x := Int32.ofNat 4) rfl rfl (by decide) ?_
            refine w_ic_neN (t := 217) (f := 186) rfl rfl rfl (by omega) (by omega) (fun c183 => absurd c183 (by omega)) (fun c183 => ?_)
            clear c183
            refine w_aload_n rfl rfl rfl ?_
            refine w_gf (t := .int 0) (v := .int _) rfl rfl rfl sp110 rfl (congrArg Value.int (bi_ok (by decide) (by decide) W H K I s0).1.1) rfl ?_
            refine w_if_le (t := 217) (f := 193) rfl rfl rfl (fun c190 => ?_) (fun c190 => ?_)
            · refine w_aload_n rfl rfl rfl ?_
              refine w_cv (q := am_m200) (as := []) (rest := []) (st' := [_]) rfl rfl rfl rfl rfl rfl sp110 rfl rfl rfl rfl (c_isCounted hC ((m_bi_f (by omega) (by omega) (by omega) W H K I).trans h48) (by omega)) rfl rfl ?_
              refine w_if_ne (t := 226) (f := 224) rfl rfl rfl (fun c221 => ?_) (fun c221 => absurd c221 (by decide))
              clear c221
              refine w_aload_n rfl rfl rfl ?_
              refine w_iload_n rfl rfl rfl ?_
              refine w_cv (q := am_m201) (as := [_]) (rest := []) (st' := []) rfl rfl rfl rfl rfl rfl sp110 rfl rfl rfl rfl (c_waitsFor (Nat.lt_of_le_of_lt (m_biW_le _ _ _) hW) ((am_u_nk (by decide)).trans (bi_ok (by decide) (by decide) W H K I s0).1.1) (by omega)) rfl rfl ?_
              refine w_aload_n rfl rfl rfl ?_
              refine w_iconst (x := Int32.ofNat 1) rfl rfl (by decide) ?_
              refine w_pf rfl rfl rfl sp110 rfl rfl rfl ?_
              refine w_aload_n rfl rfl rfl ?_
              refine w_iload_n rfl rfl rfl ?_
              refine w_cs (q := am_m196) (na := 1) (as := [_]) (st' := [_, _]) rfl rfl rfl rfl (by decide) rfl rfl (Nat.le_of_ble_eq_true rfl) rfl rfl rfl (c_rankC (v := Int32.ofNat 4) (rk_cmp (v.1 c78).2) (by omega)) rfl rfl ?_
              refine w_iconst (x := Int32.ofNat 3) rfl rfl (by decide) ?_
              refine w_ic_geN (t := 249) (f := 245) rfl rfl rfl (by omega) (by omega) (fun c242 => ?_) (fun c242 => absurd c242 (by omega))
              clear c242
              refine w_iconst (x := Int32.ofNat 0) rfl rfl (by decide) ?_
              refine w_pf rfl rfl rfl sp110 rfl rfl rfl ?_
              refine w_aload_n rfl rfl rfl ?_
              refine w_cv (q := am_m174) (as := []) (rest := []) (st' := []) rfl rfl rfl rfl rfl rfl sp110 rfl rfl rfl rfl (c_tok (pv_u (by omega) (by omega) (pv_u (by omega) (by omega) (pv_u (by omega) (by omega) (pv_u (by omega) (by omega) (pv_u (by omega) (by omega) (pv_bi g)))))) (by omega)) rfl rfl ?_
              refine w_iconst (x := Int32.ofNat 1) rfl rfl (by decide) ?_
              exact w_bret rfl (by decide) (by clear s s0 b2 b3 b4; first | contradiction | exact absurd (c6.2.symm.trans c138.2) (by decide) | exact absurd (c6.2.symm.trans c124.2) (by decide) | exact absurd (c6.2.symm.trans c110.2) (by decide) | exact absurd (c6.2.symm.trans c96.2) (by decide) | exact absurd (c6.1.symm.trans c78) (by decide) | exact absurd (c6.1.symm.trans c53.1) (by decide) | exact absurd (c6.1.symm.trans c66.1) (by decide) | (simp +decide only [m_sg, m_sg0, m_sg1, m_sgl, m_sgk, rkv3, rkv4, rkv11, rkv12, rkv13, rkv14, *, ite_true, ite_false, and_self, and_true, true_and, and_false, false_and, or_true, true_or, or_false, false_or, not_true, not_false_iff, eq_self, rk_cmp (v.1 c78).2] <;> rfl) | (simp +decide only [m_sg, m_sg0, m_sg1, m_sgl, m_sgk, rkv3, rkv4, rkv11, rkv12, rkv13, rkv14, *, ite_true, ite_false, and_self, and_true, true_and, and_false, false_and, or_true, true_or, or_false, false_or, not_true, not_false_iff, eq_self] <;> rfl)) (by clear s s0 b2 b3 b4; first | contradiction | exact absurd (c6.2.symm.trans c138.2) (by decide) | exact absurd (c6.2.symm.trans c124.2) (by decide) | exact absurd (c6.2.symm.trans c110.2) (by decide) | exact absurd (c6.2.symm.trans c96.2) (by decide) | exact absurd (c6.1.symm.trans c78) (by decide) | exact absurd (c6.1.symm.trans c53.1) (by decide) | exact absurd (c6.1.symm.trans c66.1) (by decide) | (simp +decide only [m_sg, m_sg0, m_sg1, m_sgl, m_sgk, rkv3, rkv4, rkv11, rkv12, rkv13, rkv14, *, ite_true, ite_false, and_self, and_true, true_and, and_false, false_and, or_true, true_or, or_false, false_or, not_true, not_false_iff, eq_self, rk_cmp (v.1 c78).2] <;> rfl) | (simp +decide only [m_sg, m_sg0, m_sg1, m_sgl, m_sgk, rkv3, rkv4, rkv11, rkv12, rkv13, rkv14, *, ite_true, ite_false, and_self, and_true, true_and, and_false, false_and, or_true, true_or, or_false, false_or, not_true, not_false_iff, eq_self] <;> rfl)) rfl rfl
            · refine w_aload_n rfl rfl rfl ?_
              refine w_gf (t := .ref (134)) (v := .ref (134)) rfl rfl rfl sp110 rfl rfl rfl ?_
              refine w_aload_n rfl rfl rfl ?_
              refine w_gf (t := .int 0) (v := .int _) rfl rfl rfl sp110 rfl (congrArg Value.int (bi_ok (by decide) (by decide) W H K I s0).1.1) rfl ?_
              refine w_iconst (x := Int32.ofNat 1) rfl rfl (by decide) ?_
              refine w_isubN rfl rfl (am_pos (Nat.lt_of_le_of_lt (m_biW_le _ _ _) hW) c190) ?_
              refine w_iaload rfl rfl sp134 rfl ⟨(Nat.lt_of_le_of_lt (Nat.sub_le _ _) (Nat.lt_of_le_of_lt (m_biW_le _ _ _) hW)), by omega⟩ rfl ?_
              refine w_cs (q := am_m196) (na := 1) (as := [_]) (st' := [_]) rfl rfl rfl rfl (by decide) rfl rfl (Nat.le_of_ble_eq_true rfl) rfl rfl rfl (c_rank (by omega)) rfl rfl ?_
              refine w_iconst (x := Int32.ofNat 4) rfl rfl (by decide) ?_
              refine w_ic_ne (t := 217) (f := 211) rfl rfl rfl (fun c208 => ?_) (fun c208 => ?_)
              · refine w_aload_n rfl rfl rfl ?_
                refine w_cv (q := am_m200) (as := []) (rest := []) (st' := [_]) rfl rfl rfl rfl rfl rfl sp110 rfl rfl rfl rfl (c_isCounted hC ((m_bi_f (by omega) (by omega) (by omega) W H K I).trans h48) (by omega)) rfl rfl ?_
                refine w_if_ne (t := 226) (f := 224) rfl rfl rfl (fun c221 => ?_) (fun c221 => absurd c221 (by decide))
                clear c221
                refine w_aload_n rfl rfl rfl ?_
                refine w_iload_n rfl rfl rfl ?_
                refine w_cv (q := am_m201) (as := [_]) (rest := []) (st' := []) rfl rfl rfl rfl rfl rfl sp110 rfl rfl rfl rfl (c_waitsFor (Nat.lt_of_le_of_lt (m_biW_le _ _ _) hW) ((am_u_nk (by decide)).trans (bi_ok (by decide) (by decide) W H K I s0).1.1) (by omega)) rfl rfl ?_
                refine w_aload_n rfl rfl rfl ?_
                refine w_iconst (x := Int32.ofNat 1) rfl rfl (by decide) ?_
                refine w_pf rfl rfl rfl sp110 rfl rfl rfl ?_
                refine w_aload_n rfl rfl rfl ?_
                refine w_iload_n rfl rfl rfl ?_
                refine w_cs (q := am_m196) (na := 1) (as := [_]) (st' := [_, _]) rfl rfl rfl rfl (by decide) rfl rfl (Nat.le_of_ble_eq_true rfl) rfl rfl rfl (c_rankC (v := Int32.ofNat 4) (rk_cmp (v.1 c78).2) (by omega)) rfl rfl ?_
                refine w_iconst (x := Int32.ofNat 3) rfl rfl (by decide) ?_
                refine w_ic_geN (t := 249) (f := 245) rfl rfl rfl (by omega) (by omega) (fun c242 => ?_) (fun c242 => absurd c242 (by omega))
                clear c242
                refine w_iconst (x := Int32.ofNat 0) rfl rfl (by decide) ?_
                refine w_pf rfl rfl rfl sp110 rfl rfl rfl ?_
                refine w_aload_n rfl rfl rfl ?_
                refine w_cv (q := am_m174) (as := []) (rest := []) (st' := []) rfl rfl rfl rfl rfl rfl sp110 rfl rfl rfl rfl (c_tok (pv_u (by omega) (by omega) (pv_u (by omega) (by omega) (pv_u (by omega) (by omega) (pv_u (by omega) (by omega) (pv_u (by omega) (by omega) (pv_bi g)))))) (by omega)) rfl rfl ?_
                refine w_iconst (x := Int32.ofNat 1) rfl rfl (by decide) ?_
                exact w_bret rfl (by decide) (by clear s s0 b2 b3 b4; first | contradiction | exact absurd (c6.2.symm.trans c138.2) (by decide) | exact absurd (c6.2.symm.trans c124.2) (by decide) | exact absurd (c6.2.symm.trans c110.2) (by decide) | exact absurd (c6.2.symm.trans c96.2) (by decide) | exact absurd (c6.1.symm.trans c78) (by decide) | exact absurd (c6.1.symm.trans c53.1) (by decide) | exact absurd (c6.1.symm.trans c66.1) (by decide) | (simp +decide only [m_sg, m_sg0, m_sg1, m_sgl, m_sgk, rkv3, rkv4, rkv11, rkv12, rkv13, rkv14, *, ite_true, ite_false, and_self, and_true, true_and, and_false, false_and, or_true, true_or, or_false, false_or, not_true, not_false_iff, eq_self, rk_cmp (v.1 c78).2] <;> rfl) | (simp +decide only [m_sg, m_sg0, m_sg1, m_sgl, m_sgk, rkv3, rkv4, rkv11, rkv12, rkv13, rkv14, *, ite_true, ite_false, and_self, and_true, true_and, and_false, false_and, or_true, true_or, or_false, false_or, not_true, not_false_iff, eq_self] <;> rfl)) (by clear s s0 b2 b3 b4; first | contradiction | exact absurd (c6.2.symm.trans c138.2) (by decide) | exact absurd (c6.2.symm.trans c124.2) (by decide) | exact absurd (c6.2.symm.trans c110.2) (by decide) | exact absurd (c6.2.symm.trans c96.2) (by decide) | exact absurd (c6.1.symm.trans c78) (by decide) | exact absurd (c6.1.symm.trans c53.1) (by decide) | exact absurd (c6.1.symm.trans c66.1) (by decide) | (simp +decide only [m_sg, m_sg0, m_sg1, m_sgl, m_sgk, rkv3, rkv4, rkv11, rkv12, rkv13, rkv14, *, ite_true, ite_false, and_self, and_true, true_and, and_false, false_and, or_true, true_or, or_false, false_or, not_true, not_false_iff, eq_self, rk_cmp (v.1 c78).2] <;> rfl) | (simp +decide only [m_sg, m_sg0, m_sg1, m_sgl, m_sgk, rkv3, rkv4, rkv11, rkv12, rkv13, rkv14, *, ite_true, ite_false, and_self, and_true, true_and, and_false, false_and, or_true, true_or, or_false, false_or, not_true, not_false_iff, eq_self] <;> rfl)) rfl rfl
              · refine w_aload_n rfl rfl rfl ?_
                refine w_iconst (x := Int32.ofNat 1) rfl rfl (by decide) ?_
                refine w_cv (q := am_m170) (as := [_]) (rest := []) (st' := [_]) rfl rfl rfl rfl rfl rfl sp110 rfl rfl rfl rfl (c_wrong (by omega)) rfl rfl ?_
                exact w_bret rfl (by decide) (by clear s s0 b2 b3 b4; first | contradiction | exact absurd (c6.2.symm.trans c138.2) (by decide) | exact absurd (c6.2.symm.trans c124.2) (by decide) | exact absurd (c6.2.symm.trans c110.2) (by decide) | exact absurd (c6.2.symm.trans c96.2) (by decide) | exact absurd (c6.1.symm.trans c78) (by decide) | exact absurd (c6.1.symm.trans c53.1) (by decide) | exact absurd (c6.1.symm.trans c66.1) (by decide) | (simp +decide only [m_sg, m_sg0, m_sg1, m_sgl, m_sgk, rkv3, rkv4, rkv11, rkv12, rkv13, rkv14, *, ite_true, ite_false, and_self, and_true, true_and, and_false, false_and, or_true, true_or, or_false, false_or, not_true, not_false_iff, eq_self, rk_cmp (v.1 c78).2] <;> rfl) | (simp +decide only [m_sg, m_sg0, m_sg1, m_sgl, m_sgk, rkv3, rkv4, rkv11, rkv12, rkv13, rkv14, *, ite_true, ite_false, and_self, and_true, true_and, and_false, false_and, or_true, true_or, or_false, false_or, not_true, not_false_iff, eq_self] <;> rfl)) (by clear s s0 b2 b3 b4; first | contradiction | exact absurd (c6.2.symm.trans c138.2) (by decide) | exact absurd (c6.2.symm.trans c124.2) (by decide) | exact absurd (c6.2.symm.trans c110.2) (by decide) | exact absurd (c6.2.symm.trans c96.2) (by decide) | exact absurd (c6.1.symm.trans c78) (by decide) | exact absurd (c6.1.symm.trans c53.1) (by decide) | exact absurd (c6.1.symm.trans c66.1) (by decide) | (simp +decide only [m_sg, m_sg0, m_sg1, m_sgl, m_sgk, rkv3, rkv4, rkv11, rkv12, rkv13, rkv14, *, ite_true, ite_false, and_self, and_true, true_and, and_false, false_and, or_true, true_or, or_false, false_or, not_true, not_false_iff, eq_self, rk_cmp (v.1 c78).2] <;> rfl) | (simp +decide only [m_sg, m_sg0, m_sg1, m_sgl, m_sgk, rkv3, rkv4, rkv11, rkv12, rkv13, rkv14, *, ite_true, ite_false, and_self, and_true, true_and, and_false, false_and, or_true, true_or, or_false, false_or, not_true, not_false_iff, eq_self] <;> rfl)) rfl rfl
          · refine w_aload_n rfl rfl rfl ?_
            refine w_iconst (x := Int32.ofNat 1) rfl rfl (by decide) ?_
            refine w_cv (q := am_m170) (as := [_]) (rest := []) (st' := [_]) rfl rfl rfl rfl rfl rfl sp110 rfl rfl rfl rfl (c_wrong (by omega)) rfl rfl ?_
            exact w_bret rfl (by decide) (by clear s s0 b2 b3 b4; first | contradiction | exact absurd (c6.2.symm.trans c138.2) (by decide) | exact absurd (c6.2.symm.trans c124.2) (by decide) | exact absurd (c6.2.symm.trans c110.2) (by decide) | exact absurd (c6.2.symm.trans c96.2) (by decide) | exact absurd (c6.1.symm.trans c78) (by decide) | exact absurd (c6.1.symm.trans c53.1) (by decide) | exact absurd (c6.1.symm.trans c66.1) (by decide) | (simp +decide only [m_sg, m_sg0, m_sg1, m_sgl, m_sgk, rkv3, rkv4, rkv11, rkv12, rkv13, rkv14, *, ite_true, ite_false, and_self, and_true, true_and, and_false, false_and, or_true, true_or, or_false, false_or, not_true, not_false_iff, eq_self, rk_cmp (v.1 c78).2] <;> rfl) | (simp +decide only [m_sg, m_sg0, m_sg1, m_sgl, m_sgk, rkv3, rkv4, rkv11, rkv12, rkv13, rkv14, *, ite_true, ite_false, and_self, and_true, true_and, and_false, false_and, or_true, true_or, or_false, false_or, not_true, not_false_iff, eq_self] <;> rfl)) (by clear s s0 b2 b3 b4; first | contradiction | exact absurd (c6.2.symm.trans c138.2) (by decide) | exact absurd (c6.2.symm.trans c124.2) (by decide) | exact absurd (c6.2.symm.trans c110.2) (by decide) | exact absurd (c6.2.symm.trans c96.2) (by decide) | exact absurd (c6.1.symm.trans c78) (by decide) | exact absurd (c6.1.symm.trans c53.1) (by decide) | exact absurd (c6.1.symm.trans c66.1) (by decide) | (simp +decide only [m_sg, m_sg0, m_sg1, m_sgl, m_sgk, rkv3, rkv4, rkv11, rkv12, rkv13, rkv14, *, ite_true, ite_false, and_self, and_true, true_and, and_false, false_and, or_true, true_or, or_false, false_or, not_true, not_false_iff, eq_self, rk_cmp (v.1 c78).2] <;> rfl) | (simp +decide only [m_sg, m_sg0, m_sg1, m_sgl, m_sgk, rkv3, rkv4, rkv11, rkv12, rkv13, rkv14, *, ite_true, ite_false, and_self, and_true, true_and, and_false, false_and, or_true, true_or, or_false, false_or, not_true, not_false_iff, eq_self] <;> rfl)) rfl rfl
      · refine w_iconst (x := Int32.ofNat 4) rfl rfl (by decide) ?_
        refine w_goto (pc' := 147) rfl rfl ?_
        refine w_istore_n (L' := [_, _]) rfl rfl rfl ?_
        refine w_iload_n rfl rfl rfl ?_
        refine w_if_ne (t := 158) (f := 152) rfl rfl rfl (fun c149 => ?_) (fun c149 => absurd c149 (by decide))
        clear c149
        refine w_aload_n rfl rfl rfl ?_
        refine w_iload_n rfl rfl rfl ?_
        refine w_cs (q := am_m196) (na := 1) (as := [_]) (st' := [_, _]) rfl rfl rfl rfl (by decide) rfl rfl (Nat.le_of_ble_eq_true rfl) rfl rfl rfl (c_rankC (v := Int32.ofNat 1) (by decide) (by omega)) rfl rfl ?_
        refine w_iconst (x := Int32.ofNat 4) rfl rfl (by decide) ?_
        refine w_ic_neN (t := 171) (f := 167) rfl rfl rfl (by omega) (by omega) (fun c164 => ?_) (fun c164 => absurd c164 (by omega))
        clear c164
        refine w_iload_n rfl rfl rfl ?_
        refine w_cs (q := am_m196) (na := 1) (as := [_]) (st' := [_, _]) rfl rfl rfl rfl (by decide) rfl rfl (Nat.le_of_ble_eq_true rfl) rfl rfl rfl (c_rankC (v := Int32.ofNat 1) (by decide) (by omega)) rfl rfl ?_
        refine w_cv (q := am_m199) (as := [_]) (rest := []) (st' := []) rfl rfl rfl rfl rfl rfl sp110 rfl rfl rfl rfl (c_bind (by decide) (by decide) s0 (by omega)) rfl rfl ?_
        refine w_iload_n rfl rfl rfl ?_
        refine w_cs (q := am_m196) (na := 1) (as := [_]) (st' := [_]) rfl rfl rfl rfl (by decide) rfl rfl (Nat.le_of_ble_eq_true rfl) rfl rfl rfl (c_rankC (v := Int32.ofNat 1) (by decide) (by omega)) rfl rfl ?_
        refine w_iconst (x := Int32.ofNat 4) rfl rfl (by decide) ?_
        refine w_ic_neN (t := 217) (f := 186) rfl rfl rfl (by omega) (by omega) (fun c183 => ?_) (fun c183 => absurd c183 (by omega))
        clear c183
        refine w_aload_n rfl rfl rfl ?_
        refine w_cv (q := am_m200) (as := []) (rest := []) (st' := [_]) rfl rfl rfl rfl rfl rfl sp110 rfl rfl rfl rfl (c_isCounted hC ((m_bi_f (by omega) (by omega) (by omega) W H K I).trans h48) (by omega)) rfl rfl ?_
        refine w_if_ne (t := 226) (f := 224) rfl rfl rfl (fun c221 => ?_) (fun c221 => absurd c221 (by decide))
        clear c221
        refine w_aload_n rfl rfl rfl ?_
        refine w_iload_n rfl rfl rfl ?_
        refine w_cv (q := am_m201) (as := [_]) (rest := []) (st' := []) rfl rfl rfl rfl rfl rfl sp110 rfl rfl rfl rfl (c_waitsFor (Nat.lt_of_le_of_lt (m_biW_le _ _ _) hW) ((am_u_nk (by decide)).trans (bi_ok (by decide) (by decide) W H K I s0).1.1) (by omega)) rfl rfl ?_
        refine w_aload_n rfl rfl rfl ?_
        refine w_iconst (x := Int32.ofNat 1) rfl rfl (by decide) ?_
        refine w_pf rfl rfl rfl sp110 rfl rfl rfl ?_
        refine w_aload_n rfl rfl rfl ?_
        refine w_iload_n rfl rfl rfl ?_
        refine w_cs (q := am_m196) (na := 1) (as := [_]) (st' := [_, _]) rfl rfl rfl rfl (by decide) rfl rfl (Nat.le_of_ble_eq_true rfl) rfl rfl rfl (c_rankC (v := Int32.ofNat 1) (by decide) (by omega)) rfl rfl ?_
        refine w_iconst (x := Int32.ofNat 3) rfl rfl (by decide) ?_
        refine w_ic_geN (t := 249) (f := 245) rfl rfl rfl (by omega) (by omega) (fun c242 => absurd c242 (by omega)) (fun c242 => ?_)
        clear c242
        refine w_iconst (x := Int32.ofNat 1) rfl rfl (by decide) ?_
        refine w_goto (pc' := 250) rfl rfl ?_
        refine w_pf rfl rfl rfl sp110 rfl rfl rfl ?_
        refine w_aload_n rfl rfl rfl ?_
        refine w_cv (q := am_m174) (as := []) (rest := []) (st' := []) rfl rfl rfl rfl rfl rfl sp110 rfl rfl rfl rfl (c_tok (pv_u (by omega) (by omega) (pv_u (by omega) (by omega) (pv_u (by omega) (by omega) (pv_u (by omega) (by omega) (pv_u (by omega) (by omega) (pv_bi g)))))) (by omega)) rfl rfl ?_
        refine w_iconst (x := Int32.ofNat 1) rfl rfl (by decide) ?_
        exact w_bret rfl (by decide) (by clear s s0 b2 b3 b4; first | contradiction | exact absurd (c6.2.symm.trans c138.2) (by decide) | exact absurd (c6.2.symm.trans c124.2) (by decide) | exact absurd (c6.2.symm.trans c110.2) (by decide) | exact absurd (c6.2.symm.trans c96.2) (by decide) | exact absurd (c6.1.symm.trans c78) (by decide) | exact absurd (c6.1.symm.trans c53.1) (by decide) | exact absurd (c6.1.symm.trans c66.1) (by decide) | (simp +decide only [m_sg, m_sg0, m_sg1, m_sgl, m_sgk, rkv3, rkv4, rkv11, rkv12, rkv13, rkv14, *, ite_true, ite_false, and_self, and_true, true_and, and_false, false_and, or_true, true_or, or_false, false_or, not_true, not_false_iff, eq_self, rk_cmp (v.1 c78).2] <;> rfl) | (simp +decide only [m_sg, m_sg0, m_sg1, m_sgl, m_sgk, rkv3, rkv4, rkv11, rkv12, rkv13, rkv14, *, ite_true, ite_false, and_self, and_true, true_and, and_false, false_and, or_true, true_or, or_false, false_or, not_true, not_false_iff, eq_self] <;> rfl)) (by clear s s0 b2 b3 b4; first | contradiction | exact absurd (c6.2.symm.trans c138.2) (by decide) | exact absurd (c6.2.symm.trans c124.2) (by decide) | exact absurd (c6.2.symm.trans c110.2) (by decide) | exact absurd (c6.2.symm.trans c96.2) (by decide) | exact absurd (c6.1.symm.trans c78) (by decide) | exact absurd (c6.1.symm.trans c53.1) (by decide) | exact absurd (c6.1.symm.trans c66.1) (by decide) | (simp +decide only [m_sg, m_sg0, m_sg1, m_sgl, m_sgk, rkv3, rkv4, rkv11, rkv12, rkv13, rkv14, *, ite_true, ite_false, and_self, and_true, true_and, and_false, false_and, or_true, true_or, or_false, false_or, not_true, not_false_iff, eq_self, rk_cmp (v.1 c78).2] <;> rfl) | (simp +decide only [m_sg, m_sg0, m_sg1, m_sgl, m_sgk, rkv3, rkv4, rkv11, rkv12, rkv13, rkv14, *, ite_true, ite_false, and_self, and_true, true_and, and_false, false_and, or_true, true_or, or_false, false_or, not_true, not_false_iff, eq_self] <;> rfl)) rfl rfl
    · refine w_iconst (x := Int32.ofNat 3) rfl rfl (by decide) ?_
      refine w_goto (pc' := 147) rfl rfl ?_
      refine w_istore_n (L' := [_, _]) rfl rfl rfl ?_
      refine w_iload_n rfl rfl rfl ?_
      refine w_if_ne (t := 158) (f := 152) rfl rfl rfl (fun c149 => ?_) (fun c149 => absurd c149 (by decide))
      clear c149
      refine w_aload_n rfl rfl rfl ?_
      refine w_iload_n rfl rfl rfl ?_
      refine w_cs (q := am_m196) (na := 1) (as := [_]) (st' := [_, _]) rfl rfl rfl rfl (by decide) rfl rfl (Nat.le_of_ble_eq_true rfl) rfl rfl rfl (c_rankC (v := Int32.ofNat 2) (by decide) (by omega)) rfl rfl ?_
      refine w_iconst (x := Int32.ofNat 4) rfl rfl (by decide) ?_
      refine w_ic_neN (t := 171) (f := 167) rfl rfl rfl (by omega) (by omega) (fun c164 => ?_) (fun c164 => absurd c164 (by omega))
      clear c164
      refine w_iload_n rfl rfl rfl ?_
      refine w_cs (q := am_m196) (na := 1) (as := [_]) (st' := [_, _]) rfl rfl rfl rfl (by decide) rfl rfl (Nat.le_of_ble_eq_true rfl) rfl rfl rfl (c_rankC (v := Int32.ofNat 2) (by decide) (by omega)) rfl rfl ?_
      refine w_cv (q := am_m199) (as := [_]) (rest := []) (st' := []) rfl rfl rfl rfl rfl rfl sp110 rfl rfl rfl rfl (c_bind (by decide) (by decide) s0 (by omega)) rfl rfl ?_
      refine w_iload_n rfl rfl rfl ?_
      refine w_cs (q := am_m196) (na := 1) (as := [_]) (st' := [_]) rfl rfl rfl rfl (by decide) rfl rfl (Nat.le_of_ble_eq_true rfl) rfl rfl rfl (c_rankC (v := Int32.ofNat 2) (by decide) (by omega)) rfl rfl ?_
      refine w_iconst (x := Int32.ofNat 4) rfl rfl (by decide) ?_
      refine w_ic_neN (t := 217) (f := 186) rfl rfl rfl (by omega) (by omega) (fun c183 => ?_) (fun c183 => absurd c183 (by omega))
      clear c183
      refine w_aload_n rfl rfl rfl ?_
      refine w_cv (q := am_m200) (as := []) (rest := []) (st' := [_]) rfl rfl rfl rfl rfl rfl sp110 rfl rfl rfl rfl (c_isCounted hC ((m_bi_f (by omega) (by omega) (by omega) W H K I).trans h48) (by omega)) rfl rfl ?_
      refine w_if_ne (t := 226) (f := 224) rfl rfl rfl (fun c221 => ?_) (fun c221 => absurd c221 (by decide))
      clear c221
      refine w_aload_n rfl rfl rfl ?_
      refine w_iload_n rfl rfl rfl ?_
      refine w_cv (q := am_m201) (as := [_]) (rest := []) (st' := []) rfl rfl rfl rfl rfl rfl sp110 rfl rfl rfl rfl (c_waitsFor (Nat.lt_of_le_of_lt (m_biW_le _ _ _) hW) ((am_u_nk (by decide)).trans (bi_ok (by decide) (by decide) W H K I s0).1.1) (by omega)) rfl rfl ?_
      refine w_aload_n rfl rfl rfl ?_
      refine w_iconst (x := Int32.ofNat 1) rfl rfl (by decide) ?_
      refine w_pf rfl rfl rfl sp110 rfl rfl rfl ?_
      refine w_aload_n rfl rfl rfl ?_
      refine w_iload_n rfl rfl rfl ?_
      refine w_cs (q := am_m196) (na := 1) (as := [_]) (st' := [_, _]) rfl rfl rfl rfl (by decide) rfl rfl (Nat.le_of_ble_eq_true rfl) rfl rfl rfl (c_rankC (v := Int32.ofNat 2) (by decide) (by omega)) rfl rfl ?_
      refine w_iconst (x := Int32.ofNat 3) rfl rfl (by decide) ?_
      refine w_ic_geN (t := 249) (f := 245) rfl rfl rfl (by omega) (by omega) (fun c242 => absurd c242 (by omega)) (fun c242 => ?_)
      clear c242
      refine w_iconst (x := Int32.ofNat 1) rfl rfl (by decide) ?_
      refine w_goto (pc' := 250) rfl rfl ?_
      refine w_pf rfl rfl rfl sp110 rfl rfl rfl ?_
      refine w_aload_n rfl rfl rfl ?_
      refine w_cv (q := am_m174) (as := []) (rest := []) (st' := []) rfl rfl rfl rfl rfl rfl sp110 rfl rfl rfl rfl (c_tok (pv_u (by omega) (by omega) (pv_u (by omega) (by omega) (pv_u (by omega) (by omega) (pv_u (by omega) (by omega) (pv_u (by omega) (by omega) (pv_bi g)))))) (by omega)) rfl rfl ?_
      refine w_iconst (x := Int32.ofNat 1) rfl rfl (by decide) ?_
      exact w_bret rfl (by decide) (by clear s s0 b2 b3 b4; first | contradiction | exact absurd (c6.2.symm.trans c138.2) (by decide) | exact absurd (c6.2.symm.trans c124.2) (by decide) | exact absurd (c6.2.symm.trans c110.2) (by decide) | exact absurd (c6.2.symm.trans c96.2) (by decide) | exact absurd (c6.1.symm.trans c78) (by decide) | exact absurd (c6.1.symm.trans c53.1) (by decide) | exact absurd (c6.1.symm.trans c66.1) (by decide) | (simp +decide only [m_sg, m_sg0, m_sg1, m_sgl, m_sgk, rkv3, rkv4, rkv11, rkv12, rkv13, rkv14, *, ite_true, ite_false, and_self, and_true, true_and, and_false, false_and, or_true, true_or, or_false, false_or, not_true, not_false_iff, eq_self, rk_cmp (v.1 c78).2] <;> rfl) | (simp +decide only [m_sg, m_sg0, m_sg1, m_sgl, m_sgk, rkv3, rkv4, rkv11, rkv12, rkv13, rkv14, *, ite_true, ite_false, and_self, and_true, true_and, and_false, false_and, or_true, true_or, or_false, false_or, not_true, not_false_iff, eq_self] <;> rfl)) (by clear s s0 b2 b3 b4; first | contradiction | exact absurd (c6.2.symm.trans c138.2) (by decide) | exact absurd (c6.2.symm.trans c124.2) (by decide) | exact absurd (c6.2.symm.trans c110.2) (by decide) | exact absurd (c6.2.symm.trans c96.2) (by decide) | exact absurd (c6.1.symm.trans c78) (by decide) | exact absurd (c6.1.symm.trans c53.1) (by decide) | exact absurd (c6.1.symm.trans c66.1) (by decide) | (simp +decide only [m_sg, m_sg0, m_sg1, m_sgl, m_sgk, rkv3, rkv4, rkv11, rkv12, rkv13, rkv14, *, ite_true, ite_false, and_self, and_true, true_and, and_false, false_and, or_true, true_or, or_false, false_or, not_true, not_false_iff, eq_self, rk_cmp (v.1 c78).2] <;> rfl) | (simp +decide only [m_sg, m_sg0, m_sg1, m_sgl, m_sgk, rkv3, rkv4, rkv11, rkv12, rkv13, rkv14, *, ite_true, ite_false, and_self, and_true, true_and, and_false, false_and, or_true, true_or, or_false, false_or, not_true, not_false_iff, eq_self] <;> rfl)) rfl rfl
  · refine w_aload_n rfl rfl rfl ?_
    refine w_gf (t := .int 0) (v := .int _) rfl rfl rfl sp110 rfl (congrArg Value.int h47) rfl ?_
    refine w_if_le (t := 47) (f := 16) rfl rfl rfl (fun c13 => ?_) (fun c13 => ?_)
    · refine w_aload_n rfl rfl rfl ?_
      refine w_bipush (x := Int32.ofNat 11) rfl rfl (by decide) ?_
      refine w_cv (q := am_m177) (as := [_]) (rest := []) (st' := [_]) rfl rfl rfl rfl rfl rfl sp110 rfl rfl rfl rfl (c_isKey (by omega)) rfl rfl ?_
      refine w_if_eqB (t := 60) (f := 56) rfl rfl rfl (fun c53 => ?_) (fun c53 => ?_)
      · refine w_aload_n rfl rfl rfl ?_
        refine w_bipush (x := Int32.ofNat 12) rfl rfl (by decide) ?_
        refine w_cv (q := am_m177) (as := [_]) (rest := []) (st' := [_]) rfl rfl rfl rfl rfl rfl sp110 rfl rfl rfl rfl (c_isKey (by omega)) rfl rfl ?_
        refine w_if_eqB (t := 73) (f := 69) rfl rfl rfl (fun c66 => ?_) (fun c66 => ?_)
        · refine w_aload_n rfl rfl rfl ?_
          refine w_gf (t := .int 0) (v := .int _) rfl rfl rfl sp110 rfl (congrArg Value.int rfl) rfl ?_
          refine w_iconst (x := Int32.ofNat 5) rfl rfl (by decide) ?_
          refine w_ic_ne (t := 90) (f := 81) rfl rfl rfl (fun c78 => ?_) (fun c78 => ?_)
          · refine w_aload_n rfl rfl rfl ?_
            refine w_bipush (x := Int32.ofNat 43) rfl rfl (by decide) ?_
            refine w_cv (q := am_m178) (as := [_]) (rest := []) (st' := [_]) rfl rfl rfl rfl rfl rfl sp110 rfl rfl rfl rfl (c_isSign (by omega)) rfl rfl ?_
            refine w_if_eqB (t := 104) (f := 99) rfl rfl rfl (fun c96 => ?_) (fun c96 => ?_)
            · refine w_aload_n rfl rfl rfl ?_
              refine w_bipush (x := Int32.ofNat 45) rfl rfl (by decide) ?_
              refine w_cv (q := am_m178) (as := [_]) (rest := []) (st' := [_]) rfl rfl rfl rfl rfl rfl sp110 rfl rfl rfl rfl (c_isSign (by omega)) rfl rfl ?_
              refine w_if_eqB (t := 118) (f := 113) rfl rfl rfl (fun c110 => ?_) (fun c110 => ?_)
              · refine w_aload_n rfl rfl rfl ?_
                refine w_bipush (x := Int32.ofNat 42) rfl rfl (by decide) ?_
                refine w_cv (q := am_m178) (as := [_]) (rest := []) (st' := [_]) rfl rfl rfl rfl rfl rfl sp110 rfl rfl rfl rfl (c_isSign (by omega)) rfl rfl ?_
                refine w_if_eqB (t := 132) (f := 127) rfl rfl rfl (fun c124 => ?_) (fun c124 => ?_)
                · refine w_aload_n rfl rfl rfl ?_
                  refine w_bipush (x := Int32.ofNat 47) rfl rfl (by decide) ?_
                  refine w_cv (q := am_m178) (as := [_]) (rest := []) (st' := [_]) rfl rfl rfl rfl rfl rfl sp110 rfl rfl rfl rfl (c_isSign (by omega)) rfl rfl ?_
                  refine w_if_eqB (t := 146) (f := 141) rfl rfl rfl (fun c138 => ?_) (fun c138 => ?_)
                  · refine w_iconst (x := Int32.ofNat 0) rfl rfl (by decide) ?_
                    refine w_istore_n (L' := [_, _]) rfl rfl rfl ?_
                    refine w_iload_n rfl rfl rfl ?_
                    refine w_if_ne (t := 158) (f := 152) rfl rfl rfl (fun c149 => absurd c149 (by decide)) (fun c149 => ?_)
                    clear c149
                    refine w_aload_n rfl rfl rfl ?_
                    refine w_iconst (x := Int32.ofNat 1) rfl rfl (by decide) ?_
                    refine w_cv (q := am_m170) (as := [_]) (rest := []) (st' := [_]) rfl rfl rfl rfl rfl rfl sp110 rfl rfl rfl rfl (c_wrong (by omega)) rfl rfl ?_
                    exact w_bret rfl (by decide) (by clear s s0 b2 b3 b4; first | contradiction | exact absurd (c6.2.symm.trans c138.2) (by decide) | exact absurd (c6.2.symm.trans c124.2) (by decide) | exact absurd (c6.2.symm.trans c110.2) (by decide) | exact absurd (c6.2.symm.trans c96.2) (by decide) | exact absurd (c6.1.symm.trans c78) (by decide) | exact absurd (c6.1.symm.trans c53.1) (by decide) | exact absurd (c6.1.symm.trans c66.1) (by decide) | (simp +decide only [m_sg, m_sg0, m_sg1, m_sgl, m_sgk, rkv3, rkv4, rkv11, rkv12, rkv13, rkv14, *, ite_true, ite_false, and_self, and_true, true_and, and_false, false_and, or_true, true_or, or_false, false_or, not_true, not_false_iff, eq_self, rk_cmp (v.1 c78).2] <;> rfl) | (simp +decide only [m_sg, m_sg0, m_sg1, m_sgl, m_sgk, rkv3, rkv4, rkv11, rkv12, rkv13, rkv14, *, ite_true, ite_false, and_self, and_true, true_and, and_false, false_and, or_true, true_or, or_false, false_or, not_true, not_false_iff, eq_self] <;> rfl)) (by clear s s0 b2 b3 b4; first | contradiction | exact absurd (c6.2.symm.trans c138.2) (by decide) | exact absurd (c6.2.symm.trans c124.2) (by decide) | exact absurd (c6.2.symm.trans c110.2) (by decide) | exact absurd (c6.2.symm.trans c96.2) (by decide) | exact absurd (c6.1.symm.trans c78) (by decide) | exact absurd (c6.1.symm.trans c53.1) (by decide) | exact absurd (c6.1.symm.trans c66.1) (by decide) | (simp +decide only [m_sg, m_sg0, m_sg1, m_sgl, m_sgk, rkv3, rkv4, rkv11, rkv12, rkv13, rkv14, *, ite_true, ite_false, and_self, and_true, true_and, and_false, false_and, or_true, true_or, or_false, false_or, not_true, not_false_iff, eq_self, rk_cmp (v.1 c78).2] <;> rfl) | (simp +decide only [m_sg, m_sg0, m_sg1, m_sgl, m_sgk, rkv3, rkv4, rkv11, rkv12, rkv13, rkv14, *, ite_true, ite_false, and_self, and_true, true_and, and_false, false_and, or_true, true_or, or_false, false_or, not_true, not_false_iff, eq_self] <;> rfl)) rfl rfl
                  · refine w_bipush (x := Int32.ofNat 14) rfl rfl (by decide) ?_
                    refine w_goto (pc' := 147) rfl rfl ?_
                    refine w_istore_n (L' := [_, _]) rfl rfl rfl ?_
                    refine w_iload_n rfl rfl rfl ?_
                    refine w_if_ne (t := 158) (f := 152) rfl rfl rfl (fun c149 => ?_) (fun c149 => absurd c149 (by decide))
                    clear c149
                    refine w_aload_n rfl rfl rfl ?_
                    refine w_iload_n rfl rfl rfl ?_
                    refine w_cs (q := am_m196) (na := 1) (as := [_]) (st' := [_, _]) rfl rfl rfl rfl (by decide) rfl rfl (Nat.le_of_ble_eq_true rfl) rfl rfl rfl (c_rankC (v := Int32.ofNat 6) (by decide) (by omega)) rfl rfl ?_
                    refine w_iconst (x := Int32.ofNat 4) rfl rfl (by decide) ?_
                    refine w_ic_neN (t := 171) (f := 167) rfl rfl rfl (by omega) (by omega) (fun c164 => ?_) (fun c164 => absurd c164 (by omega))
                    clear c164
                    refine w_iload_n rfl rfl rfl ?_
                    refine w_cs (q := am_m196) (na := 1) (as := [_]) (st' := [_, _]) rfl rfl rfl rfl (by decide) rfl rfl (Nat.le_of_ble_eq_true rfl) rfl rfl rfl (c_rankC (v := Int32.ofNat 6) (by decide) (by omega)) rfl rfl ?_
                    refine w_cv (q := am_m199) (as := [_]) (rest := []) (st' := []) rfl rfl rfl rfl rfl rfl sp110 rfl rfl rfl rfl (c_bind (by decide) (by decide) s0 (by omega)) rfl rfl ?_
                    refine w_iload_n rfl rfl rfl ?_
                    refine w_cs (q := am_m196) (na := 1) (as := [_]) (st' := [_]) rfl rfl rfl rfl (by decide) rfl rfl (Nat.le_of_ble_eq_true rfl) rfl rfl rfl (c_rankC (v := Int32.ofNat 6) (by decide) (by omega)) rfl rfl ?_
                    refine w_iconst (x := Int32.ofNat 4) rfl rfl (by decide) ?_
                    refine w_ic_neN (t := 217) (f := 186) rfl rfl rfl (by omega) (by omega) (fun c183 => ?_) (fun c183 => absurd c183 (by omega))
                    clear c183
                    refine w_aload_n rfl rfl rfl ?_
                    refine w_cv (q := am_m200) (as := []) (rest := []) (st' := [_]) rfl rfl rfl rfl rfl rfl sp110 rfl rfl rfl rfl (c_isCounted hC ((m_bi_f (by omega) (by omega) (by omega) W H K I).trans h48) (by omega)) rfl rfl ?_
                    refine w_if_ne (t := 226) (f := 224) rfl rfl rfl (fun c221 => ?_) (fun c221 => absurd c221 (by decide))
                    clear c221
                    refine w_aload_n rfl rfl rfl ?_
                    refine w_iload_n rfl rfl rfl ?_
                    refine w_cv (q := am_m201) (as := [_]) (rest := []) (st' := []) rfl rfl rfl rfl rfl rfl sp110 rfl rfl rfl rfl (c_waitsFor (Nat.lt_of_le_of_lt (m_biW_le _ _ _) hW) ((am_u_nk (by decide)).trans (bi_ok (by decide) (by decide) W H K I s0).1.1) (by omega)) rfl rfl ?_
                    refine w_aload_n rfl rfl rfl ?_
                    refine w_iconst (x := Int32.ofNat 1) rfl rfl (by decide) ?_
                    refine w_pf rfl rfl rfl sp110 rfl rfl rfl ?_
                    refine w_aload_n rfl rfl rfl ?_
                    refine w_iload_n rfl rfl rfl ?_
                    refine w_cs (q := am_m196) (na := 1) (as := [_]) (st' := [_, _]) rfl rfl rfl rfl (by decide) rfl rfl (Nat.le_of_ble_eq_true rfl) rfl rfl rfl (c_rankC (v := Int32.ofNat 6) (by decide) (by omega)) rfl rfl ?_
                    refine w_iconst (x := Int32.ofNat 3) rfl rfl (by decide) ?_
                    refine w_ic_geN (t := 249) (f := 245) rfl rfl rfl (by omega) (by omega) (fun c242 => ?_) (fun c242 => absurd c242 (by omega))
                    clear c242
                    refine w_iconst (x := Int32.ofNat 0) rfl rfl (by decide) ?_
                    refine w_pf rfl rfl rfl sp110 rfl rfl rfl ?_
                    refine w_aload_n rfl rfl rfl ?_
                    refine w_cv (q := am_m174) (as := []) (rest := []) (st' := []) rfl rfl rfl rfl rfl rfl sp110 rfl rfl rfl rfl (c_tok (pv_u (by omega) (by omega) (pv_u (by omega) (by omega) (pv_u (by omega) (by omega) (pv_u (by omega) (by omega) (pv_u (by omega) (by omega) (pv_bi g)))))) (by omega)) rfl rfl ?_
                    refine w_iconst (x := Int32.ofNat 1) rfl rfl (by decide) ?_
                    exact w_bret rfl (by decide) (by clear s s0 b2 b3 b4; first | contradiction | exact absurd (c6.2.symm.trans c138.2) (by decide) | exact absurd (c6.2.symm.trans c124.2) (by decide) | exact absurd (c6.2.symm.trans c110.2) (by decide) | exact absurd (c6.2.symm.trans c96.2) (by decide) | exact absurd (c6.1.symm.trans c78) (by decide) | exact absurd (c6.1.symm.trans c53.1) (by decide) | exact absurd (c6.1.symm.trans c66.1) (by decide) | (simp +decide only [m_sg, m_sg0, m_sg1, m_sgl, m_sgk, rkv3, rkv4, rkv11, rkv12, rkv13, rkv14, *, ite_true, ite_false, and_self, and_true, true_and, and_false, false_and, or_true, true_or, or_false, false_or, not_true, not_false_iff, eq_self, rk_cmp (v.1 c78).2] <;> rfl) | (simp +decide only [m_sg, m_sg0, m_sg1, m_sgl, m_sgk, rkv3, rkv4, rkv11, rkv12, rkv13, rkv14, *, ite_true, ite_false, and_self, and_true, true_and, and_false, false_and, or_true, true_or, or_false, false_or, not_true, not_false_iff, eq_self] <;> rfl)) (by clear s s0 b2 b3 b4; first | contradiction | exact absurd (c6.2.symm.trans c138.2) (by decide) | exact absurd (c6.2.symm.trans c124.2) (by decide) | exact absurd (c6.2.symm.trans c110.2) (by decide) | exact absurd (c6.2.symm.trans c96.2) (by decide) | exact absurd (c6.1.symm.trans c78) (by decide) | exact absurd (c6.1.symm.trans c53.1) (by decide) | exact absurd (c6.1.symm.trans c66.1) (by decide) | (simp +decide only [m_sg, m_sg0, m_sg1, m_sgl, m_sgk, rkv3, rkv4, rkv11, rkv12, rkv13, rkv14, *, ite_true, ite_false, and_self, and_true, true_and, and_false, false_and, or_true, true_or, or_false, false_or, not_true, not_false_iff, eq_self, rk_cmp (v.1 c78).2] <;> rfl) | (simp +decide only [m_sg, m_sg0, m_sg1, m_sgl, m_sgk, rkv3, rkv4, rkv11, rkv12, rkv13, rkv14, *, ite_true, ite_false, and_self, and_true, true_and, and_false, false_and, or_true, true_or, or_false, false_or, not_true, not_false_iff, eq_self] <;> rfl)) rfl rfl
                · refine w_bipush (x := Int32.ofNat 13) rfl rfl (by decide) ?_
                  refine w_goto (pc' := 147) rfl rfl ?_
                  refine w_istore_n (L' := [_, _]) rfl rfl rfl ?_
                  refine w_iload_n rfl rfl rfl ?_
                  refine w_if_ne (t := 158) (f := 152) rfl rfl rfl (fun c149 => ?_) (fun c149 => absurd c149 (by decide))
                  clear c149
                  refine w_aload_n rfl rfl rfl ?_
                  refine w_iload_n rfl rfl rfl ?_
                  refine w_cs (q := am_m196) (na := 1) (as := [_]) (st' := [_, _]) rfl rfl rfl rfl (by decide) rfl rfl (Nat.le_of_ble_eq_true rfl) rfl rfl rfl (c_rankC (v := Int32.ofNat 6) (by decide) (by omega)) rfl rfl ?_
                  refine w_iconst (x := Int32.ofNat 4) rfl rfl (by decide) ?_
                  refine w_ic_neN (t := 171) (f := 167) rfl rfl rfl (by omega) (by omega) (fun c164 => ?_) (fun c164 => absurd c164 (by omega))
                  clear c164
                  refine w_iload_n rfl rfl rfl ?_
                  refine w_cs (q := am_m196) (na := 1) (as := [_]) (st' := [_, _]) rfl rfl rfl rfl (by decide) rfl rfl (Nat.le_of_ble_eq_true rfl) rfl rfl rfl (c_rankC (v := Int32.ofNat 6) (by decide) (by omega)) rfl rfl ?_
                  refine w_cv (q := am_m199) (as := [_]) (rest := []) (st' := []) rfl rfl rfl rfl rfl rfl sp110 rfl rfl rfl rfl (c_bind (by decide) (by decide) s0 (by omega)) rfl rfl ?_
                  refine w_iload_n rfl rfl rfl ?_
                  refine w_cs (q := am_m196) (na := 1) (as := [_]) (st' := [_]) rfl rfl rfl rfl (by decide) rfl rfl (Nat.le_of_ble_eq_true rfl) rfl rfl rfl (c_rankC (v := Int32.ofNat 6) (by decide) (by omega)) rfl rfl ?_
                  refine w_iconst (x := Int32.ofNat 4) rfl rfl (by decide) ?_
                  refine w_ic_neN (t := 217) (f := 186) rfl rfl rfl (by omega) (by omega) (fun c183 => ?_) (fun c183 => absurd c183 (by omega))
                  clear c183
                  refine w_aload_n rfl rfl rfl ?_
                  refine w_cv (q := am_m200) (as := []) (rest := []) (st' := [_]) rfl rfl rfl rfl rfl rfl sp110 rfl rfl rfl rfl (c_isCounted hC ((m_bi_f (by omega) (by omega) (by omega) W H K I).trans h48) (by omega)) rfl rfl ?_
                  refine w_if_ne (t := 226) (f := 224) rfl rfl rfl (fun c221 => ?_) (fun c221 => absurd c221 (by decide))
                  clear c221
                  refine w_aload_n rfl rfl rfl ?_
                  refine w_iload_n rfl rfl rfl ?_
                  refine w_cv (q := am_m201) (as := [_]) (rest := []) (st' := []) rfl rfl rfl rfl rfl rfl sp110 rfl rfl rfl rfl (c_waitsFor (Nat.lt_of_le_of_lt (m_biW_le _ _ _) hW) ((am_u_nk (by decide)).trans (bi_ok (by decide) (by decide) W H K I s0).1.1) (by omega)) rfl rfl ?_
                  refine w_aload_n rfl rfl rfl ?_
                  refine w_iconst (x := Int32.ofNat 1) rfl rfl (by decide) ?_
                  refine w_pf rfl rfl rfl sp110 rfl rfl rfl ?_
                  refine w_aload_n rfl rfl rfl ?_
                  refine w_iload_n rfl rfl rfl ?_
                  refine w_cs (q := am_m196) (na := 1) (as := [_]) (st' := [_, _]) rfl rfl rfl rfl (by decide) rfl rfl (Nat.le_of_ble_eq_true rfl) rfl rfl rfl (c_rankC (v := Int32.ofNat 6) (by decide) (by omega)) rfl rfl ?_
                  refine w_iconst (x := Int32.ofNat 3) rfl rfl (by decide) ?_
                  refine w_ic_geN (t := 249) (f := 245) rfl rfl rfl (by omega) (by omega) (fun c242 => ?_) (fun c242 => absurd c242 (by omega))
                  clear c242
                  refine w_iconst (x := Int32.ofNat 0) rfl rfl (by decide) ?_
                  refine w_pf rfl rfl rfl sp110 rfl rfl rfl ?_
                  refine w_aload_n rfl rfl rfl ?_
                  refine w_cv (q := am_m174) (as := []) (rest := []) (st' := []) rfl rfl rfl rfl rfl rfl sp110 rfl rfl rfl rfl (c_tok (pv_u (by omega) (by omega) (pv_u (by omega) (by omega) (pv_u (by omega) (by omega) (pv_u (by omega) (by omega) (pv_u (by omega) (by omega) (pv_bi g)))))) (by omega)) rfl rfl ?_
                  refine w_iconst (x := Int32.ofNat 1) rfl rfl (by decide) ?_
                  exact w_bret rfl (by decide) (by clear s s0 b2 b3 b4; first | contradiction | exact absurd (c6.2.symm.trans c138.2) (by decide) | exact absurd (c6.2.symm.trans c124.2) (by decide) | exact absurd (c6.2.symm.trans c110.2) (by decide) | exact absurd (c6.2.symm.trans c96.2) (by decide) | exact absurd (c6.1.symm.trans c78) (by decide) | exact absurd (c6.1.symm.trans c53.1) (by decide) | exact absurd (c6.1.symm.trans c66.1) (by decide) | (simp +decide only [m_sg, m_sg0, m_sg1, m_sgl, m_sgk, rkv3, rkv4, rkv11, rkv12, rkv13, rkv14, *, ite_true, ite_false, and_self, and_true, true_and, and_false, false_and, or_true, true_or, or_false, false_or, not_true, not_false_iff, eq_self, rk_cmp (v.1 c78).2] <;> rfl) | (simp +decide only [m_sg, m_sg0, m_sg1, m_sgl, m_sgk, rkv3, rkv4, rkv11, rkv12, rkv13, rkv14, *, ite_true, ite_false, and_self, and_true, true_and, and_false, false_and, or_true, true_or, or_false, false_or, not_true, not_false_iff, eq_self] <;> rfl)) (by clear s s0 b2 b3 b4; first | contradiction | exact absurd (c6.2.symm.trans c138.2) (by decide) | exact absurd (c6.2.symm.trans c124.2) (by decide) | exact absurd (c6.2.symm.trans c110.2) (by decide) | exact absurd (c6.2.symm.trans c96.2) (by decide) | exact absurd (c6.1.symm.trans c78) (by decide) | exact absurd (c6.1.symm.trans c53.1) (by decide) | exact absurd (c6.1.symm.trans c66.1) (by decide) | (simp +decide only [m_sg, m_sg0, m_sg1, m_sgl, m_sgk, rkv3, rkv4, rkv11, rkv12, rkv13, rkv14, *, ite_true, ite_false, and_self, and_true, true_and, and_false, false_and, or_true, true_or, or_false, false_or, not_true, not_false_iff, eq_self, rk_cmp (v.1 c78).2] <;> rfl) | (simp +decide only [m_sg, m_sg0, m_sg1, m_sgl, m_sgk, rkv3, rkv4, rkv11, rkv12, rkv13, rkv14, *, ite_true, ite_false, and_self, and_true, true_and, and_false, false_and, or_true, true_or, or_false, false_or, not_true, not_false_iff, eq_self] <;> rfl)) rfl rfl
              · refine w_bipush (x := Int32.ofNat 12) rfl rfl (by decide) ?_
                refine w_goto (pc' := 147) rfl rfl ?_
                refine w_istore_n (L' := [_, _]) rfl rfl rfl ?_
                refine w_iload_n rfl rfl rfl ?_
                refine w_if_ne (t := 158) (f := 152) rfl rfl rfl (fun c149 => ?_) (fun c149 => absurd c149 (by decide))
                clear c149
                refine w_aload_n rfl rfl rfl ?_
                refine w_iload_n rfl rfl rfl ?_
                refine w_cs (q := am_m196) (na := 1) (as := [_]) (st' := [_, _]) rfl rfl rfl rfl (by decide) rfl rfl (Nat.le_of_ble_eq_true rfl) rfl rfl rfl (c_rankC (v := Int32.ofNat 5) (by decide) (by omega)) rfl rfl ?_
                refine w_iconst (x := Int32.ofNat 4) rfl rfl (by decide) ?_
                refine w_ic_neN (t := 171) (f := 167) rfl rfl rfl (by omega) (by omega) (fun c164 => ?_) (fun c164 => absurd c164 (by omega))
                clear c164
                refine w_iload_n rfl rfl rfl ?_
                refine w_cs (q := am_m196) (na := 1) (as := [_]) (st' := [_, _]) rfl rfl rfl rfl (by decide) rfl rfl (Nat.le_of_ble_eq_true rfl) rfl rfl rfl (c_rankC (v := Int32.ofNat 5) (by decide) (by omega)) rfl rfl ?_
                refine w_cv (q := am_m199) (as := [_]) (rest := []) (st' := []) rfl rfl rfl rfl rfl rfl sp110 rfl rfl rfl rfl (c_bind (by decide) (by decide) s0 (by omega)) rfl rfl ?_
                refine w_iload_n rfl rfl rfl ?_
                refine w_cs (q := am_m196) (na := 1) (as := [_]) (st' := [_]) rfl rfl rfl rfl (by decide) rfl rfl (Nat.le_of_ble_eq_true rfl) rfl rfl rfl (c_rankC (v := Int32.ofNat 5) (by decide) (by omega)) rfl rfl ?_
                refine w_iconst (x := Int32.ofNat 4) rfl rfl (by decide) ?_
                refine w_ic_neN (t := 217) (f := 186) rfl rfl rfl (by omega) (by omega) (fun c183 => ?_) (fun c183 => absurd c183 (by omega))
                clear c183
                refine w_aload_n rfl rfl rfl ?_
                refine w_cv (q := am_m200) (as := []) (rest := []) (st' := [_]) rfl rfl rfl rfl rfl rfl sp110 rfl rfl rfl rfl (c_isCounted hC ((m_bi_f (by omega) (by omega) (by omega) W H K I).trans h48) (by omega)) rfl rfl ?_
                refine w_if_ne (t := 226) (f := 224) rfl rfl rfl (fun c221 => ?_) (fun c221 => absurd c221 (by decide))
                clear c221
                refine w_aload_n rfl rfl rfl ?_
                refine w_iload_n rfl rfl rfl ?_
                refine w_cv (q := am_m201) (as := [_]) (rest := []) (st' := []) rfl rfl rfl rfl rfl rfl sp110 rfl rfl rfl rfl (c_waitsFor (Nat.lt_of_le_of_lt (m_biW_le _ _ _) hW) ((am_u_nk (by decide)).trans (bi_ok (by decide) (by decide) W H K I s0).1.1) (by omega)) rfl rfl ?_
                refine w_aload_n rfl rfl rfl ?_
                refine w_iconst (x := Int32.ofNat 1) rfl rfl (by decide) ?_
                refine w_pf rfl rfl rfl sp110 rfl rfl rfl ?_
                refine w_aload_n rfl rfl rfl ?_
                refine w_iload_n rfl rfl rfl ?_
                refine w_cs (q := am_m196) (na := 1) (as := [_]) (st' := [_, _]) rfl rfl rfl rfl (by decide) rfl rfl (Nat.le_of_ble_eq_true rfl) rfl rfl rfl (c_rankC (v := Int32.ofNat 5) (by decide) (by omega)) rfl rfl ?_
                refine w_iconst (x := Int32.ofNat 3) rfl rfl (by decide) ?_
                refine w_ic_geN (t := 249) (f := 245) rfl rfl rfl (by omega) (by omega) (fun c242 => ?_) (fun c242 => absurd c242 (by omega))
                clear c242
                refine w_iconst (x := Int32.ofNat 0) rfl rfl (by decide) ?_
                refine w_pf rfl rfl rfl sp110 rfl rfl rfl ?_
                refine w_aload_n rfl rfl rfl ?_
                refine w_cv (q := am_m174) (as := []) (rest := []) (st' := []) rfl rfl rfl rfl rfl rfl sp110 rfl rfl rfl rfl (c_tok (pv_u (by omega) (by omega) (pv_u (by omega) (by omega) (pv_u (by omega) (by omega) (pv_u (by omega) (by omega) (pv_u (by omega) (by omega) (pv_bi g)))))) (by omega)) rfl rfl ?_
                refine w_iconst (x := Int32.ofNat 1) rfl rfl (by decide) ?_
                exact w_bret rfl (by decide) (by clear s s0 b2 b3 b4; first | contradiction | exact absurd (c6.2.symm.trans c138.2) (by decide) | exact absurd (c6.2.symm.trans c124.2) (by decide) | exact absurd (c6.2.symm.trans c110.2) (by decide) | exact absurd (c6.2.symm.trans c96.2) (by decide) | exact absurd (c6.1.symm.trans c78) (by decide) | exact absurd (c6.1.symm.trans c53.1) (by decide) | exact absurd (c6.1.symm.trans c66.1) (by decide) | (simp +decide only [m_sg, m_sg0, m_sg1, m_sgl, m_sgk, rkv3, rkv4, rkv11, rkv12, rkv13, rkv14, *, ite_true, ite_false, and_self, and_true, true_and, and_false, false_and, or_true, true_or, or_false, false_or, not_true, not_false_iff, eq_self, rk_cmp (v.1 c78).2] <;> rfl) | (simp +decide only [m_sg, m_sg0, m_sg1, m_sgl, m_sgk, rkv3, rkv4, rkv11, rkv12, rkv13, rkv14, *, ite_true, ite_false, and_self, and_true, true_and, and_false, false_and, or_true, true_or, or_false, false_or, not_true, not_false_iff, eq_self] <;> rfl)) (by clear s s0 b2 b3 b4; first | contradiction | exact absurd (c6.2.symm.trans c138.2) (by decide) | exact absurd (c6.2.symm.trans c124.2) (by decide) | exact absurd (c6.2.symm.trans c110.2) (by decide) | exact absurd (c6.2.symm.trans c96.2) (by decide) | exact absurd (c6.1.symm.trans c78) (by decide) | exact absurd (c6.1.symm.trans c53.1) (by decide) | exact absurd (c6.1.symm.trans c66.1) (by decide) | (simp +decide only [m_sg, m_sg0, m_sg1, m_sgl, m_sgk, rkv3, rkv4, rkv11, rkv12, rkv13, rkv14, *, ite_true, ite_false, and_self, and_true, true_and, and_false, false_and, or_true, true_or, or_false, false_or, not_true, not_false_iff, eq_self, rk_cmp (v.1 c78).2] <;> rfl) | (simp +decide only [m_sg, m_sg0, m_sg1, m_sgl, m_sgk, rkv3, rkv4, rkv11, rkv12, rkv13, rkv14, *, ite_true, ite_false, and_self, and_true, true_and, and_false, false_and, or_true, true_or, or_false, false_or, not_true, not_false_iff, eq_self] <;> rfl)) rfl rfl
            · refine w_bipush (x := Int32.ofNat 11) rfl rfl (by decide) ?_
              refine w_goto (pc' := 147) rfl rfl ?_
              refine w_istore_n (L' := [_, _]) rfl rfl rfl ?_
              refine w_iload_n rfl rfl rfl ?_
              refine w_if_ne (t := 158) (f := 152) rfl rfl rfl (fun c149 => ?_) (fun c149 => absurd c149 (by decide))
              clear c149
              refine w_aload_n rfl rfl rfl ?_
              refine w_iload_n rfl rfl rfl ?_
              refine w_cs (q := am_m196) (na := 1) (as := [_]) (st' := [_, _]) rfl rfl rfl rfl (by decide) rfl rfl (Nat.le_of_ble_eq_true rfl) rfl rfl rfl (c_rankC (v := Int32.ofNat 5) (by decide) (by omega)) rfl rfl ?_
              refine w_iconst (x := Int32.ofNat 4) rfl rfl (by decide) ?_
              refine w_ic_neN (t := 171) (f := 167) rfl rfl rfl (by omega) (by omega) (fun c164 => ?_) (fun c164 => absurd c164 (by omega))
              clear c164
              refine w_iload_n rfl rfl rfl ?_
              refine w_cs (q := am_m196) (na := 1) (as := [_]) (st' := [_, _]) rfl rfl rfl rfl (by decide) rfl rfl (Nat.le_of_ble_eq_true rfl) rfl rfl rfl (c_rankC (v := Int32.ofNat 5) (by decide) (by omega)) rfl rfl ?_
              refine w_cv (q := am_m199) (as := [_]) (rest := []) (st' := []) rfl rfl rfl rfl rfl rfl sp110 rfl rfl rfl rfl (c_bind (by decide) (by decide) s0 (by omega)) rfl rfl ?_
              refine w_iload_n rfl rfl rfl ?_
              refine w_cs (q := am_m196) (na := 1) (as := [_]) (st' := [_]) rfl rfl rfl rfl (by decide) rfl rfl (Nat.le_of_ble_eq_true rfl) rfl rfl rfl (c_rankC (v := Int32.ofNat 5) (by decide) (by omega)) rfl rfl ?_
              refine w_iconst (x := Int32.ofNat 4) rfl rfl (by decide) ?_
              refine w_ic_neN (t := 217) (f := 186) rfl rfl rfl (by omega) (by omega) (fun c183 => ?_) (fun c183 => absurd c183 (by omega))
              clear c183
              refine w_aload_n rfl rfl rfl ?_
              refine w_cv (q := am_m200) (as := []) (rest := []) (st' := [_]) rfl rfl rfl rfl rfl rfl sp110 rfl rfl rfl rfl (c_isCounted hC ((m_bi_f (by omega) (by omega) (by omega) W H K I).trans h48) (by omega)) rfl rfl ?_
              refine w_if_ne (t := 226) (f := 224) rfl rfl rfl (fun c221 => ?_) (fun c221 => absurd c221 (by decide))
              clear c221
              refine w_aload_n rfl rfl rfl ?_
              refine w_iload_n rfl rfl rfl ?_
              refine w_cv (q := am_m201) (as := [_]) (rest := []) (st' := []) rfl rfl rfl rfl rfl rfl sp110 rfl rfl rfl rfl (c_waitsFor (Nat.lt_of_le_of_lt (m_biW_le _ _ _) hW) ((am_u_nk (by decide)).trans (bi_ok (by decide) (by decide) W H K I s0).1.1) (by omega)) rfl rfl ?_
              refine w_aload_n rfl rfl rfl ?_
              refine w_iconst (x := Int32.ofNat 1) rfl rfl (by decide) ?_
              refine w_pf rfl rfl rfl sp110 rfl rfl rfl ?_
              refine w_aload_n rfl rfl rfl ?_
              refine w_iload_n rfl rfl rfl ?_
              refine w_cs (q := am_m196) (na := 1) (as := [_]) (st' := [_, _]) rfl rfl rfl rfl (by decide) rfl rfl (Nat.le_of_ble_eq_true rfl) rfl rfl rfl (c_rankC (v := Int32.ofNat 5) (by decide) (by omega)) rfl rfl ?_
              refine w_iconst (x := Int32.ofNat 3) rfl rfl (by decide) ?_
              refine w_ic_geN (t := 249) (f := 245) rfl rfl rfl (by omega) (by omega) (fun c242 => ?_) (fun c242 => absurd c242 (by omega))
              clear c242
              refine w_iconst (x := Int32.ofNat 0) rfl rfl (by decide) ?_
              refine w_pf rfl rfl rfl sp110 rfl rfl rfl ?_
              refine w_aload_n rfl rfl rfl ?_
              refine w_cv (q := am_m174) (as := []) (rest := []) (st' := []) rfl rfl rfl rfl rfl rfl sp110 rfl rfl rfl rfl (c_tok (pv_u (by omega) (by omega) (pv_u (by omega) (by omega) (pv_u (by omega) (by omega) (pv_u (by omega) (by omega) (pv_u (by omega) (by omega) (pv_bi g)))))) (by omega)) rfl rfl ?_
              refine w_iconst (x := Int32.ofNat 1) rfl rfl (by decide) ?_
              exact w_bret rfl (by decide) (by clear s s0 b2 b3 b4; first | contradiction | exact absurd (c6.2.symm.trans c138.2) (by decide) | exact absurd (c6.2.symm.trans c124.2) (by decide) | exact absurd (c6.2.symm.trans c110.2) (by decide) | exact absurd (c6.2.symm.trans c96.2) (by decide) | exact absurd (c6.1.symm.trans c78) (by decide) | exact absurd (c6.1.symm.trans c53.1) (by decide) | exact absurd (c6.1.symm.trans c66.1) (by decide) | (simp +decide only [m_sg, m_sg0, m_sg1, m_sgl, m_sgk, rkv3, rkv4, rkv11, rkv12, rkv13, rkv14, *, ite_true, ite_false, and_self, and_true, true_and, and_false, false_and, or_true, true_or, or_false, false_or, not_true, not_false_iff, eq_self, rk_cmp (v.1 c78).2] <;> rfl) | (simp +decide only [m_sg, m_sg0, m_sg1, m_sgl, m_sgk, rkv3, rkv4, rkv11, rkv12, rkv13, rkv14, *, ite_true, ite_false, and_self, and_true, true_and, and_false, false_and, or_true, true_or, or_false, false_or, not_true, not_false_iff, eq_self] <;> rfl)) (by clear s s0 b2 b3 b4; first | contradiction | exact absurd (c6.2.symm.trans c138.2) (by decide) | exact absurd (c6.2.symm.trans c124.2) (by decide) | exact absurd (c6.2.symm.trans c110.2) (by decide) | exact absurd (c6.2.symm.trans c96.2) (by decide) | exact absurd (c6.1.symm.trans c78) (by decide) | exact absurd (c6.1.symm.trans c53.1) (by decide) | exact absurd (c6.1.symm.trans c66.1) (by decide) | (simp +decide only [m_sg, m_sg0, m_sg1, m_sgl, m_sgk, rkv3, rkv4, rkv11, rkv12, rkv13, rkv14, *, ite_true, ite_false, and_self, and_true, true_and, and_false, false_and, or_true, true_or, or_false, false_or, not_true, not_false_iff, eq_self, rk_cmp (v.1 c78).2] <;> rfl) | (simp +decide only [m_sg, m_sg0, m_sg1, m_sgl, m_sgk, rkv3, rkv4, rkv11, rkv12, rkv13, rkv14, *, ite_true, ite_false, and_self, and_true, true_and, and_false, false_and, or_true, true_or, or_false, false_or, not_true, not_false_iff, eq_self] <;> rfl)) rfl rfl
          · refine w_iconst (x := Int32.ofNat 5) rfl rfl (by decide) ?_
            refine w_aload_n rfl rfl rfl ?_
            refine w_gf (t := .int 0) (v := .int _) rfl rfl rfl sp110 rfl (congrArg Value.int (v.1 c78).1) rfl ?_
            refine w_iaddN rfl rfl ?_
            refine w_goto (pc' := 147) rfl rfl ?_
            refine w_istore_n (L' := [_, _]) rfl rfl rfl ?_
            refine w_iload_n rfl rfl rfl ?_
            refine w_if_ne (t := 158) (f := 152) rfl rfl rfl (fun c149 => ?_) (fun c149 => ?_)
            · refine w_aload_n rfl rfl rfl ?_
              refine w_iload_n rfl rfl rfl ?_
              refine w_cs (q := am_m196) (na := 1) (as := [_]) (st' := [_, _]) rfl rfl rfl rfl (by decide) rfl rfl (Nat.le_of_ble_eq_true rfl) rfl rfl rfl (c_rankC (v := Int32.ofNat 4) (rk_cmp (v.1 c78).2) (by omega)) rfl rfl ?_
              refine w_iconst (x := Int32.ofNat 4) rfl rfl (by decide) ?_
              refine w_ic_neN (t := 171) (f := 167) rfl rfl rfl (by omega) (by omega) (fun c164 => absurd c164 (by omega)) (fun c164 => ?_)
              clear c164
              refine w_iconst (x := Int32.ofNat 5) rfl rfl (by decide) ?_
              refine w_goto (pc' := 175) rfl rfl ?_
              refine w_cv (q := am_m199) (as := [_]) (rest := []) (st' := []) rfl rfl rfl rfl rfl rfl sp110 rfl rfl rfl rfl (c_bind (by decide) (by decide) s0 (by omega)) rfl rfl ?_
              refine w_iload_n rfl rfl rfl ?_
              refine w_cs (q := am_m196) (na := 1) (as := [_]) (st' := [_]) rfl rfl rfl rfl (by decide) rfl rfl (Nat.le_of_ble_eq_true rfl) rfl rfl rfl (c_rankC (v := Int32.ofNat 4) (rk_cmp (v.1 c78).2) (by omega)) rfl rfl ?_
              refine w_iconst (x := Int32.ofNat 4) rfl rfl (by decide) ?_
              refine w_ic_neN (t := 217) (f := 186) rfl rfl rfl (by omega) (by omega) (fun c183 => absurd c183 (by omega)) (fun c183 => ?_)
              clear c183
              refine w_aload_n rfl rfl rfl ?_
              refine w_gf (t := .int 0) (v := .int _) rfl rfl rfl sp110 rfl (congrArg Value.int (bi_ok (by decide) (by decide) W H K I s0).1.1) rfl ?_
              refine w_if_le (t := 217) (f := 193) rfl rfl rfl (fun c190 => ?_) (fun c190 => ?_)
              · refine w_aload_n rfl rfl rfl ?_
                refine w_cv (q := am_m200) (as := []) (rest := []) (st' := [_]) rfl rfl rfl rfl rfl rfl sp110 rfl rfl rfl rfl (c_isCounted hC ((m_bi_f (by omega) (by omega) (by omega) W H K I).trans h48) (by omega)) rfl rfl ?_
                refine w_if_ne (t := 226) (f := 224) rfl rfl rfl (fun c221 => ?_) (fun c221 => absurd c221 (by decide))
                clear c221
                refine w_aload_n rfl rfl rfl ?_
                refine w_iload_n rfl rfl rfl ?_
                refine w_cv (q := am_m201) (as := [_]) (rest := []) (st' := []) rfl rfl rfl rfl rfl rfl sp110 rfl rfl rfl rfl (c_waitsFor (Nat.lt_of_le_of_lt (m_biW_le _ _ _) hW) ((am_u_nk (by decide)).trans (bi_ok (by decide) (by decide) W H K I s0).1.1) (by omega)) rfl rfl ?_
                refine w_aload_n rfl rfl rfl ?_
                refine w_iconst (x := Int32.ofNat 1) rfl rfl (by decide) ?_
                refine w_pf rfl rfl rfl sp110 rfl rfl rfl ?_
                refine w_aload_n rfl rfl rfl ?_
                refine w_iload_n rfl rfl rfl ?_
                refine w_cs (q := am_m196) (na := 1) (as := [_]) (st' := [_, _]) rfl rfl rfl rfl (by decide) rfl rfl (Nat.le_of_ble_eq_true rfl) rfl rfl rfl (c_rankC (v := Int32.ofNat 4) (rk_cmp (v.1 c78).2) (by omega)) rfl rfl ?_
                refine w_iconst (x := Int32.ofNat 3) rfl rfl (by decide) ?_
                refine w_ic_geN (t := 249) (f := 245) rfl rfl rfl (by omega) (by omega) (fun c242 => ?_) (fun c242 => absurd c242 (by omega))
                clear c242
                refine w_iconst (x := Int32.ofNat 0) rfl rfl (by decide) ?_
                refine w_pf rfl rfl rfl sp110 rfl rfl rfl ?_
                refine w_aload_n rfl rfl rfl ?_
                refine w_cv (q := am_m174) (as := []) (rest := []) (st' := []) rfl rfl rfl rfl rfl rfl sp110 rfl rfl rfl rfl (c_tok (pv_u (by omega) (by omega) (pv_u (by omega) (by omega) (pv_u (by omega) (by omega) (pv_u (by omega) (by omega) (pv_u (by omega) (by omega) (pv_bi g)))))) (by omega)) rfl rfl ?_
                refine w_iconst (x := Int32.ofNat 1) rfl rfl (by decide) ?_
                exact w_bret rfl (by decide) (by clear s s0 b2 b3 b4; first | contradiction | exact absurd (c6.2.symm.trans c138.2) (by decide) | exact absurd (c6.2.symm.trans c124.2) (by decide) | exact absurd (c6.2.symm.trans c110.2) (by decide) | exact absurd (c6.2.symm.trans c96.2) (by decide) | exact absurd (c6.1.symm.trans c78) (by decide) | exact absurd (c6.1.symm.trans c53.1) (by decide) | exact absurd (c6.1.symm.trans c66.1) (by decide) | (simp +decide only [m_sg, m_sg0, m_sg1, m_sgl, m_sgk, rkv3, rkv4, rkv11, rkv12, rkv13, rkv14, *, ite_true, ite_false, and_self, and_true, true_and, and_false, false_and, or_true, true_or, or_false, false_or, not_true, not_false_iff, eq_self, rk_cmp (v.1 c78).2] <;> rfl) | (simp +decide only [m_sg, m_sg0, m_sg1, m_sgl, m_sgk, rkv3, rkv4, rkv11, rkv12, rkv13, rkv14, *, ite_true, ite_false, and_self, and_true, true_and, and_false, false_and, or_true, true_or, or_false, false_or, not_true, not_false_iff, eq_self] <;> rfl)) (by clear s s0 b2 b3 b4; first | contradiction | exact absurd (c6.2.symm.trans c138.2) (by decide) | exact absurd (c6.2.symm.trans c124.2) (by decide) | exact absurd (c6.2.symm.trans c110.2) (by decide) | exact absurd (c6.2.symm.trans c96.2) (by decide) | exact absurd (c6.1.symm.trans c78) (by decide) | exact absurd (c6.1.symm.trans c53.1) (by decide) | exact absurd (c6.1.symm.trans c66.1) (by decide) | (simp +decide only [m_sg, m_sg0, m_sg1, m_sgl, m_sgk, rkv3, rkv4, rkv11, rkv12, rkv13, rkv14, *, ite_true, ite_false, and_self, and_true, true_and, and_false, false_and, or_true, true_or, or_false, false_or, not_true, not_false_iff, eq_self, rk_cmp (v.1 c78).2] <;> rfl) | (simp +decide only [m_sg, m_sg0, m_sg1, m_sgl, m_sgk, rkv3, rkv4, rkv11, rkv12, rkv13, rkv14, *, ite_true, ite_false, and_self, and_true, true_and, and_false, false_and, or_true, true_or, or_false, false_or, not_true, not_false_iff, eq_self] <;> rfl)) rfl rfl
              · refine w_aload_n rfl rfl rfl ?_
                refine w_gf (t := .ref (134)) (v := .ref (134)) rfl rfl rfl sp110 rfl rfl rfl ?_
                refine w_aload_n rfl rfl rfl ?_
                refine w_gf (t := .int 0) (v := .int _) rfl rfl rfl sp110 rfl (congrArg Value.int (bi_ok (by decide) (by decide) W H K I s0).1.1) rfl ?_
                refine w_iconst (x := Int32.ofNat 1) rfl rfl (by decide) ?_
                refine w_isubN rfl rfl (am_pos (Nat.lt_of_le_of_lt (m_biW_le _ _ _) hW) c190) ?_
                refine w_iaload rfl rfl sp134 rfl ⟨(Nat.lt_of_le_of_lt (Nat.sub_le _ _) (Nat.lt_of_le_of_lt (m_biW_le _ _ _) hW)), by omega⟩ rfl ?_
                refine w_cs (q := am_m196) (na := 1) (as := [_]) (st' := [_]) rfl rfl rfl rfl (by decide) rfl rfl (Nat.le_of_ble_eq_true rfl) rfl rfl rfl (c_rank (by omega)) rfl rfl ?_
                refine w_iconst (x := Int32.ofNat 4) rfl rfl (by decide) ?_
                refine w_ic_ne (t := 217) (f := 211) rfl rfl rfl (fun c208 => ?_) (fun c208 => ?_)
                · refine w_aload_n rfl rfl rfl ?_
                  refine w_cv (q := am_m200) (as := []) (rest := []) (st' := [_]) rfl rfl rfl rfl rfl rfl sp110 rfl rfl rfl rfl (c_isCounted hC ((m_bi_f (by omega) (by omega) (by omega) W H K I).trans h48) (by omega)) rfl rfl ?_
                  refine w_if_ne (t := 226) (f := 224) rfl rfl rfl (fun c221 => ?_) (fun c221 => absurd c221 (by decide))
                  clear c221
                  refine w_aload_n rfl rfl rfl ?_
                  refine w_iload_n rfl rfl rfl ?_
                  refine w_cv (q := am_m201) (as := [_]) (rest := []) (st' := []) rfl rfl rfl rfl rfl rfl sp110 rfl rfl rfl rfl (c_waitsFor (Nat.lt_of_le_of_lt (m_biW_le _ _ _) hW) ((am_u_nk (by decide)).trans (bi_ok (by decide) (by decide) W H K I s0).1.1) (by omega)) rfl rfl ?_
                  refine w_aload_n rfl rfl rfl ?_
                  refine w_iconst (x := Int32.ofNat 1) rfl rfl (by decide) ?_
                  refine w_pf rfl rfl rfl sp110 rfl rfl rfl ?_
                  refine w_aload_n rfl rfl rfl ?_
                  refine w_iload_n rfl rfl rfl ?_
                  refine w_cs (q := am_m196) (na := 1) (as := [_]) (st' := [_, _]) rfl rfl rfl rfl (by decide) rfl rfl (Nat.le_of_ble_eq_true rfl) rfl rfl rfl (c_rankC (v := Int32.ofNat 4) (rk_cmp (v.1 c78).2) (by omega)) rfl rfl ?_
                  refine w_iconst (x := Int32.ofNat 3) rfl rfl (by decide) ?_
                  refine w_ic_geN (t := 249) (f := 245) rfl rfl rfl (by omega) (by omega) (fun c242 => ?_) (fun c242 => absurd c242 (by omega))
                  clear c242
                  refine w_iconst (x := Int32.ofNat 0) rfl rfl (by decide) ?_
                  refine w_pf rfl rfl rfl sp110 rfl rfl rfl ?_
                  refine w_aload_n rfl rfl rfl ?_
                  refine w_cv (q := am_m174) (as := []) (rest := []) (st' := []) rfl rfl rfl rfl rfl rfl sp110 rfl rfl rfl rfl (c_tok (pv_u (by omega) (by omega) (pv_u (by omega) (by omega) (pv_u (by omega) (by omega) (pv_u (by omega) (by omega) (pv_u (by omega) (by omega) (pv_bi g)))))) (by omega)) rfl rfl ?_
                  refine w_iconst (x := Int32.ofNat 1) rfl rfl (by decide) ?_
                  exact w_bret rfl (by decide) (by clear s s0 b2 b3 b4; first | contradiction | exact absurd (c6.2.symm.trans c138.2) (by decide) | exact absurd (c6.2.symm.trans c124.2) (by decide) | exact absurd (c6.2.symm.trans c110.2) (by decide) | exact absurd (c6.2.symm.trans c96.2) (by decide) | exact absurd (c6.1.symm.trans c78) (by decide) | exact absurd (c6.1.symm.trans c53.1) (by decide) | exact absurd (c6.1.symm.trans c66.1) (by decide) | (simp +decide only [m_sg, m_sg0, m_sg1, m_sgl, m_sgk, rkv3, rkv4, rkv11, rkv12, rkv13, rkv14, *, ite_true, ite_false, and_self, and_true, true_and, and_false, false_and, or_true, true_or, or_false, false_or, not_true, not_false_iff, eq_self, rk_cmp (v.1 c78).2] <;> rfl) | (simp +decide only [m_sg, m_sg0, m_sg1, m_sgl, m_sgk, rkv3, rkv4, rkv11, rkv12, rkv13, rkv14, *, ite_true, ite_false, and_self, and_true, true_and, and_false, false_and, or_true, true_or, or_false, false_or, not_true, not_false_iff, eq_self] <;> rfl)) (by clear s s0 b2 b3 b4; first | contradiction | exact absurd (c6.2.symm.trans c138.2) (by decide) | exact absurd (c6.2.symm.trans c124.2) (by decide) | exact absurd (c6.2.symm.trans c110.2) (by decide) | exact absurd (c6.2.symm.trans c96.2) (by decide) | exact absurd (c6.1.symm.trans c78) (by decide) | exact absurd (c6.1.symm.trans c53.1) (by decide) | exact absurd (c6.1.symm.trans c66.1) (by decide) | (simp +decide only [m_sg, m_sg0, m_sg1, m_sgl, m_sgk, rkv3, rkv4, rkv11, rkv12, rkv13, rkv14, *, ite_true, ite_false, and_self, and_true, true_and, and_false, false_and, or_true, true_or, or_false, false_or, not_true, not_false_iff, eq_self, rk_cmp (v.1 c78).2] <;> rfl) | (simp +decide only [m_sg, m_sg0, m_sg1, m_sgl, m_sgk, rkv3, rkv4, rkv11, rkv12, rkv13, rkv14, *, ite_true, ite_false, and_self, and_true, true_and, and_false, false_and, or_true, true_or, or_false, false_or, not_true, not_false_iff, eq_self] <;> rfl)) rfl rfl
                · refine w_aload_n rfl rfl rfl ?_
                  refine w_iconst (x := Int32.ofNat 1) rfl rfl (by decide) ?_
                  refine w_cv (q := am_m170) (as := [_]) (rest := []) (st' := [_]) rfl rfl rfl rfl rfl rfl sp110 rfl rfl rfl rfl (c_wrong (by omega)) rfl rfl ?_
                  exact w_bret rfl (by decide) (by clear s s0 b2 b3 b4; first | contradiction | exact absurd (c6.2.symm.trans c138.2) (by decide) | exact absurd (c6.2.symm.trans c124.2) (by decide) | exact absurd (c6.2.symm.trans c110.2) (by decide) | exact absurd (c6.2.symm.trans c96.2) (by decide) | exact absurd (c6.1.symm.trans c78) (by decide) | exact absurd (c6.1.symm.trans c53.1) (by decide) | exact absurd (c6.1.symm.trans c66.1) (by decide) | (simp +decide only [m_sg, m_sg0, m_sg1, m_sgl, m_sgk, rkv3, rkv4, rkv11, rkv12, rkv13, rkv14, *, ite_true, ite_false, and_self, and_true, true_and, and_false, false_and, or_true, true_or, or_false, false_or, not_true, not_false_iff, eq_self, rk_cmp (v.1 c78).2] <;> rfl) | (simp +decide only [m_sg, m_sg0, m_sg1, m_sgl, m_sgk, rkv3, rkv4, rkv11, rkv12, rkv13, rkv14, *, ite_true, ite_false, and_self, and_true, true_and, and_false, false_and, or_true, true_or, or_false, false_or, not_true, not_false_iff, eq_self] <;> rfl)) (by clear s s0 b2 b3 b4; first | contradiction | exact absurd (c6.2.symm.trans c138.2) (by decide) | exact absurd (c6.2.symm.trans c124.2) (by decide) | exact absurd (c6.2.symm.trans c110.2) (by decide) | exact absurd (c6.2.symm.trans c96.2) (by decide) | exact absurd (c6.1.symm.trans c78) (by decide) | exact absurd (c6.1.symm.trans c53.1) (by decide) | exact absurd (c6.1.symm.trans c66.1) (by decide) | (simp +decide only [m_sg, m_sg0, m_sg1, m_sgl, m_sgk, rkv3, rkv4, rkv11, rkv12, rkv13, rkv14, *, ite_true, ite_false, and_self, and_true, true_and, and_false, false_and, or_true, true_or, or_false, false_or, not_true, not_false_iff, eq_self, rk_cmp (v.1 c78).2] <;> rfl) | (simp +decide only [m_sg, m_sg0, m_sg1, m_sgl, m_sgk, rkv3, rkv4, rkv11, rkv12, rkv13, rkv14, *, ite_true, ite_false, and_self, and_true, true_and, and_false, false_and, or_true, true_or, or_false, false_or, not_true, not_false_iff, eq_self] <;> rfl)) rfl rfl
            · refine w_aload_n rfl rfl rfl ?_
              refine w_iconst (x := Int32.ofNat 1) rfl rfl (by decide) ?_
              refine w_cv (q := am_m170) (as := [_]) (rest := []) (st' := [_]) rfl rfl rfl rfl rfl rfl sp110 rfl rfl rfl rfl (c_wrong (by omega)) rfl rfl ?_
              exact w_bret rfl (by decide) (by clear s s0 b2 b3 b4; first | contradiction | exact absurd (c6.2.symm.trans c138.2) (by decide) | exact absurd (c6.2.symm.trans c124.2) (by decide) | exact absurd (c6.2.symm.trans c110.2) (by decide) | exact absurd (c6.2.symm.trans c96.2) (by decide) | exact absurd (c6.1.symm.trans c78) (by decide) | exact absurd (c6.1.symm.trans c53.1) (by decide) | exact absurd (c6.1.symm.trans c66.1) (by decide) | (simp +decide only [m_sg, m_sg0, m_sg1, m_sgl, m_sgk, rkv3, rkv4, rkv11, rkv12, rkv13, rkv14, *, ite_true, ite_false, and_self, and_true, true_and, and_false, false_and, or_true, true_or, or_false, false_or, not_true, not_false_iff, eq_self, rk_cmp (v.1 c78).2] <;> rfl) | (simp +decide only [m_sg, m_sg0, m_sg1, m_sgl, m_sgk, rkv3, rkv4, rkv11, rkv12, rkv13, rkv14, *, ite_true, ite_false, and_self, and_true, true_and, and_false, false_and, or_true, true_or, or_false, false_or, not_true, not_false_iff, eq_self] <;> rfl)) (by clear s s0 b2 b3 b4; first | contradiction | exact absurd (c6.2.symm.trans c138.2) (by decide) | exact absurd (c6.2.symm.trans c124.2) (by decide) | exact absurd (c6.2.symm.trans c110.2) (by decide) | exact absurd (c6.2.symm.trans c96.2) (by decide) | exact absurd (c6.1.symm.trans c78) (by decide) | exact absurd (c6.1.symm.trans c53.1) (by decide) | exact absurd (c6.1.symm.trans c66.1) (by decide) | (simp +decide only [m_sg, m_sg0, m_sg1, m_sgl, m_sgk, rkv3, rkv4, rkv11, rkv12, rkv13, rkv14, *, ite_true, ite_false, and_self, and_true, true_and, and_false, false_and, or_true, true_or, or_false, false_or, not_true, not_false_iff, eq_self, rk_cmp (v.1 c78).2] <;> rfl) | (simp +decide only [m_sg, m_sg0, m_sg1, m_sgl, m_sgk, rkv3, rkv4, rkv11, rkv12, rkv13, rkv14, *, ite_true, ite_false, and_self, and_true, true_and, and_false, false_and, or_true, true_or, or_false, false_or, not_true, not_false_iff, eq_self] <;> rfl)) rfl rfl
        · refine w_iconst (x := Int32.ofNat 4) rfl rfl (by decide) ?_
          refine w_goto (pc' := 147) rfl rfl ?_
          refine w_istore_n (L' := [_, _]) rfl rfl rfl ?_
          refine w_iload_n rfl rfl rfl ?_
          refine w_if_ne (t := 158) (f := 152) rfl rfl rfl (fun c149 => ?_) (fun c149 => absurd c149 (by decide))
          clear c149
          refine w_aload_n rfl rfl rfl ?_
          refine w_iload_n rfl rfl rfl ?_
          refine w_cs (q := am_m196) (na := 1) (as := [_]) (st' := [_, _]) rfl rfl rfl rfl (by decide) rfl rfl (Nat.le_of_ble_eq_true rfl) rfl rfl rfl (c_rankC (v := Int32.ofNat 1) (by decide) (by omega)) rfl rfl ?_
          refine w_iconst (x := Int32.ofNat 4) rfl rfl (by decide) ?_
          refine w_ic_neN (t := 171) (f := 167) rfl rfl rfl (by omega) (by omega) (fun c164 => ?_) (fun c164 => absurd c164 (by omega))
          clear c164
          refine w_iload_n rfl rfl rfl ?_
          refine w_cs (q := am_m196) (na := 1) (as := [_]) (st' := [_, _]) rfl rfl rfl rfl (by decide) rfl rfl (Nat.le_of_ble_eq_true rfl) rfl rfl rfl (c_rankC (v := Int32.ofNat 1) (by decide) (by omega)) rfl rfl ?_
          refine w_cv (q := am_m199) (as := [_]) (rest := []) (st' := []) rfl rfl rfl rfl rfl rfl sp110 rfl rfl rfl rfl (c_bind (by decide) (by decide) s0 (by omega)) rfl rfl ?_
          refine w_iload_n rfl rfl rfl ?_
          refine w_cs (q := am_m196) (na := 1) (as := [_]) (st' := [_]) rfl rfl rfl rfl (by decide) rfl rfl (Nat.le_of_ble_eq_true rfl) rfl rfl rfl (c_rankC (v := Int32.ofNat 1) (by decide) (by omega)) rfl rfl ?_
          refine w_iconst (x := Int32.ofNat 4) rfl rfl (by decide) ?_
          refine w_ic_neN (t := 217) (f := 186) rfl rfl rfl (by omega) (by omega) (fun c183 => ?_) (fun c183 => absurd c183 (by omega))
          clear c183
          refine w_aload_n rfl rfl rfl ?_
          refine w_cv (q := am_m200) (as := []) (rest := []) (st' := [_]) rfl rfl rfl rfl rfl rfl sp110 rfl rfl rfl rfl (c_isCounted hC ((m_bi_f (by omega) (by omega) (by omega) W H K I).trans h48) (by omega)) rfl rfl ?_
          refine w_if_ne (t := 226) (f := 224) rfl rfl rfl (fun c221 => ?_) (fun c221 => absurd c221 (by decide))
          clear c221
          refine w_aload_n rfl rfl rfl ?_
          refine w_iload_n rfl rfl rfl ?_
          refine w_cv (q := am_m201) (as := [_]) (rest := []) (st' := []) rfl rfl rfl rfl rfl rfl sp110 rfl rfl rfl rfl (c_waitsFor (Nat.lt_of_le_of_lt (m_biW_le _ _ _) hW) ((am_u_nk (by decide)).trans (bi_ok (by decide) (by decide) W H K I s0).1.1) (by omega)) rfl rfl ?_
          refine w_aload_n rfl rfl rfl ?_
          refine w_iconst (x := Int32.ofNat 1) rfl rfl (by decide) ?_
          refine w_pf rfl rfl rfl sp110 rfl rfl rfl ?_
          refine w_aload_n rfl rfl rfl ?_
          refine w_iload_n rfl rfl rfl ?_
          refine w_cs (q := am_m196) (na := 1) (as := [_]) (st' := [_, _]) rfl rfl rfl rfl (by decide) rfl rfl (Nat.le_of_ble_eq_true rfl) rfl rfl rfl (c_rankC (v := Int32.ofNat 1) (by decide) (by omega)) rfl rfl ?_
          refine w_iconst (x := Int32.ofNat 3) rfl rfl (by decide) ?_
          refine w_ic_geN (t := 249) (f := 245) rfl rfl rfl (by omega) (by omega) (fun c242 => absurd c242 (by omega)) (fun c242 => ?_)
          clear c242
          refine w_iconst (x := Int32.ofNat 1) rfl rfl (by decide) ?_
          refine w_goto (pc' := 250) rfl rfl ?_
          refine w_pf rfl rfl rfl sp110 rfl rfl rfl ?_
          refine w_aload_n rfl rfl rfl ?_
          refine w_cv (q := am_m174) (as := []) (rest := []) (st' := []) rfl rfl rfl rfl rfl rfl sp110 rfl rfl rfl rfl (c_tok (pv_u (by omega) (by omega) (pv_u (by omega) (by omega) (pv_u (by omega) (by omega) (pv_u (by omega) (by omega) (pv_u (by omega) (by omega) (pv_bi g)))))) (by omega)) rfl rfl ?_
          refine w_iconst (x := Int32.ofNat 1) rfl rfl (by decide) ?_
          exact w_bret rfl (by decide) (by clear s s0 b2 b3 b4; first | contradiction | exact absurd (c6.2.symm.trans c138.2) (by decide) | exact absurd (c6.2.symm.trans c124.2) (by decide) | exact absurd (c6.2.symm.trans c110.2) (by decide) | exact absurd (c6.2.symm.trans c96.2) (by decide) | exact absurd (c6.1.symm.trans c78) (by decide) | exact absurd (c6.1.symm.trans c53.1) (by decide) | exact absurd (c6.1.symm.trans c66.1) (by decide) | (simp +decide only [m_sg, m_sg0, m_sg1, m_sgl, m_sgk, rkv3, rkv4, rkv11, rkv12, rkv13, rkv14, *, ite_true, ite_false, and_self, and_true, true_and, and_false, false_and, or_true, true_or, or_false, false_or, not_true, not_false_iff, eq_self, rk_cmp (v.1 c78).2] <;> rfl) | (simp +decide only [m_sg, m_sg0, m_sg1, m_sgl, m_sgk, rkv3, rkv4, rkv11, rkv12, rkv13, rkv14, *, ite_true, ite_false, and_self, and_true, true_and, and_false, false_and, or_true, true_or, or_false, false_or, not_true, not_false_iff, eq_self] <;> rfl)) (by clear s s0 b2 b3 b4; first | contradiction | exact absurd (c6.2.symm.trans c138.2) (by decide) | exact absurd (c6.2.symm.trans c124.2) (by decide) | exact absurd (c6.2.symm.trans c110.2) (by decide) | exact absurd (c6.2.symm.trans c96.2) (by decide) | exact absurd (c6.1.symm.trans c78) (by decide) | exact absurd (c6.1.symm.trans c53.1) (by decide) | exact absurd (c6.1.symm.trans c66.1) (by decide) | (simp +decide only [m_sg, m_sg0, m_sg1, m_sgl, m_sgk, rkv3, rkv4, rkv11, rkv12, rkv13, rkv14, *, ite_true, ite_false, and_self, and_true, true_and, and_false, false_and, or_true, true_or, or_false, false_or, not_true, not_false_iff, eq_self, rk_cmp (v.1 c78).2] <;> rfl) | (simp +decide only [m_sg, m_sg0, m_sg1, m_sgl, m_sgk, rkv3, rkv4, rkv11, rkv12, rkv13, rkv14, *, ite_true, ite_false, and_self, and_true, true_and, and_false, false_and, or_true, true_or, or_false, false_or, not_true, not_false_iff, eq_self] <;> rfl)) rfl rfl
      · refine w_iconst (x := Int32.ofNat 3) rfl rfl (by decide) ?_
        refine w_goto (pc' := 147) rfl rfl ?_
        refine w_istore_n (L' := [_, _]) rfl rfl rfl ?_
        refine w_iload_n rfl rfl rfl ?_
        refine w_if_ne (t := 158) (f := 152) rfl rfl rfl (fun c149 => ?_) (fun c149 => absurd c149 (by decide))
        clear c149
        refine w_aload_n rfl rfl rfl ?_
        refine w_iload_n rfl rfl rfl ?_
        refine w_cs (q := am_m196) (na := 1) (as := [_]) (st' := [_, _]) rfl rfl rfl rfl (by decide) rfl rfl (Nat.le_of_ble_eq_true rfl) rfl rfl rfl (c_rankC (v := Int32.ofNat 2) (by decide) (by omega)) rfl rfl ?_
        refine w_iconst (x := Int32.ofNat 4) rfl rfl (by decide) ?_
        refine w_ic_neN (t := 171) (f := 167) rfl rfl rfl (by omega) (by omega) (fun c164 => ?_) (fun c164 => absurd c164 (by omega))
        clear c164
        refine w_iload_n rfl rfl rfl ?_
        refine w_cs (q := am_m196) (na := 1) (as := [_]) (st' := [_, _]) rfl rfl rfl rfl (by decide) rfl rfl (Nat.le_of_ble_eq_true rfl) rfl rfl rfl (c_rankC (v := Int32.ofNat 2) (by decide) (by omega)) rfl rfl ?_
        refine w_cv (q := am_m199) (as := [_]) (rest := []) (st' := []) rfl rfl rfl rfl rfl rfl sp110 rfl rfl rfl rfl (c_bind (by decide) (by decide) s0 (by omega)) rfl rfl ?_
        refine w_iload_n rfl rfl rfl ?_
        refine w_cs (q := am_m196) (na := 1) (as := [_]) (st' := [_]) rfl rfl rfl rfl (by decide) rfl rfl (Nat.le_of_ble_eq_true rfl) rfl rfl rfl (c_rankC (v := Int32.ofNat 2) (by decide) (by omega)) rfl rfl ?_
        refine w_iconst (x := Int32.ofNat 4) rfl rfl (by decide) ?_
        refine w_ic_neN (t := 217) (f := 186) rfl rfl rfl (by omega) (by omega) (fun c183 => ?_) (fun c183 => absurd c183 (by omega))
        clear c183
        refine w_aload_n rfl rfl rfl ?_
        refine w_cv (q := am_m200) (as := []) (rest := []) (st' := [_]) rfl rfl rfl rfl rfl rfl sp110 rfl rfl rfl rfl (c_isCounted hC ((m_bi_f (by omega) (by omega) (by omega) W H K I).trans h48) (by omega)) rfl rfl ?_
        refine w_if_ne (t := 226) (f := 224) rfl rfl rfl (fun c221 => ?_) (fun c221 => absurd c221 (by decide))
        clear c221
        refine w_aload_n rfl rfl rfl ?_
        refine w_iload_n rfl rfl rfl ?_
        refine w_cv (q := am_m201) (as := [_]) (rest := []) (st' := []) rfl rfl rfl rfl rfl rfl sp110 rfl rfl rfl rfl (c_waitsFor (Nat.lt_of_le_of_lt (m_biW_le _ _ _) hW) ((am_u_nk (by decide)).trans (bi_ok (by decide) (by decide) W H K I s0).1.1) (by omega)) rfl rfl ?_
        refine w_aload_n rfl rfl rfl ?_
        refine w_iconst (x := Int32.ofNat 1) rfl rfl (by decide) ?_
        refine w_pf rfl rfl rfl sp110 rfl rfl rfl ?_
        refine w_aload_n rfl rfl rfl ?_
        refine w_iload_n rfl rfl rfl ?_
        refine w_cs (q := am_m196) (na := 1) (as := [_]) (st' := [_, _]) rfl rfl rfl rfl (by decide) rfl rfl (Nat.le_of_ble_eq_true rfl) rfl rfl rfl (c_rankC (v := Int32.ofNat 2) (by decide) (by omega)) rfl rfl ?_
        refine w_iconst (x := Int32.ofNat 3) rfl rfl (by decide) ?_
        refine w_ic_geN (t := 249) (f := 245) rfl rfl rfl (by omega) (by omega) (fun c242 => absurd c242 (by omega)) (fun c242 => ?_)
        clear c242
        refine w_iconst (x := Int32.ofNat 1) rfl rfl (by decide) ?_
        refine w_goto (pc' := 250) rfl rfl ?_
        refine w_pf rfl rfl rfl sp110 rfl rfl rfl ?_
        refine w_aload_n rfl rfl rfl ?_
        refine w_cv (q := am_m174) (as := []) (rest := []) (st' := []) rfl rfl rfl rfl rfl rfl sp110 rfl rfl rfl rfl (c_tok (pv_u (by omega) (by omega) (pv_u (by omega) (by omega) (pv_u (by omega) (by omega) (pv_u (by omega) (by omega) (pv_u (by omega) (by omega) (pv_bi g)))))) (by omega)) rfl rfl ?_
        refine w_iconst (x := Int32.ofNat 1) rfl rfl (by decide) ?_
        exact w_bret rfl (by decide) (by clear s s0 b2 b3 b4; first | contradiction | exact absurd (c6.2.symm.trans c138.2) (by decide) | exact absurd (c6.2.symm.trans c124.2) (by decide) | exact absurd (c6.2.symm.trans c110.2) (by decide) | exact absurd (c6.2.symm.trans c96.2) (by decide) | exact absurd (c6.1.symm.trans c78) (by decide) | exact absurd (c6.1.symm.trans c53.1) (by decide) | exact absurd (c6.1.symm.trans c66.1) (by decide) | (simp +decide only [m_sg, m_sg0, m_sg1, m_sgl, m_sgk, rkv3, rkv4, rkv11, rkv12, rkv13, rkv14, *, ite_true, ite_false, and_self, and_true, true_and, and_false, false_and, or_true, true_or, or_false, false_or, not_true, not_false_iff, eq_self, rk_cmp (v.1 c78).2] <;> rfl) | (simp +decide only [m_sg, m_sg0, m_sg1, m_sgl, m_sgk, rkv3, rkv4, rkv11, rkv12, rkv13, rkv14, *, ite_true, ite_false, and_self, and_true, true_and, and_false, false_and, or_true, true_or, or_false, false_or, not_true, not_false_iff, eq_self] <;> rfl)) (by clear s s0 b2 b3 b4; first | contradiction | exact absurd (c6.2.symm.trans c138.2) (by decide) | exact absurd (c6.2.symm.trans c124.2) (by decide) | exact absurd (c6.2.symm.trans c110.2) (by decide) | exact absurd (c6.2.symm.trans c96.2) (by decide) | exact absurd (c6.1.symm.trans c78) (by decide) | exact absurd (c6.1.symm.trans c53.1) (by decide) | exact absurd (c6.1.symm.trans c66.1) (by decide) | (simp +decide only [m_sg, m_sg0, m_sg1, m_sgl, m_sgk, rkv3, rkv4, rkv11, rkv12, rkv13, rkv14, *, ite_true, ite_false, and_self, and_true, true_and, and_false, false_and, or_true, true_or, or_false, false_or, not_true, not_false_iff, eq_self, rk_cmp (v.1 c78).2] <;> rfl) | (simp +decide only [m_sg, m_sg0, m_sg1, m_sgl, m_sgk, rkv3, rkv4, rkv11, rkv12, rkv13, rkv14, *, ite_true, ite_false, and_self, and_true, true_and, and_false, false_and, or_true, true_or, or_false, false_or, not_true, not_false_iff, eq_self] <;> rfl)) rfl rfl
    · have hB : 1 ≤ cz (I 134) W := am_pos (by omega) c13
      have hW1 : 1 ≤ m_biW (Int32.ofNat 1) W I := by
        have e := bi_cz (l := 1) (by decide) (by decide) s0
        have := cz_le (I 134) (m_biW (Int32.ofNat 1) W I)
        omega
      refine w_aload_n rfl rfl rfl ?_
      refine w_iconst (x := Int32.ofNat 1) rfl rfl (by decide) ?_
      refine w_cv (q := am_m199) (as := [_]) (rest := []) (st' := []) rfl rfl rfl rfl rfl rfl sp110 rfl rfl rfl rfl (c_bind (by decide) (by decide) s0 (by omega)) rfl rfl ?_
      refine w_aload_n rfl rfl rfl ?_
      refine w_dup rfl rfl rfl ?_
      refine w_gf (t := .int 0) (v := .int _) rfl rfl rfl sp110 rfl (congrArg Value.int (bi_ok (by decide) (by decide) W H K I s0).1.1) rfl ?_
      refine w_iconst (x := Int32.ofNat 1) rfl rfl (by decide) ?_
      refine w_isubN rfl rfl hW1 ?_
      refine w_pf rfl rfl rfl sp110 rfl rfl rfl ?_
      refine w_aload_n rfl rfl rfl ?_
      refine w_dup rfl rfl rfl ?_
      refine w_gf (t := .int 0) (v := .int _) rfl rfl rfl sp110 rfl (congrArg Value.int ((am_u_nk (by decide)).trans ((m_bi_f (by omega) (by omega) (by omega) W H K I).trans h47))) rfl ?_
      refine w_iconst (x := Int32.ofNat 1) rfl rfl (by decide) ?_
      refine w_isubN rfl rfl hB ?_
      refine w_pf rfl rfl rfl sp110 rfl rfl rfl ?_
      refine w_aload_n rfl rfl rfl ?_
      refine w_cv (q := am_m174) (as := []) (rest := []) (st' := []) rfl rfl rfl rfl rfl rfl sp110 rfl rfl rfl rfl (c_tok (pv_u (by omega) (by omega) (pv_u (by omega) (by omega) (pv_bi g))) (by omega)) rfl rfl ?_
      refine w_iconst (x := Int32.ofNat 1) rfl rfl (by decide) ?_
      exact w_bret rfl (by decide) (by clear s s0 b2 b3 b4; first | contradiction | exact absurd (c6.2.symm.trans c138.2) (by decide) | exact absurd (c6.2.symm.trans c124.2) (by decide) | exact absurd (c6.2.symm.trans c110.2) (by decide) | exact absurd (c6.2.symm.trans c96.2) (by decide) | exact absurd (c6.1.symm.trans c78) (by decide) | exact absurd (c6.1.symm.trans c53.1) (by decide) | exact absurd (c6.1.symm.trans c66.1) (by decide) | (simp +decide only [m_sg, m_sg0, m_sg1, m_sgl, m_sgk, rkv3, rkv4, rkv11, rkv12, rkv13, rkv14, *, ite_true, ite_false, and_self, and_true, true_and, and_false, false_and, or_true, true_or, or_false, false_or, not_true, not_false_iff, eq_self, rk_cmp (v.1 c78).2] <;> rfl) | (simp +decide only [m_sg, m_sg0, m_sg1, m_sgl, m_sgk, rkv3, rkv4, rkv11, rkv12, rkv13, rkv14, *, ite_true, ite_false, and_self, and_true, true_and, and_false, false_and, or_true, true_or, or_false, false_or, not_true, not_false_iff, eq_self] <;> rfl)) (by clear s s0 b2 b3 b4; first | contradiction | exact absurd (c6.2.symm.trans c138.2) (by decide) | exact absurd (c6.2.symm.trans c124.2) (by decide) | exact absurd (c6.2.symm.trans c110.2) (by decide) | exact absurd (c6.2.symm.trans c96.2) (by decide) | exact absurd (c6.1.symm.trans c78) (by decide) | exact absurd (c6.1.symm.trans c53.1) (by decide) | exact absurd (c6.1.symm.trans c66.1) (by decide) | (simp +decide only [m_sg, m_sg0, m_sg1, m_sgl, m_sgk, rkv3, rkv4, rkv11, rkv12, rkv13, rkv14, *, ite_true, ite_false, and_self, and_true, true_and, and_false, false_and, or_true, true_or, or_false, false_or, not_true, not_false_iff, eq_self, rk_cmp (v.1 c78).2] <;> rfl) | (simp +decide only [m_sg, m_sg0, m_sg1, m_sgl, m_sgk, rkv3, rkv4, rkv11, rkv12, rkv13, rkv14, *, ite_true, ite_false, and_self, and_true, true_and, and_false, false_and, or_true, true_or, or_false, false_or, not_true, not_false_iff, eq_self] <;> rfl)) rfl rfl
