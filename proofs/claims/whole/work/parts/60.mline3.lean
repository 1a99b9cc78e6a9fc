/-! The reference: a line read. -/
theorem tv_u {I : hI} {a k : Nat} {x : Int32} (h : a ≠ 110) (v : tv I) : tv (am_u I a k x) := by
  unfold tv
  rw [am_u_na (fun z => h z.symm), am_u_na (fun z => h z.symm)]
  exact v
theorem okn_ge {x : Int32} {m n : Nat} (h : okn x m) (hm : m ≤ 1000) (hn : n ≤ 1000) (g : ¬ x < Int32.ofNat n) : n ≤ nn x := by
  rw [h.1, am_ltN (by have := h.2; omega) (by omega)] at g
  omega
theorem okn_le {x : Int32} {m n : Nat} (h : okn x m) (hm : m ≤ 1000) (hn : n ≤ 1000) (g : ¬ Int32.ofNat n < x) : nn x ≤ n := by
  rw [h.1, am_ltN (by omega) (by have := h.2; omega)] at g
  omega
theorem c_lineRead {k : Nat} {I : hI} {J : hJ} {R : hR} {f : Nat → Int32} {st a b c d K : Nat} (g : pv I f st) (v : tv I) (q : rc I a b c d K) (hk : 7 ≤ k) : ct k 192 [.ref 110] I J R (some (.int (m_ln I a b c d).1)) ((m_ln I a b c d).2) J R := by
  obtain ⟨k, rfl⟩ : ∃ k', k = k' + 1 := ⟨k - 1, by omega⟩
  obtain ⟨⟨h17, ha⟩, ⟨h18, hb⟩, ⟨h19, hc⟩, ⟨h20, hd⟩, h21, h48, hK⟩ := q
  have v1 : pv (lw1 I) f st := pv_tok g
  have v3 : pv (lw3 I) f st := pv_tok (pv_u (by omega) (by omega) v1)
  have v4 : pv (lw4 I) f st := pv_u (by omega) (by omega) v3
  have y1 : tv (lw1 I) := tv_tok I
  have y4 : tv (lw4 I) := tv_u (by decide) (tv_tok _)
  have f3 : ∀ i, i = 21 ∨ i = 48 → lw4 I 110 i = I 110 i := by
    intro i hi
    unfold lw4
    rw [am_u_na (by decide)]
    unfold lw3
    rw [m_tok_f (by omega), am_u_na (by decide)]
    unfold lw1
    exact m_tok_f (by omega)
  have v5 : pv (lw5 I).2 f st := pv_sum v4
  have v6 : pv (lw6 I) f st := pv_u (by omega) (by omega) v5
  refine ct_of (q := am_m192) (o := 12) (rt := (some .boolean)) (co := am_c192) (L := [_, _, _]) rfl rfl rfl rfl rfl rfl ?_
  refine w_aload_n rfl rfl rfl ?_
  refine w_gf (t := .int 0) (v := .int _) rfl rfl rfl sp110 rfl (congrArg Value.int rfl) rfl ?_
  refine w_iconst (x := Int32.ofNat 1) rfl rfl (by decide) ?_
  refine w_ic_ne (t := 17) (f := 8) rfl rfl rfl (fun c5 => ?_) (fun c5 => ?_)
  · refine w_aload_n rfl rfl rfl ?_
    refine w_iconst (x := Int32.ofNat 1) rfl rfl (by decide) ?_
    refine w_cv (q := am_m170) (as := [_]) (rest := []) (st' := [_]) rfl rfl rfl rfl rfl rfl sp110 rfl rfl rfl rfl (c_wrong (by omega)) rfl rfl ?_
    have hE : m_ln I a b c d = (0, m_wr I (Int32.ofNat 1)) := by unfold m_ln; first | rw [if_neg (am_na0 c5)] | rw [if_neg (am_na2 c14)]
    exact w_bret rfl (by decide) (by rw [hE] <;> rfl) (by rw [hE]) rfl rfl
  · refine w_aload_n rfl rfl rfl ?_
    refine w_gf (t := .int 0) (v := .int _) rfl rfl rfl sp110 rfl (congrArg Value.int rfl) rfl ?_
    refine w_bipush (x := Int32.ofNat 7) rfl rfl (by decide) ?_
    refine w_ic_le (t := 23) (f := 17) rfl rfl rfl (fun c14 => ?_) (fun c14 => ?_)
    · refine w_aload_n rfl rfl rfl ?_
      refine w_gf (t := .int 0) (v := .int _) rfl rfl rfl sp110 rfl (congrArg Value.int rfl) rfl ?_
      refine w_ts (lo := 0) (hi := 6) (d := 130) rfl rfl (by decide) (fun sw => ?_) (fun n h1 h2 sw => ?_)
      · refine w_aload_n rfl rfl rfl ?_
        refine w_cv (q := am_m174) (as := []) (rest := []) (st' := []) rfl rfl rfl rfl rfl rfl sp110 rfl rfl rfl rfl (c_tok g (by omega)) rfl rfl ?_
        change wz _ _ _ _ _ _ _ (lw1 I) _ _ _
        have hE0 : m_ln I a b c d = m_lwL I := by unfold m_ln; rw [if_pos (And.intro c5 c14), if_neg (sw 0 (by decide) (by decide)), if_neg (sw 1 (by decide) (by decide)), if_neg (sw 2 (by decide) (by decide)), if_neg (sw 3 (by decide) (by decide)), if_neg (sw 4 (by decide) (by decide)), if_neg (sw 5 (by decide) (by decide)), if_neg (sw 6 (by decide) (by decide))]
        refine w_aload_n rfl rfl rfl ?_
        refine w_gf (t := .int 0) (v := .int _) rfl rfl rfl sp110 rfl (congrArg Value.int rfl) rfl ?_
        refine w_iconst (x := Int32.ofNat 1) rfl rfl (by decide) ?_
        refine w_ic_ne (t := 160) (f := 142) rfl rfl rfl (fun c139 => ?_) (fun c139 => ?_)
        · refine w_aload_n rfl rfl rfl ?_
          refine w_iconst (x := Int32.ofNat 1) rfl rfl (by decide) ?_
          refine w_cv (q := am_m170) (as := [_]) (rest := []) (st' := [_]) rfl rfl rfl rfl rfl rfl sp110 rfl rfl rfl rfl (c_wrong (by omega)) rfl rfl ?_
          have hE : m_ln I a b c d = (0, m_wr (lw1 I) (Int32.ofNat 1)) := by rw [hE0]; unfold m_lwL; first | rw [if_neg (show ¬ m_lwP I from am_na0 c139)] | rw [if_neg (show ¬ m_lwP I from fun z => z.2.1 c148)] | rw [if_neg (show ¬ m_lwP I from fun z => z.2.2 c157)]
          exact w_bret rfl (by decide) (by rw [hE] <;> rfl) (by rw [hE]) rfl rfl
        · refine w_aload_n rfl rfl rfl ?_
          refine w_gf (t := .int 0) (v := .int _) rfl rfl rfl sp110 rfl (congrArg Value.int rfl) rfl ?_
          refine w_bipush (x := Int32.ofNat 8) rfl rfl (by decide) ?_
          refine w_ic_lt (t := 160) (f := 151) rfl rfl rfl (fun c148 => ?_) (fun c148 => ?_)
          · refine w_aload_n rfl rfl rfl ?_
            refine w_iconst (x := Int32.ofNat 1) rfl rfl (by decide) ?_
            refine w_cv (q := am_m170) (as := [_]) (rest := []) (st' := [_]) rfl rfl rfl rfl rfl rfl sp110 rfl rfl rfl rfl (c_wrong (by omega)) rfl rfl ?_
            have hE : m_ln I a b c d = (0, m_wr (lw1 I) (Int32.ofNat 1)) := by rw [hE0]; unfold m_lwL; first | rw [if_neg (show ¬ m_lwP I from am_na0 c139)] | rw [if_neg (show ¬ m_lwP I from fun z => z.2.1 c148)] | rw [if_neg (show ¬ m_lwP I from fun z => z.2.2 c157)]
            exact w_bret rfl (by decide) (by rw [hE] <;> rfl) (by rw [hE]) rfl rfl
          · refine w_aload_n rfl rfl rfl ?_
            refine w_gf (t := .int 0) (v := .int _) rfl rfl rfl sp110 rfl (congrArg Value.int rfl) rfl ?_
            refine w_bipush (x := Int32.ofNat 10) rfl rfl (by decide) ?_
            refine w_ic_le (t := 166) (f := 160) rfl rfl rfl (fun c157 => ?_) (fun c157 => ?_)
            · have w1 := y1.2 c139
              have w8 := okn_ge w1 (by decide) (by decide) c148
              have w10 := okn_le w1 (by decide) (by decide) c157
              refine w_iconst (x := Int32.ofNat 3) rfl rfl (by decide) ?_
              refine w_aload_n rfl rfl rfl ?_
              refine w_gf (t := .int 0) (v := .int _) rfl rfl rfl sp110 rfl (congrArg Value.int w1.1) rfl ?_
              refine w_iaddN rfl rfl ?_
              refine w_bipush (x := Int32.ofNat 8) rfl rfl (by decide) ?_
              refine w_isubN rfl rfl (by omega) ?_
              refine w_istore_n (L' := [_, _, _]) rfl rfl rfl ?_
              change wz _ _ _ _ _ [.ref 110, _, .int (Int32.ofNat (lk I))] _ _ _ _ _
              have hl : lk I < 6 := by unfold lk; omega
              refine w_aload_n rfl rfl rfl ?_
              refine w_gf (t := .ref (128)) (v := .ref (128)) rfl rfl rfl sp110 rfl rfl rfl ?_
              refine w_iload_n rfl rfl rfl ?_
              refine w_baload rfl rfl sp128 rfl ⟨by omega, by omega⟩ rfl ?_
              refine w_if_eq (t := 191) (f := 185) rfl rfl rfl (fun c182 => ?_) (fun c182 => ?_)
              · refine w_aload_n rfl rfl rfl ?_
                refine w_gf (t := .ref (128)) (v := .ref (128)) rfl rfl rfl sp110 rfl rfl rfl ?_
                refine w_iload_n rfl rfl rfl ?_
                refine w_iconst (x := Int32.ofNat 1) rfl rfl (by decide) ?_
                refine w_bastore rfl rfl sp128 rfl ⟨by omega, by omega⟩ (by decide) ?_
                refine w_aload_n rfl rfl rfl ?_
                refine w_cv (q := am_m174) (as := []) (rest := []) (st' := []) rfl rfl rfl rfl rfl rfl sp110 rfl rfl rfl rfl (c_tok (pv_u (by omega) (by omega) v1) (by omega)) rfl rfl ?_
                change wz _ _ _ _ _ _ _ (lw3 I) _ _ _
                refine w_aload_n rfl rfl rfl ?_
                refine w_gf (t := .ref (129)) (v := .ref (129)) rfl rfl rfl sp110 rfl rfl rfl ?_
                refine w_iload_n rfl rfl rfl ?_
                refine w_aload_n rfl rfl rfl ?_
                refine w_gf (t := .int 0) (v := .int _) rfl rfl rfl sp110 rfl (congrArg Value.int rfl) rfl ?_
                refine w_iastore rfl rfl sp129 rfl ⟨by omega, by omega⟩ ?_
                change wz _ _ _ _ _ _ _ (lw4 I) _ _ _
                refine w_aload_n rfl rfl rfl ?_
                refine w_cv (q := am_m205) (as := []) (rest := []) (st' := [_]) rfl rfl rfl rfl rfl rfl sp110 rfl rfl rfl rfl (c_sumRead v4 y4 hK ((f3 21 (by omega)).trans h21) ((f3 48 (by omega)).trans h48) (by omega)) rfl rfl ?_
                change wz _ _ _ _ _ _ (Value.int (lw5 I).1 :: []) (lw5 I).2 _ _ _
                refine w_istore_n (L' := [_, _, _]) rfl rfl rfl ?_
                refine w_aload_n rfl rfl rfl ?_
                refine w_gf (t := .ref (130)) (v := .ref (130)) rfl rfl rfl sp110 rfl rfl rfl ?_
                refine w_iload_n rfl rfl rfl ?_
                refine w_aload_n rfl rfl rfl ?_
                refine w_gf (t := .int 0) (v := .int _) rfl rfl rfl sp110 rfl (congrArg Value.int rfl) rfl ?_
                refine w_iastore rfl rfl sp130 rfl ⟨by omega, by omega⟩ ?_
                have hE : m_ln I a b c d = m_lnE ((lw5 I).1, lw6 I) := by rw [hE0]; unfold m_lwL; rw [if_pos (show m_lwP I from And.intro c139 (And.intro c148 c157)), if_pos c182]
                exact wz_r (l_lnE (r := ((lw5 I).1, lw6 I)) v6 (by omega)) (by rw [hE])
              · refine w_aload_n rfl rfl rfl ?_
                refine w_iconst (x := Int32.ofNat 3) rfl rfl (by decide) ?_
                refine w_cv (q := am_m170) (as := [_]) (rest := []) (st' := [_]) rfl rfl rfl rfl rfl rfl sp110 rfl rfl rfl rfl (c_wrong (by omega)) rfl rfl ?_
                have hE : m_ln I a b c d = (0, m_wr (lw1 I) (Int32.ofNat 3)) := by rw [hE0]; unfold m_lwL; rw [if_pos (show m_lwP I from And.intro c139 (And.intro c148 c157)), if_neg c182]
                exact w_bret rfl (by decide) (by rw [hE] <;> rfl) (by rw [hE]) rfl rfl
            · refine w_aload_n rfl rfl rfl ?_
              refine w_iconst (x := Int32.ofNat 1) rfl rfl (by decide) ?_
              refine w_cv (q := am_m170) (as := [_]) (rest := []) (st' := [_]) rfl rfl rfl rfl rfl rfl sp110 rfl rfl rfl rfl (c_wrong (by omega)) rfl rfl ?_
              have hE : m_ln I a b c d = (0, m_wr (lw1 I) (Int32.ofNat 1)) := by rw [hE0]; unfold m_lwL; first | rw [if_neg (show ¬ m_lwP I from am_na0 c139)] | rw [if_neg (show ¬ m_lwP I from fun z => z.2.1 c148)] | rw [if_neg (show ¬ m_lwP I from fun z => z.2.2 c157)]
              exact w_bret rfl (by decide) (by rw [hE] <;> rfl) (by rw [hE]) rfl rfl
      · have h3 : n = 0 ∨ n = 1 ∨ n = 2 ∨ n = 3 ∨ n = 4 ∨ n = 5 ∨ n = 6 := by omega
        rcases h3 with rfl | rfl | rfl | rfl | rfl | rfl | rfl
        · refine ⟨68, rfl, ?_⟩
          refine w_aload_n rfl rfl rfl ?_
          refine w_cv (q := am_m186) (as := []) (rest := []) (st' := [_]) rfl rfl rfl rfl rfl rfl sp110 rfl rfl rfl rfl (c_makerLine g ha h17 (by omega)) rfl rfl ?_
          have hE : m_ln I a b c d = m_lnE (m_mkL I a) := by unfold m_ln; rw [if_pos (And.intro c5 c14), if_pos sw]
          refine w_istore_n (L' := [_, _, _]) rfl rfl rfl ?_
          refine w_goto (pc' := 227) rfl rfl ?_
          exact wz_r (l_lnE (r := m_mkL I a) (pv_mkL g) (by omega)) (by rw [hE])
        · refine ⟨76, rfl, ?_⟩
          refine w_aload_n rfl rfl rfl ?_
          refine w_cv (q := am_m187) (as := []) (rest := []) (st' := [_]) rfl rfl rfl rfl rfl rfl sp110 rfl rfl rfl rfl (c_ropeLine g ha h17 hb h18 (by omega)) rfl rfl ?_
          have hE : m_ln I a b c d = m_lnE (m_rpL I a b) := by unfold m_ln; rw [if_pos (And.intro c5 c14), if_neg (show ¬ I 110 9 = Int32.ofNat 0 by rw [sw]; decide), if_pos sw]
          refine w_istore_n (L' := [_, _, _]) rfl rfl rfl ?_
          refine w_goto (pc' := 227) rfl rfl ?_
          exact wz_r (l_lnE (r := m_rpL I a b) (pv_rpL g) (by omega)) (by rw [hE])
        · refine ⟨84, rfl, ?_⟩
          refine w_aload_n rfl rfl rfl ?_
          refine w_cv (q := am_m188) (as := []) (rest := []) (st' := [_]) rfl rfl rfl rfl rfl rfl sp110 rfl rfl rfl rfl (c_shipLine g hc h19 (by omega)) rfl rfl ?_
          have hE : m_ln I a b c d = m_lnE (m_shL I c) := by unfold m_ln; rw [if_pos (And.intro c5 c14), if_neg (show ¬ I 110 9 = Int32.ofNat 0 by rw [sw]; decide), if_neg (show ¬ I 110 9 = Int32.ofNat 1 by rw [sw]; decide), if_pos sw]
          refine w_istore_n (L' := [_, _, _]) rfl rfl rfl ?_
          refine w_goto (pc' := 227) rfl rfl ?_
          exact wz_r (l_lnE (r := m_shL I c) (pv_shL g) (by omega)) (by rw [hE])
        · refine ⟨92, rfl, ?_⟩
          refine w_aload_n rfl rfl rfl ?_
          refine w_cv (q := am_m189) (as := []) (rest := []) (st' := [_]) rfl rfl rfl rfl rfl rfl sp110 rfl rfl rfl rfl (c_rigLine g hb h18 hc h19 (by omega)) rfl rfl ?_
          have hE : m_ln I a b c d = m_lnE (m_rgL I b c) := by unfold m_ln; rw [if_pos (And.intro c5 c14), if_neg (show ¬ I 110 9 = Int32.ofNat 0 by rw [sw]; decide), if_neg (show ¬ I 110 9 = Int32.ofNat 1 by rw [sw]; decide), if_neg (show ¬ I 110 9 = Int32.ofNat 2 by rw [sw]; decide), if_pos sw]
          refine w_istore_n (L' := [_, _, _]) rfl rfl rfl ?_
          refine w_goto (pc' := 227) rfl rfl ?_
          exact wz_r (l_lnE (r := m_rgL I b c) (pv_rgL g) (by omega)) (by rw [hE])
        · refine ⟨100, rfl, ?_⟩
          refine w_aload_n rfl rfl rfl ?_
          refine w_cv (q := am_m190) (as := []) (rest := []) (st' := [_]) rfl rfl rfl rfl rfl rfl sp110 rfl rfl rfl rfl (c_sailLine g hc h19 hd h20 (by omega)) rfl rfl ?_
          have hE : m_ln I a b c d = m_lnE (m_saL I c d) := by unfold m_ln; rw [if_pos (And.intro c5 c14), if_neg (show ¬ I 110 9 = Int32.ofNat 0 by rw [sw]; decide), if_neg (show ¬ I 110 9 = Int32.ofNat 1 by rw [sw]; decide), if_neg (show ¬ I 110 9 = Int32.ofNat 2 by rw [sw]; decide), if_neg (show ¬ I 110 9 = Int32.ofNat 3 by rw [sw]; decide), if_pos sw]
          refine w_istore_n (L' := [_, _, _]) rfl rfl rfl ?_
          refine w_goto (pc' := 227) rfl rfl ?_
          exact wz_r (l_lnE (r := m_saL I c d) (pv_saL g) (by omega)) (by rw [hE])
        · refine ⟨108, rfl, ?_⟩
          refine w_aload_n rfl rfl rfl ?_
          refine w_iconst (x := Int32.ofNat 0) rfl rfl (by decide) ?_
          refine w_bipush (x := Int32.ofNat 100) rfl rfl (by decide) ?_
          refine w_cv (q := am_m191) (as := [_, _]) (rest := []) (st' := [_]) rfl rfl rfl rfl rfl rfl sp110 rfl rfl rfl rfl (c_onceLine (j := 0) g (by decide) (by omega)) rfl rfl ?_
          have hE : m_ln I a b c d = m_lnE (m_onL I 0 (Int32.ofNat 100)) := by unfold m_ln; rw [if_pos (And.intro c5 c14), if_neg (show ¬ I 110 9 = Int32.ofNat 0 by rw [sw]; decide), if_neg (show ¬ I 110 9 = Int32.ofNat 1 by rw [sw]; decide), if_neg (show ¬ I 110 9 = Int32.ofNat 2 by rw [sw]; decide), if_neg (show ¬ I 110 9 = Int32.ofNat 3 by rw [sw]; decide), if_neg (show ¬ I 110 9 = Int32.ofNat 4 by rw [sw]; decide), if_pos sw]
          refine w_istore_n (L' := [_, _, _]) rfl rfl rfl ?_
          refine w_goto (pc' := 227) rfl rfl ?_
          exact wz_r (l_lnE (r := m_onL I 0 (Int32.ofNat 100)) (pv_onL g) (by omega)) (by rw [hE])
        · refine ⟨119, rfl, ?_⟩
          refine w_aload_n rfl rfl rfl ?_
          refine w_iconst (x := Int32.ofNat 1) rfl rfl (by decide) ?_
          refine w_ldc (x := Int32.ofNat 99999) rfl rfl rfl ?_
          refine w_cv (q := am_m191) (as := [_, _]) (rest := []) (st' := [_]) rfl rfl rfl rfl rfl rfl sp110 rfl rfl rfl rfl (c_onceLine (j := 1) g (by decide) (by omega)) rfl rfl ?_
          have hE : m_ln I a b c d = m_lnE (m_onL I 1 (Int32.ofNat 99999)) := by unfold m_ln; rw [if_pos (And.intro c5 c14), if_neg (show ¬ I 110 9 = Int32.ofNat 0 by rw [sw]; decide), if_neg (show ¬ I 110 9 = Int32.ofNat 1 by rw [sw]; decide), if_neg (show ¬ I 110 9 = Int32.ofNat 2 by rw [sw]; decide), if_neg (show ¬ I 110 9 = Int32.ofNat 3 by rw [sw]; decide), if_neg (show ¬ I 110 9 = Int32.ofNat 4 by rw [sw]; decide), if_neg (show ¬ I 110 9 = Int32.ofNat 5 by rw [sw]; decide), if_pos sw]
          refine w_istore_n (L' := [_, _, _]) rfl rfl rfl ?_
          refine w_goto (pc' := 227) rfl rfl ?_
          exact wz_r (l_lnE (r := m_onL I 1 (Int32.ofNat 99999)) (pv_onL g) (by omega)) (by rw [hE])
    · refine w_aload_n rfl rfl rfl ?_
      refine w_iconst (x := Int32.ofNat 1) rfl rfl (by decide) ?_
      refine w_cv (q := am_m170) (as := [_]) (rest := []) (st' := [_]) rfl rfl rfl rfl rfl rfl sp110 rfl rfl rfl rfl (c_wrong (by omega)) rfl rfl ?_
      have hE : m_ln I a b c d = (0, m_wr I (Int32.ofNat 1)) := by unfold m_ln; first | rw [if_neg (am_na0 c5)] | rw [if_neg (am_na2 c14)]
      exact w_bret rfl (by decide) (by rw [hE] <;> rfl) (by rw [hE]) rfl rfl
