/-! The reference's days. -/
def m_cut (v : Int64) (mo : Int32) : Int32 := if v < 0 then Int32.ofNat 0 else if mo.toInt64 < v then mo else v.toInt32
def m_bl (I : hI) (J : hJ) (w : Nat) (wo mo : Int32) : Int32 := if I 128 w = 0 then wo else if (m_ls I J w).1 = 0 then m_cut (m_law I J w) mo else wo
def m_blI (I : hI) (J : hJ) (w : Nat) : hI := if I 128 w = 0 then I else am_u I 110 53 (m_ls I J w).1
def m_blJ (I : hI) (J : hJ) (w : Nat) : hJ := if I 128 w = 0 then J else (m_ls I J w).2
/-- what a day leaves as it is -/
def simF (I I' : hI) : Prop := ∀ a i, ¬ (138 ≤ a ∧ a ≤ 145) → ¬ (a = 110 ∧ (i = 53 ∨ i = 63)) → I' a i = I a i
theorem simF_rf (I : hI) : simF I I := fun _ _ _ _ => rfl
theorem simF_tr {I I1 I2 : hI} (h : simF I I1) (g : simF I1 I2) : simF I I2 := fun a i x y => (g a i x y).trans (h a i x y)
theorem simF_u {I : hI} {a k : Nat} {x : Int32} (h : (138 ≤ a ∧ a ≤ 145) ∨ (a = 110 ∧ (k = 53 ∨ k = 63))) : simF I (am_u I a k x) := by
  intro b i h1 h2
  unfold am_u
  rw [if_neg]
  rintro ⟨rfl, rfl⟩
  rcases h with h | h
  · exact h1 h
  · exact h2 h
/-- what is told can be gone by -/
def tok (I : hI) (N : Nat → Nat) : Prop := (N 0 ≤ 6 ∧ N 1 ≤ 8 ∧ N 2 ≤ 5 ∧ N 3 ≤ 10) ∧ (I 110 12 = Int32.ofNat (N 0) ∧ I 110 13 = Int32.ofNat (N 1) ∧ I 110 14 = Int32.ofNat (N 2) ∧ I 110 15 = Int32.ofNat (N 3)) ∧ (∀ r, r < N 1 → okn (I 119 r) 6) ∧ (∀ v, v < N 3 → okn (I 125 v) 5) ∧ (∀ w, w < 3 → ¬ I 128 w = 0 → lok I w)
theorem kok_c {I I' : hI} (h : ∀ a i, 128 ≤ a → a ≤ 133 → I' a i = I a i) {n : Nat} (g : kok I n) : kok I' n := by
  unfold kok at g ⊢
  rw [h 131 n (by decide) (by decide), h 132 n (by decide) (by decide), h 133 n (by decide) (by decide)]
  exact g
theorem lok_c {I I' : hI} (h : ∀ a i, 128 ≤ a → a ≤ 133 → I' a i = I a i) {w : Nat} (g : lok I w) : lok I' w := by
  unfold lok lf ln at g ⊢
  rw [h 129 w (by decide) (by decide), h 130 w (by decide) (by decide)]
  exact ⟨g.1, g.2.1, g.2.2.1, g.2.2.2.1, fun i hi => kok_c h (g.2.2.2.2 i hi)⟩
theorem tok_c {I I' : hI} {N : Nat → Nat} (h : ∀ a i, (114 ≤ a ∧ a ≤ 133) ∨ (a = 110 ∧ 12 ≤ i ∧ i ≤ 15) → I' a i = I a i) (g : tok I N) : tok I' N := by
  unfold tok at g ⊢
  obtain ⟨g0, ⟨g1, g2, g3, g4⟩, g5, g6, g7⟩ := g
  refine ⟨g0, ⟨(h 110 12 (by decide)).trans g1, (h 110 13 (by decide)).trans g2, (h 110 14 (by decide)).trans g3, (h 110 15 (by decide)).trans g4⟩, fun r hr => ?_, fun v hv => ?_, fun w hw hl => ?_⟩
  · rw [h 119 r (by omega)]; exact g5 r hr
  · rw [h 125 v (by omega)]; exact g6 v hv
  · rw [h 128 w (by omega)] at hl
    exact lok_c (fun a i h1 h2 => h a i (by omega)) (g7 w hw hl)
theorem tok_F {I I' : hI} {N : Nat → Nat} (h : simF I I') (g : tok I N) : tok I' N := tok_c (fun a i z => h a i (by omega) (by omega)) g
def sb (I : hI) : Prop := I 110 63 = 0 ∨ I 110 63 = 1
theorem c_boundLaw {k : Nat} {I : hI} {J : hJ} {R : hR} {w : Nat} {wo mo : Int32} (hw : w < 3) (hL : ¬ I 128 w = 0 → lok I w) (hk : 4 ≤ k) : ct k 224 [.ref 110, .int (Int32.ofNat w), .int wo, .int mo] I J R (some (.int (m_bl I J w wo mo))) (m_blI I J w) (m_blJ I J w) R := by
  obtain ⟨k, rfl⟩ : ∃ k', k = k' + 1 := ⟨k - 1, by omega⟩
  refine ct_of (q := am_m224) (L := [_, _, _, _, _, _]) rfl rfl rfl rfl rfl rfl ?_
  refine w_aload_n rfl rfl rfl ?_
  refine w_gf (t := .ref (128)) (v := .ref (128)) rfl rfl rfl sp110 rfl rfl rfl ?_
  refine w_iload_n rfl rfl rfl ?_
  refine w_baload rfl rfl sp128 rfl ⟨by omega, by omega⟩ rfl ?_
  refine w_if_ne (t := 11) (f := 9) rfl rfl rfl (fun c6 => ?_) (fun c6 => ?_)
  · refine w_aload_n rfl rfl rfl ?_
    refine w_iload_n rfl rfl rfl ?_
    refine w_cv (q := am_m223) (as := [_]) (rest := []) (st' := [_]) rfl rfl rfl rfl rfl rfl sp110 rfl rfl rfl rfl (c_lawOf hw (hL c6) (by omega)) rfl rfl ?_
    refine w_lstore (L' := [_, _, _, _, _, _]) rfl rfl rfl ?_
    refine w_aload_n rfl rfl rfl ?_
    refine w_gf (t := .int 0) (v := .int _) rfl rfl rfl sp110 rfl (congrArg Value.int am_u_at) rfl ?_
    refine w_if_eq (t := 27) (f := 25) rfl rfl rfl (fun c22 => ?_) (fun c22 => ?_)
    · refine w_lload rfl rfl rfl ?_
      refine w_lconst (x := 0) rfl rfl (by decide) ?_
      refine w_lc_ge (t := 38) (f := 34) (p1 := 31) rfl rfl rfl rfl rfl (fun c31 => ?_) (fun c31 => ?_)
      · refine w_lload rfl rfl rfl ?_
        refine w_iload_n rfl rfl rfl ?_
        refine w_i2l rfl rfl ?_
        refine w_lc_le (t := 50) (f := 46) (p1 := 43) rfl rfl rfl rfl rfl (fun c43 => ?_) (fun c43 => ?_)
        · refine w_lload rfl rfl rfl ?_
          refine w_l2i rfl rfl ?_
          exact w_iret rfl (by simp only [m_bl, m_cut, *, ite_true, ite_false, and_self, and_true, true_and, and_false, false_and, or_true, true_or, or_false, false_or, not_true, not_false_iff] <;> rfl) (by simp only [m_blI, *, ite_true, ite_false, and_self, and_true, true_and, and_false, false_and, or_true, true_or, or_false, false_or, not_true, not_false_iff] <;> rfl) (by simp only [m_blJ, *, ite_true, ite_false, and_self, and_true, true_and, and_false, false_and, or_true, true_or, or_false, false_or, not_true, not_false_iff] <;> rfl) rfl
        · refine w_iload_n rfl rfl rfl ?_
          refine w_goto (pc' := 53) rfl rfl ?_
          exact w_iret rfl (by simp only [m_bl, m_cut, *, ite_true, ite_false, and_self, and_true, true_and, and_false, false_and, or_true, true_or, or_false, false_or, not_true, not_false_iff] <;> rfl) (by simp only [m_blI, *, ite_true, ite_false, and_self, and_true, true_and, and_false, false_and, or_true, true_or, or_false, false_or, not_true, not_false_iff] <;> rfl) (by simp only [m_blJ, *, ite_true, ite_false, and_self, and_true, true_and, and_false, false_and, or_true, true_or, or_false, false_or, not_true, not_false_iff] <;> rfl) rfl
      · refine w_iconst (x := Int32.ofNat 0) rfl rfl (by decide) ?_
        refine w_goto (pc' := 53) rfl rfl ?_
        exact w_iret rfl (by simp only [m_bl, m_cut, *, ite_true, ite_false, and_self, and_true, true_and, and_false, false_and, or_true, true_or, or_false, false_or, not_true, not_false_iff] <;> rfl) (by simp only [m_blI, *, ite_true, ite_false, and_self, and_true, true_and, and_false, false_and, or_true, true_or, or_false, false_or, not_true, not_false_iff] <;> rfl) (by simp only [m_blJ, *, ite_true, ite_false, and_self, and_true, true_and, and_false, false_and, or_true, true_or, or_false, false_or, not_true, not_false_iff] <;> rfl) rfl
    · refine w_iload_n rfl rfl rfl ?_
      exact w_iret rfl (by simp only [m_bl, m_cut, *, ite_true, ite_false, and_self, and_true, true_and, and_false, false_and, or_true, true_or, or_false, false_or, not_true, not_false_iff] <;> rfl) (by simp only [m_blI, *, ite_true, ite_false, and_self, and_true, true_and, and_false, false_and, or_true, true_or, or_false, false_or, not_true, not_false_iff] <;> rfl) (by simp only [m_blJ, *, ite_true, ite_false, and_self, and_true, true_and, and_false, false_and, or_true, true_or, or_false, false_or, not_true, not_false_iff] <;> rfl) rfl
  · refine w_iload_n rfl rfl rfl ?_
    exact w_iret rfl (by simp only [m_bl, m_cut, *, ite_true, ite_false, and_self, and_true, true_and, and_false, false_and, or_true, true_or, or_false, false_or, not_true, not_false_iff] <;> rfl) (by simp only [m_blI, *, ite_true, ite_false, and_self, and_true, true_and, and_false, false_and, or_true, true_or, or_false, false_or, not_true, not_false_iff] <;> rfl) (by simp only [m_blJ, *, ite_true, ite_false, and_self, and_true, true_and, and_false, false_and, or_true, true_or, or_false, false_or, not_true, not_false_iff] <;> rfl) rfl
def m_tI (I : hI) : hI := am_u I 110 63 (if ¬ I 110 66 = 0 ∨ (I 110 65 = 0 ∧ ¬ I 114 0 < Int32.ofNat 50) then Int32.ofNat 1 else Int32.ofNat 0)
def m_tJ (I : hI) (J : hJ) (b n r : Nat) : hJ := m_layR (m_tI I) J b n r (Int32.ofNat 0)
def m_tw (I : hI) (J : hJ) (b n r : Nat) : Int32 := m_bl (m_tI I) (m_tJ I J b n r) 0 (Int32.ofNat 10 * m_even (m_tI I) (nn (I 119 r)) + I 120 r) (Int32.ofNat 999)
def m_twI (I : hI) (J : hJ) (b n r : Nat) : hI := am_u (m_blI (m_tI I) (m_tJ I J b n r) 0) 110 63 (I 110 63)
def m_twJ (I : hI) (J : hJ) (b n r : Nat) : hJ := m_blJ (m_tI I) (m_tJ I J b n r) 0
theorem lok_u {I : hI} {j w : Nat} {x : Int32} (h : ¬ I 128 w = 0 → lok I w) : ¬ am_u I 110 j x 128 w = 0 → lok (am_u I 110 j x) w := fun z => lok_c (fun a i h1 h2 => am_u_na (by omega)) (h (by rw [am_u_na (by decide)] at z; exact z))
theorem c_twisted {k : Nat} {I : hI} {J : hJ} {R : hR} {b n r : Nat} (hb : b ≤ 1) (hr : r < 8) (hn : n ≤ 8) (h13 : I 110 13 = Int32.ofNat n) (hm : okn (I 119 r) 6) (hL : ¬ I 128 0 = 0 → lok I 0) (hs : sb I) (hk : 5 ≤ k) : ct k 225 [.ref 110, .int (Int32.ofNat b), .int (Int32.ofNat r)] I J R (some (.int (m_tw I J b n r))) (m_twI I J b n r) (m_twJ I J b n r) R := by
  obtain ⟨k, rfl⟩ : ∃ k', k = k' + 1 := ⟨k - 1, by omega⟩
  refine ct_of (q := am_m225) (L := [_, _, _, _, _]) rfl rfl rfl rfl rfl rfl ?_
  refine w_aload_n rfl rfl rfl ?_
  refine w_gf (t := .int 0) (v := .int _) rfl rfl rfl sp110 rfl (congrArg Value.int rfl) rfl ?_
  refine w_istore_n (L' := [_, _, _, _, _]) rfl rfl rfl ?_
  refine w_aload_n rfl rfl rfl ?_
  refine w_aload_n rfl rfl rfl ?_
  refine w_gf (t := .int 0) (v := .int _) rfl rfl rfl sp110 rfl (congrArg Value.int rfl) rfl ?_
  refine w_if_ne (t := 31) (f := 13) rfl rfl rfl (fun c10 => ?_) (fun c10 => ?_)
  · refine w_iconst (x := Int32.ofNat 1) rfl rfl (by decide) ?_
    refine w_goto (pc' := 36) rfl rfl ?_
    refine w_pf rfl rfl rfl sp110 rfl rfl rfl ?_
    refine w_aload_n rfl rfl rfl ?_
    refine w_iload_n rfl rfl rfl ?_
    refine w_iload_n rfl rfl rfl ?_
    refine w_iconst (x := Int32.ofNat 0) rfl rfl (by decide) ?_
    refine w_cv (q := am_m221) (as := [_, _, _]) (rest := []) (st' := []) rfl rfl rfl rfl rfl rfl sp110 rfl rfl rfl rfl (c_layRope hb hr hn (by rw [am_u_nk (by decide)]; exact h13) (by rw [am_u_na (by decide)]; exact hm) (by omega)) rfl rfl ?_
    refine w_aload_n rfl rfl rfl ?_
    refine w_iconst (x := Int32.ofNat 0) rfl rfl (by decide) ?_
    refine w_bipush (x := Int32.ofNat 10) rfl rfl (by decide) ?_
    refine w_aload_n rfl rfl rfl ?_
    refine w_aload_n rfl rfl rfl ?_
    refine w_gf (t := .ref (119)) (v := .ref (119)) rfl rfl rfl sp110 rfl rfl rfl ?_
    refine w_iload_n rfl rfl rfl ?_
    refine w_iaload rfl rfl sp119 rfl ⟨by omega, by omega⟩ ((congrFun (am_u_ne (by decide)) _).trans hm.1) ?_
    refine w_cv (q := am_m217) (as := [_]) (rest := [_, _, _]) (st' := [_, _, _, _]) rfl rfl rfl rfl rfl rfl sp110 rfl rfl rfl rfl (c_evenIn (by have := hm.2; omega) (by omega)) rfl rfl ?_
    refine w_imul rfl rfl ?_
    refine w_aload_n rfl rfl rfl ?_
    refine w_gf (t := .ref (120)) (v := .ref (120)) rfl rfl rfl sp110 rfl rfl rfl ?_
    refine w_iload_n rfl rfl rfl ?_
    refine w_iaload rfl rfl sp120 rfl ⟨by omega, by omega⟩ (congrFun (am_u_ne (by decide)) _) ?_
    refine w_iadd rfl rfl ?_
    refine w_sipush (x := Int32.ofNat 999) rfl rfl (by decide) ?_
    refine w_cv (q := am_m224) (as := [_, _, _]) (rest := []) (st' := [_]) rfl rfl rfl rfl rfl rfl sp110 rfl rfl rfl rfl (c_boundLaw (by decide) (lok_u hL) (by omega)) rfl rfl ?_
    refine w_istore (L' := [_, _, _, _, _]) rfl rfl rfl ?_
    refine w_aload_n rfl rfl rfl ?_
    refine w_iload_n rfl rfl rfl ?_
    refine w_pf rfl rfl rfl sp110 rfl (am_fitb hs) rfl ?_
    refine w_iload rfl rfl rfl ?_
    exact w_iret rfl (by simp only [m_tw, m_tI, m_tJ, *, ite_true, ite_false, and_self, and_true, true_and, and_false, false_and, or_true, true_or, or_false, false_or, not_true, not_false_iff] <;> rfl) (by simp only [m_twI, m_tI, m_tJ, *, ite_true, ite_false, and_self, and_true, true_and, and_false, false_and, or_true, true_or, or_false, false_or, not_true, not_false_iff] <;> rfl) (by simp only [m_twJ, m_tI, m_tJ, *, ite_true, ite_false, and_self, and_true, true_and, and_false, false_and, or_true, true_or, or_false, false_or, not_true, not_false_iff] <;> rfl) rfl
  · refine w_aload_n rfl rfl rfl ?_
    refine w_gf (t := .int 0) (v := .int _) rfl rfl rfl sp110 rfl (congrArg Value.int rfl) rfl ?_
    refine w_if_ne (t := 35) (f := 20) rfl rfl rfl (fun c17 => ?_) (fun c17 => ?_)
    · refine w_iconst (x := Int32.ofNat 0) rfl rfl (by decide) ?_
      refine w_pf rfl rfl rfl sp110 rfl rfl rfl ?_
      refine w_aload_n rfl rfl rfl ?_
      refine w_iload_n rfl rfl rfl ?_
      refine w_iload_n rfl rfl rfl ?_
      refine w_iconst (x := Int32.ofNat 0) rfl rfl (by decide) ?_
      refine w_cv (q := am_m221) (as := [_, _, _]) (rest := []) (st' := []) rfl rfl rfl rfl rfl rfl sp110 rfl rfl rfl rfl (c_layRope hb hr hn (by rw [am_u_nk (by decide)]; exact h13) (by rw [am_u_na (by decide)]; exact hm) (by omega)) rfl rfl ?_
      refine w_aload_n rfl rfl rfl ?_
      refine w_iconst (x := Int32.ofNat 0) rfl rfl (by decide) ?_
      refine w_bipush (x := Int32.ofNat 10) rfl rfl (by decide) ?_
      refine w_aload_n rfl rfl rfl ?_
      refine w_aload_n rfl rfl rfl ?_
      refine w_gf (t := .ref (119)) (v := .ref (119)) rfl rfl rfl sp110 rfl rfl rfl ?_
      refine w_iload_n rfl rfl rfl ?_
      refine w_iaload rfl rfl sp119 rfl ⟨by omega, by omega⟩ ((congrFun (am_u_ne (by decide)) _).trans hm.1) ?_
      refine w_cv (q := am_m217) (as := [_]) (rest := [_, _, _]) (st' := [_, _, _, _]) rfl rfl rfl rfl rfl rfl sp110 rfl rfl rfl rfl (c_evenIn (by have := hm.2; omega) (by omega)) rfl rfl ?_
      refine w_imul rfl rfl ?_
      refine w_aload_n rfl rfl rfl ?_
      refine w_gf (t := .ref (120)) (v := .ref (120)) rfl rfl rfl sp110 rfl rfl rfl ?_
      refine w_iload_n rfl rfl rfl ?_
      refine w_iaload rfl rfl sp120 rfl ⟨by omega, by omega⟩ (congrFun (am_u_ne (by decide)) _) ?_
      refine w_iadd rfl rfl ?_
      refine w_sipush (x := Int32.ofNat 999) rfl rfl (by decide) ?_
      refine w_cv (q := am_m224) (as := [_, _, _]) (rest := []) (st' := [_]) rfl rfl rfl rfl rfl rfl sp110 rfl rfl rfl rfl (c_boundLaw (by decide) (lok_u hL) (by omega)) rfl rfl ?_
      refine w_istore (L' := [_, _, _, _, _]) rfl rfl rfl ?_
      refine w_aload_n rfl rfl rfl ?_
      refine w_iload_n rfl rfl rfl ?_
      refine w_pf rfl rfl rfl sp110 rfl (am_fitb hs) rfl ?_
      refine w_iload rfl rfl rfl ?_
      exact w_iret rfl (by simp only [m_tw, m_tI, m_tJ, *, ite_true, ite_false, and_self, and_true, true_and, and_false, false_and, or_true, true_or, or_false, false_or, not_true, not_false_iff] <;> rfl) (by simp only [m_twI, m_tI, m_tJ, *, ite_true, ite_false, and_self, and_true, true_and, and_false, false_and, or_true, true_or, or_false, false_or, not_true, not_false_iff] <;> rfl) (by simp only [m_twJ, m_tI, m_tJ, *, ite_true, ite_false, and_self, and_true, true_and, and_false, false_and, or_true, true_or, or_false, false_or, not_true, not_false_iff] <;> rfl) rfl
    · refine w_aload_n rfl rfl rfl ?_
      refine w_gf (t := .ref (114)) (v := .ref (114)) rfl rfl rfl sp110 rfl rfl rfl ?_
      refine w_iconst (x := Int32.ofNat 0) rfl rfl (by decide) ?_
      refine w_iaload rfl rfl sp114 rfl ⟨by omega, by omega⟩ rfl ?_
      refine w_bipush (x := Int32.ofNat 50) rfl rfl (by decide) ?_
      refine w_ic_lt (t := 35) (f := 31) rfl rfl rfl (fun c28 => ?_) (fun c28 => ?_)
      · refine w_iconst (x := Int32.ofNat 0) rfl rfl (by decide) ?_
        refine w_pf rfl rfl rfl sp110 rfl rfl rfl ?_
        refine w_aload_n rfl rfl rfl ?_
        refine w_iload_n rfl rfl rfl ?_
        refine w_iload_n rfl rfl rfl ?_
        refine w_iconst (x := Int32.ofNat 0) rfl rfl (by decide) ?_
        refine w_cv (q := am_m221) (as := [_, _, _]) (rest := []) (st' := []) rfl rfl rfl rfl rfl rfl sp110 rfl rfl rfl rfl (c_layRope hb hr hn (by rw [am_u_nk (by decide)]; exact h13) (by rw [am_u_na (by decide)]; exact hm) (by omega)) rfl rfl ?_
        refine w_aload_n rfl rfl rfl ?_
        refine w_iconst (x := Int32.ofNat 0) rfl rfl (by decide) ?_
        refine w_bipush (x := Int32.ofNat 10) rfl rfl (by decide) ?_
        refine w_aload_n rfl rfl rfl ?_
        refine w_aload_n rfl rfl rfl ?_
        refine w_gf (t := .ref (119)) (v := .ref (119)) rfl rfl rfl sp110 rfl rfl rfl ?_
        refine w_iload_n rfl rfl rfl ?_
        refine w_iaload rfl rfl sp119 rfl ⟨by omega, by omega⟩ ((congrFun (am_u_ne (by decide)) _).trans hm.1) ?_
        refine w_cv (q := am_m217) (as := [_]) (rest := [_, _, _]) (st' := [_, _, _, _]) rfl rfl rfl rfl rfl rfl sp110 rfl rfl rfl rfl (c_evenIn (by have := hm.2; omega) (by omega)) rfl rfl ?_
        refine w_imul rfl rfl ?_
        refine w_aload_n rfl rfl rfl ?_
        refine w_gf (t := .ref (120)) (v := .ref (120)) rfl rfl rfl sp110 rfl rfl rfl ?_
        refine w_iload_n rfl rfl rfl ?_
        refine w_iaload rfl rfl sp120 rfl ⟨by omega, by omega⟩ (congrFun (am_u_ne (by decide)) _) ?_
        refine w_iadd rfl rfl ?_
        refine w_sipush (x := Int32.ofNat 999) rfl rfl (by decide) ?_
        refine w_cv (q := am_m224) (as := [_, _, _]) (rest := []) (st' := [_]) rfl rfl rfl rfl rfl rfl sp110 rfl rfl rfl rfl (c_boundLaw (by decide) (lok_u hL) (by omega)) rfl rfl ?_
        refine w_istore (L' := [_, _, _, _, _]) rfl rfl rfl ?_
        refine w_aload_n rfl rfl rfl ?_
        refine w_iload_n rfl rfl rfl ?_
        refine w_pf rfl rfl rfl sp110 rfl (am_fitb hs) rfl ?_
        refine w_iload rfl rfl rfl ?_
        exact w_iret rfl (by simp only [m_tw, m_tI, m_tJ, *, ite_true, ite_false, and_self, and_true, true_and, and_false, false_and, or_true, true_or, or_false, false_or, not_true, not_false_iff] <;> rfl) (by simp only [m_twI, m_tI, m_tJ, *, ite_true, ite_false, and_self, and_true, true_and, and_false, false_and, or_true, true_or, or_false, false_or, not_true, not_false_iff] <;> rfl) (by simp only [m_twJ, m_tI, m_tJ, *, ite_true, ite_false, and_self, and_true, true_and, and_false, false_and, or_true, true_or, or_false, false_or, not_true, not_false_iff] <;> rfl) rfl
      · refine w_iconst (x := Int32.ofNat 1) rfl rfl (by decide) ?_
        refine w_goto (pc' := 36) rfl rfl ?_
        refine w_pf rfl rfl rfl sp110 rfl rfl rfl ?_
        refine w_aload_n rfl rfl rfl ?_
        refine w_iload_n rfl rfl rfl ?_
        refine w_iload_n rfl rfl rfl ?_
        refine w_iconst (x := Int32.ofNat 0) rfl rfl (by decide) ?_
        refine w_cv (q := am_m221) (as := [_, _, _]) (rest := []) (st' := []) rfl rfl rfl rfl rfl rfl sp110 rfl rfl rfl rfl (c_layRope hb hr hn (by rw [am_u_nk (by decide)]; exact h13) (by rw [am_u_na (by decide)]; exact hm) (by omega)) rfl rfl ?_
        refine w_aload_n rfl rfl rfl ?_
        refine w_iconst (x := Int32.ofNat 0) rfl rfl (by decide) ?_
        refine w_bipush (x := Int32.ofNat 10) rfl rfl (by decide) ?_
        refine w_aload_n rfl rfl rfl ?_
        refine w_aload_n rfl rfl rfl ?_
        refine w_gf (t := .ref (119)) (v := .ref (119)) rfl rfl rfl sp110 rfl rfl rfl ?_
        refine w_iload_n rfl rfl rfl ?_
        refine w_iaload rfl rfl sp119 rfl ⟨by omega, by omega⟩ ((congrFun (am_u_ne (by decide)) _).trans hm.1) ?_
        refine w_cv (q := am_m217) (as := [_]) (rest := [_, _, _]) (st' := [_, _, _, _]) rfl rfl rfl rfl rfl rfl sp110 rfl rfl rfl rfl (c_evenIn (by have := hm.2; omega) (by omega)) rfl rfl ?_
        refine w_imul rfl rfl ?_
        refine w_aload_n rfl rfl rfl ?_
        refine w_gf (t := .ref (120)) (v := .ref (120)) rfl rfl rfl sp110 rfl rfl rfl ?_
        refine w_iload_n rfl rfl rfl ?_
        refine w_iaload rfl rfl sp120 rfl ⟨by omega, by omega⟩ (congrFun (am_u_ne (by decide)) _) ?_
        refine w_iadd rfl rfl ?_
        refine w_sipush (x := Int32.ofNat 999) rfl rfl (by decide) ?_
        refine w_cv (q := am_m224) (as := [_, _, _]) (rest := []) (st' := [_]) rfl rfl rfl rfl rfl rfl sp110 rfl rfl rfl rfl (c_boundLaw (by decide) (lok_u hL) (by omega)) rfl rfl ?_
        refine w_istore (L' := [_, _, _, _, _]) rfl rfl rfl ?_
        refine w_aload_n rfl rfl rfl ?_
        refine w_iload_n rfl rfl rfl ?_
        refine w_pf rfl rfl rfl sp110 rfl (am_fitb hs) rfl ?_
        refine w_iload rfl rfl rfl ?_
        exact w_iret rfl (by simp only [m_tw, m_tI, m_tJ, *, ite_true, ite_false, and_self, and_true, true_and, and_false, false_and, or_true, true_or, or_false, false_or, not_true, not_false_iff] <;> rfl) (by simp only [m_twI, m_tI, m_tJ, *, ite_true, ite_false, and_self, and_true, true_and, and_false, false_and, or_true, true_or, or_false, false_or, not_true, not_false_iff] <;> rfl) (by simp only [m_twJ, m_tI, m_tJ, *, ite_true, ite_false, and_self, and_true, true_and, and_false, false_and, or_true, true_or, or_false, false_or, not_true, not_false_iff] <;> rfl) rfl
def m_mkI (I : hI) (J : hJ) (b n r : Nat) : hI := am_u (am_u (m_twI I J b n r) 139 (8 * b + r) (m_tw I J b n r)) 138 (8 * b + r) (Int32.ofNat 1)
theorem simF_bl (I : hI) (J : hJ) (w : Nat) : simF I (m_blI I J w) := by
  unfold m_blI
  by_cases h : I 128 w = 0
  · rw [if_pos h]; exact simF_rf I
  · rw [if_neg h]; exact simF_u (by omega)
theorem sb_bl {I : hI} (J : hJ) (w : Nat) (h : sb I) : sb (m_blI I J w) := by
  unfold m_blI
  by_cases e : I 128 w = 0
  · rw [if_pos e]; exact h
  · rw [if_neg e]
    unfold sb
    rw [am_u_nk (by decide)]
    exact h
theorem simF_tw (I : hI) (J : hJ) (b n r : Nat) : simF I (m_twI I J b n r) := simF_tr (simF_tr (simF_u (by omega)) (simF_bl (m_tI I) _ 0)) (simF_u (by omega))
theorem sb_tw {I : hI} (J : hJ) (b n r : Nat) (h : sb I) : sb (m_twI I J b n r) := by
  unfold sb m_twI
  rw [am_u_at]
  exact h
theorem simF_mk {I : hI} {J : hJ} {b n r : Nat} : simF I (m_mkI I J b n r) := simF_tr (simF_tr (simF_tw I J b n r) (simF_u (by omega))) (simF_u (by omega))
theorem sb_mk {I : hI} {J : hJ} {b n r : Nat} (h : sb I) : sb (m_mkI I J b n r) := by
  unfold sb m_mkI
  rw [am_u_na (by decide), am_u_na (by decide)]
  exact sb_tw J b n r h
theorem c_makes {k : Nat} {I : hI} {J : hJ} {R : hR} {b n r : Nat} (hb : b ≤ 1) (hr : r < 8) (hn : n ≤ 8) (h13 : I 110 13 = Int32.ofNat n) (hm : okn (I 119 r) 6) (hL : ¬ I 128 0 = 0 → lok I 0) (hs : sb I) (hk : 6 ≤ k) : ct k 226 [.ref 110, .int (Int32.ofNat b), .int (Int32.ofNat r)] I J R none (m_mkI I J b n r) (m_twJ I J b n r) R := by
  obtain ⟨k, rfl⟩ : ∃ k', k = k' + 1 := ⟨k - 1, by omega⟩
  refine ct_of (q := am_m226) (L := [_, _, _]) rfl rfl rfl rfl rfl rfl ?_
  refine w_aload_n rfl rfl rfl ?_
  refine w_gf (t := .ref (139)) (v := .ref (139)) rfl rfl rfl sp110 rfl rfl rfl ?_
  refine w_bipush (x := Int32.ofNat 8) rfl rfl (by decide) ?_
  refine w_iload_n rfl rfl rfl ?_
  refine w_imulN rfl rfl ?_
  refine w_iload_n rfl rfl rfl ?_
  refine w_iaddN rfl rfl ?_
  refine w_aload_n rfl rfl rfl ?_
  refine w_iload_n rfl rfl rfl ?_
  refine w_iload_n rfl rfl rfl ?_
  refine w_cv (q := am_m225) (as := [_, _]) (rest := [_, _]) (st' := [_, _, _]) rfl rfl rfl rfl rfl rfl sp110 rfl rfl rfl rfl (c_twisted hb hr hn h13 hm hL hs (by omega)) rfl rfl ?_
  refine w_iastore rfl rfl sp139 rfl ⟨by omega, by omega⟩ ?_
  refine w_aload_n rfl rfl rfl ?_
  refine w_gf (t := .ref (138)) (v := .ref (138)) rfl rfl rfl sp110 rfl rfl rfl ?_
  refine w_bipush (x := Int32.ofNat 8) rfl rfl (by decide) ?_
  refine w_iload_n rfl rfl rfl ?_
  refine w_imulN rfl rfl ?_
  refine w_iload_n rfl rfl rfl ?_
  refine w_iaddN rfl rfl ?_
  refine w_iconst (x := Int32.ofNat 1) rfl rfl (by decide) ?_
  refine w_iastore rfl rfl sp138 rfl ⟨by omega, by omega⟩ ?_
  exact w_ret rfl rfl rfl rfl
def m_dr (J : hJ) : Int64 := (J 110 62 * 1103515245 + 12345) &&& 2147483647
def m_nm (d : Int64) : Int32 := (d / 65536 - d / 65536 / (Int32.ofNat 100).toInt64 * (Int32.ofNat 100).toInt64).toInt32
theorem c_number1 {k : Nat} {I : hI} {J : hJ} {R : hR}  (hk : 1 ≤ k) : ct k 227 [.ref 110, .int (Int32.ofNat 100)] I J R (some (.int (m_nm (m_dr J)))) I (am_u J 110 62 (m_dr J)) R := by
  obtain ⟨k, rfl⟩ : ∃ k', k = k' + 1 := ⟨k - 1, by omega⟩
  refine ct_of (q := am_m227) (L := [_, _]) rfl rfl rfl rfl rfl rfl ?_
  refine w_aload_n rfl rfl rfl ?_
  refine w_aload_n rfl rfl rfl ?_
  refine w_gf (t := .long 0) (v := .long _) rfl rfl rfl sp110 rfl (congrArg Value.long rfl) rfl ?_
  refine w_ldc2_w rfl rfl rfl ?_
  refine w_lmul rfl rfl ?_
  refine w_ldc2_w rfl rfl rfl ?_
  refine w_ladd rfl rfl ?_
  refine w_ldc2_w rfl rfl rfl ?_
  refine w_land rfl rfl ?_
  refine w_pfL rfl rfl rfl sp110 rfl rfl rfl ?_
  refine w_aload_n rfl rfl rfl ?_
  refine w_gf (t := .long 0) (v := .long _) rfl rfl rfl sp110 rfl (congrArg Value.long am_u_at) rfl ?_
  refine w_ldc2_w rfl rfl rfl ?_
  refine w_ldiv rfl rfl (by decide) ?_
  refine w_iload_n rfl rfl rfl ?_
  refine w_i2l rfl rfl ?_
  refine w_lrem rfl rfl (by decide) ?_
  refine w_l2i rfl rfl ?_
  exact w_iret rfl rfl rfl rfl rfl
def m_st (I : hI) (J : hJ) : Int32 := if ¬ I 110 66 = 0 then 1 else if ¬ I 110 65 = 0 ∨ I 114 0 = 0 then 0 else if I 114 0 = Int32.ofNat 100 then 1 else if I 110 64 = 0 then (if ¬ I 114 0 < Int32.ofNat 50 then 1 else 0) else (if m_nm (m_dr J) < I 114 0 then 1 else 0)
def m_stJ (I : hI) (J : hJ) : hJ := if ¬ I 110 66 = 0 then J else if ¬ I 110 65 = 0 ∨ I 114 0 = 0 then J else if I 114 0 = Int32.ofNat 100 then J else if I 110 64 = 0 then J else am_u J 110 62 (m_dr J)
theorem m_st01 (I : hI) (J : hJ) : m_st I J = 0 ∨ m_st I J = 1 := by
  unfold m_st
  repeat' split
  all_goals decide
theorem c_isStormy {k : Nat} {I : hI} {J : hJ} {R : hR}  (hk : 2 ≤ k) : ct k 228 [.ref 110] I J R (some (.int (m_st I J))) I (m_stJ I J) R := by
  obtain ⟨k, rfl⟩ : ∃ k', k = k' + 1 := ⟨k - 1, by omega⟩
  refine ct_of (q := am_m228) (L := [_]) rfl rfl rfl rfl rfl rfl ?_
  refine w_aload_n rfl rfl rfl ?_
  refine w_gf (t := .int 0) (v := .int _) rfl rfl rfl sp110 rfl (congrArg Value.int rfl) rfl ?_
  refine w_if_eq (t := 9) (f := 7) rfl rfl rfl (fun c4 => ?_) (fun c4 => ?_)
  · refine w_aload_n rfl rfl rfl ?_
    refine w_gf (t := .int 0) (v := .int _) rfl rfl rfl sp110 rfl (congrArg Value.int rfl) rfl ?_
    refine w_if_ne (t := 25) (f := 16) rfl rfl rfl (fun c13 => ?_) (fun c13 => ?_)
    · refine w_iconst (x := Int32.ofNat 0) rfl rfl (by decide) ?_
      exact w_bret rfl (by decide) (by simp only [m_st, *, ite_true, ite_false, and_self, and_true, true_and, and_false, false_and, or_true, true_or, or_false, false_or, not_true, not_false_iff] <;> rfl) rfl (by simp only [m_stJ, *, ite_true, ite_false, and_self, and_true, true_and, and_false, false_and, or_true, true_or, or_false, false_or, not_true, not_false_iff] <;> rfl) rfl
    · refine w_aload_n rfl rfl rfl ?_
      refine w_gf (t := .ref (114)) (v := .ref (114)) rfl rfl rfl sp110 rfl rfl rfl ?_
      refine w_iconst (x := Int32.ofNat 0) rfl rfl (by decide) ?_
      refine w_iaload rfl rfl sp114 rfl ⟨by omega, by omega⟩ rfl ?_
      refine w_if_ne (t := 27) (f := 25) rfl rfl rfl (fun c22 => ?_) (fun c22 => ?_)
      · refine w_aload_n rfl rfl rfl ?_
        refine w_gf (t := .ref (114)) (v := .ref (114)) rfl rfl rfl sp110 rfl rfl rfl ?_
        refine w_iconst (x := Int32.ofNat 0) rfl rfl (by decide) ?_
        refine w_iaload rfl rfl sp114 rfl ⟨by omega, by omega⟩ rfl ?_
        refine w_bipush (x := Int32.ofNat 100) rfl rfl (by decide) ?_
        refine w_ic_ne (t := 40) (f := 38) rfl rfl rfl (fun c35 => ?_) (fun c35 => ?_)
        · refine w_aload_n rfl rfl rfl ?_
          refine w_gf (t := .int 0) (v := .int _) rfl rfl rfl sp110 rfl (congrArg Value.int rfl) rfl ?_
          refine w_if_eq (t := 70) (f := 47) rfl rfl rfl (fun c44 => ?_) (fun c44 => ?_)
          · refine w_aload_n rfl rfl rfl ?_
            refine w_gf (t := .ref (114)) (v := .ref (114)) rfl rfl rfl sp110 rfl rfl rfl ?_
            refine w_iconst (x := Int32.ofNat 0) rfl rfl (by decide) ?_
            refine w_iaload rfl rfl sp114 rfl ⟨by omega, by omega⟩ rfl ?_
            refine w_bipush (x := Int32.ofNat 50) rfl rfl (by decide) ?_
            refine w_ic_lt (t := 85) (f := 81) rfl rfl rfl (fun c78 => ?_) (fun c78 => ?_)
            · refine w_iconst (x := Int32.ofNat 0) rfl rfl (by decide) ?_
              exact w_bret rfl (by decide) (by simp only [m_st, *, ite_true, ite_false, and_self, and_true, true_and, and_false, false_and, or_true, true_or, or_false, false_or, not_true, not_false_iff] <;> rfl) rfl (by simp only [m_stJ, *, ite_true, ite_false, and_self, and_true, true_and, and_false, false_and, or_true, true_or, or_false, false_or, not_true, not_false_iff] <;> rfl) rfl
            · refine w_iconst (x := Int32.ofNat 1) rfl rfl (by decide) ?_
              refine w_goto (pc' := 86) rfl rfl ?_
              exact w_bret rfl (by decide) (by simp only [m_st, *, ite_true, ite_false, and_self, and_true, true_and, and_false, false_and, or_true, true_or, or_false, false_or, not_true, not_false_iff] <;> rfl) rfl (by simp only [m_stJ, *, ite_true, ite_false, and_self, and_true, true_and, and_false, false_and, or_true, true_or, or_false, false_or, not_true, not_false_iff] <;> rfl) rfl
          · refine w_aload_n rfl rfl rfl ?_
            refine w_bipush (x := Int32.ofNat 100) rfl rfl (by decide) ?_
            refine w_cv (q := am_m227) (as := [_]) (rest := []) (st' := [_]) rfl rfl rfl rfl rfl rfl sp110 rfl rfl rfl rfl (c_number1 (by omega)) rfl rfl ?_
            refine w_aload_n rfl rfl rfl ?_
            refine w_gf (t := .ref (114)) (v := .ref (114)) rfl rfl rfl sp110 rfl rfl rfl ?_
            refine w_iconst (x := Int32.ofNat 0) rfl rfl (by decide) ?_
            refine w_iaload rfl rfl sp114 rfl ⟨by omega, by omega⟩ rfl ?_
            refine w_ic_ge (t := 66) (f := 62) rfl rfl rfl (fun c59 => ?_) (fun c59 => ?_)
            · refine w_iconst (x := Int32.ofNat 0) rfl rfl (by decide) ?_
              refine w_goto (pc' := 86) rfl rfl ?_
              exact w_bret rfl (by decide) (by simp only [m_st, *, ite_true, ite_false, and_self, and_true, true_and, and_false, false_and, or_true, true_or, or_false, false_or, not_true, not_false_iff] <;> rfl) rfl (by simp only [m_stJ, *, ite_true, ite_false, and_self, and_true, true_and, and_false, false_and, or_true, true_or, or_false, false_or, not_true, not_false_iff] <;> rfl) rfl
            · refine w_iconst (x := Int32.ofNat 1) rfl rfl (by decide) ?_
              refine w_goto (pc' := 86) rfl rfl ?_
              exact w_bret rfl (by decide) (by simp only [m_st, *, ite_true, ite_false, and_self, and_true, true_and, and_false, false_and, or_true, true_or, or_false, false_or, not_true, not_false_iff] <;> rfl) rfl (by simp only [m_stJ, *, ite_true, ite_false, and_self, and_true, true_and, and_false, false_and, or_true, true_or, or_false, false_or, not_true, not_false_iff] <;> rfl) rfl
        · refine w_iconst (x := Int32.ofNat 1) rfl rfl (by decide) ?_
          exact w_bret rfl (by decide) (by simp only [m_st, *, ite_true, ite_false, and_self, and_true, true_and, and_false, false_and, or_true, true_or, or_false, false_or, not_true, not_false_iff] <;> rfl) rfl (by simp only [m_stJ, *, ite_true, ite_false, and_self, and_true, true_and, and_false, false_and, or_true, true_or, or_false, false_or, not_true, not_false_iff] <;> rfl) rfl
      · refine w_iconst (x := Int32.ofNat 0) rfl rfl (by decide) ?_
        exact w_bret rfl (by decide) (by simp only [m_st, *, ite_true, ite_false, and_self, and_true, true_and, and_false, false_and, or_true, true_or, or_false, false_or, not_true, not_false_iff] <;> rfl) rfl (by simp only [m_stJ, *, ite_true, ite_false, and_self, and_true, true_and, and_false, false_and, or_true, true_or, or_false, false_or, not_true, not_false_iff] <;> rfl) rfl
  · refine w_iconst (x := Int32.ofNat 1) rfl rfl (by decide) ?_
    exact w_bret rfl (by decide) (by simp only [m_st, *, ite_true, ite_false, and_self, and_true, true_and, and_false, false_and, or_true, true_or, or_false, false_or, not_true, not_false_iff] <;> rfl) rfl (by simp only [m_stJ, *, ite_true, ite_false, and_self, and_true, true_and, and_false, false_and, or_true, true_or, or_false, false_or, not_true, not_false_iff] <;> rfl) rfl
def m_wJ0 (I : hI) (J : hJ) (b n r : Nat) : hJ := m_layR I J b n r (I 139 (8 * b + r))
def m_wx (I : hI) (J : hJ) (b n r : Nat) : Int32 := I 139 (8 * b + r) - m_bl I (m_wJ0 I J b n r) 1 (if I 110 63 = 0 then Int32.ofNat 1 else Int32.ofNat 3) (Int32.ofNat 99)
def m_wI (I : hI) (J : hJ) (b n r : Nat) : hI := if I 110 67 = 0 then (if 0 < m_wx I J b n r then am_u (m_blI I (m_wJ0 I J b n r) 1) 139 (8 * b + r) (m_wx I J b n r) else am_u (am_u (m_blI I (m_wJ0 I J b n r) 1) 139 (8 * b + r) (Int32.ofNat 0)) 138 (8 * b + r) (Int32.ofNat 2)) else I
def m_wJ (I : hI) (J : hJ) (b n r : Nat) : hJ := if I 110 67 = 0 then m_blJ I (m_wJ0 I J b n r) 1 else J
theorem simF_w {I : hI} {J : hJ} {b n r : Nat} : simF I (m_wI I J b n r) := by
  unfold m_wI
  repeat' split
  · exact simF_tr (simF_bl I _ 1) (simF_u (by omega))
  · exact simF_tr (simF_tr (simF_bl I _ 1) (simF_u (by omega))) (simF_u (by omega))
  · exact simF_rf I
theorem sb_w {I : hI} {J : hJ} {b n r : Nat} (h : sb I) : sb (m_wI I J b n r) := by
  unfold m_wI
  repeat' split
  · unfold sb; rw [am_u_na (by decide)]; exact sb_bl _ 1 h
  · unfold sb; rw [am_u_na (by decide), am_u_na (by decide)]; exact sb_bl _ 1 h
  · exact h
theorem c_wears {k : Nat} {I : hI} {J : hJ} {R : hR} {b n r : Nat} (hb : b ≤ 1) (hr : r < 8) (hn : n ≤ 8) (h13 : I 110 13 = Int32.ofNat n) (hm : okn (I 119 r) 6) (hL : ¬ I 128 1 = 0 → lok I 1) (hk : 5 ≤ k) : ct k 229 [.ref 110, .int (Int32.ofNat b), .int (Int32.ofNat r)] I J R none (m_wI I J b n r) (m_wJ I J b n r) R := by
  obtain ⟨k, rfl⟩ : ∃ k', k = k' + 1 := ⟨k - 1, by omega⟩
  refine ct_of (q := am_m229) (L := [_, _, _, _]) rfl rfl rfl rfl rfl rfl ?_
  refine w_aload_n rfl rfl rfl ?_
  refine w_gf (t := .int 0) (v := .int _) rfl rfl rfl sp110 rfl (congrArg Value.int rfl) rfl ?_
  refine w_if_eq (t := 8) (f := 7) rfl rfl rfl (fun c4 => ?_) (fun c4 => ?_)
  · refine w_aload_n rfl rfl rfl ?_
    refine w_iload_n rfl rfl rfl ?_
    refine w_iload_n rfl rfl rfl ?_
    refine w_aload_n rfl rfl rfl ?_
    refine w_gf (t := .ref (139)) (v := .ref (139)) rfl rfl rfl sp110 rfl rfl rfl ?_
    refine w_bipush (x := Int32.ofNat 8) rfl rfl (by decide) ?_
    refine w_iload_n rfl rfl rfl ?_
    refine w_imulN rfl rfl ?_
    refine w_iload_n rfl rfl rfl ?_
    refine w_iaddN rfl rfl ?_
    refine w_iaload rfl rfl sp139 rfl ⟨by omega, by omega⟩ rfl ?_
    refine w_cv (q := am_m221) (as := [_, _, _]) (rest := []) (st' := []) rfl rfl rfl rfl rfl rfl sp110 rfl rfl rfl rfl (c_layRope hb hr hn h13 hm (by omega)) rfl rfl ?_
    refine w_aload_n rfl rfl rfl ?_
    refine w_gf (t := .ref (139)) (v := .ref (139)) rfl rfl rfl sp110 rfl rfl rfl ?_
    refine w_bipush (x := Int32.ofNat 8) rfl rfl (by decide) ?_
    refine w_iload_n rfl rfl rfl ?_
    refine w_imulN rfl rfl ?_
    refine w_iload_n rfl rfl rfl ?_
    refine w_iaddN rfl rfl ?_
    refine w_iaload rfl rfl sp139 rfl ⟨by omega, by omega⟩ rfl ?_
    refine w_aload_n rfl rfl rfl ?_
    refine w_iconst (x := Int32.ofNat 1) rfl rfl (by decide) ?_
    refine w_aload_n rfl rfl rfl ?_
    refine w_gf (t := .int 0) (v := .int _) rfl rfl rfl sp110 rfl (congrArg Value.int rfl) rfl ?_
    refine w_if_eq (t := 49) (f := 45) rfl rfl rfl (fun c42 => ?_) (fun c42 => ?_)
    · refine w_iconst (x := Int32.ofNat 1) rfl rfl (by decide) ?_
      refine w_bipush (x := Int32.ofNat 99) rfl rfl (by decide) ?_
      refine w_cv (q := am_m224) (as := [_, _, _]) (rest := [_]) (st' := [_, _]) rfl rfl rfl rfl rfl rfl sp110 rfl rfl rfl rfl (c_boundLaw (by decide) hL (by omega)) rfl rfl ?_
      refine w_isub rfl rfl ?_
      refine w_istore_n (L' := [_, _, _, _]) rfl rfl rfl ?_
      refine w_aload_n rfl rfl rfl ?_
      refine w_gf (t := .ref (139)) (v := .ref (139)) rfl rfl rfl sp110 rfl rfl rfl ?_
      refine w_bipush (x := Int32.ofNat 8) rfl rfl (by decide) ?_
      refine w_iload_n rfl rfl rfl ?_
      refine w_imulN rfl rfl ?_
      refine w_iload_n rfl rfl rfl ?_
      refine w_iaddN rfl rfl ?_
      refine w_iload_n rfl rfl rfl ?_
      refine w_if_le (t := 75) (f := 71) rfl rfl rfl (fun c68 => ?_) (fun c68 => ?_)
      · refine w_iconst (x := Int32.ofNat 0) rfl rfl (by decide) ?_
        refine w_iastore rfl rfl sp139 rfl ⟨by omega, by omega⟩ ?_
        refine w_iload_n rfl rfl rfl ?_
        refine w_if_gt (t := 93) (f := 81) rfl rfl rfl (fun c78 => ?_) (fun c78 => ?_)
        · exact w_ret rfl (by first | contradiction | (simp only [m_wI, m_wx, m_wJ0, *, ite_true, ite_false, and_self, and_true, true_and, and_false, false_and, or_true, true_or, or_false, false_or, not_true, not_false_iff] <;> rfl)) (by first | contradiction | (simp only [m_wJ, m_wJ0, *, ite_true, ite_false, and_self, and_true, true_and, and_false, false_and, or_true, true_or, or_false, false_or, not_true, not_false_iff] <;> rfl)) rfl
        · refine w_aload_n rfl rfl rfl ?_
          refine w_gf (t := .ref (138)) (v := .ref (138)) rfl rfl rfl sp110 rfl rfl rfl ?_
          refine w_bipush (x := Int32.ofNat 8) rfl rfl (by decide) ?_
          refine w_iload_n rfl rfl rfl ?_
          refine w_imulN rfl rfl ?_
          refine w_iload_n rfl rfl rfl ?_
          refine w_iaddN rfl rfl ?_
          refine w_iconst (x := Int32.ofNat 2) rfl rfl (by decide) ?_
          refine w_iastore rfl rfl sp138 rfl ⟨by omega, by omega⟩ ?_
          exact w_ret rfl (by first | contradiction | (simp only [m_wI, m_wx, m_wJ0, *, ite_true, ite_false, and_self, and_true, true_and, and_false, false_and, or_true, true_or, or_false, false_or, not_true, not_false_iff] <;> rfl)) (by first | contradiction | (simp only [m_wJ, m_wJ0, *, ite_true, ite_false, and_self, and_true, true_and, and_false, false_and, or_true, true_or, or_false, false_or, not_true, not_false_iff] <;> rfl)) rfl
      · refine w_iload_n rfl rfl rfl ?_
        refine w_goto (pc' := 76) rfl rfl ?_
        refine w_iastore rfl rfl sp139 rfl ⟨by omega, by omega⟩ ?_
        refine w_iload_n rfl rfl rfl ?_
        refine w_if_gt (t := 93) (f := 81) rfl rfl rfl (fun c78 => ?_) (fun c78 => ?_)
        · exact w_ret rfl (by first | contradiction | (simp only [m_wI, m_wx, m_wJ0, *, ite_true, ite_false, and_self, and_true, true_and, and_false, false_and, or_true, true_or, or_false, false_or, not_true, not_false_iff] <;> rfl)) (by first | contradiction | (simp only [m_wJ, m_wJ0, *, ite_true, ite_false, and_self, and_true, true_and, and_false, false_and, or_true, true_or, or_false, false_or, not_true, not_false_iff] <;> rfl)) rfl
        · refine w_aload_n rfl rfl rfl ?_
          refine w_gf (t := .ref (138)) (v := .ref (138)) rfl rfl rfl sp110 rfl rfl rfl ?_
          refine w_bipush (x := Int32.ofNat 8) rfl rfl (by decide) ?_
          refine w_iload_n rfl rfl rfl ?_
          refine w_imulN rfl rfl ?_
          refine w_iload_n rfl rfl rfl ?_
          refine w_iaddN rfl rfl ?_
          refine w_iconst (x := Int32.ofNat 2) rfl rfl (by decide) ?_
          refine w_iastore rfl rfl sp138 rfl ⟨by omega, by omega⟩ ?_
          exact w_ret rfl (by first | contradiction | (simp only [m_wI, m_wx, m_wJ0, *, ite_true, ite_false, and_self, and_true, true_and, and_false, false_and, or_true, true_or, or_false, false_or, not_true, not_false_iff] <;> rfl)) (by first | contradiction | (simp only [m_wJ, m_wJ0, *, ite_true, ite_false, and_self, and_true, true_and, and_false, false_and, or_true, true_or, or_false, false_or, not_true, not_false_iff] <;> rfl)) rfl
    · refine w_iconst (x := Int32.ofNat 3) rfl rfl (by decide) ?_
      refine w_goto (pc' := 50) rfl rfl ?_
      refine w_bipush (x := Int32.ofNat 99) rfl rfl (by decide) ?_
      refine w_cv (q := am_m224) (as := [_, _, _]) (rest := [_]) (st' := [_, _]) rfl rfl rfl rfl rfl rfl sp110 rfl rfl rfl rfl (c_boundLaw (by decide) hL (by omega)) rfl rfl ?_
      refine w_isub rfl rfl ?_
      refine w_istore_n (L' := [_, _, _, _]) rfl rfl rfl ?_
      refine w_aload_n rfl rfl rfl ?_
      refine w_gf (t := .ref (139)) (v := .ref (139)) rfl rfl rfl sp110 rfl rfl rfl ?_
      refine w_bipush (x := Int32.ofNat 8) rfl rfl (by decide) ?_
      refine w_iload_n rfl rfl rfl ?_
      refine w_imulN rfl rfl ?_
      refine w_iload_n rfl rfl rfl ?_
      refine w_iaddN rfl rfl ?_
      refine w_iload_n rfl rfl rfl ?_
      refine w_if_le (t := 75) (f := 71) rfl rfl rfl (fun c68 => ?_) (fun c68 => ?_)
      · refine w_iconst (x := Int32.ofNat 0) rfl rfl (by decide) ?_
        refine w_iastore rfl rfl sp139 rfl ⟨by omega, by omega⟩ ?_
        refine w_iload_n rfl rfl rfl ?_
        refine w_if_gt (t := 93) (f := 81) rfl rfl rfl (fun c78 => ?_) (fun c78 => ?_)
        · exact w_ret rfl (by first | contradiction | (simp only [m_wI, m_wx, m_wJ0, *, ite_true, ite_false, and_self, and_true, true_and, and_false, false_and, or_true, true_or, or_false, false_or, not_true, not_false_iff] <;> rfl)) (by first | contradiction | (simp only [m_wJ, m_wJ0, *, ite_true, ite_false, and_self, and_true, true_and, and_false, false_and, or_true, true_or, or_false, false_or, not_true, not_false_iff] <;> rfl)) rfl
        · refine w_aload_n rfl rfl rfl ?_
          refine w_gf (t := .ref (138)) (v := .ref (138)) rfl rfl rfl sp110 rfl rfl rfl ?_
          refine w_bipush (x := Int32.ofNat 8) rfl rfl (by decide) ?_
          refine w_iload_n rfl rfl rfl ?_
          refine w_imulN rfl rfl ?_
          refine w_iload_n rfl rfl rfl ?_
          refine w_iaddN rfl rfl ?_
          refine w_iconst (x := Int32.ofNat 2) rfl rfl (by decide) ?_
          refine w_iastore rfl rfl sp138 rfl ⟨by omega, by omega⟩ ?_
          exact w_ret rfl (by first | contradiction | (simp only [m_wI, m_wx, m_wJ0, *, ite_true, ite_false, and_self, and_true, true_and, and_false, false_and, or_true, true_or, or_false, false_or, not_true, not_false_iff] <;> rfl)) (by first | contradiction | (simp only [m_wJ, m_wJ0, *, ite_true, ite_false, and_self, and_true, true_and, and_false, false_and, or_true, true_or, or_false, false_or, not_true, not_false_iff] <;> rfl)) rfl
      · refine w_iload_n rfl rfl rfl ?_
        refine w_goto (pc' := 76) rfl rfl ?_
        refine w_iastore rfl rfl sp139 rfl ⟨by omega, by omega⟩ ?_
        refine w_iload_n rfl rfl rfl ?_
        refine w_if_gt (t := 93) (f := 81) rfl rfl rfl (fun c78 => ?_) (fun c78 => ?_)
        · exact w_ret rfl (by first | contradiction | (simp only [m_wI, m_wx, m_wJ0, *, ite_true, ite_false, and_self, and_true, true_and, and_false, false_and, or_true, true_or, or_false, false_or, not_true, not_false_iff] <;> rfl)) (by first | contradiction | (simp only [m_wJ, m_wJ0, *, ite_true, ite_false, and_self, and_true, true_and, and_false, false_and, or_true, true_or, or_false, false_or, not_true, not_false_iff] <;> rfl)) rfl
        · refine w_aload_n rfl rfl rfl ?_
          refine w_gf (t := .ref (138)) (v := .ref (138)) rfl rfl rfl sp110 rfl rfl rfl ?_
          refine w_bipush (x := Int32.ofNat 8) rfl rfl (by decide) ?_
          refine w_iload_n rfl rfl rfl ?_
          refine w_imulN rfl rfl ?_
          refine w_iload_n rfl rfl rfl ?_
          refine w_iaddN rfl rfl ?_
          refine w_iconst (x := Int32.ofNat 2) rfl rfl (by decide) ?_
          refine w_iastore rfl rfl sp138 rfl ⟨by omega, by omega⟩ ?_
          exact w_ret rfl (by first | contradiction | (simp only [m_wI, m_wx, m_wJ0, *, ite_true, ite_false, and_self, and_true, true_and, and_false, false_and, or_true, true_or, or_false, false_or, not_true, not_false_iff] <;> rfl)) (by first | contradiction | (simp only [m_wJ, m_wJ0, *, ite_true, ite_false, and_self, and_true, true_and, and_false, false_and, or_true, true_or, or_false, false_or, not_true, not_false_iff] <;> rfl)) rfl
  · exact w_ret rfl (by first | contradiction | (simp only [m_wI, m_wx, m_wJ0, *, ite_true, ite_false, and_self, and_true, true_and, and_false, false_and, or_true, true_or, or_false, false_or, not_true, not_false_iff] <;> rfl)) (by first | contradiction | (simp only [m_wJ, m_wJ0, *, ite_true, ite_false, and_self, and_true, true_and, and_false, false_and, or_true, true_or, or_false, false_or, not_true, not_false_iff] <;> rfl)) rfl
def m_made (I : hI) (b r : Nat) (s : Int32) : Prop := I 138 (8 * b + r) = Int32.ofNat 1 ∧ I 140 (8 * b + r) = s
def m_madeD (I : hI) (b r : Nat) (s : Int32) : Decidable (m_made I b r s) := inferInstanceAs (Decidable (_ ∧ _))
/-- a ship's ropes in a day: worn, or lost -/
def m_asS (c : Int32) (b n s : Nat) (r : Nat) (p : hI × hJ) : hI × hJ := if p.1 138 (8 * b + r) = Int32.ofNat 1 ∧ p.1 140 (8 * b + r) = Int32.ofNat s then (if c = 0 then (am_u p.1 138 (8 * b + r) (Int32.ofNat 3), p.2) else (m_wI p.1 p.2 b n r, m_wJ p.1 p.2 b n r)) else p
def m_asL (c : Int32) (b n s : Nat) (r : Nat) (p : hI × hJ) : hI × hJ := s_for (m_asS c b n s) r p
theorem simF_asL {c : Int32} {b n s : Nat} (r : Nat) (p : hI × hJ) : simF p.1 (m_asL c b n s r p).1 := by
  induction r with
  | zero => exact simF_rf _
  | succ r ih =>
    refine simF_tr ih ?_
    show simF _ (m_asS c b n s r (m_asL c b n s r p)).1
    unfold m_asS
    repeat' split
    · exact simF_u (by omega)
    · exact simF_w
    · exact simF_rf _
theorem sb_asL {c : Int32} {b n s : Nat} (r : Nat) (p : hI × hJ) (h : sb p.1) : sb (m_asL c b n s r p).1 := by
  induction r with
  | zero => exact h
  | succ r ih =>
    show sb (m_asS c b n s r (m_asL c b n s r p)).1
    unfold m_asS
    repeat' split
    · show sb (am_u _ _ _ _); unfold sb; rw [am_u_na (by decide)]; exact ih
    · exact sb_w ih
    · exact ih
theorem l_atSea {k : Nat} {R : hR} {q : Option Value × am_H} {b s n : Nat} {N : Nat → Nat} {x c : Int32} {I0 : hI} {J0 : hJ} (hN : N 1 = n) (hb : b ≤ 1) (hs : s < 5) (t : tok I0 N) (hk : 5 ≤ k) (Z : wz k 12 none am_c230 116 [.ref 110, .int (Int32.ofNat b), .int (Int32.ofNat s), .int x, .int c, .int (Int32.ofNat n)] [] ((m_asL c b n s n (I0, J0)).1) ((m_asL c b n s n (I0, J0)).2) R q) : ∀ (j r : Nat) , r + j = n → wz k 12 none am_c230 59 [.ref 110, .int (Int32.ofNat b), .int (Int32.ofNat s), .int x, .int c, .int (Int32.ofNat r)] [] ((m_asL c b n s r (I0, J0)).1) ((m_asL c b n s r (I0, J0)).2) R q := by
  intro j
  induction j with
  | zero =>
    intro r e
    obtain rfl : n = r := by omega
    have t1 := tok_F (simF_asL (c := c) (b := b) (n := n) (s := s) n (I0, J0)) t
    have hn := t1.1.2.1
    have h13 := t1.2.1.2.1
    rw [hN] at hn h13
    refine w_iload rfl rfl rfl ?_
    refine w_aload_n rfl rfl rfl ?_
    refine w_gf (t := .int 0) (v := .int _) rfl rfl rfl sp110 rfl (congrArg Value.int h13) rfl ?_
    refine w_ic_geN (t := 116) (f := 68) rfl rfl rfl (by omega) (by omega) (fun c65 => ?_) (fun c65 => absurd c65 (by omega))
    exact Z
  | succ j ih =>
    intro r e
    have t1 := tok_F (simF_asL (c := c) (b := b) (n := n) (s := s) r (I0, J0)) t
    have hn := t1.1.2.1
    have h13 := t1.2.1.2.1
    rw [hN] at hn h13
    refine w_iload rfl rfl rfl ?_
    refine w_aload_n rfl rfl rfl ?_
    refine w_gf (t := .int 0) (v := .int _) rfl rfl rfl sp110 rfl (congrArg Value.int h13) rfl ?_
    refine w_ic_geN (t := 116) (f := 68) rfl rfl rfl (by omega) (by omega) (fun c65 => absurd c65 (by omega)) (fun c65 => ?_)
    refine w_aload_n rfl rfl rfl ?_
    refine w_iload_n rfl rfl rfl ?_
    refine w_iload rfl rfl rfl ?_
    refine w_iload_n rfl rfl rfl ?_
    refine w_cv (q := am_m218) (as := [_, _, _]) (rest := []) (st' := [_]) rfl rfl rfl rfl rfl rfl sp110 rfl rfl rfl rfl (c_isMadeIn hb (by omega) (by omega)) rfl rfl ?_
    refine w_if_neB (t := 82) (f := 79) rfl rfl rfl (fun c76 => ?_) (fun c76 => ?_)
    · refine w_iload rfl rfl rfl ?_
      refine w_if_eq (t := 97) (f := 87) rfl rfl rfl (fun c84 => ?_) (fun c84 => ?_)
      · refine w_aload_n rfl rfl rfl ?_
        refine w_gf (t := .ref (138)) (v := .ref (138)) rfl rfl rfl sp110 rfl rfl rfl ?_
        refine w_bipush (x := Int32.ofNat 8) rfl rfl (by decide) ?_
        refine w_iload_n rfl rfl rfl ?_
        refine w_imulN rfl rfl ?_
        refine w_iload rfl rfl rfl ?_
        refine w_iaddN rfl rfl ?_
        refine w_iconst (x := Int32.ofNat 3) rfl rfl (by decide) ?_
        refine w_iastore rfl rfl sp138 rfl ⟨by omega, by omega⟩ ?_
        refine w_iinc (L' := [_, _, _, _, _, _]) rfl rfl rfl (am_incN 1) rfl ?_
        refine w_goto (pc' := 59) rfl rfl ?_
        exact wz_J (ih (r + 1) (by omega)) rfl (by show (m_asS c b n s r (m_asL c b n s r (I0, J0))).1 = _; unfold m_asS; first | rw [if_pos c76, if_pos c84] | rw [if_pos c76, if_neg c84] | rw [if_neg c76]) (by show (m_asS c b n s r (m_asL c b n s r (I0, J0))).2 = _; unfold m_asS; first | rw [if_pos c76, if_pos c84] | rw [if_pos c76, if_neg c84] | rw [if_neg c76])
      · refine w_aload_n rfl rfl rfl ?_
        refine w_iload_n rfl rfl rfl ?_
        refine w_iload rfl rfl rfl ?_
        refine w_cv (q := am_m229) (as := [_, _]) (rest := []) (st' := []) rfl rfl rfl rfl rfl rfl sp110 rfl rfl rfl rfl (c_wears hb (by omega) hn h13 (t1.2.2.1 _ (by omega)) (t1.2.2.2.2 1 (by decide)) (by omega)) rfl rfl ?_
        refine w_goto (pc' := 110) rfl rfl ?_
        refine w_iinc (L' := [_, _, _, _, _, _]) rfl rfl rfl (am_incN 1) rfl ?_
        refine w_goto (pc' := 59) rfl rfl ?_
        exact wz_J (ih (r + 1) (by omega)) rfl (by show (m_asS c b n s r (m_asL c b n s r (I0, J0))).1 = _; unfold m_asS; first | rw [if_pos c76, if_pos c84] | rw [if_pos c76, if_neg c84] | rw [if_neg c76]) (by show (m_asS c b n s r (m_asL c b n s r (I0, J0))).2 = _; unfold m_asS; first | rw [if_pos c76, if_pos c84] | rw [if_pos c76, if_neg c84] | rw [if_neg c76])
    · refine w_goto (pc' := 110) rfl rfl ?_
      refine w_iinc (L' := [_, _, _, _, _, _]) rfl rfl rfl (am_incN 1) rfl ?_
      refine w_goto (pc' := 59) rfl rfl ?_
      exact wz_J (ih (r + 1) (by omega)) rfl (by show (m_asS c b n s r (m_asL c b n s r (I0, J0))).1 = _; unfold m_asS; first | rw [if_pos c76, if_pos c84] | rw [if_pos c76, if_neg c84] | rw [if_neg c76]) (by show (m_asS c b n s r (m_asL c b n s r (I0, J0))).2 = _; unfold m_asS; first | rw [if_pos c76, if_pos c84] | rw [if_pos c76, if_neg c84] | rw [if_neg c76])
def m_asJ0 (I : hI) (J : hJ) (b n s : Nat) : hJ := m_layS I J b n s
def m_asP (I : hI) (J : hJ) (b n s : Nat) : Int32 := m_bl I (m_asJ0 I J b n s) 2 (if I 110 63 = 0 then I 124 s else Int32.ofNat 2 * I 124 s) (Int32.ofNat 9999)
def m_as0 (I : hI) (J : hJ) (b n s : Nat) : hI × hJ := (m_blI I (m_asJ0 I J b n s) 2, m_blJ I (m_asJ0 I J b n s) 2)
def m_asC (I : hI) (J : hJ) (b n s : Nat) : Int32 := if m_bear (m_as0 I J b n s).1 b n (Int32.ofNat s) < m_asP I J b n s then Int32.ofNat 0 else Int32.ofNat 1
def m_as1 (I : hI) (J : hJ) (b n s : Nat) : hI × hJ := m_asL (m_asC I J b n s) b n s n (m_as0 I J b n s)
/-- a ship comes a day nearer, or is lost -/
def m_asE (I : hI) (c : Int32) (b s : Nat) : hI := if c = 0 then am_u (am_u (am_u I 142 (5 * b + s) (I 142 (5 * b + s) - Int32.ofNat 1)) 141 (5 * b + s) (Int32.ofNat 2)) 142 (5 * b + s) (Int32.ofNat 0) else if I 142 (5 * b + s) - Int32.ofNat 1 = 0 then am_u (am_u (am_u I 142 (5 * b + s) (I 142 (5 * b + s) - Int32.ofNat 1)) 141 (5 * b + s) (Int32.ofNat 0)) 143 (5 * b + s) (I 143 (5 * b + s) + Int32.ofNat 1) else am_u I 142 (5 * b + s) (I 142 (5 * b + s) - Int32.ofNat 1)
def m_asI (I : hI) (J : hJ) (b n s : Nat) : hI := m_asE (m_as1 I J b n s).1 (m_asC I J b n s) b s
theorem c_atSea {k : Nat} {I : hI} {J : hJ} {R : hR} {b s : Nat} {N : Nat → Nat} (hb : b ≤ 1) (hs : s < 5) (t : tok I N) (hk : 6 ≤ k) : ct k 230 [.ref 110, .int (Int32.ofNat b), .int (Int32.ofNat s)] I J R none (m_asI I J b (N 1) s) ((m_as1 I J b (N 1) s).2) R := by
  obtain ⟨k, rfl⟩ : ∃ k', k = k' + 1 := ⟨k - 1, by omega⟩
  have hn := t.1.2.1
  have h13 := t.2.1.2.1
  have t2 : tok (m_as0 I J b (N 1) s).1 N := tok_F (simF_bl I _ 2) t
  refine ct_of (q := am_m230) (L := [_, _, _, _, _, _]) rfl rfl rfl rfl rfl rfl ?_
  refine w_aload_n rfl rfl rfl ?_
  refine w_iload_n rfl rfl rfl ?_
  refine w_iload_n rfl rfl rfl ?_
  refine w_cv (q := am_m222) (as := [_, _]) (rest := []) (st' := []) rfl rfl rfl rfl rfl rfl sp110 rfl rfl rfl rfl (c_layShip hb hs hn h13 t.2.2.1 (by omega)) rfl rfl ?_
  refine w_aload_n rfl rfl rfl ?_
  refine w_iconst (x := Int32.ofNat 2) rfl rfl (by decide) ?_
  refine w_aload_n rfl rfl rfl ?_
  refine w_gf (t := .int 0) (v := .int _) rfl rfl rfl sp110 rfl (congrArg Value.int rfl) rfl ?_
  refine w_if_eq (t := 26) (f := 15) rfl rfl rfl (fun c12 => ?_) (fun c12 => ?_)
  · refine w_aload_n rfl rfl rfl ?_
    refine w_gf (t := .ref (124)) (v := .ref (124)) rfl rfl rfl sp110 rfl rfl rfl ?_
    refine w_iload_n rfl rfl rfl ?_
    refine w_iaload rfl rfl sp124 rfl ⟨by omega, by omega⟩ rfl ?_
    refine w_sipush (x := Int32.ofNat 9999) rfl rfl (by decide) ?_
    refine w_cv (q := am_m224) (as := [_, _, _]) (rest := []) (st' := [_]) rfl rfl rfl rfl rfl rfl sp110 rfl rfl rfl rfl (c_boundLaw (by decide) (t.2.2.2.2 2 (by decide)) (by omega)) rfl rfl ?_
    refine w_istore_n (L' := [_, _, _, _, _, _]) rfl rfl rfl ?_
    refine w_aload_n rfl rfl rfl ?_
    refine w_iload_n rfl rfl rfl ?_
    refine w_iload_n rfl rfl rfl ?_
    refine w_cv (q := am_m219) (as := [_, _]) (rest := []) (st' := [_]) rfl rfl rfl rfl rfl rfl sp110 rfl rfl rfl rfl (c_bearOf hb hn t2.2.1.2.1 (by omega)) rfl rfl ?_
    refine w_iload_n rfl rfl rfl ?_
    refine w_ic_lt (t := 53) (f := 49) rfl rfl rfl (fun c46 => ?_) (fun c46 => ?_)
    · refine w_iconst (x := Int32.ofNat 0) rfl rfl (by decide) ?_
      refine w_istore (L' := [_, _, _, _, _, _]) rfl rfl rfl ?_
      refine w_iconst (x := Int32.ofNat 0) rfl rfl (by decide) ?_
      refine w_istore (L' := [_, _, _, _, _, _]) rfl rfl rfl ?_
      refine l_atSea (I0 := (m_as0 I J b (N 1) s).1) (J0 := (m_as0 I J b (N 1) s).2) rfl hb hs t2 (by omega) ?_ (N 1) 0 (by omega)
      refine w_aload_n rfl rfl rfl ?_
      refine w_gf (t := .ref (142)) (v := .ref (142)) rfl rfl rfl sp110 rfl rfl rfl ?_
      refine w_iconst (x := Int32.ofNat 5) rfl rfl (by decide) ?_
      refine w_iload_n rfl rfl rfl ?_
      refine w_imulN rfl rfl ?_
      refine w_iload_n rfl rfl rfl ?_
      refine w_iaddN rfl rfl ?_
      refine w_dup2 rfl rfl rfl rfl ?_
      refine w_iaload rfl rfl sp142 rfl ⟨by omega, by omega⟩ rfl ?_
      refine w_iconst (x := Int32.ofNat 1) rfl rfl (by decide) ?_
      refine w_isub rfl rfl ?_
      refine w_iastore rfl rfl sp142 rfl ⟨by omega, by omega⟩ ?_
      refine w_iload rfl rfl rfl ?_
      refine w_if_ne (t := 160) (f := 135) rfl rfl rfl (fun c132 => absurd c132 (by decide)) (fun c132 => ?_)
      refine w_aload_n rfl rfl rfl ?_
      refine w_gf (t := .ref (141)) (v := .ref (141)) rfl rfl rfl sp110 rfl rfl rfl ?_
      refine w_iconst (x := Int32.ofNat 5) rfl rfl (by decide) ?_
      refine w_iload_n rfl rfl rfl ?_
      refine w_imulN rfl rfl ?_
      refine w_iload_n rfl rfl rfl ?_
      refine w_iaddN rfl rfl ?_
      refine w_iconst (x := Int32.ofNat 2) rfl rfl (by decide) ?_
      refine w_iastore rfl rfl sp141 rfl ⟨by omega, by omega⟩ ?_
      refine w_aload_n rfl rfl rfl ?_
      refine w_gf (t := .ref (142)) (v := .ref (142)) rfl rfl rfl sp110 rfl rfl rfl ?_
      refine w_iconst (x := Int32.ofNat 5) rfl rfl (by decide) ?_
      refine w_iload_n rfl rfl rfl ?_
      refine w_imulN rfl rfl ?_
      refine w_iload_n rfl rfl rfl ?_
      refine w_iaddN rfl rfl ?_
      refine w_iconst (x := Int32.ofNat 0) rfl rfl (by decide) ?_
      refine w_iastore rfl rfl sp142 rfl ⟨by omega, by omega⟩ ?_
      refine w_goto (pc' := 198) rfl rfl ?_
      exact w_ret rfl (by first | (have e4 : m_asC I J b (N 1) s = Int32.ofNat 0 := (by unfold m_asC m_asP m_as0 m_asJ0; first | (rw [if_pos c12]; exact if_pos c46) | (rw [if_neg c12]; exact if_pos c46)); unfold m_asI m_as1; rw [e4]; unfold m_asE; exact (if_pos rfl).symm) | (have e4 : m_asC I J b (N 1) s = Int32.ofNat 1 := (by unfold m_asC m_asP m_as0 m_asJ0; first | (rw [if_pos c12]; exact if_neg c46) | (rw [if_neg c12]; exact if_neg c46)); unfold m_asI m_as1; rw [e4]; unfold m_asE; rw [if_neg (by decide)]; first | exact (if_pos c170).symm | exact (if_neg c170).symm)) (by first | (have e4 : m_asC I J b (N 1) s = Int32.ofNat 0 := (by unfold m_asC m_asP m_as0 m_asJ0; first | (rw [if_pos c12]; exact if_pos c46) | (rw [if_neg c12]; exact if_pos c46)); unfold m_as1; rw [e4]) | (have e4 : m_asC I J b (N 1) s = Int32.ofNat 1 := (by unfold m_asC m_asP m_as0 m_asJ0; first | (rw [if_pos c12]; exact if_neg c46) | (rw [if_neg c12]; exact if_neg c46)); unfold m_as1; rw [e4])) rfl
    · refine w_iconst (x := Int32.ofNat 1) rfl rfl (by decide) ?_
      refine w_goto (pc' := 54) rfl rfl ?_
      refine w_istore (L' := [_, _, _, _, _, _]) rfl rfl rfl ?_
      refine w_iconst (x := Int32.ofNat 0) rfl rfl (by decide) ?_
      refine w_istore (L' := [_, _, _, _, _, _]) rfl rfl rfl ?_
      refine l_atSea (I0 := (m_as0 I J b (N 1) s).1) (J0 := (m_as0 I J b (N 1) s).2) rfl hb hs t2 (by omega) ?_ (N 1) 0 (by omega)
      refine w_aload_n rfl rfl rfl ?_
      refine w_gf (t := .ref (142)) (v := .ref (142)) rfl rfl rfl sp110 rfl rfl rfl ?_
      refine w_iconst (x := Int32.ofNat 5) rfl rfl (by decide) ?_
      refine w_iload_n rfl rfl rfl ?_
      refine w_imulN rfl rfl ?_
      refine w_iload_n rfl rfl rfl ?_
      refine w_iaddN rfl rfl ?_
      refine w_dup2 rfl rfl rfl rfl ?_
      refine w_iaload rfl rfl sp142 rfl ⟨by omega, by omega⟩ rfl ?_
      refine w_iconst (x := Int32.ofNat 1) rfl rfl (by decide) ?_
      refine w_isub rfl rfl ?_
      refine w_iastore rfl rfl sp142 rfl ⟨by omega, by omega⟩ ?_
      refine w_iload rfl rfl rfl ?_
      refine w_if_ne (t := 160) (f := 135) rfl rfl rfl (fun c132 => ?_) (fun c132 => absurd c132 (by decide))
      refine w_aload_n rfl rfl rfl ?_
      refine w_gf (t := .ref (142)) (v := .ref (142)) rfl rfl rfl sp110 rfl rfl rfl ?_
      refine w_iconst (x := Int32.ofNat 5) rfl rfl (by decide) ?_
      refine w_iload_n rfl rfl rfl ?_
      refine w_imulN rfl rfl ?_
      refine w_iload_n rfl rfl rfl ?_
      refine w_iaddN rfl rfl ?_
      refine w_iaload rfl rfl sp142 rfl ⟨by omega, by omega⟩ am_u_at ?_
      refine w_if_ne (t := 198) (f := 173) rfl rfl rfl (fun c170 => ?_) (fun c170 => ?_)
      · exact w_ret rfl (by first | (have e4 : m_asC I J b (N 1) s = Int32.ofNat 0 := (by unfold m_asC m_asP m_as0 m_asJ0; first | (rw [if_pos c12]; exact if_pos c46) | (rw [if_neg c12]; exact if_pos c46)); unfold m_asI m_as1; rw [e4]; unfold m_asE; exact (if_pos rfl).symm) | (have e4 : m_asC I J b (N 1) s = Int32.ofNat 1 := (by unfold m_asC m_asP m_as0 m_asJ0; first | (rw [if_pos c12]; exact if_neg c46) | (rw [if_neg c12]; exact if_neg c46)); unfold m_asI m_as1; rw [e4]; unfold m_asE; rw [if_neg (by decide)]; first | exact (if_pos c170).symm | exact (if_neg c170).symm)) (by first | (have e4 : m_asC I J b (N 1) s = Int32.ofNat 0 := (by unfold m_asC m_asP m_as0 m_asJ0; first | (rw [if_pos c12]; exact if_pos c46) | (rw [if_neg c12]; exact if_pos c46)); unfold m_as1; rw [e4]) | (have e4 : m_asC I J b (N 1) s = Int32.ofNat 1 := (by unfold m_asC m_asP m_as0 m_asJ0; first | (rw [if_pos c12]; exact if_neg c46) | (rw [if_neg c12]; exact if_neg c46)); unfold m_as1; rw [e4])) rfl
      · refine w_aload_n rfl rfl rfl ?_
        refine w_gf (t := .ref (141)) (v := .ref (141)) rfl rfl rfl sp110 rfl rfl rfl ?_
        refine w_iconst (x := Int32.ofNat 5) rfl rfl (by decide) ?_
        refine w_iload_n rfl rfl rfl ?_
        refine w_imulN rfl rfl ?_
        refine w_iload_n rfl rfl rfl ?_
        refine w_iaddN rfl rfl ?_
        refine w_iconst (x := Int32.ofNat 0) rfl rfl (by decide) ?_
        refine w_iastore rfl rfl sp141 rfl ⟨by omega, by omega⟩ ?_
        refine w_aload_n rfl rfl rfl ?_
        refine w_gf (t := .ref (143)) (v := .ref (143)) rfl rfl rfl sp110 rfl rfl rfl ?_
        refine w_iconst (x := Int32.ofNat 5) rfl rfl (by decide) ?_
        refine w_iload_n rfl rfl rfl ?_
        refine w_imulN rfl rfl ?_
        refine w_iload_n rfl rfl rfl ?_
        refine w_iaddN rfl rfl ?_
        refine w_dup2 rfl rfl rfl rfl ?_
        refine w_iaload rfl rfl sp143 rfl ⟨by omega, by omega⟩ ((congrFun (am_u_ne (by decide)) _).trans (congrFun (am_u_ne (by decide)) _)) ?_
        refine w_iconst (x := Int32.ofNat 1) rfl rfl (by decide) ?_
        refine w_iadd rfl rfl ?_
        refine w_iastore rfl rfl sp143 rfl ⟨by omega, by omega⟩ ?_
        exact w_ret rfl (by first | (have e4 : m_asC I J b (N 1) s = Int32.ofNat 0 := (by unfold m_asC m_asP m_as0 m_asJ0; first | (rw [if_pos c12]; exact if_pos c46) | (rw [if_neg c12]; exact if_pos c46)); unfold m_asI m_as1; rw [e4]; unfold m_asE; exact (if_pos rfl).symm) | (have e4 : m_asC I J b (N 1) s = Int32.ofNat 1 := (by unfold m_asC m_asP m_as0 m_asJ0; first | (rw [if_pos c12]; exact if_neg c46) | (rw [if_neg c12]; exact if_neg c46)); unfold m_asI m_as1; rw [e4]; unfold m_asE; rw [if_neg (by decide)]; first | exact (if_pos c170).symm | exact (if_neg c170).symm)) (by first | (have e4 : m_asC I J b (N 1) s = Int32.ofNat 0 := (by unfold m_asC m_asP m_as0 m_asJ0; first | (rw [if_pos c12]; exact if_pos c46) | (rw [if_neg c12]; exact if_pos c46)); unfold m_as1; rw [e4]) | (have e4 : m_asC I J b (N 1) s = Int32.ofNat 1 := (by unfold m_asC m_asP m_as0 m_asJ0; first | (rw [if_pos c12]; exact if_neg c46) | (rw [if_neg c12]; exact if_neg c46)); unfold m_as1; rw [e4])) rfl
  · refine w_iconst (x := Int32.ofNat 2) rfl rfl (by decide) ?_
    refine w_aload_n rfl rfl rfl ?_
    refine w_gf (t := .ref (124)) (v := .ref (124)) rfl rfl rfl sp110 rfl rfl rfl ?_
    refine w_iload_n rfl rfl rfl ?_
    refine w_iaload rfl rfl sp124 rfl ⟨by omega, by omega⟩ rfl ?_
    refine w_imul rfl rfl ?_
    refine w_goto (pc' := 32) rfl rfl ?_
    refine w_sipush (x := Int32.ofNat 9999) rfl rfl (by decide) ?_
    refine w_cv (q := am_m224) (as := [_, _, _]) (rest := []) (st' := [_]) rfl rfl rfl rfl rfl rfl sp110 rfl rfl rfl rfl (c_boundLaw (by decide) (t.2.2.2.2 2 (by decide)) (by omega)) rfl rfl ?_
    refine w_istore_n (L' := [_, _, _, _, _, _]) rfl rfl rfl ?_
    refine w_aload_n rfl rfl rfl ?_
    refine w_iload_n rfl rfl rfl ?_
    refine w_iload_n rfl rfl rfl ?_
    refine w_cv (q := am_m219) (as := [_, _]) (rest := []) (st' := [_]) rfl rfl rfl rfl rfl rfl sp110 rfl rfl rfl rfl (c_bearOf hb hn t2.2.1.2.1 (by omega)) rfl rfl ?_
    refine w_iload_n rfl rfl rfl ?_
    refine w_ic_lt (t := 53) (f := 49) rfl rfl rfl (fun c46 => ?_) (fun c46 => ?_)
    · refine w_iconst (x := Int32.ofNat 0) rfl rfl (by decide) ?_
      refine w_istore (L' := [_, _, _, _, _, _]) rfl rfl rfl ?_
      refine w_iconst (x := Int32.ofNat 0) rfl rfl (by decide) ?_
      refine w_istore (L' := [_, _, _, _, _, _]) rfl rfl rfl ?_
      refine l_atSea (I0 := (m_as0 I J b (N 1) s).1) (J0 := (m_as0 I J b (N 1) s).2) rfl hb hs t2 (by omega) ?_ (N 1) 0 (by omega)
      refine w_aload_n rfl rfl rfl ?_
      refine w_gf (t := .ref (142)) (v := .ref (142)) rfl rfl rfl sp110 rfl rfl rfl ?_
      refine w_iconst (x := Int32.ofNat 5) rfl rfl (by decide) ?_
      refine w_iload_n rfl rfl rfl ?_
      refine w_imulN rfl rfl ?_
      refine w_iload_n rfl rfl rfl ?_
      refine w_iaddN rfl rfl ?_
      refine w_dup2 rfl rfl rfl rfl ?_
      refine w_iaload rfl rfl sp142 rfl ⟨by omega, by omega⟩ rfl ?_
      refine w_iconst (x := Int32.ofNat 1) rfl rfl (by decide) ?_
      refine w_isub rfl rfl ?_
      refine w_iastore rfl rfl sp142 rfl ⟨by omega, by omega⟩ ?_
      refine w_iload rfl rfl rfl ?_
      refine w_if_ne (t := 160) (f := 135) rfl rfl rfl (fun c132 => absurd c132 (by decide)) (fun c132 => ?_)
      refine w_aload_n rfl rfl rfl ?_
      refine w_gf (t := .ref (141)) (v := .ref (141)) rfl rfl rfl sp110 rfl rfl rfl ?_
      refine w_iconst (x := Int32.ofNat 5) rfl rfl (by decide) ?_
      refine w_iload_n rfl rfl rfl ?_
      refine w_imulN rfl rfl ?_
      refine w_iload_n rfl rfl rfl ?_
      refine w_iaddN rfl rfl ?_
      refine w_iconst (x := Int32.ofNat 2) rfl rfl (by decide) ?_
      refine w_iastore rfl rfl sp141 rfl ⟨by omega, by omega⟩ ?_
      refine w_aload_n rfl rfl rfl ?_
      refine w_gf (t := .ref (142)) (v := .ref (142)) rfl rfl rfl sp110 rfl rfl rfl ?_
      refine w_iconst (x := Int32.ofNat 5) rfl rfl (by decide) ?_
      refine w_iload_n rfl rfl rfl ?_
      refine w_imulN rfl rfl ?_
      refine w_iload_n rfl rfl rfl ?_
      refine w_iaddN rfl rfl ?_
      refine w_iconst (x := Int32.ofNat 0) rfl rfl (by decide) ?_
      refine w_iastore rfl rfl sp142 rfl ⟨by omega, by omega⟩ ?_
      refine w_goto (pc' := 198) rfl rfl ?_
      exact w_ret rfl (by first | (have e4 : m_asC I J b (N 1) s = Int32.ofNat 0 := (by unfold m_asC m_asP m_as0 m_asJ0; first | (rw [if_pos c12]; exact if_pos c46) | (rw [if_neg c12]; exact if_pos c46)); unfold m_asI m_as1; rw [e4]; unfold m_asE; exact (if_pos rfl).symm) | (have e4 : m_asC I J b (N 1) s = Int32.ofNat 1 := (by unfold m_asC m_asP m_as0 m_asJ0; first | (rw [if_pos c12]; exact if_neg c46) | (rw [if_neg c12]; exact if_neg c46)); unfold m_asI m_as1; rw [e4]; unfold m_asE; rw [if_neg (by decide)]; first | exact (if_pos c170).symm | exact (if_neg c170).symm)) (by first | (have e4 : m_asC I J b (N 1) s = Int32.ofNat 0 := (by unfold m_asC m_asP m_as0 m_asJ0; first | (rw [if_pos c12]; exact if_pos c46) | (rw [if_neg c12]; exact if_pos c46)); unfold m_as1; rw [e4]) | (have e4 : m_asC I J b (N 1) s = Int32.ofNat 1 := (by unfold m_asC m_asP m_as0 m_asJ0; first | (rw [if_pos c12]; exact if_neg c46) | (rw [if_neg c12]; exact if_neg c46)); unfold m_as1; rw [e4])) rfl
    · refine w_iconst (x := Int32.ofNat 1) rfl rfl (by decide) ?_
      refine w_goto (pc' := 54) rfl rfl ?_
      refine w_istore (L' := [_, _, _, _, _, _]) rfl rfl rfl ?_
      refine w_iconst (x := Int32.ofNat 0) rfl rfl (by decide) ?_
      refine w_istore (L' := [_, _, _, _, _, _]) rfl rfl rfl ?_
      refine l_atSea (I0 := (m_as0 I J b (N 1) s).1) (J0 := (m_as0 I J b (N 1) s).2) rfl hb hs t2 (by omega) ?_ (N 1) 0 (by omega)
      refine w_aload_n rfl rfl rfl ?_
      refine w_gf (t := .ref (142)) (v := .ref (142)) rfl rfl rfl sp110 rfl rfl rfl ?_
      refine w_iconst (x := Int32.ofNat 5) rfl rfl (by decide) ?_
      refine w_iload_n rfl rfl rfl ?_
      refine w_imulN rfl rfl ?_
      refine w_iload_n rfl rfl rfl ?_
      refine w_iaddN rfl rfl ?_
      refine w_dup2 rfl rfl rfl rfl ?_
      refine w_iaload rfl rfl sp142 rfl ⟨by omega, by omega⟩ rfl ?_
      refine w_iconst (x := Int32.ofNat 1) rfl rfl (by decide) ?_
      refine w_isub rfl rfl ?_
      refine w_iastore rfl rfl sp142 rfl ⟨by omega, by omega⟩ ?_
      refine w_iload rfl rfl rfl ?_
      refine w_if_ne (t := 160) (f := 135) rfl rfl rfl (fun c132 => ?_) (fun c132 => absurd c132 (by decide))
      refine w_aload_n rfl rfl rfl ?_
      refine w_gf (t := .ref (142)) (v := .ref (142)) rfl rfl rfl sp110 rfl rfl rfl ?_
      refine w_iconst (x := Int32.ofNat 5) rfl rfl (by decide) ?_
      refine w_iload_n rfl rfl rfl ?_
      refine w_imulN rfl rfl ?_
      refine w_iload_n rfl rfl rfl ?_
      refine w_iaddN rfl rfl ?_
      refine w_iaload rfl rfl sp142 rfl ⟨by omega, by omega⟩ am_u_at ?_
      refine w_if_ne (t := 198) (f := 173) rfl rfl rfl (fun c170 => ?_) (fun c170 => ?_)
      · exact w_ret rfl (by first | (have e4 : m_asC I J b (N 1) s = Int32.ofNat 0 := (by unfold m_asC m_asP m_as0 m_asJ0; first | (rw [if_pos c12]; exact if_pos c46) | (rw [if_neg c12]; exact if_pos c46)); unfold m_asI m_as1; rw [e4]; unfold m_asE; exact (if_pos rfl).symm) | (have e4 : m_asC I J b (N 1) s = Int32.ofNat 1 := (by unfold m_asC m_asP m_as0 m_asJ0; first | (rw [if_pos c12]; exact if_neg c46) | (rw [if_neg c12]; exact if_neg c46)); unfold m_asI m_as1; rw [e4]; unfold m_asE; rw [if_neg (by decide)]; first | exact (if_pos c170).symm | exact (if_neg c170).symm)) (by first | (have e4 : m_asC I J b (N 1) s = Int32.ofNat 0 := (by unfold m_asC m_asP m_as0 m_asJ0; first | (rw [if_pos c12]; exact if_pos c46) | (rw [if_neg c12]; exact if_pos c46)); unfold m_as1; rw [e4]) | (have e4 : m_asC I J b (N 1) s = Int32.ofNat 1 := (by unfold m_asC m_asP m_as0 m_asJ0; first | (rw [if_pos c12]; exact if_neg c46) | (rw [if_neg c12]; exact if_neg c46)); unfold m_as1; rw [e4])) rfl
      · refine w_aload_n rfl rfl rfl ?_
        refine w_gf (t := .ref (141)) (v := .ref (141)) rfl rfl rfl sp110 rfl rfl rfl ?_
        refine w_iconst (x := Int32.ofNat 5) rfl rfl (by decide) ?_
        refine w_iload_n rfl rfl rfl ?_
        refine w_imulN rfl rfl ?_
        refine w_iload_n rfl rfl rfl ?_
        refine w_iaddN rfl rfl ?_
        refine w_iconst (x := Int32.ofNat 0) rfl rfl (by decide) ?_
        refine w_iastore rfl rfl sp141 rfl ⟨by omega, by omega⟩ ?_
        refine w_aload_n rfl rfl rfl ?_
        refine w_gf (t := .ref (143)) (v := .ref (143)) rfl rfl rfl sp110 rfl rfl rfl ?_
        refine w_iconst (x := Int32.ofNat 5) rfl rfl (by decide) ?_
        refine w_iload_n rfl rfl rfl ?_
        refine w_imulN rfl rfl ?_
        refine w_iload_n rfl rfl rfl ?_
        refine w_iaddN rfl rfl ?_
        refine w_dup2 rfl rfl rfl rfl ?_
        refine w_iaload rfl rfl sp143 rfl ⟨by omega, by omega⟩ ((congrFun (am_u_ne (by decide)) _).trans (congrFun (am_u_ne (by decide)) _)) ?_
        refine w_iconst (x := Int32.ofNat 1) rfl rfl (by decide) ?_
        refine w_iadd rfl rfl ?_
        refine w_iastore rfl rfl sp143 rfl ⟨by omega, by omega⟩ ?_
        exact w_ret rfl (by first | (have e4 : m_asC I J b (N 1) s = Int32.ofNat 0 := (by unfold m_asC m_asP m_as0 m_asJ0; first | (rw [if_pos c12]; exact if_pos c46) | (rw [if_neg c12]; exact if_pos c46)); unfold m_asI m_as1; rw [e4]; unfold m_asE; exact (if_pos rfl).symm) | (have e4 : m_asC I J b (N 1) s = Int32.ofNat 1 := (by unfold m_asC m_asP m_as0 m_asJ0; first | (rw [if_pos c12]; exact if_neg c46) | (rw [if_neg c12]; exact if_neg c46)); unfold m_asI m_as1; rw [e4]; unfold m_asE; rw [if_neg (by decide)]; first | exact (if_pos c170).symm | exact (if_neg c170).symm)) (by first | (have e4 : m_asC I J b (N 1) s = Int32.ofNat 0 := (by unfold m_asC m_asP m_as0 m_asJ0; first | (rw [if_pos c12]; exact if_pos c46) | (rw [if_neg c12]; exact if_pos c46)); unfold m_as1; rw [e4]) | (have e4 : m_asC I J b (N 1) s = Int32.ofNat 1 := (by unfold m_asC m_asP m_as0 m_asJ0; first | (rw [if_pos c12]; exact if_neg c46) | (rw [if_neg c12]; exact if_neg c46)); unfold m_as1; rw [e4])) rfl
theorem simF_asE {I : hI} {c : Int32} {b s : Nat} : simF I (m_asE I c b s) := by
  unfold m_asE
  repeat' split
  · exact simF_tr (simF_tr (simF_u (by omega)) (simF_u (by omega))) (simF_u (by omega))
  · exact simF_tr (simF_tr (simF_u (by omega)) (simF_u (by omega))) (simF_u (by omega))
  · exact simF_u (by omega)
theorem sb_asE {I : hI} {c : Int32} {b s : Nat} (h : sb I) : sb (m_asE I c b s) := by
  unfold m_asE
  repeat' split
  all_goals (unfold sb; repeat rw [am_u_na (by decide)])
  all_goals exact h
theorem simF_as {I : hI} {J : hJ} {b n s : Nat} : simF I (m_asI I J b n s) := simF_tr (simF_tr (simF_bl I _ 2) (simF_asL n (m_as0 I J b n s))) simF_asE
theorem sb_as {I : hI} {J : hJ} {b n s : Nat} (h : sb I) : sb (m_asI I J b n s) := sb_asE (sb_asL n (m_as0 I J b n s) (sb_bl _ 2 h))
/-- a day: ropes are made -/
def m_d1S (b n : Nat) (r : Nat) (p : hI × hJ) : hI × hJ := if p.1 121 r = p.1 145 b then (if p.1 138 (8 * b + r) = 0 then (m_mkI p.1 p.2 b n r, m_twJ p.1 p.2 b n r) else p) else p
def m_d1 (b n r : Nat) (p : hI × hJ) : hI × hJ := s_for (m_d1S b n) r p
/-- ships sail -/
def m_d2S (b : Nat) (v : Nat) (I : hI) : hI := if I 126 v = I 145 b then (if I 125 v = I 110 69 then I else if (I 110 72 >>> (Int32.ofNat v &&& 31)) &&& Int32.ofNat 1 = Int32.ofNat 1 then I else if I 141 (5 * b + nn (I 125 v)) = 0 then am_u (am_u I 141 (5 * b + nn (I 125 v)) (Int32.ofNat 1)) 142 (5 * b + nn (I 125 v)) (I 127 v) else am_u I 144 b (I 144 b + Int32.ofNat 1)) else I
def m_d2 (b v : Nat) (I : hI) : hI := s_for (m_d2S b) v I
/-- ships are borne or lost -/
def m_d3S (b n : Nat) (s : Nat) (p : hI × hJ) : hI × hJ := if p.1 141 (5 * b + s) = Int32.ofNat 1 then (m_asI p.1 p.2 b n s, (m_as1 p.1 p.2 b n s).2) else p
def m_d3 (b n s : Nat) (p : hI × hJ) : hI × hJ := s_for (m_d3S b n) s p
def m_p1 (I : hI) (J : hJ) (b : Nat) (N : Nat → Nat) : hI × hJ := m_d1 b (N 1) (N 1) (I, J)
def m_p2 (I : hI) (J : hJ) (b : Nat) (N : Nat → Nat) : hI × hJ := (m_d2 b (N 3) (m_p1 I J b N).1, (m_p1 I J b N).2)
def m_p3 (I : hI) (J : hJ) (b : Nat) (N : Nat → Nat) : hI × hJ := (am_u (m_p2 I J b N).1 110 63 (m_st (m_p2 I J b N).1 (m_p2 I J b N).2), m_stJ (m_p2 I J b N).1 (m_p2 I J b N).2)
def m_p4 (I : hI) (J : hJ) (b : Nat) (N : Nat → Nat) : hI × hJ := m_d3 b (N 1) (N 2) (m_p3 I J b N)
def m_day (N : Nat → Nat) (b : Nat) (p : hI × hJ) : hI × hJ := (am_u (m_p4 p.1 p.2 b N).1 145 b ((m_p4 p.1 p.2 b N).1 145 b + Int32.ofNat 1), (m_p4 p.1 p.2 b N).2)
theorem simF_d1 {b n : Nat} (r : Nat) (p : hI × hJ) : simF p.1 (m_d1 b n r p).1 := by
  induction r with
  | zero => exact simF_rf _
  | succ r ih =>
    refine simF_tr ih ?_
    show simF _ (m_d1S b n r (m_d1 b n r p)).1
    unfold m_d1S
    repeat' split
    · exact simF_mk
    · exact simF_rf _
    · exact simF_rf _
theorem sb_d1 {b n : Nat} (r : Nat) (p : hI × hJ) (h : sb p.1) : sb (m_d1 b n r p).1 := by
  induction r with
  | zero => exact h
  | succ r ih =>
    show sb (m_d1S b n r (m_d1 b n r p)).1
    unfold m_d1S
    repeat' split
    · exact sb_mk ih
    · exact ih
    · exact ih
theorem simF_d2 {b : Nat} (v : Nat) (I : hI) : simF I (m_d2 b v I) := by
  induction v with
  | zero => exact simF_rf _
  | succ r ih =>
    refine simF_tr ih ?_
    show simF _ (m_d2S b r (m_d2 b r I))
    unfold m_d2S
    repeat' split
    · exact simF_rf _
    · exact simF_rf _
    · exact simF_tr (simF_u (by omega)) (simF_u (by omega))
    · exact simF_u (by omega)
    · exact simF_rf _
theorem simF_d3 {b n : Nat} (s : Nat) (p : hI × hJ) : simF p.1 (m_d3 b n s p).1 := by
  induction s with
  | zero => exact simF_rf _
  | succ r ih =>
    refine simF_tr ih ?_
    show simF _ (m_d3S b n r (m_d3 b n r p)).1
    unfold m_d3S
    repeat' split
    · exact simF_as
    · exact simF_rf _
theorem sb_d3 {b n : Nat} (s : Nat) (p : hI × hJ) (h : sb p.1) : sb (m_d3 b n s p).1 := by
  induction s with
  | zero => exact h
  | succ r ih =>
    show sb (m_d3S b n r (m_d3 b n r p)).1
    unfold m_d3S
    repeat' split
    · exact sb_as ih
    · exact ih
theorem simF_p3 (I : hI) (J : hJ) (b : Nat) (N : Nat → Nat) : simF I (m_p3 I J b N).1 := simF_tr (simF_tr (simF_d1 (N 1) (I, J)) (simF_d2 (N 3) _)) (simF_u (by omega))
theorem sb_p3 (I : hI) (J : hJ) (b : Nat) (N : Nat → Nat) : sb (m_p3 I J b N).1 := by
  unfold sb m_p3
  dsimp only
  rw [am_u_at]
  exact m_st01 _ _
theorem simF_day (N : Nat → Nat) (b : Nat) (p : hI × hJ) : simF p.1 (m_day N b p).1 := simF_tr (simF_tr (simF_p3 p.1 p.2 b N) (simF_d3 (N 2) _)) (simF_u (by omega))
theorem sb_day (N : Nat → Nat) (b : Nat) (p : hI × hJ) : sb (m_day N b p).1 := by
  unfold m_day
  unfold sb
  dsimp only
  rw [am_u_na (by decide)]
  exact sb_d3 (N 2) _ (sb_p3 p.1 p.2 b N)
