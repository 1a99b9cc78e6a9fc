/-! The reference: which evens fit what was seen. -/
def kb (I : hI) : Int32 := if I 110 80 < 0 then I 110 79 else I 110 80
/-- what is known can be gone by -/
def vok (I : hI) (K : Nat) : Prop := kb I = Int32.ofNat K ∧ K ≤ 24 ∧ ∀ i, i < K → (I 149 (3 * i) < 0 → okn (I 149 (3 * i + 1)) i) ∧ (¬ I 149 (3 * i) < 0 → okn (I 149 (3 * i + 1)) 5)
theorem vok_c {I I' : hI} {K : Nat} (h : ∀ a i, a = 149 ∨ (a = 110 ∧ (i = 79 ∨ i = 80)) → I' a i = I a i) (g : vok I K) : vok I' K := by
  unfold vok kb at g ⊢
  rw [h 110 80 (by omega), h 110 79 (by omega)]
  refine ⟨g.1, g.2.1, fun i hi => ?_⟩
  rw [h 149 (3 * i) (by omega), h 149 (3 * i + 1) (by omega)]
  exact g.2.2 i hi
theorem vok_F {I I' : hI} {K : Nat} (h : simF I I') (g : vok I K) : vok I' K := vok_c (fun a i z => h a i (by omega) (by omega)) g
theorem vok_u {I : hI} {K a k : Nat} {x : Int32} (h1 : a ≠ 149) (h2 : a = 110 → k ≠ 79 ∧ k ≠ 80) (g : vok I K) : vok (am_u I a k x) K := vok_c (fun b i z => by unfold am_u; rw [if_neg (by omega)]) g
theorem vok_pt {I : hI} {K : Nat} (t : vok I K) : vok (m_pt I) K := vok_u (by omega) (by omega) (vok_u (by omega) (by omega) (vok_u (by omega) (by omega) (vok_u (by omega) (by omega) (vok_u (by omega) (by omega) (vok_u (by omega) (by omega) (vok_u (by omega) (by omega) (vok_u (by omega) (by omega) (vok_u (by omega) (by omega) (vok_u (by omega) (by omega) t)))))))))
theorem vok_le {I : hI} {K : Nat} {m e : Int32} (h : vok I K) : vok (m_le I m e) K := vok_u (by omega) (by omega) (vok_u (by omega) (by omega) (vok_pt (vok_F (simF_af 1 I) h)))
theorem c_knownByN {k : Nat} {I : hI} {J : hJ} {R : hR} {K : Nat} (hK : kb I = Int32.ofNat K) (hk : 1 ≤ k) : ct k 270 [.ref 110] I J R (some (.int (Int32.ofNat K))) I J R := by
  obtain ⟨k, rfl⟩ : ∃ k', k = k' + 1 := ⟨k - 1, by omega⟩
  refine ct_of (q := am_m270) (L := [_]) rfl rfl rfl rfl rfl rfl ?_
  refine w_aload_n rfl rfl rfl ?_
  refine w_gf (t := .int 0) (v := .int _) rfl rfl rfl sp110 rfl (congrArg Value.int rfl) rfl ?_
  refine w_if_ge (t := 14) (f := 7) rfl rfl rfl (fun c4 => ?_) (fun c4 => ?_)
  · refine w_aload_n rfl rfl rfl ?_
    refine w_gf (t := .int 0) (v := .int _) rfl rfl rfl sp110 rfl (congrArg Value.int rfl) rfl ?_
    exact w_iret rfl (by rw [← hK]; simp only [kb, *, ite_true, ite_false]) rfl rfl rfl
  · refine w_aload_n rfl rfl rfl ?_
    refine w_gf (t := .int 0) (v := .int _) rfl rfl rfl sp110 rfl (congrArg Value.int rfl) rfl ?_
    refine w_goto (pc' := 18) rfl rfl ?_
    exact w_iret rfl (by rw [← hK]; simp only [kb, *, ite_true, ite_false]) rfl rfl rfl
def m_soP (I : hI) (i : Nat) : Prop := (I 141 (5 + nn (I 149 (3 * i + 1))) = Int32.ofNat 2 ∧ ¬ I 149 (3 * i + 2) = Int32.ofNat 1) ∨ (¬ I 141 (5 + nn (I 149 (3 * i + 1))) = Int32.ofNat 2 ∧ I 149 (3 * i + 2) = Int32.ofNat 1)
def m_soD (I : hI) (i : Nat) : Decidable (m_soP I i) := inferInstanceAs (Decidable (_ ∨ _))
def m_so (I : hI) (n : Nat) : Nat → Nat → Int32
  | 0, _ => 1
  | j + 1, i => if I 150 i = 0 then m_so I n j (i + 1) else if I 149 (3 * i) = Int32.ofNat n then @ite _ (m_soP I i) (m_soD I i) 0 (m_so I n j (i + 1)) else m_so I n j (i + 1)
theorem m_so_s (I : hI) (n j i : Nat) : m_so I n (j + 1) i = if I 150 i = 0 then m_so I n j (i + 1) else if I 149 (3 * i) = Int32.ofNat n then @ite _ (m_soP I i) (m_soD I i) 0 (m_so I n j (i + 1)) else m_so I n j (i + 1) := rfl
theorem am_ii1 {P Q : Prop} (p : P) (q : Q) : ¬ ((P ∧ ¬ Q) ∨ (¬ P ∧ Q)) := fun z => z.elim (fun z => z.2 q) (fun z => z.1 p)
theorem am_ii2 {P Q : Prop} (p : ¬ P) (q : ¬ Q) : ¬ ((P ∧ ¬ Q) ∨ (¬ P ∧ Q)) := fun z => z.elim (fun z => p z.1) (fun z => q z.2)
theorem l_isSo {k : Nat} {I : hI} {J : hJ} {R : hR} {n K : Nat} (hn : n ≤ 60) (v : vok I K) (hk : 1 ≤ k) : ∀ (j r : Nat), r + j = K → wz k 12 (some .boolean) am_c271 2 [.ref 110, .int (Int32.ofNat n), .int (Int32.ofNat r)] [] I J R (some (.int (m_so I n j r)), am_hp I J R) := by
  have h24 := v.2.1
  intro j
  induction j with
  | zero =>
    intro r e
    obtain rfl : K = r := by omega
    refine w_iload_n rfl rfl rfl ?_
    refine w_aload_n rfl rfl rfl ?_
    refine w_cv (q := am_m270) (as := []) (rest := [_]) (st' := [_, _]) rfl rfl rfl rfl rfl rfl sp110 rfl rfl rfl rfl (c_knownByN v.1 hk) rfl rfl ?_
    refine w_ic_geN (t := 90) (f := 10) rfl rfl rfl (by omega) (by omega) (fun c7 => ?_) (fun c7 => absurd c7 (by omega))
    refine w_iconst (x := Int32.ofNat 1) rfl rfl (by decide) ?_
    exact w_bret rfl (by decide) rfl rfl rfl rfl
  | succ j ih =>
    intro r e
    rw [m_so_s]
    refine w_iload_n rfl rfl rfl ?_
    refine w_aload_n rfl rfl rfl ?_
    refine w_cv (q := am_m270) (as := []) (rest := [_]) (st' := [_, _]) rfl rfl rfl rfl rfl rfl sp110 rfl rfl rfl rfl (c_knownByN v.1 hk) rfl rfl ?_
    refine w_ic_geN (t := 90) (f := 10) rfl rfl rfl (by omega) (by omega) (fun c7 => absurd c7 (by omega)) (fun c7 => ?_)
    refine w_aload_n rfl rfl rfl ?_
    refine w_gf (t := .ref (150)) (v := .ref (150)) rfl rfl rfl sp110 rfl rfl rfl ?_
    refine w_iload_n rfl rfl rfl ?_
    refine w_baload rfl rfl sp150 rfl ⟨by omega, by omega⟩ rfl ?_
    refine w_if_eq (t := 84) (f := 19) rfl rfl rfl (fun c16 => ?_) (fun c16 => ?_)
    · refine w_iinc (L' := [_, _, _]) rfl rfl rfl (am_incN 1) rfl ?_
      refine w_goto (pc' := 2) rfl rfl ?_
      exact wz_r (ih (r + 1) (by omega)) (by first | rw [if_pos c16] | (rw [if_neg c16]; first | rw [if_neg c28] | (rw [if_pos c28]; first | rw [if_neg (show ¬ m_soP I r from am_ii1 c52 c71)] | rw [if_neg (show ¬ m_soP I r from am_ii2 c52 c71)])))
    · refine w_aload_n rfl rfl rfl ?_
      refine w_gf (t := .ref (149)) (v := .ref (149)) rfl rfl rfl sp110 rfl rfl rfl ?_
      refine w_iconst (x := Int32.ofNat 3) rfl rfl (by decide) ?_
      refine w_iload_n rfl rfl rfl ?_
      refine w_imulN rfl rfl ?_
      refine w_iaload rfl rfl sp149 rfl ⟨by omega, by omega⟩ rfl ?_
      refine w_iload_n rfl rfl rfl ?_
      refine w_ic_eq (t := 34) (f := 31) rfl rfl rfl (fun c28 => ?_) (fun c28 => ?_)
      · refine w_aload_n rfl rfl rfl ?_
        refine w_gf (t := .ref (141)) (v := .ref (141)) rfl rfl rfl sp110 rfl rfl rfl ?_
        refine w_iconst (x := Int32.ofNat 5) rfl rfl (by decide) ?_
        refine w_aload_n rfl rfl rfl ?_
        refine w_gf (t := .ref (149)) (v := .ref (149)) rfl rfl rfl sp110 rfl rfl rfl ?_
        refine w_iconst (x := Int32.ofNat 3) rfl rfl (by decide) ?_
        refine w_iload_n rfl rfl rfl ?_
        refine w_imulN rfl rfl ?_
        refine w_iconst (x := Int32.ofNat 1) rfl rfl (by decide) ?_
        refine w_iaddN rfl rfl ?_
        refine w_iaload rfl rfl sp149 rfl ⟨by omega, by omega⟩ (((v.2.2 r (by omega)).2 (by rw [c28]; exact am_oN0 (by omega)))).1 ?_
        refine w_iaddN rfl rfl ?_
        refine w_iaload rfl rfl sp141 rfl ⟨(by have := (((v.2.2 r (by omega)).2 (by rw [c28]; exact am_oN0 (by omega)))).2; omega), by omega⟩ rfl ?_
        refine w_iconst (x := Int32.ofNat 2) rfl rfl (by decide) ?_
        refine w_ic_ne (t := 59) (f := 55) rfl rfl rfl (fun c52 => ?_) (fun c52 => ?_)
        · refine w_iconst (x := Int32.ofNat 0) rfl rfl (by decide) ?_
          refine w_aload_n rfl rfl rfl ?_
          refine w_gf (t := .ref (149)) (v := .ref (149)) rfl rfl rfl sp110 rfl rfl rfl ?_
          refine w_iconst (x := Int32.ofNat 3) rfl rfl (by decide) ?_
          refine w_iload_n rfl rfl rfl ?_
          refine w_imulN rfl rfl ?_
          refine w_iconst (x := Int32.ofNat 2) rfl rfl (by decide) ?_
          refine w_iaddN rfl rfl ?_
          refine w_iaload rfl rfl sp149 rfl ⟨by omega, by omega⟩ rfl ?_
          refine w_iconst (x := Int32.ofNat 1) rfl rfl (by decide) ?_
          refine w_ic_ne (t := 78) (f := 74) rfl rfl rfl (fun c71 => ?_) (fun c71 => ?_)
          · refine w_iconst (x := Int32.ofNat 0) rfl rfl (by decide) ?_
            refine w_ic_eqN (t := 84) (f := 82) rfl rfl rfl (by omega) (by omega) (fun c79 => ?_) (fun c79 => absurd c79 (by omega))
            clear c79
            refine w_iinc (L' := [_, _, _]) rfl rfl rfl (am_incN 1) rfl ?_
            refine w_goto (pc' := 2) rfl rfl ?_
            exact wz_r (ih (r + 1) (by omega)) (by first | rw [if_pos c16] | (rw [if_neg c16]; first | rw [if_neg c28] | (rw [if_pos c28]; first | rw [if_neg (show ¬ m_soP I r from am_ii1 c52 c71)] | rw [if_neg (show ¬ m_soP I r from am_ii2 c52 c71)])))
          · refine w_iconst (x := Int32.ofNat 1) rfl rfl (by decide) ?_
            refine w_goto (pc' := 79) rfl rfl ?_
            refine w_ic_eqN (t := 84) (f := 82) rfl rfl rfl (by omega) (by omega) (fun c79 => absurd c79 (by omega)) (fun c79 => ?_)
            clear c79
            refine w_iconst (x := Int32.ofNat 0) rfl rfl (by decide) ?_
            exact w_bret rfl (by decide) (by rw [if_neg c16, if_pos c28]; (first | rw [if_pos (show m_soP I r from Or.inl (And.intro c52 c71))] | rw [if_pos (show m_soP I r from Or.inr (And.intro c52 c71))]) <;> rfl) rfl rfl rfl
        · refine w_iconst (x := Int32.ofNat 1) rfl rfl (by decide) ?_
          refine w_goto (pc' := 60) rfl rfl ?_
          refine w_aload_n rfl rfl rfl ?_
          refine w_gf (t := .ref (149)) (v := .ref (149)) rfl rfl rfl sp110 rfl rfl rfl ?_
          refine w_iconst (x := Int32.ofNat 3) rfl rfl (by decide) ?_
          refine w_iload_n rfl rfl rfl ?_
          refine w_imulN rfl rfl ?_
          refine w_iconst (x := Int32.ofNat 2) rfl rfl (by decide) ?_
          refine w_iaddN rfl rfl ?_
          refine w_iaload rfl rfl sp149 rfl ⟨by omega, by omega⟩ rfl ?_
          refine w_iconst (x := Int32.ofNat 1) rfl rfl (by decide) ?_
          refine w_ic_ne (t := 78) (f := 74) rfl rfl rfl (fun c71 => ?_) (fun c71 => ?_)
          · refine w_iconst (x := Int32.ofNat 0) rfl rfl (by decide) ?_
            refine w_ic_eqN (t := 84) (f := 82) rfl rfl rfl (by omega) (by omega) (fun c79 => absurd c79 (by omega)) (fun c79 => ?_)
            clear c79
            refine w_iconst (x := Int32.ofNat 0) rfl rfl (by decide) ?_
            exact w_bret rfl (by decide) (by rw [if_neg c16, if_pos c28]; (first | rw [if_pos (show m_soP I r from Or.inl (And.intro c52 c71))] | rw [if_pos (show m_soP I r from Or.inr (And.intro c52 c71))]) <;> rfl) rfl rfl rfl
          · refine w_iconst (x := Int32.ofNat 1) rfl rfl (by decide) ?_
            refine w_goto (pc' := 79) rfl rfl ?_
            refine w_ic_eqN (t := 84) (f := 82) rfl rfl rfl (by omega) (by omega) (fun c79 => ?_) (fun c79 => absurd c79 (by omega))
            clear c79
            refine w_iinc (L' := [_, _, _]) rfl rfl rfl (am_incN 1) rfl ?_
            refine w_goto (pc' := 2) rfl rfl ?_
            exact wz_r (ih (r + 1) (by omega)) (by first | rw [if_pos c16] | (rw [if_neg c16]; first | rw [if_neg c28] | (rw [if_pos c28]; first | rw [if_neg (show ¬ m_soP I r from am_ii1 c52 c71)] | rw [if_neg (show ¬ m_soP I r from am_ii2 c52 c71)])))
      · refine w_goto (pc' := 84) rfl rfl ?_
        refine w_iinc (L' := [_, _, _]) rfl rfl rfl (am_incN 1) rfl ?_
        refine w_goto (pc' := 2) rfl rfl ?_
        exact wz_r (ih (r + 1) (by omega)) (by first | rw [if_pos c16] | (rw [if_neg c16]; first | rw [if_neg c28] | (rw [if_pos c28]; first | rw [if_neg (show ¬ m_soP I r from am_ii1 c52 c71)] | rw [if_neg (show ¬ m_soP I r from am_ii2 c52 c71)])))
theorem c_isSo {k : Nat} {I : hI} {J : hJ} {R : hR} {n K : Nat} (hn : n ≤ 60) (v : vok I K) (hk : 2 ≤ k) : ct k 271 [.ref 110, .int (Int32.ofNat n)] I J R (some (.int (m_so I n K 0))) I J R := by
  obtain ⟨k, rfl⟩ : ∃ k', k = k' + 1 := ⟨k - 1, by omega⟩
  refine ct_of (q := am_m271) (L := [_, _, _]) rfl rfl rfl rfl rfl rfl ?_
  refine w_iconst (x := Int32.ofNat 0) rfl rfl (by decide) ?_
  refine w_istore_n (L' := [_, _, _]) rfl rfl rfl ?_
  exact l_isSo hn v (by omega) K 0 (by omega)
theorem m_so01 (I : hI) (n : Nat) : ∀ j i, m_so I n j i = 0 ∨ m_so I n j i = 1 := by
  intro j
  induction j with
  | zero => intro i; exact Or.inr rfl
  | succ j ih =>
    intro i
    rw [m_so_s]
    repeat' split
    · exact ih _
    · exact Or.inl rfl
    · exact ih _
    · exact ih _
def m_ft (N : Nat → Nat) (K : Nat) : Nat → Nat → hI × hJ → Int32 × hI × hJ
  | 0, _, p => (1, p)
  | j + 1, n, p => if m_so (m_day N 1 p).1 n K 0 = 0 then (0, m_day N 1 p) else m_ft N K j (n + 1) (m_day N 1 p)
theorem m_ft_s (N : Nat → Nat) (K j n : Nat) (p : hI × hJ) : m_ft N K (j + 1) n p = if m_so (m_day N 1 p).1 n K 0 = 0 then (0, m_day N 1 p) else m_ft N K j (n + 1) (m_day N 1 p) := rfl
theorem m_ft_F (N : Nat → Nat) (K : Nat) : ∀ j n p, simF p.1 (m_ft N K j n p).2.1 := by
  intro j
  induction j with
  | zero => intro n p; exact simF_rf _
  | succ j ih =>
    intro n p
    rw [m_ft_s]
    split
    · exact simF_day N 1 p
    · exact simF_tr (simF_day N 1 p) (ih _ _)
theorem l_fits {k : Nat} {R : hR} {N : Nat → Nat} {K m e0 : Nat} (hk : 7 ≤ k) : ∀ (j r : Nat) (p : hI × hJ), r + j = 61 → tok p.1 N → sb p.1 → vok p.1 K → wz k 12 (some .boolean) am_c273 8 [.ref 110, .int (Int32.ofNat m), .int (Int32.ofNat e0), .int (Int32.ofNat r)] [] p.1 p.2 R (some (.int (m_ft N K j r p).1), am_hp (m_ft N K j r p).2.1 (m_ft N K j r p).2.2 R) := by
  intro j
  induction j with
  | zero =>
    intro r p e t h v
    obtain rfl : 61 = r := by omega
    refine w_iload_n rfl rfl rfl ?_
    refine w_bipush (x := Int32.ofNat 60) rfl rfl (by decide) ?_
    refine w_ic_gtN (t := 35) (f := 14) rfl rfl rfl (by omega) (by omega) (fun c11 => ?_) (fun c11 => absurd c11 (by omega))
    refine w_iconst (x := Int32.ofNat 1) rfl rfl (by decide) ?_
    exact w_bret rfl (by decide) rfl rfl rfl rfl
  | succ j ih =>
    intro r p e t h v
    rw [m_ft_s]
    refine w_iload_n rfl rfl rfl ?_
    refine w_bipush (x := Int32.ofNat 60) rfl rfl (by decide) ?_
    refine w_ic_gtN (t := 35) (f := 14) rfl rfl rfl (by omega) (by omega) (fun c11 => absurd c11 (by omega)) (fun c11 => ?_)
    refine w_aload_n rfl rfl rfl ?_
    refine w_iconst (x := Int32.ofNat 1) rfl rfl (by decide) ?_
    refine w_cv (q := am_m231) (as := [_]) (rest := []) (st' := []) rfl rfl rfl rfl rfl rfl sp110 rfl rfl rfl rfl (c_dayGoes (b := 1) (by decide) t h (by omega)) rfl rfl ?_
    refine w_aload_n rfl rfl rfl ?_
    refine w_iload_n rfl rfl rfl ?_
    refine w_cv (q := am_m271) (as := [_]) (rest := []) (st' := [_]) rfl rfl rfl rfl rfl rfl sp110 rfl rfl rfl rfl (c_isSo (by omega) (vok_F (simF_day N 1 p) v) (by omega)) rfl rfl ?_
    refine w_if_ne (t := 29) (f := 27) rfl rfl rfl (fun c24 => ?_) (fun c24 => ?_)
    · refine w_iinc (L' := [_, _, _, _]) rfl rfl rfl (am_incN 1) rfl ?_
      refine w_goto (pc' := 8) rfl rfl ?_
      rw [if_neg c24]
      exact ih (r + 1) _ (by omega) (tok_F (simF_day N 1 p) t) (sb_day N 1 p) (vok_F (simF_day N 1 p) v)
    · refine w_iconst (x := Int32.ofNat 0) rfl rfl (by decide) ?_
      exact w_bret rfl (by decide) (by rw [if_pos c24]; rfl) (by rw [if_pos c24]) (by rw [if_pos c24]) rfl
def m_fits (N : Nat → Nat) (K : Nat) (m e0 : Nat) (p : hI × hJ) : Int32 × hI × hJ := m_ft N K 60 1 (m_le p.1 (Int32.ofNat m) (Int32.ofNat e0), p.2)
theorem c_fits {k : Nat} {I : hI} {J : hJ} {R : hR} {N : Nat → Nat} {K m e0 : Nat} (t : tok I N) (v : vok I K) (hk : 8 ≤ k) : ct k 273 [.ref 110, .int (Int32.ofNat m), .int (Int32.ofNat e0)] I J R (some (.int (m_fits N K m e0 (I, J)).1)) ((m_fits N K m e0 (I, J)).2.1) ((m_fits N K m e0 (I, J)).2.2) R := by
  obtain ⟨k, rfl⟩ : ∃ k', k = k' + 1 := ⟨k - 1, by omega⟩
  refine ct_of (q := am_m273) (L := [_, _, _, _]) rfl rfl rfl rfl rfl rfl ?_
  refine w_aload_n rfl rfl rfl ?_
  refine w_iload_n rfl rfl rfl ?_
  refine w_iload_n rfl rfl rfl ?_
  refine w_cv (q := am_m272) (as := [_, _]) (rest := []) (st' := []) rfl rfl rfl rfl rfl rfl sp110 rfl rfl rfl rfl (c_layEven (by omega)) rfl rfl ?_
  refine w_iconst (x := Int32.ofNat 1) rfl rfl (by decide) ?_
  refine w_istore_n (L' := [_, _, _, _]) rfl rfl rfl ?_
  exact l_fits (by omega) 60 1 (m_le I (Int32.ofNat m) (Int32.ofNat e0), J) (by omega) (tok_le t) (sb_le _ _ _) (vok_le v)
def m_ebA (n : Nat) (I : hI) : hI := s_for (fun r I => am_u I 150 r (Int32.ofNat 1)) n I
theorem vok_ebA {I : hI} {K n : Nat} (v : vok I K) : vok (m_ebA n I) K := by
  induction n with
  | zero => exact v
  | succ n ih => exact vok_u (by omega) (by omega) ih
theorem tok_ebA {I : hI} {N : Nat → Nat} {n : Nat} (v : tok I N) : tok (m_ebA n I) N := by
  induction n with
  | zero => exact v
  | succ n ih => exact tok_u (by omega) (by omega) ih
/-- strikes, from the last on -/
def m_ebB : Nat → hI → hI
  | 0, I => I
  | j + 1, I => if I 150 j = 0 then m_ebB j I else if I 149 (3 * j) < 0 then m_ebB j (am_u I 150 (nn (I 149 (3 * j + 1))) (Int32.ofNat 0)) else m_ebB j I
theorem m_ebB_s (j : Nat) (I : hI) : m_ebB (j + 1) I = if I 150 j = 0 then m_ebB j I else if I 149 (3 * j) < 0 then m_ebB j (am_u I 150 (nn (I 149 (3 * j + 1))) (Int32.ofNat 0)) else m_ebB j I := rfl
theorem vok_ebB {K : Nat} : ∀ n (I : hI), vok I K → vok (m_ebB n I) K := by
  intro n
  induction n with
  | zero => intro I v; exact v
  | succ n ih =>
    intro I v
    rw [m_ebB_s]
    repeat' split
    · exact ih _ v
    · exact ih _ (vok_u (by omega) (by omega) v)
    · exact ih _ v
theorem tok_ebB {N : Nat → Nat} : ∀ n (I : hI), tok I N → tok (m_ebB n I) N := by
  intro n
  induction n with
  | zero => intro I v; exact v
  | succ n ih =>
    intro I v
    rw [m_ebB_s]
    repeat' split
    · exact ih _ v
    · exact ih _ (tok_u (by omega) (by omega) v)
    · exact ih _ v
theorem dn_s (j : Nat) : Int32.ofNat (j + 1) - Int32.ofNat 1 = Int32.ofNat j := by rw [Int32.ofNat_add, Int32.add_sub_cancel]
theorem am_dec (x : Int32) : x + Int32.ofInt (-1) = x - Int32.ofNat 1 := by
  rw [Int32.sub_eq_add_neg]; rfl
theorem l_evenA {k : Nat} {R : hR} {q : Option Value × am_H} {m K : Nat} {I0 : hI} {J0 : hJ} (v : vok I0 K) (hk : 1 ≤ k) (Z : wz k 12 (some .int) am_c274 23 [.ref 110, .int (Int32.ofNat m), .int (Int32.ofNat K), am_un] [] (m_ebA K I0) J0 R q) : ∀ (j r : Nat) , r + j = K → wz k 12 (some .int) am_c274 2 [.ref 110, .int (Int32.ofNat m), .int (Int32.ofNat r), am_un] [] (m_ebA r I0) J0 R q := by
  intro j
  induction j with
  | zero =>
    intro r e
    obtain rfl : K = r := by omega
    have v1 := vok_ebA (n := K) v
    have h24 := v.2.1
    refine w_iload_n rfl rfl rfl ?_
    refine w_aload_n rfl rfl rfl ?_
    refine w_cv (q := am_m270) (as := []) (rest := [_]) (st' := [_, _]) rfl rfl rfl rfl rfl rfl sp110 rfl rfl rfl rfl (c_knownByN v1.1 hk) rfl rfl ?_
    refine w_ic_geN (t := 23) (f := 10) rfl rfl rfl (by omega) (by omega) (fun c7 => ?_) (fun c7 => absurd c7 (by omega))
    exact Z
  | succ j ih =>
    intro r e
    have v1 := vok_ebA (n := r) v
    have h24 := v.2.1
    refine w_iload_n rfl rfl rfl ?_
    refine w_aload_n rfl rfl rfl ?_
    refine w_cv (q := am_m270) (as := []) (rest := [_]) (st' := [_, _]) rfl rfl rfl rfl rfl rfl sp110 rfl rfl rfl rfl (c_knownByN v1.1 hk) rfl rfl ?_
    refine w_ic_geN (t := 23) (f := 10) rfl rfl rfl (by omega) (by omega) (fun c7 => absurd c7 (by omega)) (fun c7 => ?_)
    refine w_aload_n rfl rfl rfl ?_
    refine w_gf (t := .ref (150)) (v := .ref (150)) rfl rfl rfl sp110 rfl rfl rfl ?_
    refine w_iload_n rfl rfl rfl ?_
    refine w_iconst (x := Int32.ofNat 1) rfl rfl (by decide) ?_
    refine w_bastore rfl rfl sp150 rfl ⟨by omega, by omega⟩ (by decide) ?_
    refine w_iinc (L' := [_, _, _, _]) rfl rfl rfl (am_incN 1) rfl ?_
    refine w_goto (pc' := 2) rfl rfl ?_
    exact ih (r + 1) (by omega)
theorem l_evenB {k : Nat} {R : hR} {J0 : hJ} {m K : Nat} {q : Option Value × am_H} : ∀ (j : Nat) (I0 : hI), j ≤ K → vok I0 K → (wz k 12 (some .int) am_c274 76 [.ref 110, .int (Int32.ofNat m), .int (Int32.ofNat 0 - Int32.ofNat 1), am_un] [] (m_ebB j I0) J0 R q) → wz k 12 (some .int) am_c274 30 [.ref 110, .int (Int32.ofNat m), .int (Int32.ofNat j - Int32.ofNat 1), am_un] [] I0 J0 R q := by
  intro j
  induction j with
  | zero =>
    intro I0 hj v Z
    refine w_iload_n rfl rfl rfl ?_
    refine w_if_lt (t := 76) (f := 34) rfl rfl rfl (fun c31 => ?_) (fun c31 => absurd c31 (by decide))
    exact Z
  | succ j ih =>
    intro I0 hj v Z
    have h24 := v.2.1
    rw [dn_s]
    rw [m_ebB_s] at Z
    refine w_iload_n rfl rfl rfl ?_
    refine w_if_lt (t := 76) (f := 34) rfl rfl rfl (fun c31 => absurd c31 (am_oN0 (by omega))) (fun c31 => ?_)
    refine w_aload_n rfl rfl rfl ?_
    refine w_gf (t := .ref (150)) (v := .ref (150)) rfl rfl rfl sp110 rfl rfl rfl ?_
    refine w_iload_n rfl rfl rfl ?_
    refine w_baload rfl rfl sp150 rfl ⟨by omega, by omega⟩ rfl ?_
    refine w_if_eq (t := 70) (f := 43) rfl rfl rfl (fun c40 => ?_) (fun c40 => ?_)
    · first | rw [if_pos c40] at Z | (rw [if_neg c40] at Z; first | rw [if_pos c51] at Z | rw [if_neg c51] at Z)
      refine w_iinc (L' := [_, _, _, _]) rfl rfl rfl (am_dec _) rfl ?_
      refine w_goto (pc' := 30) rfl rfl ?_
      first | exact ih _ (by omega) v Z | exact ih _ (by omega) (vok_u (by omega) (by omega) v) Z
    · refine w_aload_n rfl rfl rfl ?_
      refine w_gf (t := .ref (149)) (v := .ref (149)) rfl rfl rfl sp110 rfl rfl rfl ?_
      refine w_iconst (x := Int32.ofNat 3) rfl rfl (by decide) ?_
      refine w_iload_n rfl rfl rfl ?_
      refine w_imulN rfl rfl ?_
      refine w_iaload rfl rfl sp149 rfl ⟨by omega, by omega⟩ rfl ?_
      refine w_if_ge (t := 70) (f := 54) rfl rfl rfl (fun c51 => ?_) (fun c51 => ?_)
      · first | rw [if_pos c40] at Z | (rw [if_neg c40] at Z; first | rw [if_pos c51] at Z | rw [if_neg c51] at Z)
        refine w_iinc (L' := [_, _, _, _]) rfl rfl rfl (am_dec _) rfl ?_
        refine w_goto (pc' := 30) rfl rfl ?_
        first | exact ih _ (by omega) v Z | exact ih _ (by omega) (vok_u (by omega) (by omega) v) Z
      · refine w_aload_n rfl rfl rfl ?_
        refine w_gf (t := .ref (150)) (v := .ref (150)) rfl rfl rfl sp110 rfl rfl rfl ?_
        refine w_aload_n rfl rfl rfl ?_
        refine w_gf (t := .ref (149)) (v := .ref (149)) rfl rfl rfl sp110 rfl rfl rfl ?_
        refine w_iconst (x := Int32.ofNat 3) rfl rfl (by decide) ?_
        refine w_iload_n rfl rfl rfl ?_
        refine w_imulN rfl rfl ?_
        refine w_iconst (x := Int32.ofNat 1) rfl rfl (by decide) ?_
        refine w_iaddN rfl rfl ?_
        refine w_iaload rfl rfl sp149 rfl ⟨by omega, by omega⟩ ((v.2.2 j (by omega)).1 c51).1 ?_
        refine w_iconst (x := Int32.ofNat 0) rfl rfl (by decide) ?_
        refine w_bastore rfl rfl sp150 rfl ⟨(by have := ((v.2.2 j (by omega)).1 c51).2; omega), by omega⟩ (by decide) ?_
        first | rw [if_pos c40] at Z | (rw [if_neg c40] at Z; first | rw [if_pos c51] at Z | rw [if_neg c51] at Z)
        refine w_iinc (L' := [_, _, _, _]) rfl rfl rfl (am_dec _) rfl ?_
        refine w_goto (pc' := 30) rfl rfl ?_
        first | exact ih _ (by omega) v Z | exact ih _ (by omega) (vok_u (by omega) (by omega) v) Z
def m_ebS (N : Nat → Nat) (K m : Nat) (r : Nat) (q : Int32 × hI × hJ) : Int32 × hI × hJ := (q.1 ||| (if (m_fits N K m r q.2).1 = 0 then Int32.ofNat 0 else Int32.ofNat (2 ^ r)), (m_fits N K m r q.2).2)
def m_ebL (N : Nat → Nat) (K m : Nat) (r : Nat) (q : Int32 × hI × hJ) : Int32 × hI × hJ := s_for (m_ebS N K m) r q
theorem m_ebL_1 (N : Nat → Nat) (K m r : Nat) (q : Int32 × hI × hJ) : (m_ebL N K m (r + 1) q).1 = (m_ebL N K m r q).1 ||| (if (m_fits N K m r (m_ebL N K m r q).2).1 = 0 then Int32.ofNat 0 else Int32.ofNat (2 ^ r)) := rfl
theorem tok_fits {N : Nat → Nat} {K m e : Nat} {p : hI × hJ} (t : tok p.1 N) : tok (m_fits N K m e p).2.1 N := tok_F (m_ft_F N K 60 1 _) (tok_le t)
theorem vok_fits {N : Nat → Nat} {K m e : Nat} {p : hI × hJ} (t : vok p.1 K) : vok (m_fits N K m e p).2.1 K := vok_F (m_ft_F N K 60 1 _) (vok_le t)
theorem tok_ebL {N : Nat → Nat} {K m : Nat} {q : Int32 × hI × hJ} (r : Nat) (t : tok q.2.1 N) : tok (m_ebL N K m r q).2.1 N := by
  induction r with
  | zero => exact t
  | succ r ih => exact tok_fits (p := (m_ebL N K m r q).2) ih
theorem vok_ebL {N : Nat → Nat} {K m : Nat} {q : Int32 × hI × hJ} (r : Nat) (t : vok q.2.1 K) : vok (m_ebL N K m r q).2.1 K := by
  induction r with
  | zero => exact t
  | succ r ih => exact vok_fits (p := (m_ebL N K m r q).2) ih
def m_eb0 (K : Nat) (I : hI) : hI := m_ebB K (m_ebA K I)
def m_eb (N : Nat → Nat) (K m : Nat) (p : hI × hJ) : Int32 × hI × hJ := m_ebL N K m 10 (Int32.ofNat 0, m_eb0 K p.1, p.2)
theorem l_evenC {k : Nat} {R : hR} {q : Option Value × am_H} {N : Nat → Nat} {K m : Nat} {q0 : Int32 × hI × hJ} (t : tok q0.2.1 N) (v : vok q0.2.1 K) (hk : 8 ≤ k) (Z : wz k 12 (some .int) am_c274 111 [.ref 110, .int (Int32.ofNat m), .int ((m_ebL N K m 10 q0).1), .int (Int32.ofNat 10)] [] ((m_ebL N K m 10 q0).2.1) ((m_ebL N K m 10 q0).2.2) R q) : ∀ (j r : Nat) , r + j = 10 → wz k 12 (some .int) am_c274 80 [.ref 110, .int (Int32.ofNat m), .int ((m_ebL N K m r q0).1), .int (Int32.ofNat r)] [] ((m_ebL N K m r q0).2.1) ((m_ebL N K m r q0).2.2) R q := by
  intro j
  induction j with
  | zero =>
    intro r e
    obtain rfl : 10 = r := by omega
    have t1 := tok_ebL (K := K) (m := m) 10 t
    have v1 := vok_ebL (N := N) (m := m) 10 v
    refine w_iload_n rfl rfl rfl ?_
    refine w_bipush (x := Int32.ofNat 10) rfl rfl (by decide) ?_
    refine w_ic_geN (t := 111) (f := 86) rfl rfl rfl (by omega) (by omega) (fun c83 => ?_) (fun c83 => absurd c83 (by omega))
    exact Z
  | succ j ih =>
    intro r e
    have t1 := tok_ebL (K := K) (m := m) r t
    have v1 := vok_ebL (N := N) (m := m) r v
    refine w_iload_n rfl rfl rfl ?_
    refine w_bipush (x := Int32.ofNat 10) rfl rfl (by decide) ?_
    refine w_ic_geN (t := 111) (f := 86) rfl rfl rfl (by omega) (by omega) (fun c83 => absurd c83 (by omega)) (fun c83 => ?_)
    refine w_iload_n rfl rfl rfl ?_
    refine w_aload_n rfl rfl rfl ?_
    refine w_iload_n rfl rfl rfl ?_
    refine w_iload_n rfl rfl rfl ?_
    refine w_cv (q := am_m273) (as := [_, _]) (rest := [_]) (st' := [_, _]) rfl rfl rfl rfl rfl rfl sp110 rfl rfl rfl rfl (c_fits t1 v1 hk) rfl rfl ?_
    refine w_if_eq (t := 102) (f := 96) rfl rfl rfl (fun c93 => ?_) (fun c93 => ?_)
    · refine w_iconst (x := Int32.ofNat 0) rfl rfl (by decide) ?_
      refine w_ior rfl rfl ?_
      refine w_istore_n (L' := [_, _, _, _]) rfl rfl rfl ?_
      refine w_iinc (L' := [_, _, _, _]) rfl rfl rfl (am_incN 1) rfl ?_
      refine w_goto (pc' := 80) rfl rfl ?_
      exact wz_L (ih (r + 1) (by omega)) (by rw [m_ebL_1]; first | rw [if_pos c93] | rw [if_neg c93])
    · refine w_iconst (x := Int32.ofNat 1) rfl rfl (by decide) ?_
      refine w_iload_n rfl rfl rfl ?_
      refine w_shlN rfl rfl (by omega) ?_
      refine w_goto (pc' := 103) rfl rfl ?_
      refine w_ior rfl rfl ?_
      refine w_istore_n (L' := [_, _, _, _]) rfl rfl rfl ?_
      refine w_iinc (L' := [_, _, _, _]) rfl rfl rfl (am_incN 1) rfl ?_
      refine w_goto (pc' := 80) rfl rfl ?_
      exact wz_L (ih (r + 1) (by omega)) (by rw [m_ebL_1]; first | rw [if_pos c93] | rw [if_neg c93])
theorem c_evenBits {k : Nat} {I : hI} {J : hJ} {R : hR} {N : Nat → Nat} {K m : Nat} (t : tok I N) (v : vok I K) (hk : 9 ≤ k) : ct k 274 [.ref 110, .int (Int32.ofNat m)] I J R (some (.int (m_eb N K m (I, J)).1)) (m_pt (m_eb N K m (I, J)).2.1) ((m_eb N K m (I, J)).2.2) R := by
  obtain ⟨k, rfl⟩ : ∃ k', k = k' + 1 := ⟨k - 1, by omega⟩
  have h24 := v.2.1
  refine ct_of (q := am_m274) (L := [_, _, _, _]) rfl rfl rfl rfl rfl rfl ?_
  refine w_iconst (x := Int32.ofNat 0) rfl rfl (by decide) ?_
  refine w_istore_n (L' := [_, _, _, _]) rfl rfl rfl ?_
  refine l_evenA v (by omega) ?_ K 0 (by omega)
  refine w_aload_n rfl rfl rfl ?_
  refine w_cv (q := am_m270) (as := []) (rest := []) (st' := [_]) rfl rfl rfl rfl rfl rfl sp110 rfl rfl rfl rfl (c_knownByN (vok_ebA v).1 (by omega)) rfl rfl ?_
  refine w_iconst (x := Int32.ofNat 1) rfl rfl (by decide) ?_
  refine w_isub rfl rfl ?_
  refine w_istore_n (L' := [_, _, _, _]) rfl rfl rfl ?_
  refine l_evenB K (m_ebA K I) (Nat.le_refl _) (vok_ebA v) ?_
  refine w_iconst (x := Int32.ofNat 0) rfl rfl (by decide) ?_
  refine w_istore_n (L' := [_, _, _, _]) rfl rfl rfl ?_
  refine w_iconst (x := Int32.ofNat 0) rfl rfl (by decide) ?_
  refine w_istore_n (L' := [_, _, _, _]) rfl rfl rfl ?_
  refine l_evenC (q0 := (Int32.ofNat 0, m_eb0 K I, J)) (tok_ebB K _ (tok_ebA t)) (vok_ebB K _ (vok_ebA v)) (by omega) ?_ 10 0 (by omega)
  refine w_aload_n rfl rfl rfl ?_
  refine w_cv (q := am_m212) (as := []) (rest := []) (st' := []) rfl rfl rfl rfl rfl rfl sp110 rfl rfl rfl rfl (c_plainTried (by omega)) rfl rfl ?_
  refine w_iload_n rfl rfl rfl ?_
  exact w_iret rfl rfl rfl rfl rfl
theorem c_evens {k : Nat} {I : hI} {J : hJ} {R : hR} {N : Nat → Nat} {K m : Nat} (t : tok I N) (v : vok I K) (hm : m < N 0) (hk : 10 ≤ k) : ct k 275 [.ref 110, .int (Int32.ofNat m)] I J R (some (.int (m_eb N K m (m_z I, J)).1)) (m_pt (m_eb N K m (m_z I, J)).2.1) ((m_eb N K m (m_z I, J)).2.2) R := by
  obtain ⟨k, rfl⟩ : ∃ k', k = k' + 1 := ⟨k - 1, by omega⟩
  have hn0 := t.1.1
  have h12 := t.2.1.1
  refine ct_of (q := am_m275) (L := [_, _]) rfl rfl rfl rfl rfl rfl ?_
  refine w_aload_n rfl rfl rfl ?_
  refine w_iconst (x := Int32.ofNat 0) rfl rfl (by decide) ?_
  refine w_pf rfl rfl rfl sp110 rfl rfl rfl ?_
  refine w_aload_n rfl rfl rfl ?_
  refine w_iload_n rfl rfl rfl ?_
  refine w_cv (q := am_m214) (as := [_]) (rest := []) (st' := [_]) rfl rfl rfl rfl rfl rfl sp110 rfl rfl rfl rfl (c_isMaker (by omega)) rfl rfl ?_
  refine w_if_eqB (t := 21) (f := 13) rfl rfl rfl (fun c10 => absurd c10 (isok hm (by omega) ((am_u_nk (by decide)).trans h12))) (fun c10 => ?_)
  refine w_aload_n rfl rfl rfl ?_
  refine w_iload_n rfl rfl rfl ?_
  refine w_cv (q := am_m274) (as := [_]) (rest := []) (st' := [_]) rfl rfl rfl rfl rfl rfl sp110 rfl rfl rfl rfl (c_evenBits (tok_z t) (vok_u (by omega) (by omega) v) (by omega)) rfl rfl ?_
  refine w_goto (pc' := 22) rfl rfl ?_
  exact w_iret rfl rfl rfl rfl rfl
theorem c_evens_no {k : Nat} {I : hI} {J : hJ} {R : hR} {x : Int32} (hx : ¬ (¬ x < 0 ∧ x < I 110 12)) (hk : 2 ≤ k) : ct k 275 [.ref 110, .int x] I J R (some (.int (Int32.ofInt (-1)))) (m_z I) J R := by
  obtain ⟨k, rfl⟩ : ∃ k', k = k' + 1 := ⟨k - 1, by omega⟩
  refine ct_of (q := am_m275) (L := [_, _]) rfl rfl rfl rfl rfl rfl ?_
  refine w_aload_n rfl rfl rfl ?_
  refine w_iconst (x := Int32.ofNat 0) rfl rfl (by decide) ?_
  refine w_pf rfl rfl rfl sp110 rfl rfl rfl ?_
  refine w_aload_n rfl rfl rfl ?_
  refine w_iload_n rfl rfl rfl ?_
  refine w_cv (q := am_m214) (as := [_]) (rest := []) (st' := [_]) rfl rfl rfl rfl rfl rfl sp110 rfl rfl rfl rfl (c_isMaker (by omega)) rfl rfl ?_
  refine w_if_eqB (t := 21) (f := 13) rfl rfl rfl (fun c10 => ?_) (fun c10 => absurd c10 hx)
  refine w_iconst (x := Int32.ofInt (-1)) rfl rfl (by decide) ?_
  exact w_iret rfl rfl rfl rfl rfl
