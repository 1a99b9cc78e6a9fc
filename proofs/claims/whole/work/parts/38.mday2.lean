/-! The reference's day as it goes, and what is counted. -/
theorem l_day1 {k : Nat} {R : hR} {q : Option Value × am_H} {b n : Nat} {N : Nat → Nat} {I0 : hI} {J0 : hJ} (hN : N 1 = n) (hb : b ≤ 1) (t : tok I0 N) (hs : sb I0) (hk : 6 ≤ k) (Z : wz k 12 none am_c231 51 [.ref 110, .int (Int32.ofNat b), .int (Int32.ofNat n), am_un] [] ((m_d1 b n n (I0, J0)).1) ((m_d1 b n n (I0, J0)).2) R q) : ∀ (j r : Nat) , r + j = n → wz k 12 none am_c231 2 [.ref 110, .int (Int32.ofNat b), .int (Int32.ofNat r), am_un] [] ((m_d1 b n r (I0, J0)).1) ((m_d1 b n r (I0, J0)).2) R q := by
  intro j
  induction j with
  | zero =>
    intro r e
    obtain rfl : n = r := by omega
    have t1 := tok_F (simF_d1 (b := b) (n := n) n (I0, J0)) t
    have s1 := sb_d1 (b := b) (n := n) n (I0, J0) hs
    have hn := t1.1.2.1
    have h13 := t1.2.1.2.1
    rw [hN] at hn h13
    refine w_iload_n rfl rfl rfl ?_
    refine w_aload_n rfl rfl rfl ?_
    refine w_gf (t := .int 0) (v := .int _) rfl rfl rfl sp110 rfl (congrArg Value.int h13) rfl ?_
    refine w_ic_geN (t := 51) (f := 10) rfl rfl rfl (by omega) (by omega) (fun c7 => ?_) (fun c7 => absurd c7 (by omega))
    exact Z
  | succ j ih =>
    intro r e
    have t1 := tok_F (simF_d1 (b := b) (n := n) r (I0, J0)) t
    have s1 := sb_d1 (b := b) (n := n) r (I0, J0) hs
    have hn := t1.1.2.1
    have h13 := t1.2.1.2.1
    rw [hN] at hn h13
    refine w_iload_n rfl rfl rfl ?_
    refine w_aload_n rfl rfl rfl ?_
    refine w_gf (t := .int 0) (v := .int _) rfl rfl rfl sp110 rfl (congrArg Value.int h13) rfl ?_
    refine w_ic_geN (t := 51) (f := 10) rfl rfl rfl (by omega) (by omega) (fun c7 => absurd c7 (by omega)) (fun c7 => ?_)
    refine w_aload_n rfl rfl rfl ?_
    refine w_gf (t := .ref (121)) (v := .ref (121)) rfl rfl rfl sp110 rfl rfl rfl ?_
    refine w_iload_n rfl rfl rfl ?_
    refine w_iaload rfl rfl sp121 rfl ⟨by omega, by omega⟩ rfl ?_
    refine w_aload_n rfl rfl rfl ?_
    refine w_gf (t := .ref (145)) (v := .ref (145)) rfl rfl rfl sp110 rfl rfl rfl ?_
    refine w_iload_n rfl rfl rfl ?_
    refine w_iaload rfl rfl sp145 rfl ⟨by omega, by omega⟩ rfl ?_
    refine w_ic_ne (t := 45) (f := 25) rfl rfl rfl (fun c22 => ?_) (fun c22 => ?_)
    · refine w_iinc (L' := [_, _, _, _]) rfl rfl rfl (am_incN 1) rfl ?_
      refine w_goto (pc' := 2) rfl rfl ?_
      exact wz_J (ih (r + 1) (by omega)) rfl (by show (m_d1S b n r (m_d1 b n r (I0, J0))).1 = _; unfold m_d1S; first | rw [if_pos c22, if_pos c36] | rw [if_pos c22, if_neg c36] | rw [if_neg c22]) (by show (m_d1S b n r (m_d1 b n r (I0, J0))).2 = _; unfold m_d1S; first | rw [if_pos c22, if_pos c36] | rw [if_pos c22, if_neg c36] | rw [if_neg c22])
    · refine w_aload_n rfl rfl rfl ?_
      refine w_gf (t := .ref (138)) (v := .ref (138)) rfl rfl rfl sp110 rfl rfl rfl ?_
      refine w_bipush (x := Int32.ofNat 8) rfl rfl (by decide) ?_
      refine w_iload_n rfl rfl rfl ?_
      refine w_imulN rfl rfl ?_
      refine w_iload_n rfl rfl rfl ?_
      refine w_iaddN rfl rfl ?_
      refine w_iaload rfl rfl sp138 rfl ⟨by omega, by omega⟩ rfl ?_
      refine w_if_ne (t := 45) (f := 39) rfl rfl rfl (fun c36 => ?_) (fun c36 => ?_)
      · refine w_iinc (L' := [_, _, _, _]) rfl rfl rfl (am_incN 1) rfl ?_
        refine w_goto (pc' := 2) rfl rfl ?_
        exact wz_J (ih (r + 1) (by omega)) rfl (by show (m_d1S b n r (m_d1 b n r (I0, J0))).1 = _; unfold m_d1S; first | rw [if_pos c22, if_pos c36] | rw [if_pos c22, if_neg c36] | rw [if_neg c22]) (by show (m_d1S b n r (m_d1 b n r (I0, J0))).2 = _; unfold m_d1S; first | rw [if_pos c22, if_pos c36] | rw [if_pos c22, if_neg c36] | rw [if_neg c22])
      · refine w_aload_n rfl rfl rfl ?_
        refine w_iload_n rfl rfl rfl ?_
        refine w_iload_n rfl rfl rfl ?_
        refine w_cv (q := am_m226) (as := [_, _]) (rest := []) (st' := []) rfl rfl rfl rfl rfl rfl sp110 rfl rfl rfl rfl (c_makes hb (by omega) hn h13 (t1.2.2.1 _ (by omega)) (t1.2.2.2.2 0 (by decide)) s1 (by omega)) rfl rfl ?_
        refine w_iinc (L' := [_, _, _, _]) rfl rfl rfl (am_incN 1) rfl ?_
        refine w_goto (pc' := 2) rfl rfl ?_
        exact wz_J (ih (r + 1) (by omega)) rfl (by show (m_d1S b n r (m_d1 b n r (I0, J0))).1 = _; unfold m_d1S; first | rw [if_pos c22, if_pos c36] | rw [if_pos c22, if_neg c36] | rw [if_neg c22]) (by show (m_d1S b n r (m_d1 b n r (I0, J0))).2 = _; unfold m_d1S; first | rw [if_pos c22, if_pos c36] | rw [if_pos c22, if_neg c36] | rw [if_neg c22])
theorem l_day2 {k : Nat} {R : hR} {q : Option Value × am_H} {b n : Nat} {N : Nat → Nat} {I0 : hI} {J0 : hJ} (hN : N 3 = n) (hb : b ≤ 1) (t : tok I0 N) (hk : 1 ≤ k) (Z : ∀ (u : Value), wz k 12 none am_c231 161 [.ref 110, .int (Int32.ofNat b), .int (Int32.ofNat n), u] [] (m_d2 b n I0) J0 R q) : ∀ (j r : Nat) (u : Value), r + j = n → wz k 12 none am_c231 53 [.ref 110, .int (Int32.ofNat b), .int (Int32.ofNat r), u] [] (m_d2 b r I0) J0 R q := by
  intro j
  induction j with
  | zero =>
    intro r u e
    obtain rfl : n = r := by omega
    have t1 := tok_F (simF_d2 (b := b) n I0) t
    have hn := t1.1.2.2.2
    have h15 := t1.2.1.2.2.2
    rw [hN] at hn h15
    refine w_iload_n rfl rfl rfl ?_
    refine w_aload_n rfl rfl rfl ?_
    refine w_gf (t := .int 0) (v := .int _) rfl rfl rfl sp110 rfl (congrArg Value.int h15) rfl ?_
    refine w_ic_geN (t := 161) (f := 61) rfl rfl rfl (by omega) (by omega) (fun c58 => ?_) (fun c58 => absurd c58 (by omega))
    exact Z _
  | succ j ih =>
    intro r u e
    have t1 := tok_F (simF_d2 (b := b) r I0) t
    have hn := t1.1.2.2.2
    have h15 := t1.2.1.2.2.2
    rw [hN] at hn h15
    refine w_iload_n rfl rfl rfl ?_
    refine w_aload_n rfl rfl rfl ?_
    refine w_gf (t := .int 0) (v := .int _) rfl rfl rfl sp110 rfl (congrArg Value.int h15) rfl ?_
    refine w_ic_geN (t := 161) (f := 61) rfl rfl rfl (by omega) (by omega) (fun c58 => absurd c58 (by omega)) (fun c58 => ?_)
    refine w_iconst (x := Int32.ofNat 5) rfl rfl (by decide) ?_
    refine w_iload_n rfl rfl rfl ?_
    refine w_imulN rfl rfl ?_
    refine w_aload_n rfl rfl rfl ?_
    refine w_gf (t := .ref (125)) (v := .ref (125)) rfl rfl rfl sp110 rfl rfl rfl ?_
    refine w_iload_n rfl rfl rfl ?_
    refine w_iaload rfl rfl sp125 rfl ⟨(by have := fun h => (t1.2.2.2.1 r h).2; have := this (by omega); omega), by omega⟩ (t1.2.2.2.1 _ (by omega)).1 ?_
    refine w_iaddN rfl rfl ?_
    refine w_istore_n (L' := [_, _, _, _]) rfl rfl rfl ?_
    refine w_aload_n rfl rfl rfl ?_
    refine w_gf (t := .ref (126)) (v := .ref (126)) rfl rfl rfl sp110 rfl rfl rfl ?_
    refine w_iload_n rfl rfl rfl ?_
    refine w_iaload rfl rfl sp126 rfl ⟨(by have := fun h => (t1.2.2.2.1 r h).2; have := this (by omega); omega), by omega⟩ rfl ?_
    refine w_aload_n rfl rfl rfl ?_
    refine w_gf (t := .ref (145)) (v := .ref (145)) rfl rfl rfl sp110 rfl rfl rfl ?_
    refine w_iload_n rfl rfl rfl ?_
    refine w_iaload rfl rfl sp145 rfl ⟨(by have := fun h => (t1.2.2.2.1 r h).2; have := this (by omega); omega), by omega⟩ rfl ?_
    refine w_ic_ne (t := 155) (f := 87) rfl rfl rfl (fun c84 => ?_) (fun c84 => ?_)
    · refine w_iinc (L' := [_, _, _, _]) rfl rfl rfl (am_incN 1) rfl ?_
      refine w_goto (pc' := 53) rfl rfl ?_
      exact wz_M (ih (r + 1) _ (by omega)) rfl (by show m_d2S b r (m_d2 b r I0) = _; unfold m_d2S; first | rw [if_pos c84, if_pos c97] | rw [if_pos c84, if_neg c97, if_pos c108] | rw [if_pos c84, if_neg c97, if_neg c108, if_pos c120] | rw [if_pos c84, if_neg c97, if_neg c108, if_neg c120] | rw [if_neg c84])
    · refine w_aload_n rfl rfl rfl ?_
      refine w_gf (t := .ref (125)) (v := .ref (125)) rfl rfl rfl sp110 rfl rfl rfl ?_
      refine w_iload_n rfl rfl rfl ?_
      refine w_iaload rfl rfl sp125 rfl ⟨(by have := fun h => (t1.2.2.2.1 r h).2; have := this (by omega); omega), by omega⟩ rfl ?_
      refine w_aload_n rfl rfl rfl ?_
      refine w_gf (t := .int 0) (v := .int _) rfl rfl rfl sp110 rfl (congrArg Value.int rfl) rfl ?_
      refine w_ic_eq (t := 155) (f := 100) rfl rfl rfl (fun c97 => ?_) (fun c97 => ?_)
      · refine w_iinc (L' := [_, _, _, _]) rfl rfl rfl (am_incN 1) rfl ?_
        refine w_goto (pc' := 53) rfl rfl ?_
        exact wz_M (ih (r + 1) _ (by omega)) rfl (by show m_d2S b r (m_d2 b r I0) = _; unfold m_d2S; first | rw [if_pos c84, if_pos c97] | rw [if_pos c84, if_neg c97, if_pos c108] | rw [if_pos c84, if_neg c97, if_neg c108, if_pos c120] | rw [if_pos c84, if_neg c97, if_neg c108, if_neg c120] | rw [if_neg c84])
      · refine w_aload_n rfl rfl rfl ?_
        refine w_gf (t := .int 0) (v := .int _) rfl rfl rfl sp110 rfl (congrArg Value.int rfl) rfl ?_
        refine w_iload_n rfl rfl rfl ?_
        refine w_cs (q := am_m169) (na := 2) (as := [_, _]) (st' := [_]) rfl rfl rfl rfl (by decide) rfl rfl (Nat.le_of_ble_eq_true rfl) rfl rfl rfl (c_isOf (by omega)) rfl rfl ?_
        refine w_if_eqB (t := 114) (f := 111) rfl rfl rfl (fun c108 => ?_) (fun c108 => ?_)
        · refine w_aload_n rfl rfl rfl ?_
          refine w_gf (t := .ref (141)) (v := .ref (141)) rfl rfl rfl sp110 rfl rfl rfl ?_
          refine w_iload_n rfl rfl rfl ?_
          refine w_iaload rfl rfl sp141 rfl ⟨(by have := fun h => (t1.2.2.2.1 r h).2; have := this (by omega); omega), by omega⟩ rfl ?_
          refine w_if_ne (t := 145) (f := 123) rfl rfl rfl (fun c120 => ?_) (fun c120 => ?_)
          · refine w_aload_n rfl rfl rfl ?_
            refine w_gf (t := .ref (144)) (v := .ref (144)) rfl rfl rfl sp110 rfl rfl rfl ?_
            refine w_iload_n rfl rfl rfl ?_
            refine w_dup2 rfl rfl rfl rfl ?_
            refine w_iaload rfl rfl sp144 rfl ⟨(by have := fun h => (t1.2.2.2.1 r h).2; have := this (by omega); omega), by omega⟩ rfl ?_
            refine w_iconst (x := Int32.ofNat 1) rfl rfl (by decide) ?_
            refine w_iadd rfl rfl ?_
            refine w_iastore rfl rfl sp144 rfl ⟨(by have := fun h => (t1.2.2.2.1 r h).2; have := this (by omega); omega), by omega⟩ ?_
            refine w_iinc (L' := [_, _, _, _]) rfl rfl rfl (am_incN 1) rfl ?_
            refine w_goto (pc' := 53) rfl rfl ?_
            exact wz_M (ih (r + 1) _ (by omega)) rfl (by show m_d2S b r (m_d2 b r I0) = _; unfold m_d2S; first | rw [if_pos c84, if_pos c97] | rw [if_pos c84, if_neg c97, if_pos c108] | rw [if_pos c84, if_neg c97, if_neg c108, if_pos c120] | rw [if_pos c84, if_neg c97, if_neg c108, if_neg c120] | rw [if_neg c84])
          · refine w_aload_n rfl rfl rfl ?_
            refine w_gf (t := .ref (141)) (v := .ref (141)) rfl rfl rfl sp110 rfl rfl rfl ?_
            refine w_iload_n rfl rfl rfl ?_
            refine w_iconst (x := Int32.ofNat 1) rfl rfl (by decide) ?_
            refine w_iastore rfl rfl sp141 rfl ⟨(by have := fun h => (t1.2.2.2.1 r h).2; have := this (by omega); omega), by omega⟩ ?_
            refine w_aload_n rfl rfl rfl ?_
            refine w_gf (t := .ref (142)) (v := .ref (142)) rfl rfl rfl sp110 rfl rfl rfl ?_
            refine w_iload_n rfl rfl rfl ?_
            refine w_aload_n rfl rfl rfl ?_
            refine w_gf (t := .ref (127)) (v := .ref (127)) rfl rfl rfl sp110 rfl rfl rfl ?_
            refine w_iload_n rfl rfl rfl ?_
            refine w_iaload rfl rfl sp127 rfl ⟨(by have := fun h => (t1.2.2.2.1 r h).2; have := this (by omega); omega), by omega⟩ (congrFun (am_u_ne (by decide)) _) ?_
            refine w_iastore rfl rfl sp142 rfl ⟨(by have := fun h => (t1.2.2.2.1 r h).2; have := this (by omega); omega), by omega⟩ ?_
            refine w_goto (pc' := 155) rfl rfl ?_
            refine w_iinc (L' := [_, _, _, _]) rfl rfl rfl (am_incN 1) rfl ?_
            refine w_goto (pc' := 53) rfl rfl ?_
            exact wz_M (ih (r + 1) _ (by omega)) rfl (by show m_d2S b r (m_d2 b r I0) = _; unfold m_d2S; first | rw [if_pos c84, if_pos c97] | rw [if_pos c84, if_neg c97, if_pos c108] | rw [if_pos c84, if_neg c97, if_neg c108, if_pos c120] | rw [if_pos c84, if_neg c97, if_neg c108, if_neg c120] | rw [if_neg c84])
        · refine w_goto (pc' := 155) rfl rfl ?_
          refine w_iinc (L' := [_, _, _, _]) rfl rfl rfl (am_incN 1) rfl ?_
          refine w_goto (pc' := 53) rfl rfl ?_
          exact wz_M (ih (r + 1) _ (by omega)) rfl (by show m_d2S b r (m_d2 b r I0) = _; unfold m_d2S; first | rw [if_pos c84, if_pos c97] | rw [if_pos c84, if_neg c97, if_pos c108] | rw [if_pos c84, if_neg c97, if_neg c108, if_pos c120] | rw [if_pos c84, if_neg c97, if_neg c108, if_neg c120] | rw [if_neg c84])
theorem l_day3 {k : Nat} {R : hR} {q : Option Value × am_H} {b n : Nat} {N : Nat → Nat} {u : Value} {I0 : hI} {J0 : hJ} (hN : N 2 = n) (hb : b ≤ 1) (t : tok I0 N) (hk : 6 ≤ k) (Z : wz k 12 none am_c231 205 [.ref 110, .int (Int32.ofNat b), .int (Int32.ofNat n), u] [] ((m_d3 b (N 1) n (I0, J0)).1) ((m_d3 b (N 1) n (I0, J0)).2) R q) : ∀ (j r : Nat) , r + j = n → wz k 12 none am_c231 171 [.ref 110, .int (Int32.ofNat b), .int (Int32.ofNat r), u] [] ((m_d3 b (N 1) r (I0, J0)).1) ((m_d3 b (N 1) r (I0, J0)).2) R q := by
  intro j
  induction j with
  | zero =>
    intro r e
    obtain rfl : n = r := by omega
    have t1 := tok_F (simF_d3 (b := b) (n := N 1) n (I0, J0)) t
    have hn := t1.1.2.2.1
    have h14 := t1.2.1.2.2.1
    rw [hN] at hn h14
    refine w_iload_n rfl rfl rfl ?_
    refine w_aload_n rfl rfl rfl ?_
    refine w_gf (t := .int 0) (v := .int _) rfl rfl rfl sp110 rfl (congrArg Value.int h14) rfl ?_
    refine w_ic_geN (t := 205) (f := 179) rfl rfl rfl (by omega) (by omega) (fun c176 => ?_) (fun c176 => absurd c176 (by omega))
    exact Z
  | succ j ih =>
    intro r e
    have t1 := tok_F (simF_d3 (b := b) (n := N 1) r (I0, J0)) t
    have hn := t1.1.2.2.1
    have h14 := t1.2.1.2.2.1
    rw [hN] at hn h14
    refine w_iload_n rfl rfl rfl ?_
    refine w_aload_n rfl rfl rfl ?_
    refine w_gf (t := .int 0) (v := .int _) rfl rfl rfl sp110 rfl (congrArg Value.int h14) rfl ?_
    refine w_ic_geN (t := 205) (f := 179) rfl rfl rfl (by omega) (by omega) (fun c176 => absurd c176 (by omega)) (fun c176 => ?_)
    refine w_aload_n rfl rfl rfl ?_
    refine w_gf (t := .ref (141)) (v := .ref (141)) rfl rfl rfl sp110 rfl rfl rfl ?_
    refine w_iconst (x := Int32.ofNat 5) rfl rfl (by decide) ?_
    refine w_iload_n rfl rfl rfl ?_
    refine w_imulN rfl rfl ?_
    refine w_iload_n rfl rfl rfl ?_
    refine w_iaddN rfl rfl ?_
    refine w_iaload rfl rfl sp141 rfl ⟨by omega, by omega⟩ rfl ?_
    refine w_iconst (x := Int32.ofNat 1) rfl rfl (by decide) ?_
    refine w_ic_ne (t := 199) (f := 193) rfl rfl rfl (fun c190 => ?_) (fun c190 => ?_)
    · refine w_iinc (L' := [_, _, _, _]) rfl rfl rfl (am_incN 1) rfl ?_
      refine w_goto (pc' := 171) rfl rfl ?_
      exact wz_J (ih (r + 1) (by omega)) rfl (by show (m_d3S b (N 1) r (m_d3 b (N 1) r (I0, J0))).1 = _; unfold m_d3S; first | rw [if_pos c190] | rw [if_neg c190]) (by show (m_d3S b (N 1) r (m_d3 b (N 1) r (I0, J0))).2 = _; unfold m_d3S; first | rw [if_pos c190] | rw [if_neg c190])
    · refine w_aload_n rfl rfl rfl ?_
      refine w_iload_n rfl rfl rfl ?_
      refine w_iload_n rfl rfl rfl ?_
      refine w_cv (q := am_m230) (as := [_, _]) (rest := []) (st' := []) rfl rfl rfl rfl rfl rfl sp110 rfl rfl rfl rfl (c_atSea hb (by omega) t1 (by omega)) rfl rfl ?_
      refine w_iinc (L' := [_, _, _, _]) rfl rfl rfl (am_incN 1) rfl ?_
      refine w_goto (pc' := 171) rfl rfl ?_
      exact wz_J (ih (r + 1) (by omega)) rfl (by show (m_d3S b (N 1) r (m_d3 b (N 1) r (I0, J0))).1 = _; unfold m_d3S; first | rw [if_pos c190] | rw [if_neg c190]) (by show (m_d3S b (N 1) r (m_d3 b (N 1) r (I0, J0))).2 = _; unfold m_d3S; first | rw [if_pos c190] | rw [if_neg c190])
theorem c_dayGoes {k : Nat} {I : hI} {J : hJ} {R : hR} {b : Nat} {N : Nat → Nat} (hb : b ≤ 1) (t : tok I N) (hs : sb I) (hk : 7 ≤ k) : ct k 231 [.ref 110, .int (Int32.ofNat b)] I J R none ((m_day N b (I, J)).1) ((m_day N b (I, J)).2) R := by
  obtain ⟨k, rfl⟩ : ∃ k', k = k' + 1 := ⟨k - 1, by omega⟩
  have t1 : tok (m_p1 I J b N).1 N := tok_F (simF_d1 (N 1) (I, J)) t
  have t2 : tok (m_p2 I J b N).1 N := tok_F (simF_d2 (N 3) _) t1
  have t3 : tok (m_p3 I J b N).1 N := tok_F (simF_p3 I J b N) t
  refine ct_of (q := am_m231) (L := [_, _, _, _]) rfl rfl rfl rfl rfl rfl ?_
  refine w_iconst (x := Int32.ofNat 0) rfl rfl (by decide) ?_
  refine w_istore_n (L' := [_, _, _, _]) rfl rfl rfl ?_
  refine l_day1 rfl hb t hs (by omega) ?_ (N 1) 0 (by omega)
  refine w_iconst (x := Int32.ofNat 0) rfl rfl (by decide) ?_
  refine w_istore_n (L' := [_, _, _, _]) rfl rfl rfl ?_
  refine l_day2 rfl hb t1 (by omega) (fun u => ?_) (N 3) 0 _ (by omega)
  refine w_aload_n rfl rfl rfl ?_
  refine w_aload_n rfl rfl rfl ?_
  refine w_cv (q := am_m228) (as := []) (rest := [_]) (st' := [_, _]) rfl rfl rfl rfl rfl rfl sp110 rfl rfl rfl rfl (c_isStormy (by omega)) rfl rfl ?_
  refine w_pf rfl rfl rfl sp110 rfl (am_fitb (m_st01 _ _)) rfl ?_
  refine w_iconst (x := Int32.ofNat 0) rfl rfl (by decide) ?_
  refine w_istore_n (L' := [_, _, _, _]) rfl rfl rfl ?_
  refine l_day3 (I0 := (m_p3 I J b N).1) (J0 := (m_p3 I J b N).2) rfl hb t3 (by omega) ?_ (N 2) 0 (by omega)
  refine w_aload_n rfl rfl rfl ?_
  refine w_gf (t := .ref (145)) (v := .ref (145)) rfl rfl rfl sp110 rfl rfl rfl ?_
  refine w_iload_n rfl rfl rfl ?_
  refine w_dup2 rfl rfl rfl rfl ?_
  refine w_iaload rfl rfl sp145 rfl ⟨by omega, by omega⟩ rfl ?_
  refine w_iconst (x := Int32.ofNat 1) rfl rfl (by decide) ?_
  refine w_iadd rfl rfl ?_
  refine w_iastore rfl rfl sp145 rfl ⟨by omega, by omega⟩ ?_
  exact w_ret rfl rfl rfl rfl
/-- days of a trial -/
def m_days (N : Nat → Nat) (b : Nat) (n : Nat) (p : hI × hJ) : hI × hJ := s_for (fun _ q => m_day N b q) n p
theorem simF_days (N : Nat → Nat) (b : Nat) (n : Nat) (p : hI × hJ) : simF p.1 (m_days N b n p).1 := by
  induction n with
  | zero => exact simF_rf _
  | succ n ih => exact simF_tr ih (simF_day N b _)
theorem sb_days (N : Nat → Nat) (b : Nat) (n : Nat) (p : hI × hJ) (h : sb p.1) : sb (m_days N b n p).1 := by
  cases n with
  | zero => exact h
  | succ n => exact sb_day N b _
theorem l_goMany {k : Nat} {R : hR} {q : Option Value × am_H} {n : Nat} {N : Nat → Nat} {I0 : hI} {J0 : hJ} (hn : n < 1000) (t : tok I0 N) (hs : sb I0) (hk : 7 ≤ k) (Z : wz k 12 none am_c232 18 [.ref 110, .int (Int32.ofNat n), .int (Int32.ofNat n)] [] ((m_days N 1 n (I0, J0)).1) ((m_days N 1 n (I0, J0)).2) R q) : ∀ (j r : Nat) , r + j = n → wz k 12 none am_c232 2 [.ref 110, .int (Int32.ofNat n), .int (Int32.ofNat r)] [] ((m_days N 1 r (I0, J0)).1) ((m_days N 1 r (I0, J0)).2) R q := by
  intro j
  induction j with
  | zero =>
    intro r e
    obtain rfl : n = r := by omega
    have t1 := tok_F (simF_days N 1 n (I0, J0)) t
    have s1 := sb_days N 1 n (I0, J0) hs
    refine w_iload_n rfl rfl rfl ?_
    refine w_iload_n rfl rfl rfl ?_
    refine w_ic_geN (t := 18) (f := 7) rfl rfl rfl (by omega) (by omega) (fun c4 => ?_) (fun c4 => absurd c4 (by omega))
    exact Z
  | succ j ih =>
    intro r e
    have t1 := tok_F (simF_days N 1 r (I0, J0)) t
    have s1 := sb_days N 1 r (I0, J0) hs
    refine w_iload_n rfl rfl rfl ?_
    refine w_iload_n rfl rfl rfl ?_
    refine w_ic_geN (t := 18) (f := 7) rfl rfl rfl (by omega) (by omega) (fun c4 => absurd c4 (by omega)) (fun c4 => ?_)
    refine w_aload_n rfl rfl rfl ?_
    refine w_iconst (x := Int32.ofNat 1) rfl rfl (by decide) ?_
    refine w_cv (q := am_m231) (as := [_]) (rest := []) (st' := []) rfl rfl rfl rfl rfl rfl sp110 rfl rfl rfl rfl (c_dayGoes (b := 1) (by decide) t1 s1 (by omega)) rfl rfl ?_
    refine w_iinc (L' := [_, _, _]) rfl rfl rfl (am_incN 1) rfl ?_
    refine w_goto (pc' := 2) rfl rfl ?_
    exact ih (r + 1) (by omega)
theorem c_goMany {k : Nat} {I : hI} {J : hJ} {R : hR} {n : Nat} {N : Nat → Nat} (hn : n < 1000) (t : tok I N) (hs : sb I) (hk : 8 ≤ k) : ct k 232 [.ref 110, .int (Int32.ofNat n)] I J R none ((m_days N 1 n (I, J)).1) ((m_days N 1 n (I, J)).2) R := by
  obtain ⟨k, rfl⟩ : ∃ k', k = k' + 1 := ⟨k - 1, by omega⟩
  refine ct_of (q := am_m232) (L := [_, _, _]) rfl rfl rfl rfl rfl rfl ?_
  refine w_iconst (x := Int32.ofNat 0) rfl rfl (by decide) ?_
  refine w_istore_n (L' := [_, _, _]) rfl rfl rfl ?_
  refine l_goMany hn t hs (by omega) ?_ n 0 (by omega)
  exact w_ret rfl rfl rfl rfl
