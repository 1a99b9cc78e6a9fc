/-! The class: a law's value. -/
theorem am_s24 {x : Int32} (h1 : ¬ x < Int32.ofNat 24) (h2 : x - Int32.ofNat 24 < Int32.ofNat 7) : okn (x - Int32.ofNat 24) 7 := by
  rw [Int32.lt_iff_toInt_lt, Int32.toInt_ofNat_of_lt (by decide)] at h1
  have hx := Int32.toInt_lt x
  have e : (x - Int32.ofNat 24).toInt = x.toInt - 24 := by
    rw [Int32.toInt_sub, Int32.toInt_ofNat_of_lt (by decide)]
    exact Int.bmod_eq_of_le (by omega) (by omega)
  rw [Int32.lt_iff_toInt_lt, Int32.toInt_ofNat_of_lt (by decide), e] at h2
  have e2 : ((nn (x - Int32.ofNat 24) : Nat) : Int) = x.toInt - 24 := by
    show (((x - Int32.ofNat 24).toInt.toNat : Nat) : Int) = _
    rw [e]; omega
  refine ⟨?_, by omega⟩
  rw [← Int32.toInt_inj, Int32.toInt_ofNat_of_lt (by omega), e2, e]
theorem k_tk_le (x : Int32) : k_tk x ≤ 2 := by
  unfold k_tk
  repeat' split
  all_goals omega
def k_v1 (I : hI) (A i h : Nat) (J : hJ) : Int64 :=
  if k_tk (I (A + 1) i) = 2 then k_jn (I (A + 1) i) (J 86 (h - k_tk (I (A + 1) i))) (J 86 (h - k_tk (I (A + 1) i) + 1))
  else if k_tk (I (A + 1) i) = 1 then (if J 86 (h - k_tk (I (A + 1) i)) = 0 then 1 else 0)
  else if I (A + 1) i = Int32.ofNat 2 then (I (A + 2) i).toInt64
  else if I (A + 1) i < Int32.ofNat 24 then k_er
  else if I (A + 1) i - Int32.ofNat 24 < Int32.ofNat 7 then J 85 (nn (I (A + 1) i - Int32.ofNat 24)) else k_er
def k_val (I : hI) (A : Nat) : Nat → Nat → Nat → hJ → Int64 × hJ
  | 0, _, h, J => (if h = 1 then J 86 0 else k_er, J)
  | j + 1, i, h, J => if h < k_tk (I (A + 1) i) then (k_er, J) else if h - k_tk (I (A + 1) i) < 64 then (if k_v1 I A i h J < -1000000000000 then (k_er, J) else if 1000000000000 < k_v1 I A i h J then (k_er, J) else k_val I A j (i + 1) (h - k_tk (I (A + 1) i) + 1) (am_u J 86 (h - k_tk (I (A + 1) i)) (k_v1 I A i h J))) else (k_er, J)
theorem k_val_s (I : hI) (A j i h : Nat) (J : hJ) : k_val I A (j + 1) i h J = if h < k_tk (I (A + 1) i) then (k_er, J) else if h - k_tk (I (A + 1) i) < 64 then (if k_v1 I A i h J < -1000000000000 then (k_er, J) else if 1000000000000 < k_v1 I A i h J then (k_er, J) else k_val I A j (i + 1) (h - k_tk (I (A + 1) i) + 1) (am_u J 86 (h - k_tk (I (A + 1) i)) (k_v1 I A i h J))) else (k_er, J) := rfl
theorem l_value {k : Nat} {I : hI} {R : hR} {A : Nat} (hA0 : am_shL[A]? = some (.inr (.inl (3, [.int 0, .ref (A + 1), .ref (A + 2)])))) (hA1 : am_shL[A + 1]? = some (.inl (.int, false, 64))) (hA2 : am_shL[A + 2]? = some (.inl (.int, false, 64))) {n : Nat} (hn : n ≤ 64) (h0 : I A 0 = Int32.ofNat n) (hk : 1 ≤ k) : ∀ (j i h : Nat) (J : hJ) (u v x y : Value), i + j = n → h ≤ 64 → wz k 3 (some .long) am_c34 5 [.ref A, .ref 85, .ref 86, .int (Int32.ofNat h), .int (Int32.ofNat i), u, v, x, y] [] I J R (some (.long (k_val I A j i h J).1), am_hp I (k_val I A j i h J).2 R) := by
  intro j
  induction j with
  | zero =>
    intro i h J u v x y e hh
    obtain rfl : n = i := by omega
    refine w_iload rfl rfl rfl ?_
    refine w_aload_n rfl rfl rfl ?_
    refine w_gf (t := .int 0) (v := .int _) rfl rfl rfl hA0 rfl (congrArg Value.int h0) rfl ?_
    refine w_ic_geN (t := 188) (f := 14) rfl rfl rfl (by omega) (by omega) (fun c11 => ?_) (fun c11 => absurd c11 (by omega))
    refine w_iload_n rfl rfl rfl ?_
    refine w_iconst (x := Int32.ofNat 1) rfl rfl (by decide) ?_
    refine w_ic_neN (t := 199) (f := 193) rfl rfl rfl (by omega) (by omega) (fun c190 => ?_) (fun c190 => ?_)
    · refine w_ldc2_w rfl rfl rfl ?_
      exact w_lret rfl (by first | exact (if_pos c190).symm | exact (if_neg c190).symm) rfl rfl rfl
    · refine w_aload_n rfl rfl rfl ?_
      refine w_iconst (x := Int32.ofNat 0) rfl rfl (by decide) ?_
      refine w_laload rfl rfl sp86 rfl ⟨by omega, by omega⟩ ?_
      refine w_goto (pc' := 202) rfl rfl ?_
      exact w_lret rfl (by first | exact (if_pos c190).symm | exact (if_neg c190).symm) rfl rfl rfl
  | succ j ih =>
    intro i h J u v x y e hh
    refine w_iload rfl rfl rfl ?_
    refine w_aload_n rfl rfl rfl ?_
    refine w_gf (t := .int 0) (v := .int _) rfl rfl rfl hA0 rfl (congrArg Value.int h0) rfl ?_
    refine w_ic_geN (t := 188) (f := 14) rfl rfl rfl (by omega) (by omega) (fun c11 => absurd c11 (by omega)) (fun c11 => ?_)
    refine w_aload_n rfl rfl rfl ?_
    refine w_gf (t := .ref (A + 1)) (v := .ref (A + 1)) rfl rfl rfl hA0 rfl rfl rfl ?_
    refine w_iload rfl rfl rfl ?_
    refine w_iaload rfl rfl hA1 rfl ⟨by omega, by omega⟩ rfl ?_
    refine w_istore (L' := [_, _, _, _, _, _, _, _, _]) rfl rfl rfl ?_
    refine w_iload rfl rfl rfl ?_
    refine w_cs (q := am_m35) (na := 1) (as := [_]) (st' := [_]) rfl rfl rfl rfl (by decide) rfl rfl (Nat.le_of_ble_eq_true rfl) rfl rfl rfl (d_taken hk) rfl rfl ?_
    refine w_istore (L' := [_, _, _, _, _, _, _, _, _]) rfl rfl rfl ?_
    have ht := k_tk_le (I (A + 1) i)
    refine w_iload_n rfl rfl rfl ?_
    refine w_iload rfl rfl rfl ?_
    refine w_ic_ltN (t := 45) (f := 36) rfl rfl rfl (by omega) (by omega) (fun c33 => ?_) (fun c33 => ?_)
    · refine w_ldc2_w rfl rfl rfl ?_
      exact w_lret rfl (by clear ih; rw [k_val_s]; first | (rw [if_pos c33] <;> rfl) | (rw [if_neg c33]; first | (rw [if_neg c42] <;> rfl) | (rw [if_pos c42]; unfold k_v1 k_er; (first | rw [if_pos c62] | (rw [if_neg c62]; first | (rw [if_pos c86]; first | rw [if_pos c94] | rw [if_neg c94]) | (rw [if_neg c86]; first | rw [if_pos c110] | (rw [if_neg c110]; first | rw [if_pos c130] | (rw [if_neg c130]; first | rw [if_pos c140] | rw [if_neg c140]))))); first | (rw [if_pos c158] <;> rfl) | (rw [if_neg c158]; first | (rw [if_pos c167] <;> rfl) | (rw [if_neg c167] <;> rfl))))) rfl (by clear ih; rw [k_val_s]; first | (rw [if_pos c33] <;> rfl) | (rw [if_neg c33]; first | (rw [if_neg c42] <;> rfl) | (rw [if_pos c42]; unfold k_v1 k_er; (first | rw [if_pos c62] | (rw [if_neg c62]; first | (rw [if_pos c86]; first | rw [if_pos c94] | rw [if_neg c94]) | (rw [if_neg c86]; first | rw [if_pos c110] | (rw [if_neg c110]; first | rw [if_pos c130] | (rw [if_neg c130]; first | rw [if_pos c140] | rw [if_neg c140]))))); first | (rw [if_pos c158] <;> rfl) | (rw [if_neg c158]; first | (rw [if_pos c167] <;> rfl) | (rw [if_neg c167] <;> rfl))))) rfl
    · refine w_iload_n rfl rfl rfl ?_
      refine w_iload rfl rfl rfl ?_
      refine w_isubN rfl rfl (by omega) ?_
      refine w_aload_n rfl rfl rfl ?_
      refine w_alenL rfl rfl sp86 (by decide) ?_
      refine w_ic_ltN (t := 49) (f := 45) rfl rfl rfl (by omega) (by omega) (fun c42 => ?_) (fun c42 => ?_)
      · refine w_iload_n rfl rfl rfl ?_
        refine w_iload rfl rfl rfl ?_
        refine w_isubN rfl rfl (by omega) ?_
        refine w_istore_n (L' := [_, _, _, _, _, _, _, _, _]) rfl rfl rfl ?_
        refine w_ldc2_w rfl rfl rfl ?_
        refine w_lstore (L' := [_, _, _, _, _, _, _, _, _]) rfl rfl rfl ?_
        refine w_iload rfl rfl rfl ?_
        refine w_iconst (x := Int32.ofNat 2) rfl rfl (by decide) ?_
        refine w_ic_neN (t := 83) (f := 65) rfl rfl rfl (by omega) (by omega) (fun c62 => ?_) (fun c62 => ?_)
        · refine w_iload rfl rfl rfl ?_
          refine w_iconst (x := Int32.ofNat 1) rfl rfl (by decide) ?_
          refine w_ic_neN (t := 107) (f := 89) rfl rfl rfl (by omega) (by omega) (fun c86 => ?_) (fun c86 => ?_)
          · refine w_iload rfl rfl rfl ?_
            refine w_iconst (x := Int32.ofNat 2) rfl rfl (by decide) ?_
            refine w_ic_ne (t := 126) (f := 113) rfl rfl rfl (fun c110 => ?_) (fun c110 => ?_)
            · refine w_iload rfl rfl rfl ?_
              refine w_bipush (x := Int32.ofNat 24) rfl rfl (by decide) ?_
              refine w_ic_lt (t := 152) (f := 133) rfl rfl rfl (fun c130 => ?_) (fun c130 => ?_)
              · refine w_lload rfl rfl rfl ?_
                refine w_ldc2_w rfl rfl rfl ?_
                refine w_lc_lt (t := 170) (f := 161) (p1 := 158) rfl rfl rfl rfl rfl (fun c158 => ?_) (fun c158 => ?_)
                · refine w_ldc2_w rfl rfl rfl ?_
                  exact w_lret rfl (by clear ih; rw [k_val_s]; first | (rw [if_pos c33] <;> rfl) | (rw [if_neg c33]; first | (rw [if_neg c42] <;> rfl) | (rw [if_pos c42]; unfold k_v1 k_er; (first | rw [if_pos c62] | (rw [if_neg c62]; first | (rw [if_pos c86]; first | rw [if_pos c94] | rw [if_neg c94]) | (rw [if_neg c86]; first | rw [if_pos c110] | (rw [if_neg c110]; first | rw [if_pos c130] | (rw [if_neg c130]; first | rw [if_pos c140] | rw [if_neg c140]))))); first | (rw [if_pos c158] <;> rfl) | (rw [if_neg c158]; first | (rw [if_pos c167] <;> rfl) | (rw [if_neg c167] <;> rfl))))) rfl (by clear ih; rw [k_val_s]; first | (rw [if_pos c33] <;> rfl) | (rw [if_neg c33]; first | (rw [if_neg c42] <;> rfl) | (rw [if_pos c42]; unfold k_v1 k_er; (first | rw [if_pos c62] | (rw [if_neg c62]; first | (rw [if_pos c86]; first | rw [if_pos c94] | rw [if_neg c94]) | (rw [if_neg c86]; first | rw [if_pos c110] | (rw [if_neg c110]; first | rw [if_pos c130] | (rw [if_neg c130]; first | rw [if_pos c140] | rw [if_neg c140]))))); first | (rw [if_pos c158] <;> rfl) | (rw [if_neg c158]; first | (rw [if_pos c167] <;> rfl) | (rw [if_neg c167] <;> rfl))))) rfl
                · refine w_lload rfl rfl rfl ?_
                  refine w_ldc2_w rfl rfl rfl ?_
                  refine w_lc_le (t := 174) (f := 170) (p1 := 167) rfl rfl rfl rfl rfl (fun c167 => ?_) (fun c167 => ?_)
                  · refine w_aload_n rfl rfl rfl ?_
                    refine w_iload_n rfl rfl rfl ?_
                    refine w_lload rfl rfl rfl ?_
                    refine w_lastore rfl rfl sp86 rfl ⟨by omega, by omega⟩ ?_
                    refine w_iinc (L' := [_, _, _, _, _, _, _, _, _]) rfl rfl rfl (am_incN 1) rfl ?_
                    refine w_iinc (L' := [_, _, _, _, _, _, _, _, _]) rfl rfl rfl (am_incN 1) rfl ?_
                    refine w_goto (pc' := 5) rfl rfl ?_
                    refine wz_r (ih (i + 1) _ _ _ _ _ _ (by omega) (by omega)) (by clear ih; rw [k_val_s]; first | (rw [if_pos c33] <;> rfl) | (rw [if_neg c33]; first | (rw [if_neg c42] <;> rfl) | (rw [if_pos c42]; unfold k_v1 k_er; (first | rw [if_pos c62] | (rw [if_neg c62]; first | (rw [if_pos c86]; first | rw [if_pos c94] | rw [if_neg c94]) | (rw [if_neg c86]; first | rw [if_pos c110] | (rw [if_neg c110]; first | rw [if_pos c130] | (rw [if_neg c130]; first | rw [if_pos c140] | rw [if_neg c140]))))); first | (rw [if_pos c158] <;> rfl) | (rw [if_neg c158]; first | (rw [if_pos c167] <;> rfl) | (rw [if_neg c167] <;> rfl)))))
                  · refine w_ldc2_w rfl rfl rfl ?_
                    exact w_lret rfl (by clear ih; rw [k_val_s]; first | (rw [if_pos c33] <;> rfl) | (rw [if_neg c33]; first | (rw [if_neg c42] <;> rfl) | (rw [if_pos c42]; unfold k_v1 k_er; (first | rw [if_pos c62] | (rw [if_neg c62]; first | (rw [if_pos c86]; first | rw [if_pos c94] | rw [if_neg c94]) | (rw [if_neg c86]; first | rw [if_pos c110] | (rw [if_neg c110]; first | rw [if_pos c130] | (rw [if_neg c130]; first | rw [if_pos c140] | rw [if_neg c140]))))); first | (rw [if_pos c158] <;> rfl) | (rw [if_neg c158]; first | (rw [if_pos c167] <;> rfl) | (rw [if_neg c167] <;> rfl))))) rfl (by clear ih; rw [k_val_s]; first | (rw [if_pos c33] <;> rfl) | (rw [if_neg c33]; first | (rw [if_neg c42] <;> rfl) | (rw [if_pos c42]; unfold k_v1 k_er; (first | rw [if_pos c62] | (rw [if_neg c62]; first | (rw [if_pos c86]; first | rw [if_pos c94] | rw [if_neg c94]) | (rw [if_neg c86]; first | rw [if_pos c110] | (rw [if_neg c110]; first | rw [if_pos c130] | (rw [if_neg c130]; first | rw [if_pos c140] | rw [if_neg c140]))))); first | (rw [if_pos c158] <;> rfl) | (rw [if_neg c158]; first | (rw [if_pos c167] <;> rfl) | (rw [if_neg c167] <;> rfl))))) rfl
              · refine w_iload rfl rfl rfl ?_
                refine w_bipush (x := Int32.ofNat 24) rfl rfl (by decide) ?_
                refine w_isub rfl rfl ?_
                refine w_aload_n rfl rfl rfl ?_
                refine w_alenL rfl rfl sp85 (by decide) ?_
                refine w_ic_ge (t := 152) (f := 143) rfl rfl rfl (fun c140 => ?_) (fun c140 => ?_)
                · refine w_lload rfl rfl rfl ?_
                  refine w_ldc2_w rfl rfl rfl ?_
                  refine w_lc_lt (t := 170) (f := 161) (p1 := 158) rfl rfl rfl rfl rfl (fun c158 => ?_) (fun c158 => ?_)
                  · refine w_ldc2_w rfl rfl rfl ?_
                    exact w_lret rfl (by clear ih; rw [k_val_s]; first | (rw [if_pos c33] <;> rfl) | (rw [if_neg c33]; first | (rw [if_neg c42] <;> rfl) | (rw [if_pos c42]; unfold k_v1 k_er; (first | rw [if_pos c62] | (rw [if_neg c62]; first | (rw [if_pos c86]; first | rw [if_pos c94] | rw [if_neg c94]) | (rw [if_neg c86]; first | rw [if_pos c110] | (rw [if_neg c110]; first | rw [if_pos c130] | (rw [if_neg c130]; first | rw [if_pos c140] | rw [if_neg c140]))))); first | (rw [if_pos c158] <;> rfl) | (rw [if_neg c158]; first | (rw [if_pos c167] <;> rfl) | (rw [if_neg c167] <;> rfl))))) rfl (by clear ih; rw [k_val_s]; first | (rw [if_pos c33] <;> rfl) | (rw [if_neg c33]; first | (rw [if_neg c42] <;> rfl) | (rw [if_pos c42]; unfold k_v1 k_er; (first | rw [if_pos c62] | (rw [if_neg c62]; first | (rw [if_pos c86]; first | rw [if_pos c94] | rw [if_neg c94]) | (rw [if_neg c86]; first | rw [if_pos c110] | (rw [if_neg c110]; first | rw [if_pos c130] | (rw [if_neg c130]; first | rw [if_pos c140] | rw [if_neg c140]))))); first | (rw [if_pos c158] <;> rfl) | (rw [if_neg c158]; first | (rw [if_pos c167] <;> rfl) | (rw [if_neg c167] <;> rfl))))) rfl
                  · refine w_lload rfl rfl rfl ?_
                    refine w_ldc2_w rfl rfl rfl ?_
                    refine w_lc_le (t := 174) (f := 170) (p1 := 167) rfl rfl rfl rfl rfl (fun c167 => ?_) (fun c167 => ?_)
                    · refine w_aload_n rfl rfl rfl ?_
                      refine w_iload_n rfl rfl rfl ?_
                      refine w_lload rfl rfl rfl ?_
                      refine w_lastore rfl rfl sp86 rfl ⟨by omega, by omega⟩ ?_
                      refine w_iinc (L' := [_, _, _, _, _, _, _, _, _]) rfl rfl rfl (am_incN 1) rfl ?_
                      refine w_iinc (L' := [_, _, _, _, _, _, _, _, _]) rfl rfl rfl (am_incN 1) rfl ?_
                      refine w_goto (pc' := 5) rfl rfl ?_
                      refine wz_r (ih (i + 1) _ _ _ _ _ _ (by omega) (by omega)) (by clear ih; rw [k_val_s]; first | (rw [if_pos c33] <;> rfl) | (rw [if_neg c33]; first | (rw [if_neg c42] <;> rfl) | (rw [if_pos c42]; unfold k_v1 k_er; (first | rw [if_pos c62] | (rw [if_neg c62]; first | (rw [if_pos c86]; first | rw [if_pos c94] | rw [if_neg c94]) | (rw [if_neg c86]; first | rw [if_pos c110] | (rw [if_neg c110]; first | rw [if_pos c130] | (rw [if_neg c130]; first | rw [if_pos c140] | rw [if_neg c140]))))); first | (rw [if_pos c158] <;> rfl) | (rw [if_neg c158]; first | (rw [if_pos c167] <;> rfl) | (rw [if_neg c167] <;> rfl)))))
                    · refine w_ldc2_w rfl rfl rfl ?_
                      exact w_lret rfl (by clear ih; rw [k_val_s]; first | (rw [if_pos c33] <;> rfl) | (rw [if_neg c33]; first | (rw [if_neg c42] <;> rfl) | (rw [if_pos c42]; unfold k_v1 k_er; (first | rw [if_pos c62] | (rw [if_neg c62]; first | (rw [if_pos c86]; first | rw [if_pos c94] | rw [if_neg c94]) | (rw [if_neg c86]; first | rw [if_pos c110] | (rw [if_neg c110]; first | rw [if_pos c130] | (rw [if_neg c130]; first | rw [if_pos c140] | rw [if_neg c140]))))); first | (rw [if_pos c158] <;> rfl) | (rw [if_neg c158]; first | (rw [if_pos c167] <;> rfl) | (rw [if_neg c167] <;> rfl))))) rfl (by clear ih; rw [k_val_s]; first | (rw [if_pos c33] <;> rfl) | (rw [if_neg c33]; first | (rw [if_neg c42] <;> rfl) | (rw [if_pos c42]; unfold k_v1 k_er; (first | rw [if_pos c62] | (rw [if_neg c62]; first | (rw [if_pos c86]; first | rw [if_pos c94] | rw [if_neg c94]) | (rw [if_neg c86]; first | rw [if_pos c110] | (rw [if_neg c110]; first | rw [if_pos c130] | (rw [if_neg c130]; first | rw [if_pos c140] | rw [if_neg c140]))))); first | (rw [if_pos c158] <;> rfl) | (rw [if_neg c158]; first | (rw [if_pos c167] <;> rfl) | (rw [if_neg c167] <;> rfl))))) rfl
                · refine w_aload_n rfl rfl rfl ?_
                  refine w_iload rfl rfl rfl ?_
                  refine w_bipush (x := Int32.ofNat 24) rfl rfl (by decide) ?_
                  refine w_isub rfl rfl ?_
                  refine w_laload rfl rfl sp85 (am_s24 c130 c140).1 ⟨(am_s24 c130 c140).2, by omega⟩ ?_
                  refine w_lstore (L' := [_, _, _, _, _, _, _, _, _]) rfl rfl rfl ?_
                  refine w_lload rfl rfl rfl ?_
                  refine w_ldc2_w rfl rfl rfl ?_
                  refine w_lc_lt (t := 170) (f := 161) (p1 := 158) rfl rfl rfl rfl rfl (fun c158 => ?_) (fun c158 => ?_)
                  · refine w_ldc2_w rfl rfl rfl ?_
                    exact w_lret rfl (by clear ih; rw [k_val_s]; first | (rw [if_pos c33] <;> rfl) | (rw [if_neg c33]; first | (rw [if_neg c42] <;> rfl) | (rw [if_pos c42]; unfold k_v1 k_er; (first | rw [if_pos c62] | (rw [if_neg c62]; first | (rw [if_pos c86]; first | rw [if_pos c94] | rw [if_neg c94]) | (rw [if_neg c86]; first | rw [if_pos c110] | (rw [if_neg c110]; first | rw [if_pos c130] | (rw [if_neg c130]; first | rw [if_pos c140] | rw [if_neg c140]))))); first | (rw [if_pos c158] <;> rfl) | (rw [if_neg c158]; first | (rw [if_pos c167] <;> rfl) | (rw [if_neg c167] <;> rfl))))) rfl (by clear ih; rw [k_val_s]; first | (rw [if_pos c33] <;> rfl) | (rw [if_neg c33]; first | (rw [if_neg c42] <;> rfl) | (rw [if_pos c42]; unfold k_v1 k_er; (first | rw [if_pos c62] | (rw [if_neg c62]; first | (rw [if_pos c86]; first | rw [if_pos c94] | rw [if_neg c94]) | (rw [if_neg c86]; first | rw [if_pos c110] | (rw [if_neg c110]; first | rw [if_pos c130] | (rw [if_neg c130]; first | rw [if_pos c140] | rw [if_neg c140]))))); first | (rw [if_pos c158] <;> rfl) | (rw [if_neg c158]; first | (rw [if_pos c167] <;> rfl) | (rw [if_neg c167] <;> rfl))))) rfl
                  · refine w_lload rfl rfl rfl ?_
                    refine w_ldc2_w rfl rfl rfl ?_
                    refine w_lc_le (t := 174) (f := 170) (p1 := 167) rfl rfl rfl rfl rfl (fun c167 => ?_) (fun c167 => ?_)
                    · refine w_aload_n rfl rfl rfl ?_
                      refine w_iload_n rfl rfl rfl ?_
                      refine w_lload rfl rfl rfl ?_
                      refine w_lastore rfl rfl sp86 rfl ⟨by omega, by omega⟩ ?_
                      refine w_iinc (L' := [_, _, _, _, _, _, _, _, _]) rfl rfl rfl (am_incN 1) rfl ?_
                      refine w_iinc (L' := [_, _, _, _, _, _, _, _, _]) rfl rfl rfl (am_incN 1) rfl ?_
                      refine w_goto (pc' := 5) rfl rfl ?_
                      refine wz_r (ih (i + 1) _ _ _ _ _ _ (by omega) (by omega)) (by clear ih; rw [k_val_s]; first | (rw [if_pos c33] <;> rfl) | (rw [if_neg c33]; first | (rw [if_neg c42] <;> rfl) | (rw [if_pos c42]; unfold k_v1 k_er; (first | rw [if_pos c62] | (rw [if_neg c62]; first | (rw [if_pos c86]; first | rw [if_pos c94] | rw [if_neg c94]) | (rw [if_neg c86]; first | rw [if_pos c110] | (rw [if_neg c110]; first | rw [if_pos c130] | (rw [if_neg c130]; first | rw [if_pos c140] | rw [if_neg c140]))))); first | (rw [if_pos c158] <;> rfl) | (rw [if_neg c158]; first | (rw [if_pos c167] <;> rfl) | (rw [if_neg c167] <;> rfl)))))
                    · refine w_ldc2_w rfl rfl rfl ?_
                      exact w_lret rfl (by clear ih; rw [k_val_s]; first | (rw [if_pos c33] <;> rfl) | (rw [if_neg c33]; first | (rw [if_neg c42] <;> rfl) | (rw [if_pos c42]; unfold k_v1 k_er; (first | rw [if_pos c62] | (rw [if_neg c62]; first | (rw [if_pos c86]; first | rw [if_pos c94] | rw [if_neg c94]) | (rw [if_neg c86]; first | rw [if_pos c110] | (rw [if_neg c110]; first | rw [if_pos c130] | (rw [if_neg c130]; first | rw [if_pos c140] | rw [if_neg c140]))))); first | (rw [if_pos c158] <;> rfl) | (rw [if_neg c158]; first | (rw [if_pos c167] <;> rfl) | (rw [if_neg c167] <;> rfl))))) rfl (by clear ih; rw [k_val_s]; first | (rw [if_pos c33] <;> rfl) | (rw [if_neg c33]; first | (rw [if_neg c42] <;> rfl) | (rw [if_pos c42]; unfold k_v1 k_er; (first | rw [if_pos c62] | (rw [if_neg c62]; first | (rw [if_pos c86]; first | rw [if_pos c94] | rw [if_neg c94]) | (rw [if_neg c86]; first | rw [if_pos c110] | (rw [if_neg c110]; first | rw [if_pos c130] | (rw [if_neg c130]; first | rw [if_pos c140] | rw [if_neg c140]))))); first | (rw [if_pos c158] <;> rfl) | (rw [if_neg c158]; first | (rw [if_pos c167] <;> rfl) | (rw [if_neg c167] <;> rfl))))) rfl
            · refine w_aload_n rfl rfl rfl ?_
              refine w_gf (t := .ref (A + 2)) (v := .ref (A + 2)) rfl rfl rfl hA0 rfl rfl rfl ?_
              refine w_iload rfl rfl rfl ?_
              refine w_iaload rfl rfl hA2 rfl ⟨by omega, by omega⟩ rfl ?_
              refine w_i2l rfl rfl ?_
              refine w_lstore (L' := [_, _, _, _, _, _, _, _, _]) rfl rfl rfl ?_
              refine w_goto (pc' := 152) rfl rfl ?_
              refine w_lload rfl rfl rfl ?_
              refine w_ldc2_w rfl rfl rfl ?_
              refine w_lc_lt (t := 170) (f := 161) (p1 := 158) rfl rfl rfl rfl rfl (fun c158 => ?_) (fun c158 => ?_)
              · refine w_ldc2_w rfl rfl rfl ?_
                exact w_lret rfl (by clear ih; rw [k_val_s]; first | (rw [if_pos c33] <;> rfl) | (rw [if_neg c33]; first | (rw [if_neg c42] <;> rfl) | (rw [if_pos c42]; unfold k_v1 k_er; (first | rw [if_pos c62] | (rw [if_neg c62]; first | (rw [if_pos c86]; first | rw [if_pos c94] | rw [if_neg c94]) | (rw [if_neg c86]; first | rw [if_pos c110] | (rw [if_neg c110]; first | rw [if_pos c130] | (rw [if_neg c130]; first | rw [if_pos c140] | rw [if_neg c140]))))); first | (rw [if_pos c158] <;> rfl) | (rw [if_neg c158]; first | (rw [if_pos c167] <;> rfl) | (rw [if_neg c167] <;> rfl))))) rfl (by clear ih; rw [k_val_s]; first | (rw [if_pos c33] <;> rfl) | (rw [if_neg c33]; first | (rw [if_neg c42] <;> rfl) | (rw [if_pos c42]; unfold k_v1 k_er; (first | rw [if_pos c62] | (rw [if_neg c62]; first | (rw [if_pos c86]; first | rw [if_pos c94] | rw [if_neg c94]) | (rw [if_neg c86]; first | rw [if_pos c110] | (rw [if_neg c110]; first | rw [if_pos c130] | (rw [if_neg c130]; first | rw [if_pos c140] | rw [if_neg c140]))))); first | (rw [if_pos c158] <;> rfl) | (rw [if_neg c158]; first | (rw [if_pos c167] <;> rfl) | (rw [if_neg c167] <;> rfl))))) rfl
              · refine w_lload rfl rfl rfl ?_
                refine w_ldc2_w rfl rfl rfl ?_
                refine w_lc_le (t := 174) (f := 170) (p1 := 167) rfl rfl rfl rfl rfl (fun c167 => ?_) (fun c167 => ?_)
                · refine w_aload_n rfl rfl rfl ?_
                  refine w_iload_n rfl rfl rfl ?_
                  refine w_lload rfl rfl rfl ?_
                  refine w_lastore rfl rfl sp86 rfl ⟨by omega, by omega⟩ ?_
                  refine w_iinc (L' := [_, _, _, _, _, _, _, _, _]) rfl rfl rfl (am_incN 1) rfl ?_
                  refine w_iinc (L' := [_, _, _, _, _, _, _, _, _]) rfl rfl rfl (am_incN 1) rfl ?_
                  refine w_goto (pc' := 5) rfl rfl ?_
                  refine wz_r (ih (i + 1) _ _ _ _ _ _ (by omega) (by omega)) (by clear ih; rw [k_val_s]; first | (rw [if_pos c33] <;> rfl) | (rw [if_neg c33]; first | (rw [if_neg c42] <;> rfl) | (rw [if_pos c42]; unfold k_v1 k_er; (first | rw [if_pos c62] | (rw [if_neg c62]; first | (rw [if_pos c86]; first | rw [if_pos c94] | rw [if_neg c94]) | (rw [if_neg c86]; first | rw [if_pos c110] | (rw [if_neg c110]; first | rw [if_pos c130] | (rw [if_neg c130]; first | rw [if_pos c140] | rw [if_neg c140]))))); first | (rw [if_pos c158] <;> rfl) | (rw [if_neg c158]; first | (rw [if_pos c167] <;> rfl) | (rw [if_neg c167] <;> rfl)))))
                · refine w_ldc2_w rfl rfl rfl ?_
                  exact w_lret rfl (by clear ih; rw [k_val_s]; first | (rw [if_pos c33] <;> rfl) | (rw [if_neg c33]; first | (rw [if_neg c42] <;> rfl) | (rw [if_pos c42]; unfold k_v1 k_er; (first | rw [if_pos c62] | (rw [if_neg c62]; first | (rw [if_pos c86]; first | rw [if_pos c94] | rw [if_neg c94]) | (rw [if_neg c86]; first | rw [if_pos c110] | (rw [if_neg c110]; first | rw [if_pos c130] | (rw [if_neg c130]; first | rw [if_pos c140] | rw [if_neg c140]))))); first | (rw [if_pos c158] <;> rfl) | (rw [if_neg c158]; first | (rw [if_pos c167] <;> rfl) | (rw [if_neg c167] <;> rfl))))) rfl (by clear ih; rw [k_val_s]; first | (rw [if_pos c33] <;> rfl) | (rw [if_neg c33]; first | (rw [if_neg c42] <;> rfl) | (rw [if_pos c42]; unfold k_v1 k_er; (first | rw [if_pos c62] | (rw [if_neg c62]; first | (rw [if_pos c86]; first | rw [if_pos c94] | rw [if_neg c94]) | (rw [if_neg c86]; first | rw [if_pos c110] | (rw [if_neg c110]; first | rw [if_pos c130] | (rw [if_neg c130]; first | rw [if_pos c140] | rw [if_neg c140]))))); first | (rw [if_pos c158] <;> rfl) | (rw [if_neg c158]; first | (rw [if_pos c167] <;> rfl) | (rw [if_neg c167] <;> rfl))))) rfl
          · refine w_aload_n rfl rfl rfl ?_
            refine w_iload_n rfl rfl rfl ?_
            refine w_laload rfl rfl sp86 rfl ⟨by omega, by omega⟩ ?_
            refine w_lconst (x := 0) rfl rfl (by decide) ?_
            refine w_lc_ne (t := 101) (f := 97) (p1 := 94) rfl rfl rfl rfl rfl (fun c94 => ?_) (fun c94 => ?_)
            · refine w_lconst (x := 0) rfl rfl (by decide) ?_
              refine w_lstore (L' := [_, _, _, _, _, _, _, _, _]) rfl rfl rfl ?_
              refine w_goto (pc' := 152) rfl rfl ?_
              refine w_lload rfl rfl rfl ?_
              refine w_ldc2_w rfl rfl rfl ?_
              refine w_lc_lt (t := 170) (f := 161) (p1 := 158) rfl rfl rfl rfl rfl (fun c158 => ?_) (fun c158 => ?_)
              · refine w_ldc2_w rfl rfl rfl ?_
                exact w_lret rfl (by clear ih; rw [k_val_s]; first | (rw [if_pos c33] <;> rfl) | (rw [if_neg c33]; first | (rw [if_neg c42] <;> rfl) | (rw [if_pos c42]; unfold k_v1 k_er; (first | rw [if_pos c62] | (rw [if_neg c62]; first | (rw [if_pos c86]; first | rw [if_pos c94] | rw [if_neg c94]) | (rw [if_neg c86]; first | rw [if_pos c110] | (rw [if_neg c110]; first | rw [if_pos c130] | (rw [if_neg c130]; first | rw [if_pos c140] | rw [if_neg c140]))))); first | (rw [if_pos c158] <;> rfl) | (rw [if_neg c158]; first | (rw [if_pos c167] <;> rfl) | (rw [if_neg c167] <;> rfl))))) rfl (by clear ih; rw [k_val_s]; first | (rw [if_pos c33] <;> rfl) | (rw [if_neg c33]; first | (rw [if_neg c42] <;> rfl) | (rw [if_pos c42]; unfold k_v1 k_er; (first | rw [if_pos c62] | (rw [if_neg c62]; first | (rw [if_pos c86]; first | rw [if_pos c94] | rw [if_neg c94]) | (rw [if_neg c86]; first | rw [if_pos c110] | (rw [if_neg c110]; first | rw [if_pos c130] | (rw [if_neg c130]; first | rw [if_pos c140] | rw [if_neg c140]))))); first | (rw [if_pos c158] <;> rfl) | (rw [if_neg c158]; first | (rw [if_pos c167] <;> rfl) | (rw [if_neg c167] <;> rfl))))) rfl
              · refine w_lload rfl rfl rfl ?_
                refine w_ldc2_w rfl rfl rfl ?_
                refine w_lc_le (t := 174) (f := 170) (p1 := 167) rfl rfl rfl rfl rfl (fun c167 => ?_) (fun c167 => ?_)
                · refine w_aload_n rfl rfl rfl ?_
                  refine w_iload_n rfl rfl rfl ?_
                  refine w_lload rfl rfl rfl ?_
                  refine w_lastore rfl rfl sp86 rfl ⟨by omega, by omega⟩ ?_
                  refine w_iinc (L' := [_, _, _, _, _, _, _, _, _]) rfl rfl rfl (am_incN 1) rfl ?_
                  refine w_iinc (L' := [_, _, _, _, _, _, _, _, _]) rfl rfl rfl (am_incN 1) rfl ?_
                  refine w_goto (pc' := 5) rfl rfl ?_
                  refine wz_r (ih (i + 1) _ _ _ _ _ _ (by omega) (by omega)) (by clear ih; rw [k_val_s]; first | (rw [if_pos c33] <;> rfl) | (rw [if_neg c33]; first | (rw [if_neg c42] <;> rfl) | (rw [if_pos c42]; unfold k_v1 k_er; (first | rw [if_pos c62] | (rw [if_neg c62]; first | (rw [if_pos c86]; first | rw [if_pos c94] | rw [if_neg c94]) | (rw [if_neg c86]; first | rw [if_pos c110] | (rw [if_neg c110]; first | rw [if_pos c130] | (rw [if_neg c130]; first | rw [if_pos c140] | rw [if_neg c140]))))); first | (rw [if_pos c158] <;> rfl) | (rw [if_neg c158]; first | (rw [if_pos c167] <;> rfl) | (rw [if_neg c167] <;> rfl)))))
                · refine w_ldc2_w rfl rfl rfl ?_
                  exact w_lret rfl (by clear ih; rw [k_val_s]; first | (rw [if_pos c33] <;> rfl) | (rw [if_neg c33]; first | (rw [if_neg c42] <;> rfl) | (rw [if_pos c42]; unfold k_v1 k_er; (first | rw [if_pos c62] | (rw [if_neg c62]; first | (rw [if_pos c86]; first | rw [if_pos c94] | rw [if_neg c94]) | (rw [if_neg c86]; first | rw [if_pos c110] | (rw [if_neg c110]; first | rw [if_pos c130] | (rw [if_neg c130]; first | rw [if_pos c140] | rw [if_neg c140]))))); first | (rw [if_pos c158] <;> rfl) | (rw [if_neg c158]; first | (rw [if_pos c167] <;> rfl) | (rw [if_neg c167] <;> rfl))))) rfl (by clear ih; rw [k_val_s]; first | (rw [if_pos c33] <;> rfl) | (rw [if_neg c33]; first | (rw [if_neg c42] <;> rfl) | (rw [if_pos c42]; unfold k_v1 k_er; (first | rw [if_pos c62] | (rw [if_neg c62]; first | (rw [if_pos c86]; first | rw [if_pos c94] | rw [if_neg c94]) | (rw [if_neg c86]; first | rw [if_pos c110] | (rw [if_neg c110]; first | rw [if_pos c130] | (rw [if_neg c130]; first | rw [if_pos c140] | rw [if_neg c140]))))); first | (rw [if_pos c158] <;> rfl) | (rw [if_neg c158]; first | (rw [if_pos c167] <;> rfl) | (rw [if_neg c167] <;> rfl))))) rfl
            · refine w_lconst (x := 1) rfl rfl (by decide) ?_
              refine w_goto (pc' := 102) rfl rfl ?_
              refine w_lstore (L' := [_, _, _, _, _, _, _, _, _]) rfl rfl rfl ?_
              refine w_goto (pc' := 152) rfl rfl ?_
              refine w_lload rfl rfl rfl ?_
              refine w_ldc2_w rfl rfl rfl ?_
              refine w_lc_lt (t := 170) (f := 161) (p1 := 158) rfl rfl rfl rfl rfl (fun c158 => ?_) (fun c158 => ?_)
              · refine w_ldc2_w rfl rfl rfl ?_
                exact w_lret rfl (by clear ih; rw [k_val_s]; first | (rw [if_pos c33] <;> rfl) | (rw [if_neg c33]; first | (rw [if_neg c42] <;> rfl) | (rw [if_pos c42]; unfold k_v1 k_er; (first | rw [if_pos c62] | (rw [if_neg c62]; first | (rw [if_pos c86]; first | rw [if_pos c94] | rw [if_neg c94]) | (rw [if_neg c86]; first | rw [if_pos c110] | (rw [if_neg c110]; first | rw [if_pos c130] | (rw [if_neg c130]; first | rw [if_pos c140] | rw [if_neg c140]))))); first | (rw [if_pos c158] <;> rfl) | (rw [if_neg c158]; first | (rw [if_pos c167] <;> rfl) | (rw [if_neg c167] <;> rfl))))) rfl (by clear ih; rw [k_val_s]; first | (rw [if_pos c33] <;> rfl) | (rw [if_neg c33]; first | (rw [if_neg c42] <;> rfl) | (rw [if_pos c42]; unfold k_v1 k_er; (first | rw [if_pos c62] | (rw [if_neg c62]; first | (rw [if_pos c86]; first | rw [if_pos c94] | rw [if_neg c94]) | (rw [if_neg c86]; first | rw [if_pos c110] | (rw [if_neg c110]; first | rw [if_pos c130] | (rw [if_neg c130]; first | rw [if_pos c140] | rw [if_neg c140]))))); first | (rw [if_pos c158] <;> rfl) | (rw [if_neg c158]; first | (rw [if_pos c167] <;> rfl) | (rw [if_neg c167] <;> rfl))))) rfl
              · refine w_lload rfl rfl rfl ?_
                refine w_ldc2_w rfl rfl rfl ?_
                refine w_lc_le (t := 174) (f := 170) (p1 := 167) rfl rfl rfl rfl rfl (fun c167 => ?_) (fun c167 => ?_)
                · refine w_aload_n rfl rfl rfl ?_
                  refine w_iload_n rfl rfl rfl ?_
                  refine w_lload rfl rfl rfl ?_
                  refine w_lastore rfl rfl sp86 rfl ⟨by omega, by omega⟩ ?_
                  refine w_iinc (L' := [_, _, _, _, _, _, _, _, _]) rfl rfl rfl (am_incN 1) rfl ?_
                  refine w_iinc (L' := [_, _, _, _, _, _, _, _, _]) rfl rfl rfl (am_incN 1) rfl ?_
                  refine w_goto (pc' := 5) rfl rfl ?_
                  refine wz_r (ih (i + 1) _ _ _ _ _ _ (by omega) (by omega)) (by clear ih; rw [k_val_s]; first | (rw [if_pos c33] <;> rfl) | (rw [if_neg c33]; first | (rw [if_neg c42] <;> rfl) | (rw [if_pos c42]; unfold k_v1 k_er; (first | rw [if_pos c62] | (rw [if_neg c62]; first | (rw [if_pos c86]; first | rw [if_pos c94] | rw [if_neg c94]) | (rw [if_neg c86]; first | rw [if_pos c110] | (rw [if_neg c110]; first | rw [if_pos c130] | (rw [if_neg c130]; first | rw [if_pos c140] | rw [if_neg c140]))))); first | (rw [if_pos c158] <;> rfl) | (rw [if_neg c158]; first | (rw [if_pos c167] <;> rfl) | (rw [if_neg c167] <;> rfl)))))
                · refine w_ldc2_w rfl rfl rfl ?_
                  exact w_lret rfl (by clear ih; rw [k_val_s]; first | (rw [if_pos c33] <;> rfl) | (rw [if_neg c33]; first | (rw [if_neg c42] <;> rfl) | (rw [if_pos c42]; unfold k_v1 k_er; (first | rw [if_pos c62] | (rw [if_neg c62]; first | (rw [if_pos c86]; first | rw [if_pos c94] | rw [if_neg c94]) | (rw [if_neg c86]; first | rw [if_pos c110] | (rw [if_neg c110]; first | rw [if_pos c130] | (rw [if_neg c130]; first | rw [if_pos c140] | rw [if_neg c140]))))); first | (rw [if_pos c158] <;> rfl) | (rw [if_neg c158]; first | (rw [if_pos c167] <;> rfl) | (rw [if_neg c167] <;> rfl))))) rfl (by clear ih; rw [k_val_s]; first | (rw [if_pos c33] <;> rfl) | (rw [if_neg c33]; first | (rw [if_neg c42] <;> rfl) | (rw [if_pos c42]; unfold k_v1 k_er; (first | rw [if_pos c62] | (rw [if_neg c62]; first | (rw [if_pos c86]; first | rw [if_pos c94] | rw [if_neg c94]) | (rw [if_neg c86]; first | rw [if_pos c110] | (rw [if_neg c110]; first | rw [if_pos c130] | (rw [if_neg c130]; first | rw [if_pos c140] | rw [if_neg c140]))))); first | (rw [if_pos c158] <;> rfl) | (rw [if_neg c158]; first | (rw [if_pos c167] <;> rfl) | (rw [if_neg c167] <;> rfl))))) rfl
        · refine w_iload rfl rfl rfl ?_
          refine w_aload_n rfl rfl rfl ?_
          refine w_iload_n rfl rfl rfl ?_
          refine w_laload rfl rfl sp86 rfl ⟨by omega, by omega⟩ ?_
          refine w_aload_n rfl rfl rfl ?_
          refine w_iload_n rfl rfl rfl ?_
          refine w_iconst (x := Int32.ofNat 1) rfl rfl (by decide) ?_
          refine w_iaddN rfl rfl ?_
          refine w_laload rfl rfl sp86 rfl ⟨by omega, by omega⟩ ?_
          refine w_cs (q := am_m36) (na := 3) (as := [_, _, _]) (st' := [_]) rfl rfl rfl rfl (by decide) rfl rfl (Nat.le_of_ble_eq_true rfl) rfl rfl rfl (d_joined hk) rfl rfl ?_
          refine w_lstore (L' := [_, _, _, _, _, _, _, _, _]) rfl rfl rfl ?_
          refine w_goto (pc' := 152) rfl rfl ?_
          refine w_lload rfl rfl rfl ?_
          refine w_ldc2_w rfl rfl rfl ?_
          refine w_lc_lt (t := 170) (f := 161) (p1 := 158) rfl rfl rfl rfl rfl (fun c158 => ?_) (fun c158 => ?_)
          · refine w_ldc2_w rfl rfl rfl ?_
            exact w_lret rfl (by clear ih; rw [k_val_s]; first | (rw [if_pos c33] <;> rfl) | (rw [if_neg c33]; first | (rw [if_neg c42] <;> rfl) | (rw [if_pos c42]; unfold k_v1 k_er; (first | rw [if_pos c62] | (rw [if_neg c62]; first | (rw [if_pos c86]; first | rw [if_pos c94] | rw [if_neg c94]) | (rw [if_neg c86]; first | rw [if_pos c110] | (rw [if_neg c110]; first | rw [if_pos c130] | (rw [if_neg c130]; first | rw [if_pos c140] | rw [if_neg c140]))))); first | (rw [if_pos c158] <;> rfl) | (rw [if_neg c158]; first | (rw [if_pos c167] <;> rfl) | (rw [if_neg c167] <;> rfl))))) rfl (by clear ih; rw [k_val_s]; first | (rw [if_pos c33] <;> rfl) | (rw [if_neg c33]; first | (rw [if_neg c42] <;> rfl) | (rw [if_pos c42]; unfold k_v1 k_er; (first | rw [if_pos c62] | (rw [if_neg c62]; first | (rw [if_pos c86]; first | rw [if_pos c94] | rw [if_neg c94]) | (rw [if_neg c86]; first | rw [if_pos c110] | (rw [if_neg c110]; first | rw [if_pos c130] | (rw [if_neg c130]; first | rw [if_pos c140] | rw [if_neg c140]))))); first | (rw [if_pos c158] <;> rfl) | (rw [if_neg c158]; first | (rw [if_pos c167] <;> rfl) | (rw [if_neg c167] <;> rfl))))) rfl
          · refine w_lload rfl rfl rfl ?_
            refine w_ldc2_w rfl rfl rfl ?_
            refine w_lc_le (t := 174) (f := 170) (p1 := 167) rfl rfl rfl rfl rfl (fun c167 => ?_) (fun c167 => ?_)
            · refine w_aload_n rfl rfl rfl ?_
              refine w_iload_n rfl rfl rfl ?_
              refine w_lload rfl rfl rfl ?_
              refine w_lastore rfl rfl sp86 rfl ⟨by omega, by omega⟩ ?_
              refine w_iinc (L' := [_, _, _, _, _, _, _, _, _]) rfl rfl rfl (am_incN 1) rfl ?_
              refine w_iinc (L' := [_, _, _, _, _, _, _, _, _]) rfl rfl rfl (am_incN 1) rfl ?_
              refine w_goto (pc' := 5) rfl rfl ?_
              refine wz_r (ih (i + 1) _ _ _ _ _ _ (by omega) (by omega)) (by clear ih; rw [k_val_s]; first | (rw [if_pos c33] <;> rfl) | (rw [if_neg c33]; first | (rw [if_neg c42] <;> rfl) | (rw [if_pos c42]; unfold k_v1 k_er; (first | rw [if_pos c62] | (rw [if_neg c62]; first | (rw [if_pos c86]; first | rw [if_pos c94] | rw [if_neg c94]) | (rw [if_neg c86]; first | rw [if_pos c110] | (rw [if_neg c110]; first | rw [if_pos c130] | (rw [if_neg c130]; first | rw [if_pos c140] | rw [if_neg c140]))))); first | (rw [if_pos c158] <;> rfl) | (rw [if_neg c158]; first | (rw [if_pos c167] <;> rfl) | (rw [if_neg c167] <;> rfl)))))
            · refine w_ldc2_w rfl rfl rfl ?_
              exact w_lret rfl (by clear ih; rw [k_val_s]; first | (rw [if_pos c33] <;> rfl) | (rw [if_neg c33]; first | (rw [if_neg c42] <;> rfl) | (rw [if_pos c42]; unfold k_v1 k_er; (first | rw [if_pos c62] | (rw [if_neg c62]; first | (rw [if_pos c86]; first | rw [if_pos c94] | rw [if_neg c94]) | (rw [if_neg c86]; first | rw [if_pos c110] | (rw [if_neg c110]; first | rw [if_pos c130] | (rw [if_neg c130]; first | rw [if_pos c140] | rw [if_neg c140]))))); first | (rw [if_pos c158] <;> rfl) | (rw [if_neg c158]; first | (rw [if_pos c167] <;> rfl) | (rw [if_neg c167] <;> rfl))))) rfl (by clear ih; rw [k_val_s]; first | (rw [if_pos c33] <;> rfl) | (rw [if_neg c33]; first | (rw [if_neg c42] <;> rfl) | (rw [if_pos c42]; unfold k_v1 k_er; (first | rw [if_pos c62] | (rw [if_neg c62]; first | (rw [if_pos c86]; first | rw [if_pos c94] | rw [if_neg c94]) | (rw [if_neg c86]; first | rw [if_pos c110] | (rw [if_neg c110]; first | rw [if_pos c130] | (rw [if_neg c130]; first | rw [if_pos c140] | rw [if_neg c140]))))); first | (rw [if_pos c158] <;> rfl) | (rw [if_neg c158]; first | (rw [if_pos c167] <;> rfl) | (rw [if_neg c167] <;> rfl))))) rfl
      · refine w_ldc2_w rfl rfl rfl ?_
        exact w_lret rfl (by clear ih; rw [k_val_s]; first | (rw [if_pos c33] <;> rfl) | (rw [if_neg c33]; first | (rw [if_neg c42] <;> rfl) | (rw [if_pos c42]; unfold k_v1 k_er; (first | rw [if_pos c62] | (rw [if_neg c62]; first | (rw [if_pos c86]; first | rw [if_pos c94] | rw [if_neg c94]) | (rw [if_neg c86]; first | rw [if_pos c110] | (rw [if_neg c110]; first | rw [if_pos c130] | (rw [if_neg c130]; first | rw [if_pos c140] | rw [if_neg c140]))))); first | (rw [if_pos c158] <;> rfl) | (rw [if_neg c158]; first | (rw [if_pos c167] <;> rfl) | (rw [if_neg c167] <;> rfl))))) rfl (by clear ih; rw [k_val_s]; first | (rw [if_pos c33] <;> rfl) | (rw [if_neg c33]; first | (rw [if_neg c42] <;> rfl) | (rw [if_pos c42]; unfold k_v1 k_er; (first | rw [if_pos c62] | (rw [if_neg c62]; first | (rw [if_pos c86]; first | rw [if_pos c94] | rw [if_neg c94]) | (rw [if_neg c86]; first | rw [if_pos c110] | (rw [if_neg c110]; first | rw [if_pos c130] | (rw [if_neg c130]; first | rw [if_pos c140] | rw [if_neg c140]))))); first | (rw [if_pos c158] <;> rfl) | (rw [if_neg c158]; first | (rw [if_pos c167] <;> rfl) | (rw [if_neg c167] <;> rfl))))) rfl
theorem d_value {k : Nat} {I : hI} {J : hJ} {R : hR} {A : Nat} (hA0 : am_shL[A]? = some (.inr (.inl (3, [.int 0, .ref (A + 1), .ref (A + 2)])))) (hA1 : am_shL[A + 1]? = some (.inl (.int, false, 64))) (hA2 : am_shL[A + 2]? = some (.inl (.int, false, 64))) {n : Nat} (hn : n ≤ 64) (h0 : I A 0 = Int32.ofNat n) (hk : 2 ≤ k) : ct k 34 [.ref A, .ref 85, .ref 86] I J R (some (.long (k_val I A n 0 0 J).1)) I ((k_val I A n 0 0 J).2) R := by
  obtain ⟨k, rfl⟩ : ∃ k', k = k' + 1 := ⟨k - 1, by omega⟩
  refine ct_of (q := am_m34) (o := 3) (rt := (some .long)) (co := am_c34) (L := [_, _, _, _, _, _, _, _, _]) rfl rfl rfl rfl rfl rfl ?_
  refine w_iconst (x := Int32.ofNat 0) rfl rfl (by decide) ?_
  refine w_istore_n (L' := [_, _, _, _, _, _, _, _, _]) rfl rfl rfl ?_
  refine w_iconst (x := Int32.ofNat 0) rfl rfl (by decide) ?_
  refine w_istore (L' := [_, _, _, _, _, _, _, _, _]) rfl rfl rfl ?_
  exact l_value hA0 hA1 hA2 hn h0 (by omega) n 0 0 J _ _ _ _ (by omega) (by omega)
