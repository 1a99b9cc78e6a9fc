/-! The class: which EVENS fit what was seen. -/
/-- what was seen can be gone by -/
def svk (I : hI) (K : Nat) : Prop := K ≤ 24 ∧ (∀ i, i < K → (I 92 i = Int32.ofInt (-1) ∧ okn (I 90 i) 5) ∨ okn (I 92 i) 24)
def k_ssA (n : Nat) (I : hI) : hI := s_for (fun r I => am_u I 93 r (Int32.ofNat 0)) n I
def k_ssB : Nat → hI → hI
  | 0, I => I
  | j + 1, I => if I 93 j = 0 then (if I 92 j = Int32.ofInt (-1) then k_ssB j I else k_ssB j (am_u I 93 (nn (I 92 j)) (Int32.ofNat 1))) else k_ssB j I
theorem k_ssB_s (j : Nat) (I : hI) : k_ssB (j + 1) I = if I 93 j = 0 then (if I 92 j = Int32.ofInt (-1) then k_ssB j I else k_ssB j (am_u I 93 (nn (I 92 j)) (Int32.ofNat 1))) else k_ssB j I := rfl
def k_ss (K : Nat) (I : hI) : hI := k_ssB K (k_ssA K I)
theorem k_ssA_ne {n a : Nat} {I : hI} (h : a ≠ 93) : k_ssA n I a = I a := by
  induction n with
  | zero => rfl
  | succ n ih => exact (am_u_ne h).trans ih
theorem k_ssB_ne {a : Nat} (h : a ≠ 93) : ∀ (n : Nat) (I : hI), k_ssB n I a = I a := by
  intro n
  induction n with
  | zero => intro I; rfl
  | succ n ih =>
    intro I
    rw [k_ssB_s]
    repeat' split
    · exact ih _
    · exact (ih _).trans (am_u_ne h)
    · exact ih _
theorem k_ss_ne {n a : Nat} {I : hI} (h : a ≠ 93) : k_ss n I a = I a := (k_ssB_ne h _ _).trans (k_ssA_ne h)
theorem svk_F {I I' : hI} {K : Nat} (h : I' 92 = I 92) (g : I' 90 = I 90) (v : svk I K) : svk I' K := by
  unfold svk; rw [h, g]; exact v
theorem l_ssA {k : Nat} {R : hR} {q : Option Value × am_H} {I0 : hI} {J0 : hJ} {K : Nat} (hK : K ≤ 24) (Z : wz k 6 none am_c59 20 [.ref 88, .int (Int32.ofNat K), .int (Int32.ofNat K)] [] (k_ssA K I0) J0 R q) : ∀ (j r : Nat) , r + j = K → wz k 6 none am_c59 2 [.ref 88, .int (Int32.ofNat K), .int (Int32.ofNat r)] [] (k_ssA r I0) J0 R q := by
  intro j
  induction j with
  | zero =>
    intro r e
    obtain rfl : K = r := by omega
    refine w_iload_n rfl rfl rfl ?_
    refine w_iload_n rfl rfl rfl ?_
    refine w_ic_geN (t := 20) (f := 7) rfl rfl rfl (by omega) (by omega) (fun c4 => ?_) (fun c4 => absurd c4 (by omega))
    exact Z
  | succ j ih =>
    intro r e
    refine w_iload_n rfl rfl rfl ?_
    refine w_iload_n rfl rfl rfl ?_
    refine w_ic_geN (t := 20) (f := 7) rfl rfl rfl (by omega) (by omega) (fun c4 => absurd c4 (by omega)) (fun c4 => ?_)
    refine w_aload_n rfl rfl rfl ?_
    refine w_gf (t := .ref (93)) (v := .ref (93)) rfl rfl rfl sp88 rfl rfl rfl ?_
    refine w_iload_n rfl rfl rfl ?_
    refine w_iconst (x := Int32.ofNat 0) rfl rfl (by decide) ?_
    refine w_bastore rfl rfl sp93 rfl ⟨by omega, by omega⟩ (by decide) ?_
    refine w_iinc (L' := [_, _, _]) rfl rfl rfl (am_incN 1) rfl ?_
    refine w_goto (pc' := 2) rfl rfl ?_
    exact ih (r + 1) (by omega)
theorem l_ssB {k : Nat} {R : hR} {J0 : hJ} {K : Nat} {q : Option Value × am_H} : ∀ (j : Nat) (I0 : hI), j ≤ K → svk I0 K → (wz k 6 none am_c59 65 [.ref 88, .int (Int32.ofNat K), .int (Int32.ofNat 0 - Int32.ofNat 1)] [] (k_ssB j I0) J0 R q) → wz k 6 none am_c59 24 [.ref 88, .int (Int32.ofNat K), .int (Int32.ofNat j - Int32.ofNat 1)] [] I0 J0 R q := by
  intro j
  induction j with
  | zero =>
    intro I0 hj v Z
    refine w_iload_n rfl rfl rfl ?_
    refine w_if_lt (t := 65) (f := 28) rfl rfl rfl (fun c25 => ?_) (fun c25 => absurd c25 (by decide))
    exact Z
  | succ j ih =>
    intro I0 hj v Z
    have h24 := v.1
    rw [dn_s]
    rw [k_ssB_s] at Z
    refine w_iload_n rfl rfl rfl ?_
    refine w_if_lt (t := 65) (f := 28) rfl rfl rfl (fun c25 => absurd c25 (am_oN0 (by omega))) (fun c25 => ?_)
    refine w_aload_n rfl rfl rfl ?_
    refine w_gf (t := .ref (93)) (v := .ref (93)) rfl rfl rfl sp88 rfl rfl rfl ?_
    refine w_iload_n rfl rfl rfl ?_
    refine w_baload rfl rfl sp93 rfl ⟨by omega, by omega⟩ rfl ?_
    refine w_if_ne (t := 59) (f := 37) rfl rfl rfl (fun c34 => ?_) (fun c34 => ?_)
    · first | rw [if_neg c34] at Z | (rw [if_pos c34] at Z; first | rw [if_pos c44] at Z | rw [if_neg c44] at Z)
      refine w_iinc (L' := [_, _, _]) rfl rfl rfl (am_dec _) rfl ?_
      refine w_goto (pc' := 24) rfl rfl ?_
      first | exact ih _ (by omega) v Z | exact ih _ (by omega) (svk_F (am_u_ne (by decide)) (am_u_ne (by decide)) v) Z
    · refine w_aload_n rfl rfl rfl ?_
      refine w_gf (t := .ref (92)) (v := .ref (92)) rfl rfl rfl sp88 rfl rfl rfl ?_
      refine w_iload_n rfl rfl rfl ?_
      refine w_iaload rfl rfl sp92 rfl ⟨by omega, by omega⟩ rfl ?_
      refine w_iconst (x := Int32.ofInt (-1)) rfl rfl (by decide) ?_
      refine w_ic_eq (t := 59) (f := 47) rfl rfl rfl (fun c44 => ?_) (fun c44 => ?_)
      · first | rw [if_neg c34] at Z | (rw [if_pos c34] at Z; first | rw [if_pos c44] at Z | rw [if_neg c44] at Z)
        refine w_iinc (L' := [_, _, _]) rfl rfl rfl (am_dec _) rfl ?_
        refine w_goto (pc' := 24) rfl rfl ?_
        first | exact ih _ (by omega) v Z | exact ih _ (by omega) (svk_F (am_u_ne (by decide)) (am_u_ne (by decide)) v) Z
      · have o := (v.2 j (by omega)).resolve_left (fun z => c44 z.1)
        refine w_aload_n rfl rfl rfl ?_
        refine w_gf (t := .ref (93)) (v := .ref (93)) rfl rfl rfl sp88 rfl rfl rfl ?_
        refine w_aload_n rfl rfl rfl ?_
        refine w_gf (t := .ref (92)) (v := .ref (92)) rfl rfl rfl sp88 rfl rfl rfl ?_
        refine w_iload_n rfl rfl rfl ?_
        refine w_iaload rfl rfl sp92 rfl ⟨by omega, by omega⟩ o.1 ?_
        refine w_iconst (x := Int32.ofNat 1) rfl rfl (by decide) ?_
        refine w_bastore rfl rfl sp93 rfl ⟨(by have := o.2; omega), by omega⟩ (by decide) ?_
        first | rw [if_neg c34] at Z | (rw [if_pos c34] at Z; first | rw [if_pos c44] at Z | rw [if_neg c44] at Z)
        refine w_iinc (L' := [_, _, _]) rfl rfl rfl (am_dec _) rfl ?_
        refine w_goto (pc' := 24) rfl rfl ?_
        first | exact ih _ (by omega) v Z | exact ih _ (by omega) (svk_F (am_u_ne (by decide)) (am_u_ne (by decide)) v) Z
theorem d_settle {k : Nat} {I : hI} {J : hJ} {R : hR} {K : Nat} (v : svk I K) (hk : 1 ≤ k) : ct k 59 [.ref 88, .int (Int32.ofNat K)] I J R none (k_ss K I) J R := by
  obtain ⟨k, rfl⟩ : ∃ k', k = k' + 1 := ⟨k - 1, by omega⟩
  have h24 := v.1
  refine ct_of (q := am_m59) (o := 6) (rt := none) (co := am_c59) (L := [_, _, _]) rfl rfl rfl rfl rfl rfl ?_
  refine w_iconst (x := Int32.ofNat 0) rfl rfl (by decide) ?_
  refine w_istore_n (L' := [_, _, _]) rfl rfl rfl ?_
  refine l_ssA h24 ?_ K 0 (by omega)
  refine w_iload_n rfl rfl rfl ?_
  refine w_iconst (x := Int32.ofNat 1) rfl rfl (by decide) ?_
  refine w_isub rfl rfl ?_
  refine w_istore_n (L' := [_, _, _]) rfl rfl rfl ?_
  refine l_ssB K (k_ssA K I) (Nat.le_refl _) (svk_F (k_ssA_ne (by decide)) (k_ssA_ne (by decide)) v) ?_
  exact w_ret rfl rfl rfl rfl
abbrev k_fb (I : hI) (m v i : Nat) : Prop := (I 93 i = 0 ∧ I 92 i = Int32.ofInt (-1)) ∧ ¬ (if k_lb I m v (nn (I 90 i)) (I 89 i) then (1 : Int32) else 0) = I 91 i
def k_fi (I : hI) (m v : Nat) : Nat → Nat → Int32
  | 0, _ => 1
  | j + 1, i => if k_fb I m v i then 0 else k_fi I m v j (i + 1)
theorem k_fi_s (I : hI) (m v j i : Nat) : k_fi I m v (j + 1) i = if k_fb I m v i then 0 else k_fi I m v j (i + 1) := rfl
theorem k_fb1 {I : hI} {m v i : Nat} (h : ¬ I 93 i = 0) : ¬ k_fb I m v i := fun z => h z.1.1
theorem k_fb2 {I : hI} {m v i : Nat} (h : ¬ I 92 i = Int32.ofInt (-1)) : ¬ k_fb I m v i := fun z => h z.1.2
theorem k_fb3 {I : hI} {m v i : Nat} (h : (if k_lb I m v (nn (I 90 i)) (I 89 i) then (1 : Int32) else 0) = I 91 i) : ¬ k_fb I m v i := fun z => z.2 h
theorem k_fb4 {I : hI} {m v i : Nat} (a : I 93 i = 0) (b : I 92 i = Int32.ofInt (-1)) (h : ¬ (if k_lb I m v (nn (I 90 i)) (I 89 i) then (1 : Int32) else 0) = I 91 i) : k_fb I m v i := ⟨⟨a, b⟩, h⟩
theorem l_isFit {k : Nat} {I : hI} {J : hJ} {R : hR} {m v K : Nat} (hm : m < 6) (hv : v < 10) (w : svk I K) (hk : 2 ≤ k) : ∀ (j r : Nat) (u : Value), r + j = K → wz k 6 (some .boolean) am_c61 3 [.ref 88, .int (Int32.ofNat m), .int (Int32.ofNat v), .int (Int32.ofNat K), .int (Int32.ofNat r), u] [] I J R (some (.int (k_fi I m v j r)), am_hp I J R) := by
  intro j
  induction j with
  | zero =>
    intro r u e
    have h24 := w.1
    obtain rfl : K = r := by omega
    refine w_iload rfl rfl rfl ?_
    refine w_iload_n rfl rfl rfl ?_
    refine w_ic_geN (t := 80) (f := 9) rfl rfl rfl (by omega) (by omega) (fun c6 => ?_) (fun c6 => absurd c6 (by omega))
    refine w_iconst (x := Int32.ofNat 1) rfl rfl (by decide) ?_
    exact w_bret rfl (by decide) rfl rfl rfl rfl
  | succ j ih =>
    intro r u e
    have h24 := w.1
    rw [k_fi_s]
    refine w_iload rfl rfl rfl ?_
    refine w_iload_n rfl rfl rfl ?_
    refine w_ic_geN (t := 80) (f := 9) rfl rfl rfl (by omega) (by omega) (fun c6 => absurd c6 (by omega)) (fun c6 => ?_)
    refine w_aload_n rfl rfl rfl ?_
    refine w_gf (t := .ref (93)) (v := .ref (93)) rfl rfl rfl sp88 rfl rfl rfl ?_
    refine w_iload rfl rfl rfl ?_
    refine w_baload rfl rfl sp93 rfl ⟨by omega, by omega⟩ rfl ?_
    refine w_if_ne (t := 34) (f := 19) rfl rfl rfl (fun c16 => ?_) (fun c16 => ?_)
    · refine w_iconst (x := Int32.ofNat 0) rfl rfl (by decide) ?_
      refine w_istore (L' := [_, _, _, _, _, _]) rfl rfl rfl ?_
      refine w_iload rfl rfl rfl ?_
      refine w_if_eq (t := 74) (f := 42) rfl rfl rfl (fun c39 => ?_) (fun c39 => absurd c39 (by decide))
      clear c39
      refine w_iinc (L' := [_, _, _, _, _, _]) rfl rfl rfl (am_incN 1) rfl ?_
      refine w_goto (pc' := 3) rfl rfl ?_
      first
        | rw [if_neg (k_fb1 c16)]
        | rw [if_neg (k_fb2 c27)]
        | rw [if_neg (k_fb3 c69)]
      exact ih (r + 1) _ (by omega)
    · refine w_aload_n rfl rfl rfl ?_
      refine w_gf (t := .ref (92)) (v := .ref (92)) rfl rfl rfl sp88 rfl rfl rfl ?_
      refine w_iload rfl rfl rfl ?_
      refine w_iaload rfl rfl sp92 rfl ⟨by omega, by omega⟩ rfl ?_
      refine w_iconst (x := Int32.ofInt (-1)) rfl rfl (by decide) ?_
      refine w_ic_ne (t := 34) (f := 30) rfl rfl rfl (fun c27 => ?_) (fun c27 => ?_)
      · refine w_iconst (x := Int32.ofNat 0) rfl rfl (by decide) ?_
        refine w_istore (L' := [_, _, _, _, _, _]) rfl rfl rfl ?_
        refine w_iload rfl rfl rfl ?_
        refine w_if_eq (t := 74) (f := 42) rfl rfl rfl (fun c39 => ?_) (fun c39 => absurd c39 (by decide))
        clear c39
        refine w_iinc (L' := [_, _, _, _, _, _]) rfl rfl rfl (am_incN 1) rfl ?_
        refine w_goto (pc' := 3) rfl rfl ?_
        first
          | rw [if_neg (k_fb1 c16)]
          | rw [if_neg (k_fb2 c27)]
          | rw [if_neg (k_fb3 c69)]
        exact ih (r + 1) _ (by omega)
      · refine w_iconst (x := Int32.ofNat 1) rfl rfl (by decide) ?_
        refine w_goto (pc' := 35) rfl rfl ?_
        refine w_istore (L' := [_, _, _, _, _, _]) rfl rfl rfl ?_
        refine w_iload rfl rfl rfl ?_
        refine w_if_eq (t := 74) (f := 42) rfl rfl rfl (fun c39 => absurd c39 (by decide)) (fun c39 => ?_)
        clear c39
        refine w_aload_n rfl rfl rfl ?_
        refine w_iload_n rfl rfl rfl ?_
        refine w_iload_n rfl rfl rfl ?_
        have o : okn (I 90 r) 5 := ((w.2 r (by omega)).resolve_right (fun z => neg1N (by have := z.2; omega) (z.1.symm.trans c27))).2
        refine w_aload_n rfl rfl rfl ?_
        refine w_gf (t := .ref (90)) (v := .ref (90)) rfl rfl rfl sp88 rfl rfl rfl ?_
        refine w_iload rfl rfl rfl ?_
        refine w_iaload rfl rfl sp90 rfl ⟨by omega, by omega⟩ o.1 ?_
        refine w_aload_n rfl rfl rfl ?_
        refine w_gf (t := .ref (89)) (v := .ref (89)) rfl rfl rfl sp88 rfl rfl rfl ?_
        refine w_iload rfl rfl rfl ?_
        refine w_iaload rfl rfl sp89 rfl ⟨by omega, by omega⟩ rfl ?_
        refine w_cv (q := am_m58) (as := [_, _, _, _]) (rest := []) (st' := [_]) rfl rfl rfl rfl rfl rfl sp88 rfl rfl rfl rfl (d_isLostBy hm hv o.2 hk) rfl rfl ?_
        refine w_aload_n rfl rfl rfl ?_
        refine w_gf (t := .ref (91)) (v := .ref (91)) rfl rfl rfl sp88 rfl rfl rfl ?_
        refine w_iload rfl rfl rfl ?_
        refine w_baload rfl rfl sp91 rfl ⟨by omega, by omega⟩ rfl ?_
        refine w_ic_eq (t := 74) (f := 72) rfl rfl rfl (fun c69 => ?_) (fun c69 => ?_)
        · refine w_iinc (L' := [_, _, _, _, _, _]) rfl rfl rfl (am_incN 1) rfl ?_
          refine w_goto (pc' := 3) rfl rfl ?_
          first
            | rw [if_neg (k_fb1 c16)]
            | rw [if_neg (k_fb2 c27)]
            | rw [if_neg (k_fb3 c69)]
          exact ih (r + 1) _ (by omega)
        · refine w_iconst (x := Int32.ofNat 0) rfl rfl (by decide) ?_
          exact w_bret rfl (by decide) (by rw [if_pos (k_fb4 c16 c27 c69)] <;> rfl) rfl rfl rfl
theorem d_isFitting {k : Nat} {I : hI} {J : hJ} {R : hR} {m v K : Nat} (hm : m < 6) (hv : v < 10) (w : svk I K) (hk : 3 ≤ k) : ct k 61 [.ref 88, .int (Int32.ofNat m), .int (Int32.ofNat v), .int (Int32.ofNat K)] I J R (some (.int (k_fi I m v K 0))) I J R := by
  obtain ⟨k, rfl⟩ : ∃ k', k = k' + 1 := ⟨k - 1, by omega⟩
  refine ct_of (q := am_m61) (o := 6) (rt := (some .boolean)) (co := am_c61) (L := [_, _, _, _, _, _]) rfl rfl rfl rfl rfl rfl ?_
  refine w_iconst (x := Int32.ofNat 0) rfl rfl (by decide) ?_
  refine w_istore (L' := [_, _, _, _, _, _]) rfl rfl rfl ?_
  exact l_isFit hm hv w (by omega) K 0 _ (by omega)
def k_ftS (I : hI) (m K : Nat) (v : Nat) (z : Int32) : Int32 := if k_fi I m v K 0 = 0 then z else z ||| Int32.ofNat (2 ^ v)
def k_ft (I : hI) (m K n : Nat) : Int32 := s_for (k_ftS I m K) n (Int32.ofNat 0)
theorem k_ft_s (I : hI) (m K n : Nat) : k_ft I m K (n + 1) = if k_fi I m n K 0 = 0 then k_ft I m K n else k_ft I m K n ||| Int32.ofNat (2 ^ n) := rfl
theorem l_fitting {k : Nat} {I : hI} {J : hJ} {R : hR} {q : Option Value × am_H} {m K : Nat} (hm : m < 6) (w : svk I K) (hk : 3 ≤ k) (Z : wz k 6 (some .int) am_c60 46 [.ref 88, .int (Int32.ofNat m), .int (Int32.ofNat K), .int (k_ft I m K 10), .int (Int32.ofNat 10)] [] I J R q) : ∀ (j r : Nat) , r + j = 10 → wz k 6 (some .int) am_c60 15 [.ref 88, .int (Int32.ofNat m), .int (Int32.ofNat K), .int (k_ft I m K r), .int (Int32.ofNat r)] [] I J R q := by
  intro j
  induction j with
  | zero =>
    intro r e
    obtain rfl : 10 = r := by omega
    refine w_iload rfl rfl rfl ?_
    refine w_bipush (x := Int32.ofNat 10) rfl rfl (by decide) ?_
    refine w_ic_geN (t := 46) (f := 22) rfl rfl rfl (by omega) (by omega) (fun c19 => ?_) (fun c19 => absurd c19 (by omega))
    exact Z
  | succ j ih =>
    intro r e
    refine w_iload rfl rfl rfl ?_
    refine w_bipush (x := Int32.ofNat 10) rfl rfl (by decide) ?_
    refine w_ic_geN (t := 46) (f := 22) rfl rfl rfl (by omega) (by omega) (fun c19 => absurd c19 (by omega)) (fun c19 => ?_)
    refine w_aload_n rfl rfl rfl ?_
    refine w_iload_n rfl rfl rfl ?_
    refine w_iload rfl rfl rfl ?_
    refine w_iload_n rfl rfl rfl ?_
    refine w_cv (q := am_m61) (as := [_, _, _]) (rest := []) (st' := [_]) rfl rfl rfl rfl rfl rfl sp88 rfl rfl rfl rfl (d_isFitting hm (by omega) w hk) rfl rfl ?_
    refine w_if_eq (t := 40) (f := 33) rfl rfl rfl (fun c30 => ?_) (fun c30 => ?_)
    · refine w_iinc (L' := [_, _, _, _, _]) rfl rfl rfl (am_incN 1) rfl ?_
      refine w_goto (pc' := 15) rfl rfl ?_
      exact wz_L (ih (r + 1) (by omega)) (by rw [k_ft_s]; first | rw [if_pos c30] | rw [if_neg c30])
    · refine w_iload_n rfl rfl rfl ?_
      refine w_iconst (x := Int32.ofNat 1) rfl rfl (by decide) ?_
      refine w_iload rfl rfl rfl ?_
      refine w_shlN rfl rfl (by omega) ?_
      refine w_ior rfl rfl ?_
      refine w_istore_n (L' := [_, _, _, _, _]) rfl rfl rfl ?_
      refine w_iinc (L' := [_, _, _, _, _]) rfl rfl rfl (am_incN 1) rfl ?_
      refine w_goto (pc' := 15) rfl rfl ?_
      exact wz_L (ih (r + 1) (by omega)) (by rw [k_ft_s]; first | rw [if_pos c30] | rw [if_neg c30])
theorem d_fitting {k : Nat} {I : hI} {J : hJ} {R : hR} {m K : Nat} (hm : m < 6) (w : svk I K) (hK : k_kn I = Int32.ofNat K) (hk : 4 ≤ k) : ct k 60 [.ref 88, .int (Int32.ofNat m)] I J R (some (.int (k_ft (k_ss K I) m K 10))) (k_ss K I) J R := by
  obtain ⟨k, rfl⟩ : ∃ k', k = k' + 1 := ⟨k - 1, by omega⟩
  refine ct_of (q := am_m60) (o := 6) (rt := (some .int)) (co := am_c60) (L := [_, _, _, _, _]) rfl rfl rfl rfl rfl rfl ?_
  refine w_aload_n rfl rfl rfl ?_
  refine w_cv (q := am_m53) (as := []) (rest := []) (st' := [_]) rfl rfl rfl rfl rfl rfl sp88 rfl rfl rfl rfl (hK ▸ d_knownSize (by omega)) rfl rfl ?_
  refine w_istore_n (L' := [_, _, _, _, _]) rfl rfl rfl ?_
  refine w_aload_n rfl rfl rfl ?_
  refine w_iload_n rfl rfl rfl ?_
  refine w_cv (q := am_m59) (as := [_]) (rest := []) (st' := []) rfl rfl rfl rfl rfl rfl sp88 rfl rfl rfl rfl (d_settle w (by omega)) rfl rfl ?_
  refine w_iconst (x := Int32.ofNat 0) rfl rfl (by decide) ?_
  refine w_istore_n (L' := [_, _, _, _, _]) rfl rfl rfl ?_
  refine w_iconst (x := Int32.ofNat 0) rfl rfl (by decide) ?_
  refine w_istore (L' := [_, _, _, _, _]) rfl rfl rfl ?_
  refine l_fitting hm (svk_F (k_ss_ne (by decide)) (k_ss_ne (by decide)) w) (by omega) ?_ 10 0 (by omega)
  refine w_iload_n rfl rfl rfl ?_
  exact w_iret rfl rfl rfl rfl rfl
section
variable {k o : Nat} {rt : Option FieldType} {co : List (List (Nat × Instr × Nat))} {pc pc' : Nat} {L st : List Value} {I : hI} {J : hJ} {R : hR} {r : Option Value × am_H}
def k_us (x y : Int32) : Int32 := (x.toUInt32 >>> (y.toUInt32 &&& Int32.toUInt32 31)).toInt32
theorem w_iushr {x y : Int32} (ei : am_ins co pc = some (.iushr, 1)) (hp : pc + 1 = pc') (z : wz k o rt co pc' L (.int (k_us x y) :: st) I J R r) : wz k o rt co pc L (.int y :: .int x :: st) I J R r := w_pu ei rfl hp rfl z
end
def k_b1 (x : Int32) : Int32 := x - (k_us x (Int32.ofNat 1) &&& Int32.ofNat 1431655765)
def k_b2 (x : Int32) : Int32 := (x &&& Int32.ofNat 858993459) + (k_us x (Int32.ofNat 2) &&& Int32.ofNat 858993459)
def k_b3 (x : Int32) : Int32 := (x + k_us x (Int32.ofNat 4)) &&& Int32.ofNat 252645135
def k_b4 (x : Int32) : Int32 := x + k_us x (Int32.ofNat 8)
def k_b5 (x : Int32) : Int32 := x + k_us x (Int32.ofNat 16)
def k_bc (x : Int32) : Int32 := k_b5 (k_b4 (k_b3 (k_b2 (k_b1 x)))) &&& Int32.ofNat 63
set_option maxRecDepth 16384 in
theorem k_bc_ok : ∀ n, n < 1024 → k_bc (Int32.ofNat n) = Int32.ofNat ((List.range 10).foldl (fun a i => a + n / 2 ^ i % 2) 0) := by decide +kernel
set_option maxRecDepth 512
theorem d_bitCount {k : Nat} {I : hI} {J : hJ} {R : hR} {x : Int32} (hk : 1 ≤ k) : ct k 287 [.int x] I J R (some (.int (k_bc x))) I J R := by
  obtain ⟨k, rfl⟩ : ∃ k', k = k' + 1 := ⟨k - 1, by omega⟩
  refine ct_of (q := am_m287) (o := 14) (rt := (some .int)) (co := am_c287) (L := [_]) rfl rfl rfl rfl rfl rfl ?_
  refine w_iload_n rfl rfl rfl ?_
  refine w_iload_n rfl rfl rfl ?_
  refine w_iconst (x := Int32.ofNat 1) rfl rfl (by decide) ?_
  refine w_iushr rfl rfl ?_
  refine w_ldc_w (x := Int32.ofNat 1431655765) rfl rfl rfl ?_
  refine w_iand rfl rfl ?_
  refine w_isub rfl rfl ?_
  refine w_istore_n (L' := [_]) rfl rfl rfl ?_
  refine w_iload_n rfl rfl rfl ?_
  refine w_ldc_w (x := Int32.ofNat 858993459) rfl rfl rfl ?_
  refine w_iand rfl rfl ?_
  refine w_iload_n rfl rfl rfl ?_
  refine w_iconst (x := Int32.ofNat 2) rfl rfl (by decide) ?_
  refine w_iushr rfl rfl ?_
  refine w_ldc_w (x := Int32.ofNat 858993459) rfl rfl rfl ?_
  refine w_iand rfl rfl ?_
  refine w_iadd rfl rfl ?_
  refine w_istore_n (L' := [_]) rfl rfl rfl ?_
  refine w_iload_n rfl rfl rfl ?_
  refine w_iload_n rfl rfl rfl ?_
  refine w_iconst (x := Int32.ofNat 4) rfl rfl (by decide) ?_
  refine w_iushr rfl rfl ?_
  refine w_iadd rfl rfl ?_
  refine w_ldc_w (x := Int32.ofNat 252645135) rfl rfl rfl ?_
  refine w_iand rfl rfl ?_
  refine w_istore_n (L' := [_]) rfl rfl rfl ?_
  refine w_iload_n rfl rfl rfl ?_
  refine w_iload_n rfl rfl rfl ?_
  refine w_bipush (x := Int32.ofNat 8) rfl rfl (by decide) ?_
  refine w_iushr rfl rfl ?_
  refine w_iadd rfl rfl ?_
  refine w_istore_n (L' := [_]) rfl rfl rfl ?_
  refine w_iload_n rfl rfl rfl ?_
  refine w_iload_n rfl rfl rfl ?_
  refine w_bipush (x := Int32.ofNat 16) rfl rfl (by decide) ?_
  refine w_iushr rfl rfl ?_
  refine w_iadd rfl rfl ?_
  refine w_istore_n (L' := [_]) rfl rfl rfl ?_
  refine w_iload_n rfl rfl rfl ?_
  refine w_bipush (x := Int32.ofNat 63) rfl rfl (by decide) ?_
  refine w_iand rfl rfl ?_
  exact w_iret rfl rfl rfl rfl rfl
def k_lwS (I : hI) (m : Nat) (z w : Int32) (x : Nat) (v : Nat) (a : Nat) : Nat := if ¬ (z >>> (Int32.ofNat v &&& 31)) &&& Int32.ofNat 1 = 0 ∧ k_lb I m v x w then a + 1 else a
def k_lw (I : hI) (m : Nat) (z w : Int32) (x : Nat) (n : Nat) : Nat := s_for (k_lwS I m z w x) n 0
theorem k_lw1 {I : hI} {m : Nat} {z w : Int32} {x n : Nat} (a : ¬ (z >>> (Int32.ofNat n &&& 31)) &&& Int32.ofNat 1 = 0) (b : k_lb I m n x w) : k_lw I m z w x (n + 1) = k_lw I m z w x n + 1 := if_pos ⟨a, b⟩
theorem k_lw2 {I : hI} {m : Nat} {z w : Int32} {x n : Nat} (a : (z >>> (Int32.ofNat n &&& 31)) &&& Int32.ofNat 1 = 0) : k_lw I m z w x (n + 1) = k_lw I m z w x n := if_neg fun h => h.1 a
theorem k_lw3 {I : hI} {m : Nat} {z w : Int32} {x n : Nat} (b : ¬ k_lb I m n x w) : k_lw I m z w x (n + 1) = k_lw I m z w x n := if_neg fun h => b h.2
def k_wo (I : hI) (m : Nat) (z w : Int32) (x : Nat) : Int32 := (fun a b : Int32 => if a < b then b else a) (Int32.ofNat (k_lw I m z w x 10)) (k_bc z - Int32.ofNat (k_lw I m z w x 10))
theorem l_leftAt {k : Nat} {I : hI} {J : hJ} {R : hR} {q : Option Value × am_H} {m x : Nat} {z w : Int32} (hm : m < 6) (hx : x < 5) (hk : 2 ≤ k) (Z : wz k 6 (some .int) am_c62 44 [.ref 88, .int (Int32.ofNat m), .int z, .int w, .int (Int32.ofNat x), .int (Int32.ofNat (k_lw I m z w x 10)), .int (Int32.ofNat 10)] [] I J R q) : ∀ (j r : Nat) , r + j = 10 → wz k 6 (some .int) am_c62 6 [.ref 88, .int (Int32.ofNat m), .int z, .int w, .int (Int32.ofNat x), .int (Int32.ofNat (k_lw I m z w x r)), .int (Int32.ofNat r)] [] I J R q := by
  intro j
  induction j with
  | zero =>
    intro r e
    obtain rfl : 10 = r := by omega
    refine w_iload rfl rfl rfl ?_
    refine w_bipush (x := Int32.ofNat 10) rfl rfl (by decide) ?_
    refine w_ic_geN (t := 44) (f := 13) rfl rfl rfl (by omega) (by omega) (fun c10 => ?_) (fun c10 => absurd c10 (by omega))
    exact Z
  | succ j ih =>
    intro r e
    refine w_iload rfl rfl rfl ?_
    refine w_bipush (x := Int32.ofNat 10) rfl rfl (by decide) ?_
    refine w_ic_geN (t := 44) (f := 13) rfl rfl rfl (by omega) (by omega) (fun c10 => absurd c10 (by omega)) (fun c10 => ?_)
    refine w_iload_n rfl rfl rfl ?_
    refine w_iload rfl rfl rfl ?_
    refine w_ishr rfl rfl ?_
    refine w_iconst (x := Int32.ofNat 1) rfl rfl (by decide) ?_
    refine w_iand rfl rfl ?_
    refine w_if_eq (t := 38) (f := 22) rfl rfl rfl (fun c19 => ?_) (fun c19 => ?_)
    · refine w_iinc (L' := [_, _, _, _, _, _, _]) rfl rfl rfl (am_incN 1) rfl ?_
      refine w_goto (pc' := 6) rfl rfl ?_
      exact wz_L (ih (r + 1) (by omega)) (by first | rw [k_lw1 c19 c32] | rw [k_lw2 c19] | rw [k_lw3 c32])
    · refine w_aload_n rfl rfl rfl ?_
      refine w_iload_n rfl rfl rfl ?_
      refine w_iload rfl rfl rfl ?_
      refine w_iload rfl rfl rfl ?_
      refine w_iload_n rfl rfl rfl ?_
      refine w_cv (q := am_m58) (as := [_, _, _, _]) (rest := []) (st' := [_]) rfl rfl rfl rfl rfl rfl sp88 rfl rfl rfl rfl (d_isLostBy hm (by omega) hx hk) rfl rfl ?_
      refine w_if_eqB (t := 38) (f := 35) rfl rfl rfl (fun c32 => ?_) (fun c32 => ?_)
      · refine w_iinc (L' := [_, _, _, _, _, _, _]) rfl rfl rfl (am_incN 1) rfl ?_
        refine w_goto (pc' := 6) rfl rfl ?_
        exact wz_L (ih (r + 1) (by omega)) (by first | rw [k_lw1 c19 c32] | rw [k_lw2 c19] | rw [k_lw3 c32])
      · refine w_iinc (L' := [_, _, _, _, _, _, _]) rfl rfl rfl (am_incN 1) rfl ?_
        refine w_iinc (L' := [_, _, _, _, _, _, _]) rfl rfl rfl (am_incN 1) rfl ?_
        refine w_goto (pc' := 6) rfl rfl ?_
        exact wz_L (ih (r + 1) (by omega)) (by first | rw [k_lw1 c19 c32] | rw [k_lw2 c19] | rw [k_lw3 c32])
theorem d_leftAtWorst {k : Nat} {I : hI} {J : hJ} {R : hR} {m x : Nat} {z w : Int32} (hm : m < 6) (hx : x < 5) (hk : 3 ≤ k) : ct k 62 [.ref 88, .int (Int32.ofNat m), .int z, .int w, .int (Int32.ofNat x)] I J R (some (.int (k_wo I m z w x))) I J R := by
  obtain ⟨k, rfl⟩ : ∃ k', k = k' + 1 := ⟨k - 1, by omega⟩
  refine ct_of (q := am_m62) (o := 6) (rt := (some .int)) (co := am_c62) (L := [_, _, _, _, _, _, _]) rfl rfl rfl rfl rfl rfl ?_
  refine w_iconst (x := Int32.ofNat 0) rfl rfl (by decide) ?_
  refine w_istore (L' := [_, _, _, _, _, _, _]) rfl rfl rfl ?_
  refine w_iconst (x := Int32.ofNat 0) rfl rfl (by decide) ?_
  refine w_istore (L' := [_, _, _, _, _, _, _]) rfl rfl rfl ?_
  refine l_leftAt hm hx (by omega) ?_ 10 0 (by omega)
  refine w_iload rfl rfl rfl ?_
  refine w_iload_n rfl rfl rfl ?_
  refine w_cs (q := am_m287) (na := 1) (as := [_]) (st' := [_, _]) rfl rfl rfl rfl (by decide) rfl rfl (Nat.le_of_ble_eq_true rfl) rfl rfl rfl (d_bitCount (by omega)) rfl rfl ?_
  refine w_iload rfl rfl rfl ?_
  refine w_isub rfl rfl ?_
  refine w_max rfl rfl rfl rfl ?_
  exact w_iret rfl rfl rfl rfl rfl
