/-! The class: days. -/
def k_d2 (T S : Nat) (N : Nat → Nat) (p : hI × hJ) : hI × hJ := (k_svL T S (N 3) (k_p1 T S (N 4) (N 1) p).1, (k_p1 T S (N 4) (N 1) p).2)
def k_dz (T S : Nat) (N : Nat → Nat) (p : hI × hJ) : Int32 := if k_st (k_d2 T S N p).1 (k_d2 T S N p).2 T S = 0 then Int32.ofNat 0 else Int32.ofNat 1
def k_d3 (T S : Nat) (N : Nat → Nat) (p : hI × hJ) : hI × hJ := ((k_d2 T S N p).1, k_stJ (k_d2 T S N p).1 (k_d2 T S N p).2 T S)
def k_d4 (T S : Nat) (N : Nat → Nat) (p : hI × hJ) : hI × hJ := k_p2 T S N (k_dz T S N p) (N 2) (k_d3 T S N p)
def k_day (T S : Nat) (N : Nat → Nat) (p : hI × hJ) : hI × hJ := (am_u (k_d4 T S N p).1 S 0 ((k_d4 T S N p).1 S 0 + Int32.ofNat 1), (k_d4 T S N p).2)
theorem cF_sv {T S n : Nat} {I : hI} (hS : S = 63 ∨ S = 70 ∨ S = 77) : cF I (k_svL T S n I) := fun a i h1 h2 => k_svL_ne (by omega) (by omega) (by omega)
theorem cF_d3 {T S : Nat} {N : Nat → Nat} {p : hI × hJ} (hS : S = 63 ∨ S = 70 ∨ S = 77) : cF p.1 (k_d3 T S N p).1 := cF_tr (cF_p1 hS) (cF_sv hS)
theorem cF_day {T S : Nat} {N : Nat → Nat} {p : hI × hJ} (hS : S = 63 ∨ S = 70 ∨ S = 77) : cF p.1 (k_day T S N p).1 := cF_tr (cF_tr (cF_d3 hS) (cF_p2 hS)) (cF_u (by omega))
theorem d_pass {k : Nat} {I : hI} {J : hJ} {R : hR} {T : Nat} (hT : T = 9 ∨ T = 36) (hD : R 84 3 = T) {S : Nat} (hS : S = 63 ∨ S = 70 ∨ S = 77) {N : Nat → Nat} (t : ctk I T N) (hk : 6 ≤ k) : ct k 15 [.ref 84, .ref S] I J R none ((k_day T S N (I, J)).1) ((k_day T S N (I, J)).2) R := by
  obtain ⟨k, rfl⟩ : ∃ k', k = k' + 1 := ⟨k - 1, by omega⟩
  have t1 : ctk (k_p1 T S (N 4) (N 1) (I, J)).1 T N := ctk_F hT (cF_p1 (p := (I, J)) hS) t
  have t3 : ctk (k_d3 T S N (I, J)).1 T N := ctk_F hT (cF_d3 (p := (I, J)) hS) t
  refine ct_of (q := am_m15) (o := 2) (rt := none) (co := am_c15) (L := [_, _, _, _, _]) rfl rfl rfl rfl rfl rfl ?_
  refine w_iconst (x := Int32.ofNat 0) rfl rfl (by decide) ?_
  refine w_istore_n (L' := [_, _, _, _, _]) rfl rfl rfl ?_
  refine l_pass1 hT hD hS rfl t.1.1 t (by omega) ?_ (N 1) 0 (by omega)
  refine w_aload_n rfl rfl rfl ?_
  refine w_aload_n rfl rfl rfl ?_
  refine w_cv (q := am_m20) (as := [_]) (rest := []) (st' := []) rfl rfl rfl rfl rfl rfl sp84 rfl rfl rfl rfl (d_startVoyages hT hD hS t1.1.2.2 t1.2.1.2.2 t1.2.2.2.2.1 (by omega)) rfl rfl ?_
  refine w_aload_n rfl rfl rfl ?_
  refine w_aload_n rfl rfl rfl ?_
  refine w_cv (q := am_m21) (as := [_]) (rest := []) (st' := [_]) rfl rfl rfl rfl rfl rfl sp84 rfl rfl rfl rfl (d_isStormy hT hD hS (by omega)) rfl rfl ?_
  refine w_if_eq (t := 54) (f := 50) rfl rfl rfl (fun c47 => ?_) (fun c47 => ?_)
  · refine w_iconst (x := Int32.ofNat 0) rfl rfl (by decide) ?_
    refine w_istore_n (L' := [_, _, _, _, _]) rfl rfl rfl ?_
    refine w_iconst (x := Int32.ofNat 0) rfl rfl (by decide) ?_
    refine w_istore_n (L' := [_, _, _, _, _]) rfl rfl rfl ?_
    have hz : k_dz T S N (I, J) = Int32.ofNat 0 := if_pos c47
    have hE : k_d4 T S N (I, J) = k_p2 T S N (Int32.ofNat 0) (N 2) (k_d3 T S N (I, J)) := by unfold k_d4; rw [hz]
    refine l_pass2 (z := Int32.ofNat 0) (I0 := (k_d3 T S N (I, J)).1) (J0 := (k_d3 T S N (I, J)).2) hT hD hS rfl t.1.2.1 t3 (by omega) (fun u => ?_) (N 2) 0 _ (by omega)
    refine w_aload_n rfl rfl rfl ?_
    refine w_dup rfl rfl rfl ?_
    refine w_gf (t := .int 0) (v := .int _) rfl rfl rfl (shS_0 hS) rfl (congrArg Value.int rfl) rfl ?_
    refine w_iconst (x := Int32.ofNat 1) rfl rfl (by decide) ?_
    refine w_iadd rfl rfl ?_
    refine w_pf rfl rfl rfl (shS_0 hS) rfl rfl rfl ?_
    exact w_ret rfl (by unfold k_day; rw [hE]) (by unfold k_day; rw [hE]) rfl
  · refine w_iconst (x := Int32.ofNat 1) rfl rfl (by decide) ?_
    refine w_goto (pc' := 55) rfl rfl ?_
    refine w_istore_n (L' := [_, _, _, _, _]) rfl rfl rfl ?_
    refine w_iconst (x := Int32.ofNat 0) rfl rfl (by decide) ?_
    refine w_istore_n (L' := [_, _, _, _, _]) rfl rfl rfl ?_
    have hz : k_dz T S N (I, J) = Int32.ofNat 1 := if_neg c47
    have hE : k_d4 T S N (I, J) = k_p2 T S N (Int32.ofNat 1) (N 2) (k_d3 T S N (I, J)) := by unfold k_d4; rw [hz]
    refine l_pass2 (z := Int32.ofNat 1) (I0 := (k_d3 T S N (I, J)).1) (J0 := (k_d3 T S N (I, J)).2) hT hD hS rfl t.1.2.1 t3 (by omega) (fun u => ?_) (N 2) 0 _ (by omega)
    refine w_aload_n rfl rfl rfl ?_
    refine w_dup rfl rfl rfl ?_
    refine w_gf (t := .int 0) (v := .int _) rfl rfl rfl (shS_0 hS) rfl (congrArg Value.int rfl) rfl ?_
    refine w_iconst (x := Int32.ofNat 1) rfl rfl (by decide) ?_
    refine w_iadd rfl rfl ?_
    refine w_pf rfl rfl rfl (shS_0 hS) rfl rfl rfl ?_
    exact w_ret rfl (by unfold k_day; rw [hE]) (by unfold k_day; rw [hE]) rfl
def k_days (T S : Nat) (N : Nat → Nat) (n : Nat) (p : hI × hJ) : hI × hJ := s_for (fun _ q => k_day T S N q) n p
theorem cF_days {T S : Nat} {N : Nat → Nat} {n : Nat} {p : hI × hJ} (hS : S = 63 ∨ S = 70 ∨ S = 77) : cF p.1 (k_days T S N n p).1 := by
  induction n with
  | zero => exact cF_rf _
  | succ n ih => exact cF_tr ih (cF_day hS)
theorem l_passM {k : Nat} {R : hR} {q : Option Value × am_H} {T S n : Nat} {N : Nat → Nat} (hT : T = 9 ∨ T = 36) (hD : R 84 3 = T) (hS : S = 63 ∨ S = 70 ∨ S = 77) {I0 : hI} {J0 : hJ} (hn : n < 1000) (t : ctk I0 T N) (hk : 6 ≤ k) (Z : wz k 2 none am_c14 18 [.ref 84, .ref S, .int (Int32.ofNat n), .int (Int32.ofNat n)] [] ((k_days T S N n (I0, J0)).1) ((k_days T S N n (I0, J0)).2) R q) : ∀ (j r : Nat) , r + j = n → wz k 2 none am_c14 2 [.ref 84, .ref S, .int (Int32.ofNat n), .int (Int32.ofNat r)] [] ((k_days T S N r (I0, J0)).1) ((k_days T S N r (I0, J0)).2) R q := by
  intro j
  induction j with
  | zero =>
    intro r e
    obtain rfl : n = r := by omega
    have t1 := ctk_F hT (cF_days (T := T) (N := N) (n := n) (p := (I0, J0)) hS) t
    refine w_iload_n rfl rfl rfl ?_
    refine w_iload_n rfl rfl rfl ?_
    refine w_ic_geN (t := 18) (f := 7) rfl rfl rfl (by omega) (by omega) (fun c4 => ?_) (fun c4 => absurd c4 (by omega))
    exact Z
  | succ j ih =>
    intro r e
    have t1 := ctk_F hT (cF_days (T := T) (N := N) (n := r) (p := (I0, J0)) hS) t
    refine w_iload_n rfl rfl rfl ?_
    refine w_iload_n rfl rfl rfl ?_
    refine w_ic_geN (t := 18) (f := 7) rfl rfl rfl (by omega) (by omega) (fun c4 => absurd c4 (by omega)) (fun c4 => ?_)
    refine w_aload_n rfl rfl rfl ?_
    refine w_aload_n rfl rfl rfl ?_
    refine w_cv (q := am_m15) (as := [_]) (rest := []) (st' := []) rfl rfl rfl rfl rfl rfl sp84 rfl rfl rfl rfl (d_pass hT hD hS t1 (by omega)) rfl rfl ?_
    refine w_iinc (L' := [_, _, _, _]) rfl rfl rfl (am_incN 1) rfl ?_
    refine w_goto (pc' := 2) rfl rfl ?_
    exact ih (r + 1) (by omega)
theorem d_passMany {k : Nat} {I : hI} {J : hJ} {R : hR} {T : Nat} (hT : T = 9 ∨ T = 36) (hD : R 84 3 = T) {S : Nat} (hS : S = 63 ∨ S = 70 ∨ S = 77) {N : Nat → Nat} (t : ctk I T N) {n : Nat} (hn : n < 1000) (hk : 7 ≤ k) : ct k 14 [.ref 84, .ref S, .int (Int32.ofNat n)] I J R none ((k_days T S N n (I, J)).1) ((k_days T S N n (I, J)).2) R := by
  obtain ⟨k, rfl⟩ : ∃ k', k = k' + 1 := ⟨k - 1, by omega⟩
  refine ct_of (q := am_m14) (o := 2) (rt := none) (co := am_c14) (L := [_, _, _, _]) rfl rfl rfl rfl rfl rfl ?_
  refine w_iconst (x := Int32.ofNat 0) rfl rfl (by decide) ?_
  refine w_istore_n (L' := [_, _, _, _]) rfl rfl rfl ?_
  refine l_passM hT hD hS hn t (by omega) ?_ n 0 (by omega)
  exact w_ret rfl rfl rfl rfl
