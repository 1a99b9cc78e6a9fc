/-! The class: signs of a law held and released. -/
section
variable {k o : Nat} {rt : Option FieldType} {co : List (List (Nat × Instr × Nat))} {pc pc' : Nat} {L st : List Value} {I : hI} {J : hJ} {R : hR} {r : Option Value × am_H}
theorem w_ls {dflt : Int} {ps : Array (Int × Int)} {w t : Nat} {x : Int32} (ei : am_ins co pc = some (.lookupswitch dflt ps, w)) (hs : (ps.toList.zip (ps.toList.drop 1)).all (fun (a, next) => a.1 < next.1) = true) (ht : am_tg pc (Op.lookupswitch.offset ps.toList dflt x.toInt) = some t) (z : wz k o rt co t L st I J R r) : wz k o rt co pc L (.int x :: st) I J R r := by
  refine w_br ei rfl rfl rfl ?_ z
  show (if _ then (am_tg pc (Op.lookupswitch.offset ps.toList dflt x.toInt)).map (fun t => (t, st)) else none) = _
  rw [if_pos hs, ht]; rfl
theorem lsn {x : Int32} {n : Nat} (hn : n < 1000) (h : ¬ x = Int32.ofNat n) : ¬ (n : Int) = x.toInt := by
  intro e
  apply h
  rw [← Int32.toInt_inj, Int32.toInt_ofNat_of_lt (by omega)]
  exact e.symm
end
def k_rk (x : Int32) : Int32 := if x = Int32.ofNat 21 then Int32.ofNat 1 else if x = Int32.ofNat 22 then Int32.ofNat 2 else if x = Int32.ofNat 23 then Int32.ofNat 3 else if x = Int32.ofNat 49 then Int32.ofNat 5 else if x = Int32.ofNat 50 then Int32.ofNat 5 else if x = Int32.ofNat 51 then Int32.ofNat 6 else if x = Int32.ofNat 52 then Int32.ofNat 6 else if x < Int32.ofNat 43 then Int32.ofNat 0 else if Int32.ofNat 48 < x then Int32.ofNat 0 else Int32.ofNat 4
theorem d_rank {k : Nat} {I : hI} {J : hJ} {R : hR} {x : Int32} (hk : 1 ≤ k) : ct k 46 [.int x] I J R (some (.int (k_rk x))) I J R := by
  obtain ⟨k, rfl⟩ : ∃ k', k = k' + 1 := ⟨k - 1, by omega⟩
  refine ct_of (q := am_m46) (o := 4) (rt := (some .int)) (co := am_c46) (L := [_]) rfl rfl rfl rfl rfl rfl ?_
  refine w_iload_n rfl rfl rfl ?_
  by_cases e21 : x = Int32.ofNat 21
  · subst e21
    refine w_ls (t := 68) rfl (by decide) rfl ?_
    refine w_iconst (x := Int32.ofNat 1) rfl rfl (by decide) ?_
    exact w_iret rfl (by simp +decide only [k_rk, *, ite_true, ite_false] <;> rfl) rfl rfl rfl
  by_cases e22 : x = Int32.ofNat 22
  · subst e22
    refine w_ls (t := 70) rfl (by decide) rfl ?_
    refine w_iconst (x := Int32.ofNat 2) rfl rfl (by decide) ?_
    exact w_iret rfl (by simp +decide only [k_rk, *, ite_true, ite_false] <;> rfl) rfl rfl rfl
  by_cases e23 : x = Int32.ofNat 23
  · subst e23
    refine w_ls (t := 72) rfl (by decide) rfl ?_
    refine w_iconst (x := Int32.ofNat 3) rfl rfl (by decide) ?_
    exact w_iret rfl (by simp +decide only [k_rk, *, ite_true, ite_false] <;> rfl) rfl rfl rfl
  by_cases e49 : x = Int32.ofNat 49
  · subst e49
    refine w_ls (t := 74) rfl (by decide) rfl ?_
    refine w_iconst (x := Int32.ofNat 5) rfl rfl (by decide) ?_
    exact w_iret rfl (by simp +decide only [k_rk, *, ite_true, ite_false] <;> rfl) rfl rfl rfl
  by_cases e50 : x = Int32.ofNat 50
  · subst e50
    refine w_ls (t := 74) rfl (by decide) rfl ?_
    refine w_iconst (x := Int32.ofNat 5) rfl rfl (by decide) ?_
    exact w_iret rfl (by simp +decide only [k_rk, *, ite_true, ite_false] <;> rfl) rfl rfl rfl
  by_cases e51 : x = Int32.ofNat 51
  · subst e51
    refine w_ls (t := 76) rfl (by decide) rfl ?_
    refine w_bipush (x := Int32.ofNat 6) rfl rfl (by decide) ?_
    exact w_iret rfl (by simp +decide only [k_rk, *, ite_true, ite_false] <;> rfl) rfl rfl rfl
  by_cases e52 : x = Int32.ofNat 52
  · subst e52
    refine w_ls (t := 76) rfl (by decide) rfl ?_
    refine w_bipush (x := Int32.ofNat 6) rfl rfl (by decide) ?_
    exact w_iret rfl (by simp +decide only [k_rk, *, ite_true, ite_false] <;> rfl) rfl rfl rfl
  refine w_ls (t := 79) rfl (by decide) (by show am_tg 1 (if (21 : Int) = (x).toInt then 67 else if (22 : Int) = (x).toInt then 69 else if (23 : Int) = (x).toInt then 71 else if (49 : Int) = (x).toInt then 73 else if (50 : Int) = (x).toInt then 73 else if (51 : Int) = (x).toInt then 75 else if (52 : Int) = (x).toInt then 75 else 78) = some 79; rw [if_neg (show ¬ (21 : Int) = (x).toInt from lsn (n := 21) (by decide) e21), if_neg (show ¬ (22 : Int) = (x).toInt from lsn (n := 22) (by decide) e22), if_neg (show ¬ (23 : Int) = (x).toInt from lsn (n := 23) (by decide) e23), if_neg (show ¬ (49 : Int) = (x).toInt from lsn (n := 49) (by decide) e49), if_neg (show ¬ (50 : Int) = (x).toInt from lsn (n := 50) (by decide) e50), if_neg (show ¬ (51 : Int) = (x).toInt from lsn (n := 51) (by decide) e51), if_neg (show ¬ (52 : Int) = (x).toInt from lsn (n := 52) (by decide) e52)]; rfl) ?_
  refine w_iload_n rfl rfl rfl ?_
  refine w_bipush (x := Int32.ofNat 43) rfl rfl (by decide) ?_
  refine w_ic_lt (t := 95) (f := 85) rfl rfl rfl (fun c82 => ?_) (fun c82 => ?_)
  · refine w_iconst (x := Int32.ofNat 0) rfl rfl (by decide) ?_
    exact w_iret rfl (by simp +decide only [k_rk, *, ite_true, ite_false] <;> rfl) rfl rfl rfl
  · refine w_iload_n rfl rfl rfl ?_
    refine w_bipush (x := Int32.ofNat 48) rfl rfl (by decide) ?_
    refine w_ic_gt (t := 95) (f := 91) rfl rfl rfl (fun c88 => ?_) (fun c88 => ?_)
    · refine w_iconst (x := Int32.ofNat 0) rfl rfl (by decide) ?_
      exact w_iret rfl (by simp +decide only [k_rk, *, ite_true, ite_false] <;> rfl) rfl rfl rfl
    · refine w_iconst (x := Int32.ofNat 4) rfl rfl (by decide) ?_
      refine w_goto (pc' := 96) rfl rfl ?_
      exact w_iret rfl (by simp +decide only [k_rk, *, ite_true, ite_false] <;> rfl) rfl rfl rfl
def k_ho (I : hI) (h : Nat) (x : Int32) : hI := if h < 72 then am_u (am_u (am_u I 7 h x) 8 h (k_rk x)) 6 2 (Int32.ofNat (h + 1)) else I
theorem d_hold {k : Nat} {I : hI} {J : hJ} {R : hR} {h : Nat} {x : Int32} (hh : h ≤ 72) (h2 : I 6 2 = Int32.ofNat h) (hk : 2 ≤ k) : ct k 44 [.ref 6, .int x] I J R none (k_ho I h x) J R := by
  obtain ⟨k, rfl⟩ : ∃ k', k = k' + 1 := ⟨k - 1, by omega⟩
  refine ct_of (q := am_m44) (o := 4) (rt := none) (co := am_c44) (L := [_, _]) rfl rfl rfl rfl rfl rfl ?_
  refine w_aload_n rfl rfl rfl ?_
  refine w_gf (t := .int 0) (v := .int _) rfl rfl rfl sp6 rfl (congrArg Value.int h2) rfl ?_
  refine w_aload_n rfl rfl rfl ?_
  refine w_gf (t := .ref (7)) (v := .ref (7)) rfl rfl rfl sp6 rfl rfl rfl ?_
  refine w_alen rfl rfl sp7 (by decide) ?_
  refine w_ic_geN (t := 45) (f := 12) rfl rfl rfl (by omega) (by omega) (fun c9 => ?_) (fun c9 => ?_)
  · exact w_ret rfl (by unfold k_ho; first | rw [if_pos (show h < 72 by omega)] | rw [if_neg (show ¬ h < 72 by omega)]) rfl rfl
  · refine w_aload_n rfl rfl rfl ?_
    refine w_gf (t := .ref (7)) (v := .ref (7)) rfl rfl rfl sp6 rfl rfl rfl ?_
    refine w_aload_n rfl rfl rfl ?_
    refine w_gf (t := .int 0) (v := .int _) rfl rfl rfl sp6 rfl (congrArg Value.int h2) rfl ?_
    refine w_iload_n rfl rfl rfl ?_
    refine w_iastore rfl rfl sp7 rfl ⟨by omega, by omega⟩ ?_
    refine w_aload_n rfl rfl rfl ?_
    refine w_gf (t := .ref (8)) (v := .ref (8)) rfl rfl rfl sp6 rfl rfl rfl ?_
    refine w_aload_n rfl rfl rfl ?_
    refine w_gf (t := .int 0) (v := .int _) rfl rfl rfl sp6 rfl (congrArg Value.int ((congrFun (am_u_ne (by decide)) _).trans h2)) rfl ?_
    refine w_iload_n rfl rfl rfl ?_
    refine w_cs (q := am_m46) (na := 1) (as := [_]) (st' := [_, _, _]) rfl rfl rfl rfl (by decide) rfl rfl (Nat.le_of_ble_eq_true rfl) rfl rfl rfl (d_rank (by omega)) rfl rfl ?_
    refine w_iastore rfl rfl sp8 rfl ⟨by omega, by omega⟩ ?_
    refine w_aload_n rfl rfl rfl ?_
    refine w_dup rfl rfl rfl ?_
    refine w_gf (t := .int 0) (v := .int _) rfl rfl rfl sp6 rfl (congrArg Value.int (((congrFun (am_u_ne (by decide)) _).trans (congrFun (am_u_ne (by decide)) _)).trans h2)) rfl ?_
    refine w_iconst (x := Int32.ofNat 1) rfl rfl (by decide) ?_
    refine w_iaddN rfl rfl ?_
    refine w_pf rfl rfl rfl sp6 rfl rfl rfl ?_
    exact w_ret rfl (by unfold k_ho; first | rw [if_pos (show h < 72 by omega)] | rw [if_neg (show ¬ h < 72 by omega)]) rfl rfl
def k_hk (I : hI) (h c : Nat) : Int32 × hI := if c < 64 then (1, k_ho (am_u I 6 4 (Int32.ofNat (c + 1))) h (I 3 4)) else (0, u_bl I (Int32.ofNat 2))
theorem k_hk1 {I : hI} {h c : Nat} (e : c < 64) : k_hk I h c = (1, k_ho (am_u I 6 4 (Int32.ofNat (c + 1))) h (I 3 4)) := if_pos e
theorem k_hk2 {I : hI} {h c : Nat} (e : ¬ c < 64) : k_hk I h c = (0, u_bl I (Int32.ofNat 2)) := if_neg e
theorem d_holdKnot {k : Nat} {I : hI} {J : hJ} {R : hR} {h : Nat} (hh : h ≤ 72) (h2 : I 6 2 = Int32.ofNat h) {c : Nat} (hc : c ≤ 64) (h4 : I 6 4 = Int32.ofNat c) (hk : 3 ≤ k) : ct k 43 [.ref 6, .ref 3] I J R (some (.int (k_hk I h c).1)) ((k_hk I h c).2) J R := by
  obtain ⟨k, rfl⟩ : ∃ k', k = k' + 1 := ⟨k - 1, by omega⟩
  refine ct_of (q := am_m43) (o := 4) (rt := (some .boolean)) (co := am_c43) (L := [_, _]) rfl rfl rfl rfl rfl rfl ?_
  refine w_aload_n rfl rfl rfl ?_
  refine w_gf (t := .int 0) (v := .int _) rfl rfl rfl sp6 rfl (congrArg Value.int h4) rfl ?_
  refine w_bipush (x := Int32.ofNat 64) rfl rfl (by decide) ?_
  refine w_ic_ltN (t := 15) (f := 9) rfl rfl rfl (by omega) (by omega) (fun c6 => ?_) (fun c6 => ?_)
  · refine w_aload_n rfl rfl rfl ?_
    refine w_dup rfl rfl rfl ?_
    refine w_gf (t := .int 0) (v := .int _) rfl rfl rfl sp6 rfl (congrArg Value.int h4) rfl ?_
    refine w_iconst (x := Int32.ofNat 1) rfl rfl (by decide) ?_
    refine w_iaddN rfl rfl ?_
    refine w_pf rfl rfl rfl sp6 rfl rfl rfl ?_
    refine w_aload_n rfl rfl rfl ?_
    refine w_aload_n rfl rfl rfl ?_
    refine w_gf (t := .int 0) (v := .int _) rfl rfl rfl sp3 rfl (congrArg Value.int (congrFun (am_u_ne (by decide)) _)) rfl ?_
    refine w_cv (q := am_m44) (as := [_]) (rest := []) (st' := []) rfl rfl rfl rfl rfl rfl sp6 rfl rfl rfl rfl (d_hold hh ((am_u_nk (by decide)).trans h2) (by omega)) rfl rfl ?_
    refine w_iconst (x := Int32.ofNat 1) rfl rfl (by decide) ?_
    exact w_bret rfl (by decide) (by first | rw [k_hk1 (show c < 64 by omega)] <;> rfl | rw [k_hk2 (show ¬ c < 64 by omega)]) (by first | rw [k_hk1 (show c < 64 by omega)] | rw [k_hk2 (show ¬ c < 64 by omega)]) rfl rfl
  · refine w_aload_n rfl rfl rfl ?_
    refine w_iconst (x := Int32.ofNat 2) rfl rfl (by decide) ?_
    refine w_cv (q := am_m92) (as := [_]) (rest := []) (st' := [_]) rfl rfl rfl rfl rfl rfl sp3 rfl rfl rfl rfl (d_blame (by omega)) rfl rfl ?_
    exact w_bret rfl (by decide) (by first | rw [k_hk1 (show c < 64 by omega)] <;> rfl | rw [k_hk2 (show ¬ c < 64 by omega)]) (by first | rw [k_hk1 (show c < 64 by omega)] | rw [k_hk2 (show ¬ c < 64 by omega)]) rfl rfl
def k_op (I : hI) (h o : Nat) : Int32 × hI := if o < 8 then (1, am_u (k_ho (am_u I 6 3 (Int32.ofNat (o + 1))) h (Int32.ofNat 41)) 6 6 (Int32.ofNat 1)) else (0, u_bl I (Int32.ofNat 2))
theorem k_op1 {I : hI} {h o : Nat} (e : o < 8) : k_op I h o = (1, am_u (k_ho (am_u I 6 3 (Int32.ofNat (o + 1))) h (Int32.ofNat 41)) 6 6 (Int32.ofNat 1)) := if_pos e
theorem k_op2 {I : hI} {h o : Nat} (e : ¬ o < 8) : k_op I h o = (0, u_bl I (Int32.ofNat 2)) := if_neg e
theorem d_takeOpen {k : Nat} {I : hI} {J : hJ} {R : hR} {h : Nat} (hh : h ≤ 72) (h2 : I 6 2 = Int32.ofNat h) {o : Nat} (ho : o ≤ 8) (h3 : I 6 3 = Int32.ofNat o) (hk : 3 ≤ k) : ct k 40 [.ref 6, .ref 3] I J R (some (.int (k_op I h o).1)) ((k_op I h o).2) J R := by
  obtain ⟨k, rfl⟩ : ∃ k', k = k' + 1 := ⟨k - 1, by omega⟩
  refine ct_of (q := am_m40) (o := 4) (rt := (some .boolean)) (co := am_c40) (L := [_, _]) rfl rfl rfl rfl rfl rfl ?_
  refine w_aload_n rfl rfl rfl ?_
  refine w_gf (t := .int 0) (v := .int _) rfl rfl rfl sp6 rfl (congrArg Value.int h3) rfl ?_
  refine w_bipush (x := Int32.ofNat 8) rfl rfl (by decide) ?_
  refine w_ic_ltN (t := 15) (f := 9) rfl rfl rfl (by omega) (by omega) (fun c6 => ?_) (fun c6 => ?_)
  · refine w_aload_n rfl rfl rfl ?_
    refine w_dup rfl rfl rfl ?_
    refine w_gf (t := .int 0) (v := .int _) rfl rfl rfl sp6 rfl (congrArg Value.int h3) rfl ?_
    refine w_iconst (x := Int32.ofNat 1) rfl rfl (by decide) ?_
    refine w_iaddN rfl rfl ?_
    refine w_pf rfl rfl rfl sp6 rfl rfl rfl ?_
    refine w_aload_n rfl rfl rfl ?_
    refine w_bipush (x := Int32.ofNat 41) rfl rfl (by decide) ?_
    refine w_cv (q := am_m44) (as := [_]) (rest := []) (st' := []) rfl rfl rfl rfl rfl rfl sp6 rfl rfl rfl rfl (d_hold hh ((am_u_nk (by decide)).trans h2) (by omega)) rfl rfl ?_
    refine w_aload_n rfl rfl rfl ?_
    refine w_iconst (x := Int32.ofNat 1) rfl rfl (by decide) ?_
    refine w_pf rfl rfl rfl sp6 rfl rfl rfl ?_
    refine w_iconst (x := Int32.ofNat 1) rfl rfl (by decide) ?_
    exact w_bret rfl (by decide) (by first | rw [k_op1 (show o < 8 by omega)] <;> rfl | rw [k_op2 (show ¬ o < 8 by omega)]) (by first | rw [k_op1 (show o < 8 by omega)] | rw [k_op2 (show ¬ o < 8 by omega)]) rfl rfl
  · refine w_aload_n rfl rfl rfl ?_
    refine w_iconst (x := Int32.ofNat 2) rfl rfl (by decide) ?_
    refine w_cv (q := am_m92) (as := [_]) (rest := []) (st' := [_]) rfl rfl rfl rfl rfl rfl sp3 rfl rfl rfl rfl (d_blame (by omega)) rfl rfl ?_
    exact w_bret rfl (by decide) (by first | rw [k_op1 (show o < 8 by omega)] <;> rfl | rw [k_op2 (show ¬ o < 8 by omega)]) (by first | rw [k_op1 (show o < 8 by omega)] | rw [k_op2 (show ¬ o < 8 by omega)]) rfl rfl
/-- an address of a law -/
def lwA (A : Nat) : Prop := A = 27 ∨ A = 30 ∨ A = 33 ∨ A = 54 ∨ A = 57 ∨ A = 60
theorem lwA_0 {A : Nat} (h : lwA A) : am_shL[A]? = some (.inr (.inl (3, [.int 0, .ref (A + 1), .ref (A + 2)]))) := by
  rcases h with rfl | rfl | rfl | rfl | rfl | rfl <;> rfl
theorem lwA_1 {A : Nat} (h : lwA A) : am_shL[A + 1]? = some (.inl (.int, false, 64)) := by
  rcases h with rfl | rfl | rfl | rfl | rfl | rfl <;> rfl
theorem lwA_2 {A : Nat} (h : lwA A) : am_shL[A + 2]? = some (.inl (.int, false, 64)) := by
  rcases h with rfl | rfl | rfl | rfl | rfl | rfl <;> rfl
theorem lwA_g {A : Nat} (h : lwA A) : 26 < A ∧ A < 61 := by unfold lwA at h; omega
def k_ad (I : hI) (A : Nat) (x y : Int32) : hI := k_add I A (nn (I A 0)) x y
theorem d_ad {k : Nat} {I : hI} {J : hJ} {R : hR} {A : Nat} (hA : lwA A) {x y : Int32} (h0 : okn (I A 0) 65) (hk : 1 ≤ k) : ct k 33 [.ref A, .int x, .int y] I J R none (k_ad I A x y) J R := d_add (lwA_0 hA) (lwA_1 hA) (lwA_2 hA) (by have := h0.2; omega) h0.1 hk
theorem k_ad_ok {I : hI} {A : Nat} {x y : Int32} (h0 : okn (I A 0) 65) : okn (k_ad I A x y A 0) 65 := by
  unfold k_ad k_add
  split
  · rw [am_u_at]; exact okn_of (by omega) (by omega)
  · exact h0
theorem k_ad_ne {I : hI} {A b : Nat} {x y : Int32} (h : b < A ∨ A + 2 < b) : k_ad I A x y b = I b := by
  unfold k_ad k_add
  split
  · exact (am_u_ne (by omega)).trans ((am_u_ne (by omega)).trans (am_u_ne (by omega)))
  · rfl
def k_rel (A : Nat) (w : Int32) : Nat → hI → hI
  | 0, I => I
  | h + 1, I => if I 8 h < w then I else k_rel A w h (k_ad (am_u I 6 2 (Int32.ofNat h)) A (I 7 h) (Int32.ofNat 0))
theorem k_rel_s (A : Nat) (w : Int32) (h : Nat) (I : hI) : k_rel A w (h + 1) I = if I 8 h < w then I else k_rel A w h (k_ad (am_u I 6 2 (Int32.ofNat h)) A (I 7 h) (Int32.ofNat 0)) := rfl
/-- how many are held behind it -/
def k_rh (w : Int32) (g : Nat → Int32) : Nat → Nat
  | 0 => 0
  | h + 1 => if g h < w then h + 1 else k_rh w g h
theorem k_rh_s (w : Int32) (g : Nat → Int32) (h : Nat) : k_rh w g (h + 1) = if g h < w then h + 1 else k_rh w g h := rfl
theorem k_rh_le (w : Int32) (g : Nat → Int32) (h : Nat) : k_rh w g h ≤ h := by
  induction h with
  | zero => exact Nat.le_refl _
  | succ h ih => rw [k_rh_s]; split; exact Nat.le_refl _; omega
theorem k_rel_h {A : Nat} (hA : lwA A) (w : Int32) : ∀ (h : Nat) (I : hI), okn (I A 0) 65 → I 6 2 = Int32.ofNat h → okn (k_rel A w h I A 0) 65 ∧ k_rel A w h I 6 2 = Int32.ofNat (k_rh w (I 8) h) ∧ (∀ b, b < A → b ≠ 6 → k_rel A w h I b = I b) ∧ (∀ b, A + 2 < b → b ≠ 6 → k_rel A w h I b = I b) ∧ (∀ j, j ≠ 2 → k_rel A w h I 6 j = I 6 j) := by
  have g := lwA_g hA
  intro h
  induction h with
  | zero => intro I h0 h2; exact ⟨h0, h2, fun _ _ _ => rfl, fun _ _ _ => rfl, fun _ _ => rfl⟩
  | succ h ih =>
    intro I h0 h2
    rw [k_rel_s, k_rh_s]
    split
    · exact ⟨h0, h2, fun _ _ _ => rfl, fun _ _ _ => rfl, fun _ _ => rfl⟩
    · have e6 : k_ad (am_u I 6 2 (Int32.ofNat h)) A (I 7 h) (Int32.ofNat 0) 6 = am_u I 6 2 (Int32.ofNat h) 6 := k_ad_ne (by omega)
      have e8 : k_ad (am_u I 6 2 (Int32.ofNat h)) A (I 7 h) (Int32.ofNat 0) 8 = I 8 := (k_ad_ne (by omega)).trans (am_u_ne (by decide))
      obtain ⟨a, b, c, d, e⟩ := ih (k_ad (am_u I 6 2 (Int32.ofNat h)) A (I 7 h) (Int32.ofNat 0)) (k_ad_ok (by rw [am_u_na (by omega)]; exact h0)) ((congrFun e6 2).trans am_u_at)
      rw [e8] at b
      exact ⟨a, b, fun x h1 h2 => (c x h1 h2).trans ((k_ad_ne (by omega)).trans (am_u_ne h2)), fun x h1 h2 => (d x h1 h2).trans ((k_ad_ne (by omega)).trans (am_u_ne h2)), fun j hj => (e j hj).trans ((congrFun e6 j).trans (am_u_nk hj))⟩
theorem l_release {k : Nat} {R : hR} {J : hJ} {q : Option Value × am_H} {A : Nat} {w : Int32} (hA : lwA A) (hk : 1 ≤ k) : ∀ (h : Nat) (I : hI), h ≤ 72 → okn (I A 0) 65 → I 6 2 = Int32.ofNat h → (wz k 4 none am_c45 49 [.ref 6, .ref A, .int w] [] (k_rel A w h I) J R q) → wz k 4 none am_c45 0 [.ref 6, .ref A, .int w] [] I J R q := by
  have g := lwA_g hA
  intro h
  induction h with
  | zero =>
    intro I hh h0 h2 Z
    refine w_aload_n rfl rfl rfl ?_
    refine w_gf (t := .int 0) (v := .int _) rfl rfl rfl sp6 rfl (congrArg Value.int h2) rfl ?_
    refine w_if_le (t := 49) (f := 7) rfl rfl rfl (fun c4 => ?_) (fun c4 => absurd c4 (by decide))
    exact Z
  | succ h ih =>
    intro I hh h0 h2 Z
    rw [k_rel_s] at Z
    refine w_aload_n rfl rfl rfl ?_
    refine w_gf (t := .int 0) (v := .int _) rfl rfl rfl sp6 rfl (congrArg Value.int h2) rfl ?_
    refine w_if_le (t := 49) (f := 7) rfl rfl rfl (fun c4 => absurd c4 (fun z => z ((am_ltN (x := 0) (by omega) (by omega)).mpr (by omega)))) (fun c4 => ?_)
    refine w_aload_n rfl rfl rfl ?_
    refine w_gf (t := .ref (8)) (v := .ref (8)) rfl rfl rfl sp6 rfl rfl rfl ?_
    refine w_aload_n rfl rfl rfl ?_
    refine w_gf (t := .int 0) (v := .int _) rfl rfl rfl sp6 rfl (congrArg Value.int h2) rfl ?_
    refine w_iconst (x := Int32.ofNat 1) rfl rfl (by decide) ?_
    refine w_isubN rfl rfl (by omega) ?_
    refine w_iaload rfl rfl sp8 rfl ⟨by omega, by omega⟩ rfl ?_
    refine w_iload_n rfl rfl rfl ?_
    refine w_ic_lt (t := 49) (f := 22) rfl rfl rfl (fun c19 => ?_) (fun c19 => ?_)
    · rw [if_pos (show I 8 h < w from c19)] at Z
      exact Z
    · refine w_aload_n rfl rfl rfl ?_
      refine w_dup rfl rfl rfl ?_
      refine w_gf (t := .int 0) (v := .int _) rfl rfl rfl sp6 rfl (congrArg Value.int h2) rfl ?_
      refine w_iconst (x := Int32.ofNat 1) rfl rfl (by decide) ?_
      refine w_isubN rfl rfl (by omega) ?_
      refine w_pf rfl rfl rfl sp6 rfl rfl rfl ?_
      refine w_aload_n rfl rfl rfl ?_
      refine w_aload_n rfl rfl rfl ?_
      refine w_gf (t := .ref (7)) (v := .ref (7)) rfl rfl rfl sp6 rfl rfl rfl ?_
      refine w_aload_n rfl rfl rfl ?_
      refine w_gf (t := .int 0) (v := .int _) rfl rfl rfl sp6 rfl (congrArg Value.int am_u_at) rfl ?_
      refine w_iaload rfl rfl sp7 rfl ⟨by omega, by omega⟩ (congrFun (am_u_ne (by decide)) _) ?_
      refine w_iconst (x := Int32.ofNat 0) rfl rfl (by decide) ?_
      refine w_cv (q := am_m33) (as := [_, _]) (rest := []) (st' := []) rfl rfl rfl rfl rfl rfl (lwA_0 hA) rfl rfl rfl rfl (d_ad hA (by rw [am_u_na (by omega)]; exact h0) hk) rfl rfl ?_
      refine w_goto (pc' := 0) rfl rfl ?_
      rw [if_neg (show ¬ I 8 h < w from c19)] at Z
      exact ih _ (by omega) (k_ad_ok (by rw [am_u_na (by omega)]; exact h0)) ((congrFun (k_ad_ne (by omega)) 2).trans am_u_at) Z
theorem d_release {k : Nat} {I : hI} {J : hJ} {R : hR} {A : Nat} (hA : lwA A) {w : Int32} {h : Nat} (hh : h ≤ 72) (h2 : I 6 2 = Int32.ofNat h) (h0 : okn (I A 0) 65) (hk : 2 ≤ k) : ct k 45 [.ref 6, .ref A, .int w] I J R none (k_rel A w h I) J R := by
  obtain ⟨k, rfl⟩ : ∃ k', k = k' + 1 := ⟨k - 1, by omega⟩
  refine ct_of (q := am_m45) (o := 4) (rt := none) (co := am_c45) (L := [_, _, _]) rfl rfl rfl rfl rfl rfl ?_
  exact l_release hA (by omega) h I hh h0 h2 (w_ret rfl rfl rfl rfl)
