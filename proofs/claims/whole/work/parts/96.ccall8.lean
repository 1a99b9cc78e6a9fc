/-! The class: calls (eight): putOff. -/
def k_suL (T : Nat) (N : Nat → Nat) : Nat → hI × hJ → hI × hJ
  | 0, p => p
  | j + 1, p => if k_cs p.1 T 77 (N 2) 0 = 0 then p else k_suL T N j (k_day T 77 N p)
theorem k_suL_s (T : Nat) (N : Nat → Nat) (j : Nat) (p : hI × hJ) : k_suL T N (j + 1) p = if k_cs p.1 T 77 (N 2) 0 = 0 then p else k_suL T N j (k_day T 77 N p) := rfl
def k_su0 (T s : Nat) (y : Int32) (p : hI × hJ) : hI × hJ := (am_u (k_stt p.1 T (Int32.ofNat s) (Int32.ofNat 1)) 84 6 y, am_u p.2 77 1 (p.2 63 1))
def k_su (T : Nat) (N : Nat → Nat) (s : Nat) (y : Int32) (p : hI × hJ) : hI × hJ := k_suL T N 60 (k_su0 T s y p)
theorem cF_suL {T : Nat} {N : Nat → Nat} : ∀ (j : Nat) (p : hI × hJ), cF p.1 (k_suL T N j p).1 := by
  intro j
  induction j with
  | zero => intro p; exact cF_rf _
  | succ j ih =>
    intro p
    rw [k_suL_s]
    split
    · exact cF_rf _
    · exact cF_tr (cF_day (Or.inr (Or.inr rfl))) (ih _)
theorem cF_su {T : Nat} {N : Nat → Nat} {s : Nat} {y : Int32} {p : hI × hJ} : cF p.1 (k_su T N s y p).1 := cF_tr (cF_tr cF_stt (cF_u (by omega))) (cF_suL _ _)
theorem dl_su {k : Nat} {R : hR} {T s : Nat} {N : Nat → Nat} {y : Int32} {q : Option Value × am_H} (hT : T = 9 ∨ T = 36) (hR : R 84 3 = T) (hk : 6 ≤ k) {I9 : hI} {J9 : hJ} (Z : ∀ u : Value, wz k 11 (some .boolean) am_c138 53 [.ref 0, .int (Int32.ofNat s), .int y, u] [] I9 J9 R q) : ∀ (j r : Nat) (I : hI) (J : hJ), r + j = 60 → ctk I T N → k_suL T N j (I, J) = (I9, J9) → wz k 11 (some .boolean) am_c138 16 [.ref 0, .int (Int32.ofNat s), .int y, .int (Int32.ofNat r)] [] I J R q := by
  intro j
  induction j with
  | zero =>
    intro r I J e1 t e2
    obtain rfl : I = I9 := congrArg Prod.fst e2
    obtain rfl : J = J9 := congrArg Prod.snd e2
    refine w_iload_n rfl rfl rfl ?_
    refine w_bipush (x := Int32.ofNat 60) rfl rfl (by decide) ?_
    refine w_ic_geN (t := 53) (f := 22) rfl rfl rfl (by omega) (by omega) (fun c19 => ?_) (fun c19 => absurd c19 (by omega))
    exact Z _
  | succ j ih =>
    intro r I J e1 t e2
    refine w_iload_n rfl rfl rfl ?_
    refine w_bipush (x := Int32.ofNat 60) rfl rfl (by decide) ?_
    refine w_ic_geN (t := 53) (f := 22) rfl rfl rfl (by omega) (by omega) (fun c19 => absurd c19 (by omega)) (fun c19 => ?_)
    refine w_aload_n rfl rfl rfl ?_
    refine w_gf (t := .ref (84)) (v := .ref (84)) rfl rfl rfl sp0 rfl rfl rfl ?_
    refine w_aload_n rfl rfl rfl ?_
    refine w_gf (t := .ref (77)) (v := .ref (77)) rfl rfl rfl sp0 rfl rfl rfl ?_
    refine w_cv (q := am_m16) (as := [_]) (rest := []) (st' := [_]) rfl rfl rfl rfl rfl rfl sp84 rfl rfl rfl rfl (d_canSail hT hR (Or.inr (Or.inr rfl)) t.1.2.1 t.2.1.2.1 (by omega)) rfl rfl ?_
    refine w_if_eq (t := 53) (f := 36) rfl rfl rfl (fun c33 => ?_) (fun c33 => ?_)
    · rw [k_suL_s, if_pos c33] at e2
      obtain rfl : I = I9 := congrArg Prod.fst e2
      obtain rfl : J = J9 := congrArg Prod.snd e2
      exact Z _
    · refine w_aload_n rfl rfl rfl ?_
      refine w_gf (t := .ref (84)) (v := .ref (84)) rfl rfl rfl sp0 rfl rfl rfl ?_
      refine w_aload_n rfl rfl rfl ?_
      refine w_gf (t := .ref (77)) (v := .ref (77)) rfl rfl rfl sp0 rfl rfl rfl ?_
      refine w_cv (q := am_m15) (as := [_]) (rest := []) (st' := []) rfl rfl rfl rfl rfl rfl sp84 rfl rfl rfl rfl (d_pass hT hR (Or.inr (Or.inr rfl)) t (by omega)) rfl rfl ?_
      refine w_iinc (L' := [_, _, _, _]) rfl rfl rfl (am_incN 1) rfl ?_
      refine w_goto (pc' := 16) rfl rfl ?_
      rw [k_suL_s, if_neg c33] at e2
      exact ih (r + 1) _ _ (by omega) (ctk_F hT (cF_day (Or.inr (Or.inr rfl))) t) e2
theorem d_survives {k : Nat} {I : hI} {J : hJ} {R : hR} {T : Nat} (hT : T = 9 ∨ T = 36) (h0 : R 0 3 = T) {N : Nat → Nat} (t : ctk I T N) {s : Nat} (hs : s < 5) {y : Int32} (hk : 7 ≤ k) : ct k 138 [.ref 0, .int (Int32.ofNat s), .int y] I J R (some (.int (if ¬ (k_su T N s y (I, J)).1 81 s = Int32.ofNat 2 then 1 else 0))) ((k_su T N s y (I, J)).1) ((k_su T N s y (I, J)).2) (am_u R 84 3 T) := by
  obtain ⟨k, rfl⟩ : ∃ k', k = k' + 1 := ⟨k - 1, by omega⟩
  refine ct_of (q := am_m138) (o := 11) (rt := (some .boolean)) (co := am_c138) (L := [_, _, _, _]) rfl rfl rfl rfl rfl rfl ?_
  refine w_aload_n rfl rfl rfl ?_
  refine w_iload_n rfl rfl rfl ?_
  refine w_iconst (x := Int32.ofNat 1) rfl rfl (by decide) ?_
  refine w_cv (q := am_m124) (as := [_, _]) (rest := []) (st' := []) rfl rfl rfl rfl rfl rfl sp0 rfl rfl rfl rfl (d_startTrial hT h0 (by omega)) rfl rfl ?_
  refine w_aload_n rfl rfl rfl ?_
  refine w_gf (t := .ref (84)) (v := .ref (84)) rfl rfl rfl sp0 rfl rfl rfl ?_
  refine w_iload_n rfl rfl rfl ?_
  refine w_pf rfl rfl rfl sp84 rfl rfl rfl ?_
  refine w_iconst (x := Int32.ofNat 0) rfl rfl (by decide) ?_
  refine w_istore_n (L' := [_, _, _, _]) rfl rfl rfl ?_
  refine dl_su hT am_u_at (by omega) (fun u => ?_) 60 0 _ _ (by omega) (ctk_F hT (cF_tr cF_stt (cF_u (by omega))) t) (show k_suL T N 60 (k_su0 T s y (I, J)) = ((k_su T N s y (I, J)).1, (k_su T N s y (I, J)).2) from rfl)
  refine w_aload_n rfl rfl rfl ?_
  refine w_gf (t := .ref (77)) (v := .ref (77)) rfl rfl rfl sp0 rfl rfl rfl ?_
  refine w_gf (t := .ref (81)) (v := .ref (81)) rfl rfl rfl sp77 rfl rfl rfl ?_
  refine w_iload_n rfl rfl rfl ?_
  refine w_iaload rfl rfl sp81 rfl ⟨by omega, by omega⟩ rfl ?_
  refine w_iconst (x := Int32.ofNat 2) rfl rfl (by decide) ?_
  refine w_ic_eq (t := 70) (f := 66) rfl rfl rfl (fun c63 => ?_) (fun c63 => ?_)
  · refine w_iconst (x := Int32.ofNat 0) rfl rfl (by decide) ?_
    exact w_bret rfl (by decide) (by first | exact (if_pos c63).symm | exact (if_neg (not_not_intro c63)).symm) rfl rfl rfl
  · refine w_iconst (x := Int32.ofNat 1) rfl rfl (by decide) ?_
    refine w_goto (pc' := 71) rfl rfl ?_
    exact w_bret rfl (by decide) (by first | exact (if_pos c63).symm | exact (if_neg (not_not_intro c63)).symm) rfl rfl rfl
theorem d_survivesR {k : Nat} {I : hI} {J : hJ} {R : hR} {T : Nat} (hT : T = 9 ∨ T = 36) (h0 : R 0 3 = T) (hR : R 84 3 = T) {N : Nat → Nat} (t : ctk I T N) {s : Nat} (hs : s < 5) {y : Int32} (hk : 7 ≤ k) : ct k 138 [.ref 0, .int (Int32.ofNat s), .int y] I J R (some (.int (if ¬ (k_su T N s y (I, J)).1 81 s = Int32.ofNat 2 then 1 else 0))) (k_su T N s y (I, J)).1 (k_su T N s y (I, J)).2 R := by
  have d := d_survives (k := k) (J := J) hT h0 t hs (y := y) hk
  rw [am_uR hR] at d
  exact d
def k_fgR (n : Nat) (I : hI) : hI := s_for (fun r I => am_u I 109 r (if r = 0 then Int32.ofNat 1 else Int32.ofNat 0)) n I
theorem k_fgR_s (n : Nat) (I : hI) : k_fgR (n + 1) I = am_u (k_fgR n I) 109 n (if n = 0 then Int32.ofNat 1 else Int32.ofNat 0) := rfl
theorem k_fgR_ne {n a : Nat} {I : hI} (h : a ≠ 109) : k_fgR n I a = I a := by
  induction n with
  | zero => rfl
  | succ n ih => exact (am_u_ne h).trans ih
theorem dl_fgR {k : Nat} {R : hR} {q : Option Value × am_H} {I0 : hI} {J0 : hJ} (Z : wz k 11 none am_c139 32 [.ref 0, .int (Int32.ofNat 1024)] [] (k_fgR 1024 I0) J0 R q) : ∀ (j r : Nat) , r + j = 1024 → wz k 11 none am_c139 2 [.ref 0, .int (Int32.ofNat r)] [] (k_fgR r I0) J0 R q := by
  intro j
  induction j with
  | zero =>
    intro r e
    obtain rfl : 1024 = r := by omega
    refine w_iload_n rfl rfl rfl ?_
    refine w_aload_n rfl rfl rfl ?_
    refine w_gf (t := .ref (109)) (v := .ref (109)) rfl rfl rfl sp0 rfl rfl rfl ?_
    refine w_alen rfl rfl sp109 (by decide) ?_
    refine w_ic_geN (t := 32) (f := 11) rfl rfl rfl (by omega) (by omega) (fun c8 => ?_) (fun c8 => absurd c8 (by omega))
    exact Z
  | succ j ih =>
    intro r e
    refine w_iload_n rfl rfl rfl ?_
    refine w_aload_n rfl rfl rfl ?_
    refine w_gf (t := .ref (109)) (v := .ref (109)) rfl rfl rfl sp0 rfl rfl rfl ?_
    refine w_alen rfl rfl sp109 (by decide) ?_
    refine w_ic_geN (t := 32) (f := 11) rfl rfl rfl (by omega) (by omega) (fun c8 => absurd c8 (by omega)) (fun c8 => ?_)
    refine w_aload_n rfl rfl rfl ?_
    refine w_gf (t := .ref (109)) (v := .ref (109)) rfl rfl rfl sp0 rfl rfl rfl ?_
    refine w_iload_n rfl rfl rfl ?_
    refine w_iload_n rfl rfl rfl ?_
    refine w_if_ne (t := 24) (f := 20) rfl rfl rfl (fun c17 => ?_) (fun c17 => ?_)
    · refine w_iconst (x := Int32.ofNat 0) rfl rfl (by decide) ?_
      refine w_bastore rfl rfl sp109 rfl ⟨by omega, by omega⟩ (by decide) ?_
      refine w_iinc (L' := [_, _]) rfl rfl rfl (am_incN 1) rfl ?_
      refine w_goto (pc' := 2) rfl rfl ?_
      have i1 := ih (r + 1) (by omega)
      rw [k_fgR_s] at i1
      (first | (rw [if_pos ((am_eqN (y := 0) (by omega) (by omega)).mp c17)] at i1; exact i1) | (rw [if_neg (fun z => c17 (by rw [z]; rfl))] at i1; exact i1))
    · refine w_iconst (x := Int32.ofNat 1) rfl rfl (by decide) ?_
      refine w_goto (pc' := 25) rfl rfl ?_
      refine w_bastore rfl rfl sp109 rfl ⟨by omega, by omega⟩ (by decide) ?_
      refine w_iinc (L' := [_, _]) rfl rfl rfl (am_incN 1) rfl ?_
      refine w_goto (pc' := 2) rfl rfl ?_
      have i1 := ih (r + 1) (by omega)
      rw [k_fgR_s] at i1
      (first | (rw [if_pos ((am_eqN (y := 0) (by omega) (by omega)).mp c17)] at i1; exact i1) | (rw [if_neg (fun z => c17 (by rw [z]; rfl))] at i1; exact i1))
theorem d_forgetReached {k : Nat} {I : hI} {J : hJ} {R : hR}  (hk : 1 ≤ k) : ct k 139 [.ref 0] I J R none (k_fgR 1024 I) J R := by
  obtain ⟨k, rfl⟩ : ∃ k', k = k' + 1 := ⟨k - 1, by omega⟩
  refine ct_of (q := am_m139) (o := 11) (rt := none) (co := am_c139) (L := [_, _]) rfl rfl rfl rfl rfl rfl ?_
  refine w_iconst (x := Int32.ofNat 0) rfl rfl (by decide) ?_
  refine w_istore_n (L' := [_, _]) rfl rfl rfl ?_
  refine dl_fgR ?_ 1024 0 (by omega)
  exact w_ret rfl rfl rfl rfl
def k_rfP (x : Int32) (v : Nat) : Prop := x >>> (Int32.ofNat v &&& 31) &&& Int32.ofNat 1 = 0
def k_rfD (x : Int32) (v : Nat) : Decidable (k_rfP x v) := inferInstanceAs (Decidable (_ = _))
def k_rf (x : Int32) (b : Nat) (n : Nat) (I : hI) : hI := s_for (fun v I => @ite _ (k_rfP x v) (k_rfD x v) I (am_u I 109 (b ||| 2 ^ v) (Int32.ofNat 1))) n I
theorem k_rf_1 {x : Int32} {b n : Nat} {I : hI} (h : k_rfP x n) : k_rf x b (n + 1) I = k_rf x b n I := if_pos h
theorem k_rf_0 {x : Int32} {b n : Nat} {I : hI} (h : ¬ k_rfP x n) : k_rf x b (n + 1) I = am_u (k_rf x b n I) 109 (b ||| 2 ^ n) (Int32.ofNat 1) := if_neg h
theorem k_rf_ne {x : Int32} {b n a : Nat} {I : hI} (h : a ≠ 109) : k_rf x b n I a = I a := by
  induction n with
  | zero => rfl
  | succ n ih =>
    by_cases c : k_rfP x n
    · rw [k_rf_1 c]; exact ih
    · rw [k_rf_0 c]; exact (am_u_ne h).trans ih
theorem k_orlt {b v : Nat} (hb : b < 1024) (hv : v < 10) : b ||| 2 ^ v < 1024 := Nat.or_lt_two_pow (n := 10) hb (Nat.pow_lt_pow_right (by decide) hv)
theorem dl_rf {k : Nat} {R : hR} {q : Option Value × am_H} {T : Nat} (hT : T = 9 ∨ T = 36) (h0 : R 0 3 = T) {I0 : hI} {J0 : hJ} {b n : Nat} (hb : b < 1024) (hn : n ≤ 10) (e3 : I0 T 11 = Int32.ofNat n) (Z : wz k 11 none am_c140 44 [.ref 0, .int (Int32.ofNat b), .int (Int32.ofNat n)] [] (k_rf (I0 84 7) b n I0) J0 R q) : ∀ (j r : Nat) , r + j = n → wz k 11 none am_c140 2 [.ref 0, .int (Int32.ofNat b), .int (Int32.ofNat r)] [] (k_rf (I0 84 7) b r I0) J0 R q := by
  intro j
  induction j with
  | zero =>
    intro r e
    obtain rfl : n = r := by omega
    refine w_iload_n rfl rfl rfl ?_
    refine w_aload_n rfl rfl rfl ?_
    refine w_gf (t := .retAddr 0) (v := .ref (T)) rfl rfl rfl sp0 rfl (congrArg Value.ref (by first | exact h0 | exact (am_u_na (by decide)).trans h0)) rfl ?_
    refine w_gf (t := .int 0) (v := .int _) rfl rfl rfl (shT_0 hT) rfl (congrArg Value.int ((congrFun (k_rf_ne (by omega)) _).trans e3)) rfl ?_
    refine w_ic_geN (t := 44) (f := 13) rfl rfl rfl (by omega) (by omega) (fun c10 => ?_) (fun c10 => absurd c10 (by omega))
    exact Z
  | succ j ih =>
    intro r e
    refine w_iload_n rfl rfl rfl ?_
    refine w_aload_n rfl rfl rfl ?_
    refine w_gf (t := .retAddr 0) (v := .ref (T)) rfl rfl rfl sp0 rfl (congrArg Value.ref (by first | exact h0 | exact (am_u_na (by decide)).trans h0)) rfl ?_
    refine w_gf (t := .int 0) (v := .int _) rfl rfl rfl (shT_0 hT) rfl (congrArg Value.int ((congrFun (k_rf_ne (by omega)) _).trans e3)) rfl ?_
    refine w_ic_geN (t := 44) (f := 13) rfl rfl rfl (by omega) (by omega) (fun c10 => absurd c10 (by omega)) (fun c10 => ?_)
    have e7 : k_rf (I0 84 7) b r I0 84 7 = I0 84 7 := congrFun (k_rf_ne (by decide)) 7
    refine w_aload_n rfl rfl rfl ?_
    refine w_gf (t := .ref (84)) (v := .ref (84)) rfl rfl rfl sp0 rfl rfl rfl ?_
    refine w_gf (t := .int 0) (v := .int _) rfl rfl rfl sp84 rfl (congrArg Value.int rfl) rfl ?_
    refine w_iload_n rfl rfl rfl ?_
    refine w_ishr rfl rfl ?_
    refine w_iconst (x := Int32.ofNat 1) rfl rfl (by decide) ?_
    refine w_iand rfl rfl ?_
    refine w_if_eq (t := 38) (f := 27) rfl rfl rfl (fun c24 => ?_) (fun c24 => ?_)
    · refine w_iinc (L' := [_, _, _]) rfl rfl rfl (am_incN 1) rfl ?_
      refine w_goto (pc' := 2) rfl rfl ?_
      (first | (rw [e7] at c24; have i1 := ih (r + 1) (by omega); rw [k_rf_1 c24] at i1; exact i1) | (rw [e7] at c24; have i1 := ih (r + 1) (by omega); rw [k_rf_0 c24] at i1; exact i1))
    · refine w_aload_n rfl rfl rfl ?_
      refine w_gf (t := .ref (109)) (v := .ref (109)) rfl rfl rfl sp0 rfl rfl rfl ?_
      refine w_iload_n rfl rfl rfl ?_
      refine w_iconst (x := Int32.ofNat 1) rfl rfl (by decide) ?_
      refine w_iload_n rfl rfl rfl ?_
      refine w_shlN rfl rfl (by omega) ?_
      refine w_ior rfl rfl ?_
      refine w_iconst (x := Int32.ofNat 1) rfl rfl (by decide) ?_
      refine w_bastore rfl rfl sp109 (am_orN b (2 ^ r)) ⟨(k_orlt hb (by omega)), by omega⟩ (by decide) ?_
      refine w_iinc (L' := [_, _, _]) rfl rfl rfl (am_incN 1) rfl ?_
      refine w_goto (pc' := 2) rfl rfl ?_
      (first | (rw [e7] at c24; have i1 := ih (r + 1) (by omega); rw [k_rf_1 c24] at i1; exact i1) | (rw [e7] at c24; have i1 := ih (r + 1) (by omega); rw [k_rf_0 c24] at i1; exact i1))
theorem d_reachFrom {k : Nat} {I : hI} {J : hJ} {R : hR} {T : Nat} (hT : T = 9 ∨ T = 36) (h0 : R 0 3 = T) {b n : Nat} (hb : b < 1024) (hn : n ≤ 10) (e3 : I T 11 = Int32.ofNat n) (hk : 1 ≤ k) : ct k 140 [.ref 0, .int (Int32.ofNat b)] I J R none (k_rf (I 84 7) b n I) J R := by
  obtain ⟨k, rfl⟩ : ∃ k', k = k' + 1 := ⟨k - 1, by omega⟩
  refine ct_of (q := am_m140) (o := 11) (rt := none) (co := am_c140) (L := [_, _, _]) rfl rfl rfl rfl rfl rfl ?_
  refine w_iconst (x := Int32.ofNat 0) rfl rfl (by decide) ?_
  refine w_istore_n (L' := [_, _, _]) rfl rfl rfl ?_
  refine dl_rf hT h0 hb hn e3 ?_ n 0 (by omega)
  exact w_ret rfl rfl rfl rfl
def k_nxt (A b : Nat) : Nat := ((4294967296 - A + b) % 4294967296) &&& A
theorem k_nxt_le (A b : Nat) : k_nxt A b ≤ A := Nat.and_le_right
theorem k_nxt_e {A b : Nat} (hA : A < 1024) (hb : b < 1024) : (Int32.ofNat b - Int32.ofNat A) &&& Int32.ofNat A = Int32.ofNat (k_nxt A b) := by
  apply Int32.toBitVec_inj.mp
  show (BitVec.ofNat 32 b - BitVec.ofNat 32 A) &&& BitVec.ofNat 32 A = BitVec.ofNat 32 (k_nxt A b)
  apply BitVec.eq_of_toNat_eq
  have h := k_nxt_le A b
  rw [BitVec.toNat_and, BitVec.toNat_sub, BitVec.toNat_ofNat, BitVec.toNat_ofNat, BitVec.toNat_ofNat, Nat.mod_eq_of_lt (show A < 2 ^ 32 by omega), Nat.mod_eq_of_lt (show b < 2 ^ 32 by omega), Nat.mod_eq_of_lt (show k_nxt A b < 2 ^ 32 by omega)]
  rfl
def k_pc (n : Nat) : Nat := (List.range 10).foldl (fun a i => a + n / 2 ^ i % 2) 0
set_option maxRecDepth 16384 in
theorem k_pc_le : ∀ n, n < 1024 → k_pc n ≤ 10 := by decide +kernel
/-- the sets of one size, in their order -/
def k_fiw (T : Nat) (N : Nat → Nat) (s A y : Nat) : Nat → Nat → hI × hJ → Option Nat × hI × hJ
  | 0, _, p => (none, p)
  | j + 1, b, p => if p.1 109 b = 0 ∨ ¬ k_pc b = y then k_fiw T N s A y j (k_nxt A b) p else if (k_su T N s (Int32.ofNat b) p).1 81 s = Int32.ofNat 2 then k_fiw T N s A y j (k_nxt A b) (k_rf ((k_su T N s (Int32.ofNat b) p).1 84 7) b (N 3) (k_su T N s (Int32.ofNat b) p).1, (k_su T N s (Int32.ofNat b) p).2) else (some b, k_su T N s (Int32.ofNat b) p)
theorem k_fiw_1 {T : Nat} {N : Nat → Nat} {s A y j b : Nat} {p : hI × hJ} (h : p.1 109 b = 0 ∨ ¬ k_pc b = y) : k_fiw T N s A y (j + 1) b p = k_fiw T N s A y j (k_nxt A b) p := if_pos h
theorem k_fiw_2 {T : Nat} {N : Nat → Nat} {s A y j b : Nat} {p : hI × hJ} (h : ¬ (p.1 109 b = 0 ∨ ¬ k_pc b = y)) (g : (k_su T N s (Int32.ofNat b) p).1 81 s = Int32.ofNat 2) : k_fiw T N s A y (j + 1) b p = k_fiw T N s A y j (k_nxt A b) (k_rf ((k_su T N s (Int32.ofNat b) p).1 84 7) b (N 3) (k_su T N s (Int32.ofNat b) p).1, (k_su T N s (Int32.ofNat b) p).2) := (if_neg h).trans (if_pos g)
theorem k_fiw_3 {T : Nat} {N : Nat → Nat} {s A y j b : Nat} {p : hI × hJ} (h : ¬ (p.1 109 b = 0 ∨ ¬ k_pc b = y)) (g : ¬ (k_su T N s (Int32.ofNat b) p).1 81 s = Int32.ofNat 2) : k_fiw T N s A y (j + 1) b p = (some b, k_su T N s (Int32.ofNat b) p) := (if_neg h).trans (if_neg g)
theorem cF_fiw {T : Nat} {N : Nat → Nat} {s A y : Nat} : ∀ (j b : Nat) (p : hI × hJ), cF p.1 (k_fiw T N s A y j b p).2.1 := by
  intro j
  induction j with
  | zero => intro b p; exact cF_rf _
  | succ j ih =>
    intro b p
    by_cases h : p.1 109 b = 0 ∨ ¬ k_pc b = y
    · rw [k_fiw_1 h]; exact ih _ _
    · by_cases g : (k_su T N s (Int32.ofNat b) p).1 81 s = Int32.ofNat 2
      · rw [k_fiw_2 h g]; exact cF_tr (cF_tr cF_su (cF_of fun a h1 h2 => k_rf_ne (by omega))) (ih _ (_, _))
      · rw [k_fiw_3 h g]; exact cF_su
theorem k_fiw_lt {T : Nat} {N : Nat → Nat} {s A y : Nat} (hA : A < 1024) : ∀ (j b : Nat) (p : hI × hJ), b < 1024 → ∀ z, (k_fiw T N s A y j b p).1 = some z → z < 1024 := by
  intro j
  induction j with
  | zero => intro b p hb z h; exact absurd h (by intro h; cases h)
  | succ j ih =>
    intro b p hb z
    have hn := k_nxt_le A b
    by_cases h : p.1 109 b = 0 ∨ ¬ k_pc b = y
    · rw [k_fiw_1 h]; exact ih _ _ (by omega) z
    · by_cases g : (k_su T N s (Int32.ofNat b) p).1 81 s = Int32.ofNat 2
      · rw [k_fiw_2 h g]; exact ih _ _ (by omega) z
      · rw [k_fiw_3 h g]; intro e; cases e; exact hb
def k_fo (T : Nat) (N : Nat → Nat) (s A M : Nat) : Nat → Nat → hI × hJ → Nat × hI × hJ
  | 0, _, p => (A, p)
  | j + 1, y, p => match (k_fiw T N s A y (2 ^ M) 0 p).1 with
    | some b => (b, (k_fiw T N s A y (2 ^ M) 0 p).2)
    | none => k_fo T N s A M j (y + 1) (k_fiw T N s A y (2 ^ M) 0 p).2
theorem k_fo_1 {T : Nat} {N : Nat → Nat} {s A M j y b : Nat} {p : hI × hJ} (h : (k_fiw T N s A y (2 ^ M) 0 p).1 = some b) : k_fo T N s A M (j + 1) y p = (b, (k_fiw T N s A y (2 ^ M) 0 p).2) := by
  show (match (k_fiw T N s A y (2 ^ M) 0 p).1 with
    | some b => (b, (k_fiw T N s A y (2 ^ M) 0 p).2)
    | none => k_fo T N s A M j (y + 1) (k_fiw T N s A y (2 ^ M) 0 p).2) = _
  rw [h]
theorem k_fo_0 {T : Nat} {N : Nat → Nat} {s A M j y : Nat} {p : hI × hJ} (h : (k_fiw T N s A y (2 ^ M) 0 p).1 = none) : k_fo T N s A M (j + 1) y p = k_fo T N s A M j (y + 1) (k_fiw T N s A y (2 ^ M) 0 p).2 := by
  show (match (k_fiw T N s A y (2 ^ M) 0 p).1 with
    | some b => (b, (k_fiw T N s A y (2 ^ M) 0 p).2)
    | none => k_fo T N s A M j (y + 1) (k_fiw T N s A y (2 ^ M) 0 p).2) = _
  rw [h]
theorem d_bitCountN {k : Nat} {I : hI} {J : hJ} {R : hR} {n : Nat} (hn : n < 1024) (hk : 1 ≤ k) : ct k 287 [.int (Int32.ofNat n)] I J R (some (.int (Int32.ofNat (k_pc n)))) I J R := by
  have d := d_bitCount (k := k) (I := I) (J := J) (R := R) (x := Int32.ofNat n) hk
  rw [show k_bc (Int32.ofNat n) = Int32.ofNat (k_pc n) from k_bc_ok n hn] at d
  exact d
theorem dl_fi {k : Nat} {R : hR} {T s A M y : Nat} {N : Nat → Nat} {q : Option Value × am_H} (hT : T = 9 ∨ T = 36) (h0 : R 0 3 = T) (hR : R 84 3 = T) (hs : s < 5) (hA : A < 1024) (hM : M ≤ 10) (hy : y < 1000) (hk : 7 ≤ k) {o9 : Option Nat} {I9 : hI} {J9 : hJ} (Z0 : o9 = none → ∀ (b i : Nat), wz k 11 (some .int) am_c137 123 [.ref 0, .int (Int32.ofNat s), .int (Int32.ofNat A), .int (Int32.ofNat M), .int (Int32.ofNat y), .int (Int32.ofNat b), .int (Int32.ofNat i)] [] I9 J9 R q) (Z1 : ∀ b, o9 = some b → q = (some (.int (Int32.ofNat b)), am_hp I9 J9 R)) : ∀ (j r b : Nat) (I : hI) (J : hJ), r + j = 2 ^ M → b < 1024 → ctk I T N → k_fiw T N s A y j b (I, J) = (o9, I9, J9) → wz k 11 (some .int) am_c137 62 [.ref 0, .int (Int32.ofNat s), .int (Int32.ofNat A), .int (Int32.ofNat M), .int (Int32.ofNat y), .int (Int32.ofNat b), .int (Int32.ofNat r)] [] I J R q := by
  have hP : 2 ^ M ≤ 1024 := Nat.pow_le_pow_right (n := 2) (by decide) hM
  intro j
  induction j with
  | zero =>
    intro r b I J e1 hb t e2
    obtain rfl : none = o9 := congrArg Prod.fst e2
    obtain rfl : I = I9 := congrArg (fun z => z.2.1) e2
    obtain rfl : J = J9 := congrArg (fun z => z.2.2) e2
    refine w_iload rfl rfl rfl ?_
    refine w_iconst (x := Int32.ofNat 1) rfl rfl (by decide) ?_
    refine w_iload_n rfl rfl rfl ?_
    refine w_shlN rfl rfl (by omega) ?_
    refine w_ic_geN (t := 123) (f := 70) rfl rfl rfl (by omega) (by omega) (fun c67 => ?_) (fun c67 => absurd c67 (by omega))
    exact Z0 rfl _ _
  | succ j ih =>
    intro r b I J e1 hb t e2
    have hn := k_nxt_le A b
    have hpc := k_pc_le b hb
    refine w_iload rfl rfl rfl ?_
    refine w_iconst (x := Int32.ofNat 1) rfl rfl (by decide) ?_
    refine w_iload_n rfl rfl rfl ?_
    refine w_shlN rfl rfl (by omega) ?_
    refine w_ic_geN (t := 123) (f := 70) rfl rfl rfl (by omega) (by omega) (fun c67 => absurd c67 (by omega)) (fun c67 => ?_)
    refine w_aload_n rfl rfl rfl ?_
    refine w_gf (t := .ref (109)) (v := .ref (109)) rfl rfl rfl sp0 rfl rfl rfl ?_
    refine w_iload rfl rfl rfl ?_
    refine w_baload rfl rfl sp109 rfl ⟨by omega, by omega⟩ rfl ?_
    refine w_if_eq (t := 109) (f := 80) rfl rfl rfl (fun c77 => ?_) (fun c77 => ?_)
    · refine w_iload rfl rfl rfl ?_
      refine w_iload_n rfl rfl rfl ?_
      refine w_isub rfl rfl ?_
      refine w_iload_n rfl rfl rfl ?_
      refine w_iand rfl rfl ?_
      refine w_istore (L' := [_, _, _, _, _, _, _]) rfl rfl rfl ?_
      refine w_iinc (L' := [_, _, _, _, _, _, _]) rfl rfl rfl (am_incN 1) rfl ?_
      refine w_goto (pc' := 62) rfl rfl ?_
      rw [k_nxt_e hA hb]
      first
        | (rw [k_fiw_2 (fun z => z.elim c77 (fun z => z c87)) (Decidable.of_not_not c97)] at e2; exact ih (r + 1) _ _ _ (by omega) (by omega) (ctk_F hT (cF_tr cF_su (cF_of fun a h1 h2 => k_rf_ne (by omega))) t) e2)
        | (rw [k_fiw_1 (Or.inr c87)] at e2; exact ih (r + 1) _ _ _ (by omega) (by omega) t e2)
        | (rw [k_fiw_1 (Or.inl c77)] at e2; exact ih (r + 1) _ _ _ (by omega) (by omega) t e2)
    · refine w_iload rfl rfl rfl ?_
      refine w_cs (q := am_m287) (na := 1) (as := [_]) (st' := [_]) rfl rfl rfl rfl (by decide) rfl rfl (Nat.le_of_ble_eq_true rfl) rfl rfl rfl (d_bitCountN hb (by omega)) rfl rfl ?_
      refine w_iload rfl rfl rfl ?_
      refine w_ic_neN (t := 109) (f := 90) rfl rfl rfl (by omega) (by omega) (fun c87 => ?_) (fun c87 => ?_)
      · refine w_iload rfl rfl rfl ?_
        refine w_iload_n rfl rfl rfl ?_
        refine w_isub rfl rfl ?_
        refine w_iload_n rfl rfl rfl ?_
        refine w_iand rfl rfl ?_
        refine w_istore (L' := [_, _, _, _, _, _, _]) rfl rfl rfl ?_
        refine w_iinc (L' := [_, _, _, _, _, _, _]) rfl rfl rfl (am_incN 1) rfl ?_
        refine w_goto (pc' := 62) rfl rfl ?_
        rw [k_nxt_e hA hb]
        first
          | (rw [k_fiw_2 (fun z => z.elim c77 (fun z => z c87)) (Decidable.of_not_not c97)] at e2; exact ih (r + 1) _ _ _ (by omega) (by omega) (ctk_F hT (cF_tr cF_su (cF_of fun a h1 h2 => k_rf_ne (by omega))) t) e2)
          | (rw [k_fiw_1 (Or.inr c87)] at e2; exact ih (r + 1) _ _ _ (by omega) (by omega) t e2)
          | (rw [k_fiw_1 (Or.inl c77)] at e2; exact ih (r + 1) _ _ _ (by omega) (by omega) t e2)
      · refine w_aload_n rfl rfl rfl ?_
        refine w_iload_n rfl rfl rfl ?_
        refine w_iload rfl rfl rfl ?_
        refine w_cv (q := am_m138) (as := [_, _]) (rest := []) (st' := [_]) rfl rfl rfl rfl rfl rfl sp0 rfl rfl rfl rfl (d_survivesR hT h0 hR t hs (by omega)) rfl rfl ?_
        refine w_if_eqB (t := 103) (f := 100) rfl rfl rfl (fun c97 => ?_) (fun c97 => ?_)
        · refine w_aload_n rfl rfl rfl ?_
          refine w_iload rfl rfl rfl ?_
          refine w_cv (q := am_m140) (as := [_]) (rest := []) (st' := []) rfl rfl rfl rfl rfl rfl sp0 rfl rfl rfl rfl (d_reachFrom hT h0 hb t.1.2.2 ((ctk_F hT (cF_su (N := N) (s := s) (y := Int32.ofNat b) (p := (I, J))) t).2.1.2.2) (by omega)) rfl rfl ?_
          refine w_iload rfl rfl rfl ?_
          refine w_iload_n rfl rfl rfl ?_
          refine w_isub rfl rfl ?_
          refine w_iload_n rfl rfl rfl ?_
          refine w_iand rfl rfl ?_
          refine w_istore (L' := [_, _, _, _, _, _, _]) rfl rfl rfl ?_
          refine w_iinc (L' := [_, _, _, _, _, _, _]) rfl rfl rfl (am_incN 1) rfl ?_
          refine w_goto (pc' := 62) rfl rfl ?_
          rw [k_nxt_e hA hb]
          first
            | (rw [k_fiw_2 (fun z => z.elim c77 (fun z => z c87)) (Decidable.of_not_not c97)] at e2; exact ih (r + 1) _ _ _ (by omega) (by omega) (ctk_F hT (cF_tr cF_su (cF_of fun a h1 h2 => k_rf_ne (by omega))) t) e2)
            | (rw [k_fiw_1 (Or.inr c87)] at e2; exact ih (r + 1) _ _ _ (by omega) (by omega) t e2)
            | (rw [k_fiw_1 (Or.inl c77)] at e2; exact ih (r + 1) _ _ _ (by omega) (by omega) t e2)
        · rw [k_fiw_3 (fun z => z.elim c77 (fun z => z c87)) c97] at e2
          obtain rfl : some b = o9 := congrArg Prod.fst e2
          obtain rfl : _ = I9 := congrArg (fun z => z.2.1) e2
          obtain rfl : _ = J9 := congrArg (fun z => z.2.2) e2
          rw [Z1 b rfl]
          refine w_iload rfl rfl rfl ?_
          exact w_iret rfl rfl rfl rfl rfl
theorem dl_fo {k : Nat} {R : hR} {T s A M : Nat} {N : Nat → Nat} (hT : T = 9 ∨ T = 36) (h0 : R 0 3 = T) (hR : R 84 3 = T) (hs : s < 5) (hA : A < 1024) (hM : M ≤ 10) (hk : 7 ≤ k) : ∀ (j y : Nat) (u u' : Value) (I : hI) (J : hJ), y + j = M → ctk I T N → wz k 11 (some .int) am_c137 50 [.ref 0, .int (Int32.ofNat s), .int (Int32.ofNat A), .int (Int32.ofNat M), .int (Int32.ofNat y), u, u'] [] I J R (some (.int (Int32.ofNat (k_fo T N s A M j y (I, J)).1)), am_hp (k_fo T N s A M j y (I, J)).2.1 (k_fo T N s A M j y (I, J)).2.2 R) := by
  intro j
  induction j with
  | zero =>
    intro y u u' I J e1 t
    refine w_iload rfl rfl rfl ?_
    refine w_iload_n rfl rfl rfl ?_
    refine w_ic_geN (t := 129) (f := 56) rfl rfl rfl (by omega) (by omega) (fun c53 => ?_) (fun c53 => absurd c53 (by omega))
    refine w_iload_n rfl rfl rfl ?_
    exact w_iret rfl rfl rfl rfl rfl
  | succ j ih =>
    intro y u u' I J e1 t
    refine w_iload rfl rfl rfl ?_
    refine w_iload_n rfl rfl rfl ?_
    refine w_ic_geN (t := 129) (f := 56) rfl rfl rfl (by omega) (by omega) (fun c53 => absurd c53 (by omega)) (fun c53 => ?_)
    refine w_iconst (x := Int32.ofNat 0) rfl rfl (by decide) ?_
    refine w_istore (L' := [_, _, _, _, _, _, _]) rfl rfl rfl ?_
    refine w_iconst (x := Int32.ofNat 0) rfl rfl (by decide) ?_
    refine w_istore (L' := [_, _, _, _, _, _, _]) rfl rfl rfl ?_
    refine dl_fi (o9 := (k_fiw T N s A y (2 ^ M) 0 (I, J)).1) (I9 := (k_fiw T N s A y (2 ^ M) 0 (I, J)).2.1) (J9 := (k_fiw T N s A y (2 ^ M) 0 (I, J)).2.2) hT h0 hR hs hA hM (by omega) hk (fun e b i => ?_) (fun b e => by rw [k_fo_1 e]) (2 ^ M) 0 0 _ _ (by omega) (by omega) t rfl
    refine w_iinc (L' := [_, _, _, _, _, _, _]) rfl rfl rfl (am_incN 1) rfl ?_
    refine w_goto (pc' := 50) rfl rfl ?_
    rw [k_fo_0 e]
    exact ih (y + 1) _ _ _ _ (by omega) (ctk_F hT (cF_fiw _ _ _) t)
def k_voyN (I : hI) (T : Nat) (x a b : Int32) (n : Nat) : Nat := s_for (fun r z => if I (T + 14) r = x ∧ ¬ I (T + 15) r < a ∧ I (T + 15) r < b then z ||| 2 ^ r else z) n 0
theorem k_voyN_s (I : hI) (T : Nat) (x a b : Int32) (n : Nat) : k_voyN I T x a b (n + 1) = if I (T + 14) n = x ∧ ¬ I (T + 15) n < a ∧ I (T + 15) n < b then k_voyN I T x a b n ||| 2 ^ n else k_voyN I T x a b n := rfl
theorem k_voyN_e (I : hI) (T : Nat) (x a b : Int32) : ∀ n, k_voy I T x a b n = Int32.ofNat (k_voyN I T x a b n) ∧ k_voyN I T x a b n < 2 ^ n := by
  intro n
  induction n with
  | zero => exact ⟨rfl, Nat.one_pos⟩
  | succ n ih =>
    rw [k_voyN_s, k_voy_s]
    have h2 : k_voyN I T x a b n < 2 ^ (n + 1) := Nat.lt_of_lt_of_le ih.2 (Nat.pow_le_pow_right (by decide) (by omega))
    split
    · exact ⟨by rw [ih.1, am_orN], Nat.or_lt_two_pow h2 (Nat.pow_lt_pow_right (by decide) (by omega))⟩
    · exact ⟨ih.1, h2⟩
theorem d_voyagesN {k : Nat} {I : hI} {J : hJ} {R : hR} {T : Nat} (hT : T = 9 ∨ T = 36) {x a b : Int32} {n : Nat} (hn : n ≤ 10) (h11 : I T 11 = Int32.ofNat n) (hk : 1 ≤ k) : ct k 105 [.ref T, .int x, .int a, .int b] I J R (some (.int (Int32.ofNat (k_voyN I T x a b n)))) I J R := by
  rw [← (k_voyN_e I T x a b n).1]
  exact d_voyagesOf hT hn h11 hk
def k_fA (T : Nat) (N : Nat → Nat) (s : Nat) (I : hI) : Nat := k_voyN I T (Int32.ofNat s) (I 63 0) (I 63 0 + Int32.ofNat 60) (N 3)
theorem k_fA_lt {T : Nat} {N : Nat → Nat} {s : Nat} {I : hI} (h : N 3 ≤ 10) : k_fA T N s I < 1024 := Nat.lt_of_lt_of_le (k_voyN_e I T _ _ _ (N 3)).2 (Nat.pow_le_pow_right (n := 2) (by decide) h)
def k_few0 (T : Nat) (N : Nat → Nat) (s : Nat) (p : hI × hJ) : hI × hJ := k_su T N s (Int32.ofNat (k_fA T N s p.1)) p
def k_few1 (T : Nat) (N : Nat → Nat) (s : Nat) (p : hI × hJ) : Nat × hI × hJ := k_fo T N s (k_fA T N s p.1) (k_pc (k_fA T N s p.1)) (k_pc (k_fA T N s p.1)) 0 (k_fgR 1024 (k_few0 T N s p).1, (k_few0 T N s p).2)
def k_few (T : Nat) (N : Nat → Nat) (s : Nat) (p : hI × hJ) : Int32 × hI × hJ := if (k_few0 T N s p).1 81 s = Int32.ofNat 2 then (Int32.ofInt (-2), k_few0 T N s p) else (Int32.ofNat (k_few1 T N s p).1, (k_few1 T N s p).2)
theorem k_few_c {T : Nat} {N : Nat → Nat} {s : Nat} {p : hI × hJ} (h : (k_few0 T N s p).1 81 s = Int32.ofNat 2) : k_few T N s p = (Int32.ofInt (-2), k_few0 T N s p) := if_pos h
theorem k_few_o {T : Nat} {N : Nat → Nat} {s : Nat} {p : hI × hJ} (h : ¬ (k_few0 T N s p).1 81 s = Int32.ofNat 2) : k_few T N s p = (Int32.ofNat (k_few1 T N s p).1, (k_few1 T N s p).2) := if_neg h
theorem cF_fo {T : Nat} {N : Nat → Nat} {s A M : Nat} : ∀ (j y : Nat) (p : hI × hJ), cF p.1 (k_fo T N s A M j y p).2.1 := by
  intro j
  induction j with
  | zero => intro y p; exact cF_rf _
  | succ j ih =>
    intro y p
    have h1 := cF_fiw (T := T) (N := N) (s := s) (A := A) (y := y) (2 ^ M) 0 p
    cases e : (k_fiw T N s A y (2 ^ M) 0 p).1 with
    | none => rw [k_fo_0 e]; exact cF_tr h1 (ih _ _)
    | some b => rw [k_fo_1 e]; exact h1
theorem cF_few {T : Nat} {N : Nat → Nat} {s : Nat} {p : hI × hJ} : cF p.1 (k_few T N s p).2.1 := by
  by_cases h : (k_few0 T N s p).1 81 s = Int32.ofNat 2
  · rw [k_few_c h]; exact cF_su
  · rw [k_few_o h]; exact cF_tr (cF_tr cF_su (cF_of fun a h1 h2 => k_fgR_ne (by omega))) (cF_fo _ _ (_, _))
theorem d_fewest {k : Nat} {I : hI} {J : hJ} {R : hR} {T : Nat} (hT : T = 9 ∨ T = 36) (h0 : R 0 3 = T) {N : Nat → Nat} (t : ctk I T N) {s : Nat} (hs : s < 5) (hk : 8 ≤ k) : ct k 137 [.ref 0, .int (Int32.ofNat s)] I J R (some (.int (k_few T N s (I, J)).1)) ((k_few T N s (I, J)).2.1) ((k_few T N s (I, J)).2.2) (am_u R 84 3 T) := by
  obtain ⟨k, rfl⟩ : ∃ k', k = k' + 1 := ⟨k - 1, by omega⟩
  obtain ⟨⟨l1, l2, l3⟩, ⟨e5, e11, e3⟩, rM, tH, sM, ⟨e18, l18⟩, ⟨e21, l21⟩, ⟨e24, l24⟩⟩ := id t
  have hA := k_fA_lt (T := T) (s := s) (I := I) l3
  have hM := k_pc_le _ hA
  refine ct_of (q := am_m137) (o := 11) (rt := (some .int)) (co := am_c137) (L := [_, _, _, _, _, _, _]) rfl rfl rfl rfl rfl rfl ?_
  refine w_aload_n rfl rfl rfl ?_
  refine w_gf (t := .retAddr 0) (v := .ref (T)) rfl rfl rfl sp0 rfl (congrArg Value.ref (by first | exact h0 | exact (am_u_na (by decide)).trans h0)) rfl ?_
  refine w_iload_n rfl rfl rfl ?_
  refine w_aload_n rfl rfl rfl ?_
  refine w_gf (t := .ref (63)) (v := .ref (63)) rfl rfl rfl sp0 rfl rfl rfl ?_
  refine w_gf (t := .int 0) (v := .int _) rfl rfl rfl sp63 rfl (congrArg Value.int rfl) rfl ?_
  refine w_aload_n rfl rfl rfl ?_
  refine w_gf (t := .ref (63)) (v := .ref (63)) rfl rfl rfl sp0 rfl rfl rfl ?_
  refine w_gf (t := .int 0) (v := .int _) rfl rfl rfl sp63 rfl (congrArg Value.int rfl) rfl ?_
  refine w_bipush (x := Int32.ofNat 60) rfl rfl (by decide) ?_
  refine w_iadd rfl rfl ?_
  refine w_cv (q := am_m105) (as := [_, _, _]) (rest := []) (st' := [_]) rfl rfl rfl rfl rfl rfl (shT_0 hT) rfl rfl rfl rfl (d_voyagesN hT l3 e3 (by omega)) rfl rfl ?_
  refine w_istore_n (L' := [_, _, _, _, _, _, _]) rfl rfl rfl ?_
  refine w_aload_n rfl rfl rfl ?_
  refine w_iload_n rfl rfl rfl ?_
  refine w_iload_n rfl rfl rfl ?_
  refine w_cv (q := am_m138) (as := [_, _]) (rest := []) (st' := [_]) rfl rfl rfl rfl rfl rfl sp0 rfl rfl rfl rfl (d_survives hT h0 t hs (by omega)) rfl rfl ?_
  refine w_if_neB (t := 38) (f := 35) rfl rfl rfl (fun c32 => ?_) (fun c32 => ?_)
  · refine w_iload_n rfl rfl rfl ?_
    refine w_cs (q := am_m287) (na := 1) (as := [_]) (st' := [_]) rfl rfl rfl rfl (by decide) rfl rfl (Nat.le_of_ble_eq_true rfl) rfl rfl rfl (d_bitCountN hA (by omega)) rfl rfl ?_
    refine w_istore_n (L' := [_, _, _, _, _, _, _]) rfl rfl rfl ?_
    refine w_aload_n rfl rfl rfl ?_
    refine w_cv (q := am_m139) (as := []) (rest := []) (st' := []) rfl rfl rfl rfl rfl rfl sp0 rfl rfl rfl rfl (d_forgetReached (by omega)) rfl rfl ?_
    refine w_iconst (x := Int32.ofNat 0) rfl rfl (by decide) ?_
    refine w_istore (L' := [_, _, _, _, _, _, _]) rfl rfl rfl ?_
    rw [k_few_o c32]
    exact dl_fo hT ((am_u_na (by decide)).trans h0) am_u_at hs hA hM (by omega) (k_pc (k_fA T N s I)) 0 _ _ _ _ (by omega) (ctk_F hT (cF_tr (cF_su (p := (I, J))) (cF_of fun a h1 h2 => k_fgR_ne (by omega))) t)
  · refine w_bipush (x := Int32.ofInt (-2)) rfl rfl (by decide) ?_
    exact w_iret rfl (by rw [k_few_c (Decidable.of_not_not c32)] <;> rfl) (by rw [k_few_c (Decidable.of_not_not c32)] <;> rfl) (by rw [k_few_c (Decidable.of_not_not c32)] <;> rfl) rfl
theorem d_fewestR {k : Nat} {I : hI} {J : hJ} {R : hR} {T : Nat} (hT : T = 9 ∨ T = 36) (h0 : R 0 3 = T) (hR : R 84 3 = T) {N : Nat → Nat} (t : ctk I T N) {s : Nat} (hs : s < 5) (hk : 8 ≤ k) : ct k 137 [.ref 0, .int (Int32.ofNat s)] I J R (some (.int (k_few T N s (I, J)).1)) (k_few T N s (I, J)).2.1 (k_few T N s (I, J)).2.2 R := by
  have d := d_fewest (k := k) (J := J) hT h0 t hs hk
  rw [am_uR hR] at d
  exact d
def k_poL (T : Nat) (N : Nat → Nat) : Nat → Nat → Int32 → hI × hJ → Int32 × hI × hJ
  | 0, _, a, p => (a, p)
  | j + 1, s, a, p => if (k_few T N s p).1 = Int32.ofInt (-2) then (Int32.ofInt (-2), (k_few T N s p).2) else k_poL T N j (s + 1) (a ||| (k_few T N s p).1) (k_few T N s p).2
theorem k_poL_c {T : Nat} {N : Nat → Nat} {j s : Nat} {a : Int32} {p : hI × hJ} (h : (k_few T N s p).1 = Int32.ofInt (-2)) : k_poL T N (j + 1) s a p = (Int32.ofInt (-2), (k_few T N s p).2) := if_pos h
theorem k_poL_o {T : Nat} {N : Nat → Nat} {j s : Nat} {a : Int32} {p : hI × hJ} (h : ¬ (k_few T N s p).1 = Int32.ofInt (-2)) : k_poL T N (j + 1) s a p = k_poL T N j (s + 1) (a ||| (k_few T N s p).1) (k_few T N s p).2 := if_neg h
theorem dl_po {k : Nat} {R : hR} {T : Nat} {N : Nat → Nat} (hT : T = 9 ∨ T = 36) (h0 : R 0 3 = T) (hR : R 84 3 = T) (hk : 8 ≤ k) : ∀ (j r : Nat) (a : Int32) (u : Value) (I : hI) (J : hJ), r + j = N 2 → ctk I T N → wz k 11 (some .int) am_c136 4 [.ref 0, .int a, .int (Int32.ofNat r), u] [] I J R (some (.int (k_poL T N j r a (I, J)).1), am_hp (k_poL T N j r a (I, J)).2.1 (k_poL T N j r a (I, J)).2.2 R) := by
  intro j
  induction j with
  | zero =>
    intro r a u I J e1 t
    have l2 := t.1.2.1
    have e11 := t.2.1.2.1
    refine w_iload_n rfl rfl rfl ?_
    refine w_aload_n rfl rfl rfl ?_
    refine w_gf (t := .retAddr 0) (v := .ref (T)) rfl rfl rfl sp0 rfl (congrArg Value.ref (by first | exact h0 | exact (am_u_na (by decide)).trans h0)) rfl ?_
    refine w_gf (t := .ref (T + 11)) (v := .ref (T + 11)) rfl rfl rfl (shT_0 hT) rfl rfl rfl ?_
    refine w_gf (t := .int 0) (v := .int _) rfl rfl rfl (shT_11 hT) rfl (congrArg Value.int e11) rfl ?_
    refine w_ic_geN (t := 43) (f := 18) rfl rfl rfl (by omega) (by omega) (fun c15 => ?_) (fun c15 => absurd c15 (by omega))
    refine w_iload_n rfl rfl rfl ?_
    exact w_iret rfl rfl rfl rfl rfl
  | succ j ih =>
    intro r a u I J e1 t
    have l2 := t.1.2.1
    have e11 := t.2.1.2.1
    refine w_iload_n rfl rfl rfl ?_
    refine w_aload_n rfl rfl rfl ?_
    refine w_gf (t := .retAddr 0) (v := .ref (T)) rfl rfl rfl sp0 rfl (congrArg Value.ref (by first | exact h0 | exact (am_u_na (by decide)).trans h0)) rfl ?_
    refine w_gf (t := .ref (T + 11)) (v := .ref (T + 11)) rfl rfl rfl (shT_0 hT) rfl rfl rfl ?_
    refine w_gf (t := .int 0) (v := .int _) rfl rfl rfl (shT_11 hT) rfl (congrArg Value.int e11) rfl ?_
    refine w_ic_geN (t := 43) (f := 18) rfl rfl rfl (by omega) (by omega) (fun c15 => absurd c15 (by omega)) (fun c15 => ?_)
    refine w_aload_n rfl rfl rfl ?_
    refine w_iload_n rfl rfl rfl ?_
    refine w_cv (q := am_m137) (as := [_]) (rest := []) (st' := [_]) rfl rfl rfl rfl rfl rfl sp0 rfl rfl rfl rfl (d_fewestR hT h0 hR t (by omega) (by omega)) rfl rfl ?_
    refine w_istore_n (L' := [_, _, _, _]) rfl rfl rfl ?_
    refine w_iload_n rfl rfl rfl ?_
    refine w_bipush (x := Int32.ofInt (-2)) rfl rfl (by decide) ?_
    refine w_ic_ne (t := 33) (f := 30) rfl rfl rfl (fun c27 => ?_) (fun c27 => ?_)
    · refine w_iload_n rfl rfl rfl ?_
      refine w_iload_n rfl rfl rfl ?_
      refine w_ior rfl rfl ?_
      refine w_istore_n (L' := [_, _, _, _]) rfl rfl rfl ?_
      refine w_iinc (L' := [_, _, _, _]) rfl rfl rfl (am_incN 1) rfl ?_
      refine w_goto (pc' := 4) rfl rfl ?_
      rw [k_poL_o c27]
      exact ih (r + 1) _ _ _ _ (by omega) (ctk_F hT cF_few t)
    · refine w_bipush (x := Int32.ofInt (-2)) rfl rfl (by decide) ?_
      exact w_iret rfl (by rw [k_poL_c c27]) (by rw [k_poL_c c27]) (by rw [k_poL_c c27]) rfl
theorem d_putOff {k : Nat} {I : hI} {J : hJ} {R : hR} {T : Nat} (hT : T = 9 ∨ T = 36) (h0 : R 0 3 = T) {N : Nat → Nat} (t : ctk I T N) {y : Nat} (hy : N 2 = y + 1) (hk : 9 ≤ k) : ct k 136 [.ref 0] I J R (some (.int (k_poL T N (y + 1) 0 (Int32.ofNat 0) (I, J)).1)) ((k_poL T N (y + 1) 0 (Int32.ofNat 0) (I, J)).2.1) ((k_poL T N (y + 1) 0 (Int32.ofNat 0) (I, J)).2.2) (am_u R 84 3 T) := by
  obtain ⟨k, rfl⟩ : ∃ k', k = k' + 1 := ⟨k - 1, by omega⟩
  obtain ⟨⟨l1, l2, l3⟩, ⟨e5, e11, e3⟩, rM, tH, sM, ⟨e18, l18⟩, ⟨e21, l21⟩, ⟨e24, l24⟩⟩ := id t
  refine ct_of (q := am_m136) (o := 11) (rt := (some .int)) (co := am_c136) (L := [_, _, _, _]) rfl rfl rfl rfl rfl rfl ?_
  refine w_iconst (x := Int32.ofNat 0) rfl rfl (by decide) ?_
  refine w_istore_n (L' := [_, _, _, _]) rfl rfl rfl ?_
  refine w_iconst (x := Int32.ofNat 0) rfl rfl (by decide) ?_
  refine w_istore_n (L' := [_, _, _, _]) rfl rfl rfl ?_
  skip
  refine w_iload_n rfl rfl rfl ?_
  refine w_aload_n rfl rfl rfl ?_
  refine w_gf (t := .retAddr 0) (v := .ref (T)) rfl rfl rfl sp0 rfl (congrArg Value.ref (by first | exact h0 | exact (am_u_na (by decide)).trans h0)) rfl ?_
  refine w_gf (t := .ref (T + 11)) (v := .ref (T + 11)) rfl rfl rfl (shT_0 hT) rfl rfl rfl ?_
  refine w_gf (t := .int 0) (v := .int _) rfl rfl rfl (shT_11 hT) rfl (congrArg Value.int e11) rfl ?_
  refine w_ic_geN (t := 43) (f := 18) rfl rfl rfl (by omega) (by omega) (fun c15 => absurd c15 (by omega)) (fun c15 => ?_)
  refine w_aload_n rfl rfl rfl ?_
  refine w_iload_n rfl rfl rfl ?_
  refine w_cv (q := am_m137) (as := [_]) (rest := []) (st' := [_]) rfl rfl rfl rfl rfl rfl sp0 rfl rfl rfl rfl (d_fewest hT h0 t (by omega) (by omega)) rfl rfl ?_
  refine w_istore_n (L' := [_, _, _, _]) rfl rfl rfl ?_
  refine w_iload_n rfl rfl rfl ?_
  refine w_bipush (x := Int32.ofInt (-2)) rfl rfl (by decide) ?_
  refine w_ic_ne (t := 33) (f := 30) rfl rfl rfl (fun c27 => ?_) (fun c27 => ?_)
  · refine w_iload_n rfl rfl rfl ?_
    refine w_iload_n rfl rfl rfl ?_
    refine w_ior rfl rfl ?_
    refine w_istore_n (L' := [_, _, _, _]) rfl rfl rfl ?_
    refine w_iinc (L' := [_, _, _, _]) rfl rfl rfl (am_incN 1) rfl ?_
    refine w_goto (pc' := 4) rfl rfl ?_
    rw [k_poL_o c27]
    exact dl_po hT ((am_u_na (by decide)).trans h0) am_u_at (by omega) y 1 _ _ _ _ (by omega) (ctk_F hT cF_few t)
  · refine w_bipush (x := Int32.ofInt (-2)) rfl rfl (by decide) ?_
    exact w_iret rfl (by rw [k_poL_c c27]) (by rw [k_poL_c c27]) (by rw [k_poL_c c27]) rfl
theorem d_putOff0 {k : Nat} {I : hI} {J : hJ} {R : hR} {T : Nat} (hT : T = 9 ∨ T = 36) (h0 : R 0 3 = T) {N : Nat → Nat} (t : ctk I T N) (hy : N 2 = 0) (hk : 1 ≤ k) : ct k 136 [.ref 0] I J R (some (.int (Int32.ofNat 0))) I J R := by
  obtain ⟨k, rfl⟩ : ∃ k', k = k' + 1 := ⟨k - 1, by omega⟩
  obtain ⟨⟨l1, l2, l3⟩, ⟨e5, e11, e3⟩, rM, tH, sM, ⟨e18, l18⟩, ⟨e21, l21⟩, ⟨e24, l24⟩⟩ := id t
  refine ct_of (q := am_m136) (o := 11) (rt := (some .int)) (co := am_c136) (L := [_, _, _, _]) rfl rfl rfl rfl rfl rfl ?_
  refine w_iconst (x := Int32.ofNat 0) rfl rfl (by decide) ?_
  refine w_istore_n (L' := [_, _, _, _]) rfl rfl rfl ?_
  refine w_iconst (x := Int32.ofNat 0) rfl rfl (by decide) ?_
  refine w_istore_n (L' := [_, _, _, _]) rfl rfl rfl ?_
  refine w_iload_n rfl rfl rfl ?_
  refine w_aload_n rfl rfl rfl ?_
  refine w_gf (t := .retAddr 0) (v := .ref (T)) rfl rfl rfl sp0 rfl (congrArg Value.ref (by first | exact h0 | exact (am_u_na (by decide)).trans h0)) rfl ?_
  refine w_gf (t := .ref (T + 11)) (v := .ref (T + 11)) rfl rfl rfl (shT_0 hT) rfl rfl rfl ?_
  refine w_gf (t := .int 0) (v := .int _) rfl rfl rfl (shT_11 hT) rfl (congrArg Value.int e11) rfl ?_
  refine w_ic_geN (t := 43) (f := 18) rfl rfl rfl (by omega) (by omega) (fun c15 => ?_) (fun c15 => absurd c15 (by omega))
  refine w_iload_n rfl rfl rfl ?_
  exact w_iret rfl rfl rfl rfl rfl
