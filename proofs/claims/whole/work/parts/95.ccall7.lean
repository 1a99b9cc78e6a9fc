/-! The class: calls (seven): what would be lost, evens, ask. -/
theorem sF_ct {S T : Nat} {N : Nat → Nat} {I I' : hI} (hT : T = 9 ∨ T = 36) (hS : S = 63 ∨ S = 70 ∨ S = 77) (h : sF S I I') (t : ctk I T N) : ctk I' T N := ctk_F hT (cF_sF hS h) t
theorem d_dbeginR {k : Nat} {I : hI} {J : hJ} {R : hR} {T : Nat} (hT : T = 9 ∨ T = 36) (hR : R 84 3 = T) {b : Int32} (hk : 1 ≤ k) : ct k 13 [.ref 84, .ref T, .int b] I J R none (k_db I T b) J R := by
  have d := d_dbegin (k := k) (I := I) (J := J) (R := R) (b := b) hT hk
  rw [am_uR hR] at d
  exact d
/-- what working out leaves as it is -/
def wF (I I' : hI) : Prop := ∀ a i, (a < 77 ∨ 87 < a) → a ≠ 95 → I' a i = I a i
theorem wF_rf (I : hI) : wF I I := fun _ _ _ _ => rfl
theorem wF_tr {I I1 I2 : hI} (h : wF I I1) (g : wF I1 I2) : wF I I2 := fun a i x y => (g a i x y).trans (h a i x y)
theorem wF_s {I I' : hI} (h : sF 77 I I') : wF I I' := fun a i h1 h2 => h a i (by omega) (by omega) (by omega)
theorem wF_u {I : hI} {a k : Nat} {x : Int32} (h : a = 84 ∨ a = 95) : wF I (am_u I a k x) := fun b i h1 h2 => am_u_na (by omega)
theorem wF_db {I : hI} {T : Nat} {b : Int32} : wF I (k_db I T b) := by
  have h : ∀ {I : hI} {j : Nat} {x : Int32}, wF I (am_u I 84 j x) := fun {I j x} => wF_u (Or.inl rfl)
  exact wF_tr (wF_tr (wF_tr (wF_tr (wF_tr (wF_tr (wF_tr (wF_tr h h) h) h) h) h) h) h) h
theorem wF_nl {S m e n : Nat} {w : Int32} {I : hI} : wF I (k_nl S m e w n I) := by
  induction n with
  | zero => exact wF_rf I
  | succ n ih =>
    refine wF_tr ih ?_
    show wF _ (k_nlS S m e w n (k_nl S m e w n I))
    unfold k_nlS
    split
    · exact wF_u (Or.inr rfl)
    · exact wF_rf _
theorem cF_wF {I I' : hI} (h : wF I I') : cF I I' := fun a i h1 h2 => h a i (by omega) (by omega)
def k_wiL (T : Nat) (N : Nat → Nat) (m e : Nat) : Nat → Nat → hI × hJ → hI × hJ
  | 0, _, p => p
  | j + 1, i, p => if k_cs p.1 T 77 (N 2) 0 = 0 then p else k_wiL T N m e j (i + 1) (k_nl 77 m e (Int32.ofNat i) (N 2) (k_day T 77 N p).1, (k_day T 77 N p).2)
theorem k_wiL_s (T : Nat) (N : Nat → Nat) (m e j i : Nat) (p : hI × hJ) : k_wiL T N m e (j + 1) i p = if k_cs p.1 T 77 (N 2) 0 = 0 then p else k_wiL T N m e j (i + 1) (k_nl 77 m e (Int32.ofNat i) (N 2) (k_day T 77 N p).1, (k_day T 77 N p).2) := rfl
theorem wF_wiL {T : Nat} {N : Nat → Nat} {m e : Nat} : ∀ (j i : Nat) (p : hI × hJ), wF p.1 (k_wiL T N m e j i p).1 := by
  intro j
  induction j with
  | zero => intro i p; exact wF_rf _
  | succ j ih =>
    intro i p
    rw [k_wiL_s]
    split
    · exact wF_rf _
    · exact wF_tr (wF_tr (wF_s sF_day) wF_nl) (ih (i + 1) _)
def k_wo0 (T : Nat) (N : Nat → Nat) (m e : Nat) (I : hI) : hI := am_u (am_u (k_db (k_begin I 77 T (N 1)) T (Int32.ofNat 1)) 84 11 (Int32.ofNat m)) 84 12 (Int32.ofNat e)
def k_wo1 (T : Nat) (N : Nat → Nat) (m e : Nat) (p : hI × hJ) : hI × hJ := k_wiL T N m e 60 1 (k_wo0 T N m e p.1, am_u p.2 77 1 (p.1 T 17).toInt64)
def k_wol (T : Nat) (N : Nat → Nat) (m : Nat) (j : Nat) (p : hI × hJ) : hI × hJ := s_for (fun e p => k_wo1 T N m e p) j p
theorem k_wol_s (T : Nat) (N : Nat → Nat) (m : Nat) (j : Nat) (p : hI × hJ) : k_wol T N m (j + 1) p = k_wo1 T N m j (k_wol T N m j p) := rfl
theorem wF_wo0 {T : Nat} {N : Nat → Nat} {m e : Nat} {I : hI} : wF I (k_wo0 T N m e I) := wF_tr (wF_tr (wF_tr (wF_s sF_begin) wF_db) (wF_u (Or.inl rfl))) (wF_u (Or.inl rfl))
theorem wF_wo1 {T : Nat} {N : Nat → Nat} {m e : Nat} {p : hI × hJ} : wF p.1 (k_wo1 T N m e p).1 := wF_tr wF_wo0 (wF_wiL _ _ _)
theorem wF_wol {T : Nat} {N : Nat → Nat} {m j : Nat} {p : hI × hJ} : wF p.1 (k_wol T N m j p).1 := by
  induction j with
  | zero => exact wF_rf _
  | succ j ih => exact wF_tr ih wF_wo1
theorem dl_wi {k : Nat} {R : hR} {T m e : Nat} {N : Nat → Nat} {q : Option Value × am_H} (hT : T = 9 ∨ T = 36) (h0 : R 0 3 = T) (hR : R 84 3 = T) (hm : m < 6) (he : e < 10) (hk : 6 ≤ k) {I9 : hI} {J9 : hJ} (Z : ∀ u : Value, wz k 11 none am_c152 123 [.ref 0, .int (Int32.ofNat m), .int (Int32.ofNat e), u] [] I9 J9 R q) : ∀ (j r : Nat) (I : hI) (J : hJ), r + j = 61 → ctk I T N → (k_wiL T N m e j r (I, J)) = (I9, J9) → wz k 11 none am_c152 62 [.ref 0, .int (Int32.ofNat m), .int (Int32.ofNat e), .int (Int32.ofNat r)] [] I J R q := by
  intro j
  induction j with
  | zero =>
    intro r I J e1 t e2
    obtain rfl : I = I9 := congrArg Prod.fst e2
    obtain rfl : J = J9 := congrArg Prod.snd e2
    refine w_iload_n rfl rfl rfl ?_
    refine w_bipush (x := Int32.ofNat 60) rfl rfl (by decide) ?_
    refine w_ic_gtN (t := 123) (f := 68) rfl rfl rfl (by omega) (by omega) (fun c65 => ?_) (fun c65 => absurd c65 (by omega))
    exact Z _
  | succ j ih =>
    intro r I J e1 t e2
    have t1 : ctk (k_day T 77 N (I, J)).1 T N := ctk_F hT (cF_day (Or.inr (Or.inr rfl))) t
    have f11 := t1.2.1.2.1
    refine w_iload_n rfl rfl rfl ?_
    refine w_bipush (x := Int32.ofNat 60) rfl rfl (by decide) ?_
    refine w_ic_gtN (t := 123) (f := 68) rfl rfl rfl (by omega) (by omega) (fun c65 => absurd c65 (by omega)) (fun c65 => ?_)
    refine w_aload_n rfl rfl rfl ?_
    refine w_gf (t := .ref (84)) (v := .ref (84)) rfl rfl rfl sp0 rfl rfl rfl ?_
    refine w_aload_n rfl rfl rfl ?_
    refine w_gf (t := .ref (77)) (v := .ref (77)) rfl rfl rfl sp0 rfl rfl rfl ?_
    refine w_cv (q := am_m16) (as := [_]) (rest := []) (st' := [_]) rfl rfl rfl rfl rfl rfl sp84 rfl rfl rfl rfl (d_canSail hT hR (Or.inr (Or.inr rfl)) t.1.2.1 t.2.1.2.1 (by omega)) rfl rfl ?_
    refine w_if_eq (t := 123) (f := 82) rfl rfl rfl (fun c79 => ?_) (fun c79 => ?_)
    · rw [k_wiL_s, if_pos c79] at e2
      obtain rfl : I = I9 := congrArg Prod.fst e2
      obtain rfl : J = J9 := congrArg Prod.snd e2
      exact Z _
    · refine w_aload_n rfl rfl rfl ?_
      refine w_gf (t := .ref (84)) (v := .ref (84)) rfl rfl rfl sp0 rfl rfl rfl ?_
      refine w_aload_n rfl rfl rfl ?_
      refine w_gf (t := .ref (77)) (v := .ref (77)) rfl rfl rfl sp0 rfl rfl rfl ?_
      refine w_cv (q := am_m15) (as := [_]) (rest := []) (st' := []) rfl rfl rfl rfl rfl rfl sp84 rfl rfl rfl rfl (d_pass hT hR (Or.inr (Or.inr rfl)) t (by omega)) rfl rfl ?_
      refine w_aload_n rfl rfl rfl ?_
      refine w_gf (t := .ref (88)) (v := .ref (88)) rfl rfl rfl sp0 rfl rfl rfl ?_
      refine w_iload_n rfl rfl rfl ?_
      refine w_iload_n rfl rfl rfl ?_
      refine w_iload_n rfl rfl rfl ?_
      refine w_aload_n rfl rfl rfl ?_
      refine w_gf (t := .ref (77)) (v := .ref (77)) rfl rfl rfl sp0 rfl rfl rfl ?_
      refine w_aload_n rfl rfl rfl ?_
      refine w_gf (t := .retAddr 0) (v := .ref (T)) rfl rfl rfl sp0 rfl (congrArg Value.ref (by first | exact h0 | exact (am_u_na (by decide)).trans h0)) rfl ?_
      refine w_gf (t := .ref (T + 11)) (v := .ref (T + 11)) rfl rfl rfl (shT_0 hT) rfl rfl rfl ?_
      refine w_gf (t := .int 0) (v := .int _) rfl rfl rfl (shT_11 hT) rfl (congrArg Value.int f11) rfl ?_
      refine w_cv (q := am_m57) (as := [_, _, _, _, _]) (rest := []) (st' := []) rfl rfl rfl rfl rfl rfl sp88 rfl rfl rfl rfl (d_noteLosses (Or.inr (Or.inr rfl)) hm he t.1.2.1 (by omega)) rfl rfl ?_
      refine w_iinc (L' := [_, _, _, _]) rfl rfl rfl (am_incN 1) rfl ?_
      refine w_goto (pc' := 62) rfl rfl ?_
      rw [k_wiL_s, if_neg c79] at e2
      exact ih (r + 1) _ _ (by omega) (ctk_F hT (cF_wF wF_nl) t1) e2
theorem dl_wol {k : Nat} {R : hR} {T m : Nat} {N : Nat → Nat} {q : Option Value × am_H} (hT : T = 9 ∨ T = 36) (h0 : R 0 3 = T) (hR : R 84 3 = T) (hm : m < 6) (hk : 6 ≤ k) {p0 : hI × hJ} (t0 : ctk p0.1 T N) (Z : ∀ u : Value, wz k 11 none am_c152 129 [.ref 0, .int (Int32.ofNat m), .int (Int32.ofNat 10), u] [] (k_wol T N m 10 p0).1 (k_wol T N m 10 p0).2 R q) : ∀ (j r : Nat) (u : Value), r + j = 10 → wz k 11 none am_c152 15 [.ref 0, .int (Int32.ofNat m), .int (Int32.ofNat r), u] [] (k_wol T N m r p0).1 (k_wol T N m r p0).2 R q := by
  intro j
  induction j with
  | zero =>
    intro r u e1
    obtain rfl : 10 = r := by omega
    refine w_iload_n rfl rfl rfl ?_
    refine w_bipush (x := Int32.ofNat 10) rfl rfl (by decide) ?_
    refine w_ic_geN (t := 129) (f := 21) rfl rfl rfl (by omega) (by omega) (fun c18 => ?_) (fun c18 => absurd c18 (by omega))
    exact Z _
  | succ j ih =>
    intro r u e1
    have t : ctk (k_wol T N m r p0).1 T N := ctk_F hT (cF_wF wF_wol) t0
    have ih1 := fun u => ih (r + 1) u (by omega)
    rw [k_wol_s] at ih1
    revert t ih1
    generalize k_wol T N m r p0 = p
    intro t ih1
    refine w_iload_n rfl rfl rfl ?_
    refine w_bipush (x := Int32.ofNat 10) rfl rfl (by decide) ?_
    refine w_ic_geN (t := 129) (f := 21) rfl rfl rfl (by omega) (by omega) (fun c18 => absurd c18 (by omega)) (fun c18 => ?_)
    refine w_aload_n rfl rfl rfl ?_
    refine w_gf (t := .ref (77)) (v := .ref (77)) rfl rfl rfl sp0 rfl rfl rfl ?_
    refine w_aload_n rfl rfl rfl ?_
    refine w_gf (t := .retAddr 0) (v := .ref (T)) rfl rfl rfl sp0 rfl (congrArg Value.ref (by first | exact h0 | exact (am_u_na (by decide)).trans h0)) rfl ?_
    refine w_cv (q := am_m64) (as := [_]) (rest := []) (st' := []) rfl rfl rfl rfl rfl rfl sp77 rfl rfl rfl rfl (d_begin (Or.inr (Or.inr rfl)) hT t.1.1 t.2.1.1 (by omega)) rfl rfl ?_
    refine w_aload_n rfl rfl rfl ?_
    refine w_gf (t := .ref (84)) (v := .ref (84)) rfl rfl rfl sp0 rfl rfl rfl ?_
    refine w_aload_n rfl rfl rfl ?_
    refine w_gf (t := .retAddr 0) (v := .ref (T)) rfl rfl rfl sp0 rfl (congrArg Value.ref (by first | exact h0 | exact (am_u_na (by decide)).trans h0)) rfl ?_
    refine w_iconst (x := Int32.ofNat 1) rfl rfl (by decide) ?_
    refine w_cv (q := am_m13) (as := [_, _]) (rest := []) (st' := []) rfl rfl rfl rfl rfl rfl sp84 rfl rfl rfl rfl (d_dbeginR hT hR (by omega)) rfl rfl ?_
    refine w_aload_n rfl rfl rfl ?_
    refine w_gf (t := .ref (84)) (v := .ref (84)) rfl rfl rfl sp0 rfl rfl rfl ?_
    refine w_iload_n rfl rfl rfl ?_
    refine w_pf rfl rfl rfl sp84 rfl rfl rfl ?_
    refine w_aload_n rfl rfl rfl ?_
    refine w_gf (t := .ref (84)) (v := .ref (84)) rfl rfl rfl sp0 rfl rfl rfl ?_
    refine w_iload_n rfl rfl rfl ?_
    refine w_pf rfl rfl rfl sp84 rfl rfl rfl ?_
    refine w_iconst (x := Int32.ofNat 1) rfl rfl (by decide) ?_
    refine w_istore_n (L' := [_, _, _, _]) rfl rfl rfl ?_
    refine dl_wi hT h0 hR hm (by omega) (by omega) (fun u => ?_) 60 1 _ _ (by omega) (ctk_F hT (cF_wF wF_wo0) t) (show k_wiL T N m r 60 1 (k_wo0 T N m r p.1, am_u p.2 77 1 (p.1 T 17).toInt64) = ((k_wo1 T N m r p).1, (k_wo1 T N m r p).2) from rfl)
    refine w_iinc (L' := [_, _, _, _]) rfl rfl rfl (am_incN 1) rfl ?_
    refine w_goto (pc' := 15) rfl rfl ?_
    exact ih1 _
def k_woP (T : Nat) (N : Nat → Nat) (m : Nat) (p : hI × hJ) : hI × hJ := if p.1 94 m = 0 then (am_u (k_wol T N m 10 p).1 94 m (Int32.ofNat 1), (k_wol T N m 10 p).2) else p
def k_woR (R : hR) (I : hI) (T m : Nat) : hR := if I 94 m = 0 then am_u R 84 3 T else R
theorem k_woP1 {T : Nat} {N : Nat → Nat} {m : Nat} {p : hI × hJ} (h : p.1 94 m = 0) : k_woP T N m p = (am_u (k_wol T N m 10 p).1 94 m (Int32.ofNat 1), (k_wol T N m 10 p).2) := if_pos h
theorem k_woP0 {T : Nat} {N : Nat → Nat} {m : Nat} {p : hI × hJ} (h : ¬ p.1 94 m = 0) : k_woP T N m p = p := if_neg h
theorem d_wol1 {k : Nat} {I : hI} {J : hJ} {R : hR} {T : Nat} (hT : T = 9 ∨ T = 36) (h0 : R 0 3 = T) {N : Nat → Nat} (t : ctk I T N) {m : Nat} (hm : m < 6) (h94 : I 94 m = 0) (hk : 7 ≤ k) : ct k 152 [.ref 0, .int (Int32.ofNat m)] I J R none (am_u (k_wol T N m 10 (I, J)).1 94 m (Int32.ofNat 1)) ((k_wol T N m 10 (I, J)).2) (am_u R 84 3 T) := by
  obtain ⟨k, rfl⟩ : ∃ k', k = k' + 1 := ⟨k - 1, by omega⟩
  refine ct_of (q := am_m152) (o := 11) (rt := none) (co := am_c152) (L := [_, _, _, _]) rfl rfl rfl rfl rfl rfl ?_
  refine w_aload_n rfl rfl rfl ?_
  refine w_gf (t := .ref (88)) (v := .ref (88)) rfl rfl rfl sp0 rfl rfl rfl ?_
  refine w_gf (t := .ref (94)) (v := .ref (94)) rfl rfl rfl sp88 rfl rfl rfl ?_
  refine w_iload_n rfl rfl rfl ?_
  refine w_baload rfl rfl sp94 rfl ⟨by omega, by omega⟩ rfl ?_
  refine w_if_eq (t := 13) (f := 12) rfl rfl rfl (fun c9 => ?_) (fun c9 => absurd c9 (not_not_intro h94))
  refine w_iconst (x := Int32.ofNat 0) rfl rfl (by decide) ?_
  refine w_istore_n (L' := [_, _, _, _]) rfl rfl rfl ?_
  skip
  refine w_iload_n rfl rfl rfl ?_
  refine w_bipush (x := Int32.ofNat 10) rfl rfl (by decide) ?_
  refine w_ic_geN (t := 129) (f := 21) rfl rfl rfl (by omega) (by omega) (fun c18 => absurd c18 (by omega)) (fun c18 => ?_)
  refine w_aload_n rfl rfl rfl ?_
  refine w_gf (t := .ref (77)) (v := .ref (77)) rfl rfl rfl sp0 rfl rfl rfl ?_
  refine w_aload_n rfl rfl rfl ?_
  refine w_gf (t := .retAddr 0) (v := .ref (T)) rfl rfl rfl sp0 rfl (congrArg Value.ref (by first | exact h0 | exact (am_u_na (by decide)).trans h0)) rfl ?_
  refine w_cv (q := am_m64) (as := [_]) (rest := []) (st' := []) rfl rfl rfl rfl rfl rfl sp77 rfl rfl rfl rfl (d_begin (Or.inr (Or.inr rfl)) hT t.1.1 t.2.1.1 (by omega)) rfl rfl ?_
  refine w_aload_n rfl rfl rfl ?_
  refine w_gf (t := .ref (84)) (v := .ref (84)) rfl rfl rfl sp0 rfl rfl rfl ?_
  refine w_aload_n rfl rfl rfl ?_
  refine w_gf (t := .retAddr 0) (v := .ref (T)) rfl rfl rfl sp0 rfl (congrArg Value.ref (by first | exact h0 | exact (am_u_na (by decide)).trans h0)) rfl ?_
  refine w_iconst (x := Int32.ofNat 1) rfl rfl (by decide) ?_
  refine w_cv (q := am_m13) (as := [_, _]) (rest := []) (st' := []) rfl rfl rfl rfl rfl rfl sp84 rfl rfl rfl rfl (d_dbegin hT (by omega)) rfl rfl ?_
  refine w_aload_n rfl rfl rfl ?_
  refine w_gf (t := .ref (84)) (v := .ref (84)) rfl rfl rfl sp0 rfl rfl rfl ?_
  refine w_iload_n rfl rfl rfl ?_
  refine w_pf rfl rfl rfl sp84 rfl rfl rfl ?_
  refine w_aload_n rfl rfl rfl ?_
  refine w_gf (t := .ref (84)) (v := .ref (84)) rfl rfl rfl sp0 rfl rfl rfl ?_
  refine w_iload_n rfl rfl rfl ?_
  refine w_pf rfl rfl rfl sp84 rfl rfl rfl ?_
  refine w_iconst (x := Int32.ofNat 1) rfl rfl (by decide) ?_
  refine w_istore_n (L' := [_, _, _, _]) rfl rfl rfl ?_
  refine dl_wi hT ((am_u_na (by decide)).trans h0) am_u_at hm (by omega) (by omega) (fun u => ?_) 60 1 _ _ (by omega) (ctk_F hT (cF_wF wF_wo0) t) (show k_wiL T N m 0 60 1 (k_wo0 T N m 0 I, am_u J 77 1 (I T 17).toInt64) = ((k_wol T N m 1 (I, J)).1, (k_wol T N m 1 (I, J)).2) from rfl)
  refine w_iinc (L' := [_, _, _, _]) rfl rfl rfl (am_incN 1) rfl ?_
  refine w_goto (pc' := 15) rfl rfl ?_
  refine dl_wol (p0 := (I, J)) hT ((am_u_na (by decide)).trans h0) am_u_at hm (by omega) t (fun u => ?_) 9 1 _ (by omega)
  refine w_aload_n rfl rfl rfl ?_
  refine w_gf (t := .ref (88)) (v := .ref (88)) rfl rfl rfl sp0 rfl rfl rfl ?_
  refine w_gf (t := .ref (94)) (v := .ref (94)) rfl rfl rfl sp88 rfl rfl rfl ?_
  refine w_iload_n rfl rfl rfl ?_
  refine w_iconst (x := Int32.ofNat 1) rfl rfl (by decide) ?_
  refine w_bastore rfl rfl sp94 rfl ⟨by omega, by omega⟩ (by decide) ?_
  exact w_ret rfl rfl rfl rfl
theorem d_wol0 {k : Nat} {I : hI} {J : hJ} {R : hR} {m : Nat} (hm : m < 6) (h94 : ¬ I 94 m = 0) (hk : 7 ≤ k) : ct k 152 [.ref 0, .int (Int32.ofNat m)] I J R none I J R := by
  obtain ⟨k, rfl⟩ : ∃ k', k = k' + 1 := ⟨k - 1, by omega⟩
  refine ct_of (q := am_m152) (o := 11) (rt := none) (co := am_c152) (L := [_, _, _, _]) rfl rfl rfl rfl rfl rfl ?_
  refine w_aload_n rfl rfl rfl ?_
  refine w_gf (t := .ref (88)) (v := .ref (88)) rfl rfl rfl sp0 rfl rfl rfl ?_
  refine w_gf (t := .ref (94)) (v := .ref (94)) rfl rfl rfl sp88 rfl rfl rfl ?_
  refine w_iload_n rfl rfl rfl ?_
  refine w_baload rfl rfl sp94 rfl ⟨by omega, by omega⟩ rfl ?_
  refine w_if_eq (t := 13) (f := 12) rfl rfl rfl (fun c9 => absurd c9 h94) (fun c9 => ?_)
  exact w_ret rfl rfl rfl rfl
theorem d_workOut {k : Nat} {I : hI} {J : hJ} {R : hR} {T : Nat} (hT : T = 9 ∨ T = 36) (h0 : R 0 3 = T) {N : Nat → Nat} (t : ctk I T N) {m : Nat} (hm : m < 6) (hk : 7 ≤ k) : ct k 152 [.ref 0, .int (Int32.ofNat m)] I J R none (k_woP T N m (I, J)).1 (k_woP T N m (I, J)).2 (k_woR R I T m) := by
  unfold k_woR
  by_cases h : I 94 m = 0
  · rw [if_pos h, k_woP1 h]; exact d_wol1 hT h0 t hm h hk
  · rw [if_neg h, k_woP0 h]; exact d_wol0 hm h hk
theorem k_woP_f {T : Nat} {N : Nat → Nat} {m : Nat} {p : hI × hJ} : ∀ a i, (a < 77 ∨ 87 < a) → a ≠ 95 → a ≠ 94 → (k_woP T N m p).1 a i = p.1 a i := by
  intro a i h1 h2 h3
  unfold k_woP
  split
  · exact (am_u_na h3).trans (wF_wol a i h1 h2)
  · rfl
theorem k_woP_t {T : Nat} {N : Nat → Nat} {m : Nat} {p : hI × hJ} (hT : T = 9 ∨ T = 36) (t : ctk p.1 T N) : ctk (k_woP T N m p).1 T N := ctk_F hT (fun a i h1 h2 => k_woP_f a i (by omega) (by omega) (by omega)) t
theorem k_woP_v {T : Nat} {N : Nat → Nat} {m K : Nat} {p : hI × hJ} (v : svk p.1 K) : svk (k_woP T N m p).1 K := svk_F (funext fun i => k_woP_f 92 i (by omega) (by omega) (by omega)) (funext fun i => k_woP_f 90 i (by omega) (by omega) (by omega)) v
theorem k_woP_k {T : Nat} {N : Nat → Nat} {m : Nat} {p : hI × hJ} : k_kn (k_woP T N m p).1 = k_kn p.1 := by
  unfold k_kn; rw [k_woP_f 88 0 (by omega) (by omega) (by omega), k_woP_f 88 1 (by omega) (by omega) (by omega)]
theorem k_woR_0 {R : hR} {I : hI} {T m : Nat} (h0 : R 0 3 = T) : k_woR R I T m 0 3 = T := by
  unfold k_woR; split
  · exact (am_u_na (by decide)).trans h0
  · exact h0
def k_evI (T : Nat) (N : Nat → Nat) (m K : Nat) (p : hI × hJ) : hI := k_ss K (k_woP T N m p).1
theorem d_evens {k : Nat} {I : hI} {J : hJ} {R : hR} {T : Nat} (hT : T = 9 ∨ T = 36) (h0 : R 0 3 = T) {N : Nat → Nat} (t : ctk I T N) (m0 : I (T + 1) 1 = Int32.ofNat (N 0)) (l0 : N 0 ≤ 6) {K : Nat} (v : svk I K) (hK : k_kn I = Int32.ofNat K) {m : Nat} (hm : m < N 0) (hk : 8 ≤ k) : ct k 150 [.ref 0, .int (Int32.ofNat m)] I J R (some (.int (k_ft (k_evI T N m K (I, J)) m K 10))) (k_evI T N m K (I, J)) ((k_woP T N m (I, J)).2) (k_woR R I T m) := by
  obtain ⟨k, rfl⟩ : ∃ k', k = k' + 1 := ⟨k - 1, by omega⟩
  refine ct_of (q := am_m150) (o := 11) (rt := (some .int)) (co := am_c150) (L := [_, _]) rfl rfl rfl rfl rfl rfl ?_
  refine w_aload_n rfl rfl rfl ?_
  refine w_iload_n rfl rfl rfl ?_
  refine w_cv (q := am_m160) (as := [_]) (rest := []) (st' := [_]) rfl rfl rfl rfl rfl rfl sp0 rfl rfl rfl rfl (d_isMaker hT h0 (by omega)) rfl rfl ?_
  refine w_if_neB (t := 10) (f := 8) rfl rfl rfl (fun c5 => ?_) (fun c5 => absurd c5 (k_isok hm (by omega) m0))
  refine w_aload_n rfl rfl rfl ?_
  refine w_iload_n rfl rfl rfl ?_
  refine w_cv (q := am_m152) (as := [_]) (rest := []) (st' := []) rfl rfl rfl rfl rfl rfl sp0 rfl rfl rfl rfl (d_workOut hT h0 t (by omega) (by omega)) rfl rfl ?_
  refine w_aload_n rfl rfl rfl ?_
  refine w_gf (t := .ref (88)) (v := .ref (88)) rfl rfl rfl sp0 rfl rfl rfl ?_
  refine w_iload_n rfl rfl rfl ?_
  refine w_cv (q := am_m60) (as := [_]) (rest := []) (st' := [_]) rfl rfl rfl rfl rfl rfl sp88 rfl rfl rfl rfl (d_fitting (by omega) (k_woP_v (p := (I, J)) v) (k_woP_k.trans hK) (by omega)) rfl rfl ?_
  exact w_iret rfl rfl rfl rfl rfl
theorem d_evens_no {k : Nat} {I : hI} {J : hJ} {R : hR} {T : Nat} (hT : T = 9 ∨ T = 36) (h0 : R 0 3 = T) {x : Int32} (hx : ¬ (¬ x < 0 ∧ x < I (T + 1) 1)) (hk : 2 ≤ k) : ct k 150 [.ref 0, .int x] I J R (some (.int (Int32.ofInt (-1)))) I J R := by
  obtain ⟨k, rfl⟩ : ∃ k', k = k' + 1 := ⟨k - 1, by omega⟩
  refine ct_of (q := am_m150) (o := 11) (rt := (some .int)) (co := am_c150) (L := [_, _]) rfl rfl rfl rfl rfl rfl ?_
  refine w_aload_n rfl rfl rfl ?_
  refine w_iload_n rfl rfl rfl ?_
  refine w_cv (q := am_m160) (as := [_]) (rest := []) (st' := [_]) rfl rfl rfl rfl rfl rfl sp0 rfl rfl rfl rfl (d_isMaker hT h0 (by omega)) rfl rfl ?_
  refine w_if_neB (t := 10) (f := 8) rfl rfl rfl (fun c5 => absurd c5 hx) (fun c5 => ?_)
  refine w_iconst (x := Int32.ofInt (-1)) rfl rfl (by decide) ?_
  exact w_iret rfl rfl rfl rfl rfl
def k_akS (I : hI) (m : Nat) (f w : Int32) (x : Nat) (p : Int32 × Int32) : Int32 × Int32 := if k_wo I m f w x < p.2 then (Int32.ofNat x, k_wo I m f w x) else p
def k_ak (I : hI) (m : Nat) (f w : Int32) (j : Nat) : Int32 × Int32 := s_for (fun x p => k_akS I m f w (x + 1) p) j (Int32.ofNat 0, k_wo I m f w 0)
theorem k_ak_s (I : hI) (m : Nat) (f w : Int32) (j : Nat) : k_ak I m f w (j + 1) = k_akS I m f w (j + 1) (k_ak I m f w j) := rfl
theorem k_ak_1 {I : hI} {m : Nat} {f w : Int32} {j : Nat} (h : k_wo I m f w (j + 1) < (k_ak I m f w j).2) : k_ak I m f w (j + 1) = (Int32.ofNat (j + 1), k_wo I m f w (j + 1)) := if_pos h
theorem k_ak_0 {I : hI} {m : Nat} {f w : Int32} {j : Nat} (h : ¬ k_wo I m f w (j + 1) < (k_ak I m f w j).2) : k_ak I m f w (j + 1) = k_ak I m f w j := if_neg h
theorem dl_ask {k : Nat} {I : hI} {J : hJ} {R : hR} {T m n w y : Nat} {f : Int32} {q : Option Value × am_H} (hT : T = 9 ∨ T = 36) (h0 : R 0 3 = T) (hm : m < 6) (hy : y + 1 ≤ 5) (e11 : I (T + 11) 1 = Int32.ofNat (y + 1)) (hk : 3 ≤ k) (Z : ∀ u : Value, wz k 11 (some .int) am_c151 132 [.ref 0, .int (Int32.ofNat m), .int (Int32.ofNat n), .int (Int32.ofNat w), .int f, .int (k_ak I m f (Int32.ofNat n) y).1, .int (k_ak I m f (Int32.ofNat n) y).2, .int (Int32.ofNat (y + 1)), u] [] I J R q) : ∀ (j r : Nat) (u : Value), r + j = y → wz k 11 (some .int) am_c151 81 [.ref 0, .int (Int32.ofNat m), .int (Int32.ofNat n), .int (Int32.ofNat w), .int f, .int (k_ak I m f (Int32.ofNat n) r).1, .int (k_ak I m f (Int32.ofNat n) r).2, .int (Int32.ofNat (r + 1)), u] [] I J R q := by
  intro j
  induction j with
  | zero =>
    intro r u e
    obtain rfl : y = r := by omega
    refine w_iload rfl rfl rfl ?_
    refine w_aload_n rfl rfl rfl ?_
    refine w_gf (t := .retAddr 0) (v := .ref (T)) rfl rfl rfl sp0 rfl (congrArg Value.ref (by first | exact h0 | exact (am_u_na (by decide)).trans h0)) rfl ?_
    refine w_gf (t := .ref (T + 11)) (v := .ref (T + 11)) rfl rfl rfl (shT_0 hT) rfl rfl rfl ?_
    refine w_gf (t := .int 0) (v := .int _) rfl rfl rfl (shT_11 hT) rfl (congrArg Value.int e11) rfl ?_
    refine w_ic_geN (t := 132) (f := 96) rfl rfl rfl (by omega) (by omega) (fun c93 => ?_) (fun c93 => absurd c93 (by omega))
    exact Z _
  | succ j ih =>
    intro r u e
    refine w_iload rfl rfl rfl ?_
    refine w_aload_n rfl rfl rfl ?_
    refine w_gf (t := .retAddr 0) (v := .ref (T)) rfl rfl rfl sp0 rfl (congrArg Value.ref (by first | exact h0 | exact (am_u_na (by decide)).trans h0)) rfl ?_
    refine w_gf (t := .ref (T + 11)) (v := .ref (T + 11)) rfl rfl rfl (shT_0 hT) rfl rfl rfl ?_
    refine w_gf (t := .int 0) (v := .int _) rfl rfl rfl (shT_11 hT) rfl (congrArg Value.int e11) rfl ?_
    refine w_ic_geN (t := 132) (f := 96) rfl rfl rfl (by omega) (by omega) (fun c93 => absurd c93 (by omega)) (fun c93 => ?_)
    refine w_aload_n rfl rfl rfl ?_
    refine w_gf (t := .ref (88)) (v := .ref (88)) rfl rfl rfl sp0 rfl rfl rfl ?_
    refine w_iload_n rfl rfl rfl ?_
    refine w_iload rfl rfl rfl ?_
    refine w_iload_n rfl rfl rfl ?_
    refine w_iload rfl rfl rfl ?_
    refine w_cv (q := am_m62) (as := [_, _, _, _]) (rest := []) (st' := [_]) rfl rfl rfl rfl rfl rfl sp88 rfl rfl rfl rfl (d_leftAtWorst hm (by omega) (by omega)) rfl rfl ?_
    refine w_istore (L' := [_, _, _, _, _, _, _, _, _]) rfl rfl rfl ?_
    refine w_iload rfl rfl rfl ?_
    refine w_iload rfl rfl rfl ?_
    refine w_ic_ge (t := 126) (f := 118) rfl rfl rfl (fun c115 => ?_) (fun c115 => ?_)
    · refine w_iinc (L' := [_, _, _, _, _, _, _, _, _]) rfl rfl rfl (am_incN 1) rfl ?_
      refine w_goto (pc' := 81) rfl rfl ?_
      first
        | (have i1 := ih (r + 1) (.int (k_wo I m f (Int32.ofNat n) (r + 1))) (by omega); rw [k_ak_0 c115] at i1; exact i1)
        | (have i1 := ih (r + 1) (.int (k_wo I m f (Int32.ofNat n) (r + 1))) (by omega); rw [k_ak_1 c115] at i1; exact i1)
    · refine w_iload rfl rfl rfl ?_
      refine w_istore (L' := [_, _, _, _, _, _, _, _, _]) rfl rfl rfl ?_
      refine w_iload rfl rfl rfl ?_
      refine w_istore (L' := [_, _, _, _, _, _, _, _, _]) rfl rfl rfl ?_
      refine w_iinc (L' := [_, _, _, _, _, _, _, _, _]) rfl rfl rfl (am_incN 1) rfl ?_
      refine w_goto (pc' := 81) rfl rfl ?_
      first
        | (have i1 := ih (r + 1) (.int (k_wo I m f (Int32.ofNat n) (r + 1))) (by omega); rw [k_ak_0 c115] at i1; exact i1)
        | (have i1 := ih (r + 1) (.int (k_wo I m f (Int32.ofNat n) (r + 1))) (by omega); rw [k_ak_1 c115] at i1; exact i1)
def k_ask (I : hI) (T : Nat) (N : Nat → Nat) (m K n w y : Nat) (J : hJ) : Int32 := if w = 0 then (k_ak (k_evI T N m K (I, J)) m (k_ft (k_evI T N m K (I, J)) m K 10) (Int32.ofNat n) y).1 else (k_ak (k_evI T N m K (I, J)) m (k_ft (k_evI T N m K (I, J)) m K 10) (Int32.ofNat n) y).2
theorem k_ss_f {K : Nat} {I : hI} : ∀ a, a ≠ 93 → k_ss K I a = I a := fun a h => k_ss_ne h
theorem d_ask {k : Nat} {I : hI} {J : hJ} {R : hR} {T : Nat} (hT : T = 9 ∨ T = 36) (h0 : R 0 3 = T) {N : Nat → Nat} (t : ctk I T N) (m0 : I (T + 1) 1 = Int32.ofNat (N 0)) (l0 : N 0 ≤ 6) {K : Nat} (v : svk I K) (hK : k_kn I = Int32.ofNat K) {m : Nat} (hm : m < N 0) {n w : Nat} (n1 : 1 ≤ n) (n2 : n ≤ 60) (hw : w ≤ 1) {y : Nat} (hy : N 2 = y + 1) (hk : 8 ≤ k) : ct k 151 [.ref 0, .int (Int32.ofNat m), .int (Int32.ofNat n), .int (Int32.ofNat w)] I J R (some (.int (k_ask I T N m K n w y J))) (k_evI T N m K (I, J)) ((k_woP T N m (I, J)).2) (k_woR R I T m) := by
  obtain ⟨k, rfl⟩ : ∃ k', k = k' + 1 := ⟨k - 1, by omega⟩
  obtain ⟨⟨l1, l2, l3⟩, ⟨e5, e11, e3⟩, rM, tH, sM, ⟨e18, l18⟩, ⟨e21, l21⟩, ⟨e24, l24⟩⟩ := id t
  have f11 : k_evI T N m K (I, J) (T + 11) 1 = Int32.ofNat (y + 1) := by
    rw [← hy]
    exact (congrFun (k_ss_f (T + 11) (by omega)) 1).trans ((k_woP_f _ _ (by omega) (by omega) (by omega)).trans e11)
  refine ct_of (q := am_m151) (o := 11) (rt := (some .int)) (co := am_c151) (L := [_, _, _, _, _, _, _, _, _]) rfl rfl rfl rfl rfl rfl ?_
  refine w_aload_n rfl rfl rfl ?_
  refine w_iload_n rfl rfl rfl ?_
  refine w_cv (q := am_m160) (as := [_]) (rest := []) (st' := [_]) rfl rfl rfl rfl rfl rfl sp0 rfl rfl rfl rfl (d_isMaker hT h0 (by omega)) rfl rfl ?_
  refine w_if_eqB (t := 28) (f := 8) rfl rfl rfl (fun c5 => absurd c5 (k_isok hm (by omega) m0)) (fun c5 => ?_)
  refine w_iload_n rfl rfl rfl ?_
  refine w_iconst (x := Int32.ofNat 1) rfl rfl (by decide) ?_
  refine w_ic_ltN (t := 28) (f := 13) rfl rfl rfl (by omega) (by omega) (fun c10 => absurd c10 (by omega)) (fun c10 => ?_)
  refine w_iload_n rfl rfl rfl ?_
  refine w_bipush (x := Int32.ofNat 60) rfl rfl (by decide) ?_
  refine w_ic_gtN (t := 28) (f := 19) rfl rfl rfl (by omega) (by omega) (fun c16 => absurd c16 (by omega)) (fun c16 => ?_)
  refine w_iload_n rfl rfl rfl ?_
  refine w_if_lt (t := 28) (f := 23) rfl rfl rfl (fun c20 => absurd c20 (fun c => absurd ((am_ltN (y := 0) (by omega) (by omega)).mp c) (Nat.not_lt_zero w))) (fun c20 => ?_)
  refine w_iload_n rfl rfl rfl ?_
  refine w_iconst (x := Int32.ofNat 1) rfl rfl (by decide) ?_
  refine w_ic_leN (t := 30) (f := 28) rfl rfl rfl (by omega) (by omega) (fun c25 => ?_) (fun c25 => absurd c25 (by omega))
  refine w_aload_n rfl rfl rfl ?_
  refine w_gf (t := .retAddr 0) (v := .ref (T)) rfl rfl rfl sp0 rfl (congrArg Value.ref (by first | exact h0 | exact k_woR_0 h0)) rfl ?_
  refine w_gf (t := .ref (T + 11)) (v := .ref (T + 11)) rfl rfl rfl (shT_0 hT) rfl rfl rfl ?_
  refine w_gf (t := .int 0) (v := .int _) rfl rfl rfl (shT_11 hT) rfl (congrArg Value.int e11) rfl ?_
  refine w_if_ne (t := 46) (f := 43) rfl rfl rfl (fun c40 => ?_) (fun c40 => absurd c40 (fun z => absurd ((am_eqN (y := 0) (by omega) (by omega)).mp z) (by omega)))
  refine w_aload_n rfl rfl rfl ?_
  refine w_iload_n rfl rfl rfl ?_
  refine w_cv (q := am_m152) (as := [_]) (rest := []) (st' := []) rfl rfl rfl rfl rfl rfl sp0 rfl rfl rfl rfl (d_workOut hT h0 t (by omega) (by omega)) rfl rfl ?_
  refine w_aload_n rfl rfl rfl ?_
  refine w_gf (t := .ref (88)) (v := .ref (88)) rfl rfl rfl sp0 rfl rfl rfl ?_
  refine w_iload_n rfl rfl rfl ?_
  refine w_cv (q := am_m60) (as := [_]) (rest := []) (st' := [_]) rfl rfl rfl rfl rfl rfl sp88 rfl rfl rfl rfl (d_fitting (by omega) (k_woP_v (p := (I, J)) v) (k_woP_k.trans hK) (by omega)) rfl rfl ?_
  refine w_istore (L' := [_, _, _, _, _, _, _, _, _]) rfl rfl rfl ?_
  refine w_iconst (x := Int32.ofNat 0) rfl rfl (by decide) ?_
  refine w_istore (L' := [_, _, _, _, _, _, _, _, _]) rfl rfl rfl ?_
  refine w_aload_n rfl rfl rfl ?_
  refine w_gf (t := .ref (88)) (v := .ref (88)) rfl rfl rfl sp0 rfl rfl rfl ?_
  refine w_iload_n rfl rfl rfl ?_
  refine w_iload rfl rfl rfl ?_
  refine w_iload_n rfl rfl rfl ?_
  refine w_iconst (x := Int32.ofNat 0) rfl rfl (by decide) ?_
  refine w_cv (q := am_m62) (as := [_, _, _, _]) (rest := []) (st' := [_]) rfl rfl rfl rfl rfl rfl sp88 rfl rfl rfl rfl (d_leftAtWorst (x := 0) (by omega) (by omega) (by omega)) rfl rfl ?_
  refine w_istore (L' := [_, _, _, _, _, _, _, _, _]) rfl rfl rfl ?_
  refine w_iconst (x := Int32.ofNat 1) rfl rfl (by decide) ?_
  refine w_istore (L' := [_, _, _, _, _, _, _, _, _]) rfl rfl rfl ?_
  refine dl_ask hT (k_woR_0 h0) (by omega) (by omega) f11 (by omega) (fun u => ?_) y 0 _ (by omega)
  refine w_iload_n rfl rfl rfl ?_
  refine w_if_ne (t := 141) (f := 136) rfl rfl rfl (fun c133 => ?_) (fun c133 => ?_)
  · refine w_iload rfl rfl rfl ?_
    exact w_iret rfl (by unfold k_ask k_evI; first | (rw [if_pos ((am_eqN (y := 0) (by omega) (by omega)).mp c133)] <;> rfl) | (rw [if_neg (fun z => c133 (by rw [z]; rfl))] <;> rfl)) rfl rfl rfl
  · refine w_iload rfl rfl rfl ?_
    refine w_goto (pc' := 143) rfl rfl ?_
    exact w_iret rfl (by unfold k_ask k_evI; first | (rw [if_pos ((am_eqN (y := 0) (by omega) (by omega)).mp c133)] <;> rfl) | (rw [if_neg (fun z => c133 (by rw [z]; rfl))] <;> rfl)) rfl rfl rfl
theorem d_ask_can {k : Nat} {I : hI} {J : hJ} {R : hR} {T : Nat} (hT : T = 9 ∨ T = 36) (h0 : R 0 3 = T) {N : Nat → Nat} (t : ctk I T N) (m0 : I (T + 1) 1 = Int32.ofNat (N 0)) (l0 : N 0 ≤ 6) {m : Nat} (hm : m < N 0) {n w : Nat} (n1 : 1 ≤ n) (n2 : n ≤ 60) (hw : w ≤ 1) (hy : N 2 = 0) (hk : 8 ≤ k) : ct k 151 [.ref 0, .int (Int32.ofNat m), .int (Int32.ofNat n), .int (Int32.ofNat w)] I J R (some (.int (Int32.ofInt (-2)))) I J R := by
  obtain ⟨k, rfl⟩ : ∃ k', k = k' + 1 := ⟨k - 1, by omega⟩
  obtain ⟨⟨l1, l2, l3⟩, ⟨e5, e11, e3⟩, rM, tH, sM, ⟨e18, l18⟩, ⟨e21, l21⟩, ⟨e24, l24⟩⟩ := id t
  refine ct_of (q := am_m151) (o := 11) (rt := (some .int)) (co := am_c151) (L := [_, _, _, _, _, _, _, _, _]) rfl rfl rfl rfl rfl rfl ?_
  refine w_aload_n rfl rfl rfl ?_
  refine w_iload_n rfl rfl rfl ?_
  refine w_cv (q := am_m160) (as := [_]) (rest := []) (st' := [_]) rfl rfl rfl rfl rfl rfl sp0 rfl rfl rfl rfl (d_isMaker hT h0 (by omega)) rfl rfl ?_
  refine w_if_eqB (t := 28) (f := 8) rfl rfl rfl (fun c5 => absurd c5 (k_isok hm (by omega) m0)) (fun c5 => ?_)
  refine w_iload_n rfl rfl rfl ?_
  refine w_iconst (x := Int32.ofNat 1) rfl rfl (by decide) ?_
  refine w_ic_ltN (t := 28) (f := 13) rfl rfl rfl (by omega) (by omega) (fun c10 => absurd c10 (by omega)) (fun c10 => ?_)
  refine w_iload_n rfl rfl rfl ?_
  refine w_bipush (x := Int32.ofNat 60) rfl rfl (by decide) ?_
  refine w_ic_gtN (t := 28) (f := 19) rfl rfl rfl (by omega) (by omega) (fun c16 => absurd c16 (by omega)) (fun c16 => ?_)
  refine w_iload_n rfl rfl rfl ?_
  refine w_if_lt (t := 28) (f := 23) rfl rfl rfl (fun c20 => absurd c20 (fun c => absurd ((am_ltN (y := 0) (by omega) (by omega)).mp c) (Nat.not_lt_zero w))) (fun c20 => ?_)
  refine w_iload_n rfl rfl rfl ?_
  refine w_iconst (x := Int32.ofNat 1) rfl rfl (by decide) ?_
  refine w_ic_leN (t := 30) (f := 28) rfl rfl rfl (by omega) (by omega) (fun c25 => ?_) (fun c25 => absurd c25 (by omega))
  refine w_aload_n rfl rfl rfl ?_
  refine w_gf (t := .retAddr 0) (v := .ref (T)) rfl rfl rfl sp0 rfl (congrArg Value.ref (by first | exact h0 | exact (am_u_na (by decide)).trans h0)) rfl ?_
  refine w_gf (t := .ref (T + 11)) (v := .ref (T + 11)) rfl rfl rfl (shT_0 hT) rfl rfl rfl ?_
  refine w_gf (t := .int 0) (v := .int _) rfl rfl rfl (shT_11 hT) rfl (congrArg Value.int e11) rfl ?_
  refine w_if_ne (t := 46) (f := 43) rfl rfl rfl (fun c40 => absurd c40 (not_not_intro (by rw [hy]; rfl))) (fun c40 => ?_)
  refine w_bipush (x := Int32.ofInt (-2)) rfl rfl (by decide) ?_
  exact w_iret rfl rfl rfl rfl rfl
theorem d_ask_no {k : Nat} {I : hI} {J : hJ} {R : hR} {T : Nat} (hT : T = 9 ∨ T = 36) (h0 : R 0 3 = T) {x y z : Int32} (hx : ¬ ((¬ x < 0 ∧ x < I (T + 1) 1) ∧ (¬ y < Int32.ofNat 1 ∧ ¬ Int32.ofNat 60 < y) ∧ ¬ z < Int32.ofNat 0 ∧ ¬ Int32.ofNat 1 < z)) (hk : 2 ≤ k) : ct k 151 [.ref 0, .int x, .int y, .int z] I J R (some (.int (Int32.ofInt (-1)))) I J R := by
  obtain ⟨k, rfl⟩ : ∃ k', k = k' + 1 := ⟨k - 1, by omega⟩
  refine ct_of (q := am_m151) (o := 11) (rt := (some .int)) (co := am_c151) (L := [_, _, _, _, _, _, _, _, _]) rfl rfl rfl rfl rfl rfl ?_
  refine w_aload_n rfl rfl rfl ?_
  refine w_iload_n rfl rfl rfl ?_
  refine w_cv (q := am_m160) (as := [_]) (rest := []) (st' := [_]) rfl rfl rfl rfl rfl rfl sp0 rfl rfl rfl rfl (d_isMaker hT h0 (by omega)) rfl rfl ?_
  refine w_if_eqB (t := 28) (f := 8) rfl rfl rfl (fun c5 => ?_) (fun c5 => ?_)
  · refine w_iconst (x := Int32.ofInt (-1)) rfl rfl (by decide) ?_
    exact w_iret rfl rfl rfl rfl rfl
  · refine w_iload_n rfl rfl rfl ?_
    refine w_iconst (x := Int32.ofNat 1) rfl rfl (by decide) ?_
    refine w_ic_lt (t := 28) (f := 13) rfl rfl rfl (fun c10 => ?_) (fun c10 => ?_)
    · refine w_iconst (x := Int32.ofInt (-1)) rfl rfl (by decide) ?_
      exact w_iret rfl rfl rfl rfl rfl
    · refine w_iload_n rfl rfl rfl ?_
      refine w_bipush (x := Int32.ofNat 60) rfl rfl (by decide) ?_
      refine w_ic_gt (t := 28) (f := 19) rfl rfl rfl (fun c16 => ?_) (fun c16 => ?_)
      · refine w_iconst (x := Int32.ofInt (-1)) rfl rfl (by decide) ?_
        exact w_iret rfl rfl rfl rfl rfl
      · refine w_iload_n rfl rfl rfl ?_
        refine w_if_lt (t := 28) (f := 23) rfl rfl rfl (fun c20 => ?_) (fun c20 => ?_)
        · refine w_iconst (x := Int32.ofInt (-1)) rfl rfl (by decide) ?_
          exact w_iret rfl rfl rfl rfl rfl
        · refine w_iload_n rfl rfl rfl ?_
          refine w_iconst (x := Int32.ofNat 1) rfl rfl (by decide) ?_
          refine w_ic_le (t := 30) (f := 28) rfl rfl rfl (fun c25 => ?_) (fun c25 => ?_)
          · exact (hx ⟨c5, ⟨c10, c16⟩, c20, c25⟩).elim
          · refine w_iconst (x := Int32.ofInt (-1)) rfl rfl (by decide) ?_
            exact w_iret rfl rfl rfl rfl rfl
