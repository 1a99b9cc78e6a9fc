/-! The class: ropes allotted. -/
def k_sg (v : Int32) : Int32 := if v < 0 then Int32.ofNat 0 else Int32.ofNat 1
def k_ld (I : hI) (i : Nat) (x : Int32) : hI := am_u (am_u (am_u (am_u I 102 8 (I 102 8 - k_sg (I 106 i))) 106 i (I 106 i + x)) 102 8 (I 102 8 - k_sg (I 106 i) + k_sg (I 106 i + x))) 102 9 (I 102 9 + x)
theorem k_sg1 {v : Int32} (h : v < 0) : k_sg v = Int32.ofNat 0 := if_pos h
theorem k_sg2 {v : Int32} (h : ¬ v < 0) : k_sg v = Int32.ofNat 1 := if_neg h
theorem k_ld_ne {I : hI} {i a : Nat} {x : Int32} (h : a ≠ 102 ∧ a ≠ 106) : k_ld I i x a = I a := (am_u_ne h.1).trans ((am_u_ne h.1).trans ((am_u_ne h.2).trans (am_u_ne h.1)))
theorem k_ld_nk {I : hI} {i j : Nat} {x : Int32} (h : j ≠ 8 ∧ j ≠ 9) : k_ld I i x 102 j = I 102 j := (am_u_nk h.2).trans ((am_u_nk h.1).trans ((am_u_na (by decide)).trans (am_u_nk h.1)))
theorem d_load {k : Nat} {I : hI} {J : hJ} {R : hR} {i : Nat} {x : Int32} (hi : i < 5) (hk : 1 ≤ k) : ct k 4 [.ref 102, .int (Int32.ofNat i), .int x] I J R none (k_ld I i x) J R := by
  obtain ⟨k, rfl⟩ : ∃ k', k = k' + 1 := ⟨k - 1, by omega⟩
  refine ct_of (q := am_m4) (o := 0) (rt := none) (co := am_c4) (L := [_, _, _]) rfl rfl rfl rfl rfl rfl ?_
  refine w_aload_n rfl rfl rfl ?_
  refine w_dup rfl rfl rfl ?_
  refine w_gf (t := .int 0) (v := .int _) rfl rfl rfl sp102 rfl (congrArg Value.int rfl) rfl ?_
  refine w_aload_n rfl rfl rfl ?_
  refine w_gf (t := .ref (106)) (v := .ref (106)) rfl rfl rfl sp102 rfl rfl rfl ?_
  refine w_iload_n rfl rfl rfl ?_
  refine w_iaload rfl rfl sp106 rfl ⟨by omega, by omega⟩ rfl ?_
  refine w_if_lt (t := 18) (f := 14) rfl rfl rfl (fun c11 => ?_) (fun c11 => ?_)
  · refine w_iconst (x := Int32.ofNat 0) rfl rfl (by decide) ?_
    refine w_isub rfl rfl ?_
    refine w_pf rfl rfl rfl sp102 rfl rfl rfl ?_
    refine w_aload_n rfl rfl rfl ?_
    refine w_gf (t := .ref (106)) (v := .ref (106)) rfl rfl rfl sp102 rfl rfl rfl ?_
    refine w_iload_n rfl rfl rfl ?_
    refine w_dup2 rfl rfl rfl rfl ?_
    refine w_iaload rfl rfl sp106 rfl ⟨by omega, by omega⟩ (congrFun (am_u_ne (by decide)) _) ?_
    refine w_iload_n rfl rfl rfl ?_
    refine w_iadd rfl rfl ?_
    refine w_iastore rfl rfl sp106 rfl ⟨by omega, by omega⟩ ?_
    refine w_aload_n rfl rfl rfl ?_
    refine w_dup rfl rfl rfl ?_
    refine w_gf (t := .int 0) (v := .int _) rfl rfl rfl sp102 rfl (congrArg Value.int ((congrFun (am_u_ne (by decide)) _).trans am_u_at)) rfl ?_
    refine w_aload_n rfl rfl rfl ?_
    refine w_gf (t := .ref (106)) (v := .ref (106)) rfl rfl rfl sp102 rfl rfl rfl ?_
    refine w_iload_n rfl rfl rfl ?_
    refine w_iaload rfl rfl sp106 rfl ⟨by omega, by omega⟩ am_u_at ?_
    refine w_if_lt (t := 51) (f := 47) rfl rfl rfl (fun c44 => ?_) (fun c44 => ?_)
    · refine w_iconst (x := Int32.ofNat 0) rfl rfl (by decide) ?_
      refine w_iadd rfl rfl ?_
      refine w_pf rfl rfl rfl sp102 rfl rfl rfl ?_
      refine w_aload_n rfl rfl rfl ?_
      refine w_dup rfl rfl rfl ?_
      refine w_gf (t := .int 0) (v := .int _) rfl rfl rfl sp102 rfl (congrArg Value.int ((am_u_nk (by decide)).trans ((congrFun (am_u_ne (by decide)) _).trans (am_u_nk (by decide))))) rfl ?_
      refine w_iload_n rfl rfl rfl ?_
      refine w_iadd rfl rfl ?_
      refine w_pf rfl rfl rfl sp102 rfl rfl rfl ?_
      exact w_ret rfl (by unfold k_ld; (first | rw [k_sg1 c11] | rw [k_sg2 c11]); (first | rw [k_sg1 c44] | rw [k_sg2 c44])) rfl rfl
    · refine w_iconst (x := Int32.ofNat 1) rfl rfl (by decide) ?_
      refine w_goto (pc' := 52) rfl rfl ?_
      refine w_iadd rfl rfl ?_
      refine w_pf rfl rfl rfl sp102 rfl rfl rfl ?_
      refine w_aload_n rfl rfl rfl ?_
      refine w_dup rfl rfl rfl ?_
      refine w_gf (t := .int 0) (v := .int _) rfl rfl rfl sp102 rfl (congrArg Value.int ((am_u_nk (by decide)).trans ((congrFun (am_u_ne (by decide)) _).trans (am_u_nk (by decide))))) rfl ?_
      refine w_iload_n rfl rfl rfl ?_
      refine w_iadd rfl rfl ?_
      refine w_pf rfl rfl rfl sp102 rfl rfl rfl ?_
      exact w_ret rfl (by unfold k_ld; (first | rw [k_sg1 c11] | rw [k_sg2 c11]); (first | rw [k_sg1 c44] | rw [k_sg2 c44])) rfl rfl
  · refine w_iconst (x := Int32.ofNat 1) rfl rfl (by decide) ?_
    refine w_goto (pc' := 19) rfl rfl ?_
    refine w_isub rfl rfl ?_
    refine w_pf rfl rfl rfl sp102 rfl rfl rfl ?_
    refine w_aload_n rfl rfl rfl ?_
    refine w_gf (t := .ref (106)) (v := .ref (106)) rfl rfl rfl sp102 rfl rfl rfl ?_
    refine w_iload_n rfl rfl rfl ?_
    refine w_dup2 rfl rfl rfl rfl ?_
    refine w_iaload rfl rfl sp106 rfl ⟨by omega, by omega⟩ (congrFun (am_u_ne (by decide)) _) ?_
    refine w_iload_n rfl rfl rfl ?_
    refine w_iadd rfl rfl ?_
    refine w_iastore rfl rfl sp106 rfl ⟨by omega, by omega⟩ ?_
    refine w_aload_n rfl rfl rfl ?_
    refine w_dup rfl rfl rfl ?_
    refine w_gf (t := .int 0) (v := .int _) rfl rfl rfl sp102 rfl (congrArg Value.int ((congrFun (am_u_ne (by decide)) _).trans am_u_at)) rfl ?_
    refine w_aload_n rfl rfl rfl ?_
    refine w_gf (t := .ref (106)) (v := .ref (106)) rfl rfl rfl sp102 rfl rfl rfl ?_
    refine w_iload_n rfl rfl rfl ?_
    refine w_iaload rfl rfl sp106 rfl ⟨by omega, by omega⟩ am_u_at ?_
    refine w_if_lt (t := 51) (f := 47) rfl rfl rfl (fun c44 => ?_) (fun c44 => ?_)
    · refine w_iconst (x := Int32.ofNat 0) rfl rfl (by decide) ?_
      refine w_iadd rfl rfl ?_
      refine w_pf rfl rfl rfl sp102 rfl rfl rfl ?_
      refine w_aload_n rfl rfl rfl ?_
      refine w_dup rfl rfl rfl ?_
      refine w_gf (t := .int 0) (v := .int _) rfl rfl rfl sp102 rfl (congrArg Value.int ((am_u_nk (by decide)).trans ((congrFun (am_u_ne (by decide)) _).trans (am_u_nk (by decide))))) rfl ?_
      refine w_iload_n rfl rfl rfl ?_
      refine w_iadd rfl rfl ?_
      refine w_pf rfl rfl rfl sp102 rfl rfl rfl ?_
      exact w_ret rfl (by unfold k_ld; (first | rw [k_sg1 c11] | rw [k_sg2 c11]); (first | rw [k_sg1 c44] | rw [k_sg2 c44])) rfl rfl
    · refine w_iconst (x := Int32.ofNat 1) rfl rfl (by decide) ?_
      refine w_goto (pc' := 52) rfl rfl ?_
      refine w_iadd rfl rfl ?_
      refine w_pf rfl rfl rfl sp102 rfl rfl rfl ?_
      refine w_aload_n rfl rfl rfl ?_
      refine w_dup rfl rfl rfl ?_
      refine w_gf (t := .int 0) (v := .int _) rfl rfl rfl sp102 rfl (congrArg Value.int ((am_u_nk (by decide)).trans ((congrFun (am_u_ne (by decide)) _).trans (am_u_nk (by decide))))) rfl ?_
      refine w_iload_n rfl rfl rfl ?_
      refine w_iadd rfl rfl ?_
      refine w_pf rfl rfl rfl sp102 rfl rfl rfl ?_
      exact w_ret rfl (by unfold k_ld; (first | rw [k_sg1 c11] | rw [k_sg2 c11]); (first | rw [k_sg1 c44] | rw [k_sg2 c44])) rfl rfl
def k_sho (I : hI) (x : Int32) : Nat → Nat → Int32
  | 0, _ => Int32.ofInt (-2)
  | j + 1, r => if I 103 r = x then I 108 r else k_sho I x j (r + 1)
theorem k_sho_s (I : hI) (x : Int32) (j r : Nat) : k_sho I x (j + 1) r = if I 103 r = x then I 108 r else k_sho I x j (r + 1) := rfl
theorem l_shipOf {k : Nat} {I : hI} {J : hJ} {R : hR} {m : Nat} {x : Int32} (hm : m ≤ 5) (h2 : I 102 2 = Int32.ofNat m) : ∀ (j r : Nat), r + j = m → wz k 0 (some .int) am_c5 2 [.ref 102, .int x, .int (Int32.ofNat r)] [] I J R (some (.int (k_sho I x j r)), am_hp I J R) := by
  intro j
  induction j with
  | zero =>
    intro r e
    obtain rfl : m = r := by omega
    refine w_iload_n rfl rfl rfl ?_
    refine w_aload_n rfl rfl rfl ?_
    refine w_gf (t := .int 0) (v := .int _) rfl rfl rfl sp102 rfl (congrArg Value.int h2) rfl ?_
    refine w_ic_geN (t := 33) (f := 10) rfl rfl rfl (by omega) (by omega) (fun c7 => ?_) (fun c7 => absurd c7 (by omega))
    refine w_bipush (x := Int32.ofInt (-2)) rfl rfl (by decide) ?_
    exact w_iret rfl rfl rfl rfl rfl
  | succ j ih =>
    intro r e
    rw [k_sho_s]
    refine w_iload_n rfl rfl rfl ?_
    refine w_aload_n rfl rfl rfl ?_
    refine w_gf (t := .int 0) (v := .int _) rfl rfl rfl sp102 rfl (congrArg Value.int h2) rfl ?_
    refine w_ic_geN (t := 33) (f := 10) rfl rfl rfl (by omega) (by omega) (fun c7 => absurd c7 (by omega)) (fun c7 => ?_)
    refine w_aload_n rfl rfl rfl ?_
    refine w_gf (t := .ref (103)) (v := .ref (103)) rfl rfl rfl sp102 rfl rfl rfl ?_
    refine w_iload_n rfl rfl rfl ?_
    refine w_iaload rfl rfl sp103 rfl ⟨by omega, by omega⟩ rfl ?_
    refine w_iload_n rfl rfl rfl ?_
    refine w_ic_ne (t := 27) (f := 20) rfl rfl rfl (fun c17 => ?_) (fun c17 => ?_)
    · refine w_iinc (L' := [_, _, _]) rfl rfl rfl (am_incN 1) rfl ?_
      refine w_goto (pc' := 2) rfl rfl ?_
      rw [if_neg c17]
      exact ih (r + 1) (by omega)
    · refine w_aload_n rfl rfl rfl ?_
      refine w_gf (t := .ref (108)) (v := .ref (108)) rfl rfl rfl sp102 rfl rfl rfl ?_
      refine w_iload_n rfl rfl rfl ?_
      refine w_iaload rfl rfl sp108 rfl ⟨by omega, by omega⟩ rfl ?_
      exact w_iret rfl (by rw [if_pos c17]) rfl rfl rfl
theorem d_shipOf {k : Nat} {I : hI} {J : hJ} {R : hR} {m : Nat} {x : Int32} (hm : m ≤ 5) (h2 : I 102 2 = Int32.ofNat m) (hk : 1 ≤ k) : ct k 5 [.ref 102, .int x] I J R (some (.int (k_sho I x m 0))) I J R := by
  obtain ⟨k, rfl⟩ : ∃ k', k = k' + 1 := ⟨k - 1, by omega⟩
  refine ct_of (q := am_m5) (o := 0) (rt := (some .int)) (co := am_c5) (L := [_, _, _]) rfl rfl rfl rfl rfl rfl ?_
  refine w_iconst (x := Int32.ofNat 0) rfl rfl (by decide) ?_
  refine w_istore_n (L' := [_, _, _]) rfl rfl rfl ?_
  exact l_shipOf hm h2 m 0 (by omega)
def k_cb (I : hI) (p : Nat) : Int32 := if I 102 8 + I 102 2 - Int32.ofNat p < I 102 5 then I 102 8 + I 102 2 - Int32.ofNat p else I 102 5
abbrev k_ct (I : hI) (p : Nat) : Prop := k_cb I p < I 102 10 ∨ (k_cb I p = I 102 10 ∧ ¬ I 102 9 < I 102 11)
def k_plE (I : hI) : hI := am_cq (am_u (am_u I 102 10 (I 102 8)) 102 11 (I 102 9)) 107 0 108 0 5
def k_pl (n : Nat) : Nat → Nat → hI → hI
  | 0, p, I => if k_ct I p then I else k_plE I
  | f + 1, p, I => if k_ct I p then I else k_pl n f (p + 1) (am_u (s_for (fun i I => k_ld (k_pl n f (p + 1) (k_ld (am_u I 107 p (I 105 i)) i (I 104 p))) i (-(I 104 p))) n I) 107 p (Int32.ofInt (-2)))
def k_plS (n f p : Nat) (i : Nat) (I : hI) : hI := k_ld (k_pl n f (p + 1) (k_ld (am_u I 107 p (I 105 i)) i (I 104 p))) i (-(I 104 p))
def k_plL (n f p m : Nat) (I : hI) : hI := s_for (k_plS n f p) m I
theorem k_pl_0 (n p : Nat) (I : hI) : k_pl n 0 p I = if k_ct I p then I else k_plE I := rfl
theorem k_pl_s (n f p : Nat) (I : hI) : k_pl n (f + 1) p I = if k_ct I p then I else k_pl n f (p + 1) (am_u (k_plL n f p n I) 107 p (Int32.ofInt (-2))) := rfl
/-- what placing leaves as it is -/
def k_pF (I I' : hI) : Prop := (∀ a, a ≠ 102 → a ≠ 106 → a ≠ 107 → a ≠ 108 → I' a = I a) ∧ (∀ j, j < 8 → I' 102 j = I 102 j)
theorem k_pF_rf (I : hI) : k_pF I I := ⟨fun _ _ _ _ _ => rfl, fun _ _ => rfl⟩
theorem k_pF_tr {I I1 I2 : hI} (a : k_pF I I1) (b : k_pF I1 I2) : k_pF I I2 := ⟨fun c h1 h2 h3 h4 => (b.1 c h1 h2 h3 h4).trans (a.1 c h1 h2 h3 h4), fun j h => (b.2 j h).trans (a.2 j h)⟩
theorem k_pF_ld {I : hI} {i : Nat} {x : Int32} : k_pF I (k_ld I i x) := ⟨fun a h1 h2 _ _ => k_ld_ne ⟨h1, h2⟩, fun j h => k_ld_nk (by omega)⟩
theorem k_pF_u {I : hI} {i : Nat} {x : Int32} : k_pF I (am_u I 107 i x) := ⟨fun a _ _ h _ => am_u_ne h, fun j _ => am_u_na (by decide)⟩
theorem k_pF_E {I : hI} : k_pF I (k_plE I) := ⟨fun a h1 _ _ h4 => (am_cq_ne h4).trans ((am_u_ne h1).trans (am_u_ne h1)), fun j h => (congrFun (am_cq_ne (by decide)) _).trans ((am_u_nk (by omega)).trans (am_u_nk (by omega)))⟩
theorem k_pF_for {f : Nat → hI → hI} (h : ∀ i I, k_pF I (f i I)) (n : Nat) (I : hI) : k_pF I (s_for f n I) := by
  induction n with
  | zero => exact k_pF_rf I
  | succ n ih => exact k_pF_tr ih (h n _)
theorem k_pF_pl (n : Nat) : ∀ (f p : Nat) (I : hI), k_pF I (k_pl n f p I) := by
  intro f
  induction f with
  | zero => intro p I; rw [k_pl_0]; split; exact k_pF_rf I; exact k_pF_E
  | succ f ih =>
    intro p I
    rw [k_pl_s]
    split
    · exact k_pF_rf I
    · exact k_pF_tr (k_pF_tr (k_pF_for (fun i I => k_pF_tr (k_pF_tr k_pF_u (k_pF_tr k_pF_ld (ih _ _))) k_pF_ld) n I) k_pF_u) (ih _ _)
theorem k_pF_S {n f p i : Nat} {I : hI} : k_pF I (k_plS n f p i I) := k_pF_tr (k_pF_tr k_pF_u (k_pF_tr k_pF_ld (k_pF_pl n _ _ _))) k_pF_ld
theorem k_pF_L {n f p m : Nat} {I : hI} : k_pF I (k_plL n f p m I) := k_pF_for (fun _ _ => k_pF_S) m I
theorem k_plS_e {n f p i : Nat} {I I0 : hI} (h : k_pF I0 I) : k_plS n f p i I = k_ld (k_pl n f (p + 1) (k_ld (am_u I 107 p (I0 105 i)) i (I0 104 p))) i (-(I0 104 p)) := by
  unfold k_plS; rw [h.1 105 (by decide) (by decide) (by decide) (by decide), h.1 104 (by decide) (by decide) (by decide) (by decide)]
theorem k_ct1 {I : hI} {p : Nat} (h : k_cb I p < I 102 10) : k_ct I p := Or.inl h
theorem k_ct2 {I : hI} {p : Nat} (h : k_cb I p = I 102 10) (g : ¬ I 102 9 < I 102 11) : k_ct I p := Or.inr ⟨h, g⟩
theorem k_ct3 {I : hI} {p : Nat} (h : ¬ k_cb I p < I 102 10) (g : ¬ k_cb I p = I 102 10) : ¬ k_ct I p := fun z => z.elim h (fun z => g z.1)
theorem k_ct4 {I : hI} {p : Nat} (h : ¬ k_cb I p < I 102 10) (g : I 102 9 < I 102 11) : ¬ k_ct I p := fun z => z.elim h (fun z => z.2 g)
theorem l_place {k : Nat} {R : hR} {q : Option Value × am_H} {I0 : hI} {J0 : hJ} {n m p f : Nat} {c : Int32} (hn : n ≤ 5) (h5 : I0 102 5 = Int32.ofNat n) (hp : p < 5) (hkk : f + 2 ≤ k) (ihp : ∀ (J : hJ) (R : hR) (k : Nat) (I : hI), I 102 2 = Int32.ofNat m → I 102 5 = Int32.ofNat n → f + 2 ≤ k → ct k 3 [.ref 102, .int (Int32.ofNat (p + 1))] I J R none (k_pl n f (p + 1) I) J R) (h2 : I0 102 2 = Int32.ofNat m) (hk : 1 ≤ k) (Z : wz k 0 none am_c3 144 [.ref 102, .int (Int32.ofNat p), .int c, .int (Int32.ofNat n)] [] (k_plL n f p n I0) J0 R q) : ∀ (j r : Nat) , r + j = n → wz k 0 none am_c3 88 [.ref 102, .int (Int32.ofNat p), .int c, .int (Int32.ofNat r)] [] (k_plL n f p r I0) J0 R q := by
  intro j
  induction j with
  | zero =>
    intro r e
    obtain rfl : n = r := by omega
    have hF := k_pF_L (n := n) (f := f) (p := p) (m := n) (I := I0)
    refine w_iload_n rfl rfl rfl ?_
    refine w_aload_n rfl rfl rfl ?_
    refine w_gf (t := .int 0) (v := .int _) rfl rfl rfl sp102 rfl (congrArg Value.int ((hF.2 5 (by omega)).trans h5)) rfl ?_
    refine w_ic_geN (t := 144) (f := 96) rfl rfl rfl (by omega) (by omega) (fun c93 => ?_) (fun c93 => absurd c93 (by omega))
    exact Z
  | succ j ih =>
    intro r e
    have hF := k_pF_L (n := n) (f := f) (p := p) (m := r) (I := I0)
    refine w_iload_n rfl rfl rfl ?_
    refine w_aload_n rfl rfl rfl ?_
    refine w_gf (t := .int 0) (v := .int _) rfl rfl rfl sp102 rfl (congrArg Value.int ((hF.2 5 (by omega)).trans h5)) rfl ?_
    refine w_ic_geN (t := 144) (f := 96) rfl rfl rfl (by omega) (by omega) (fun c93 => absurd c93 (by omega)) (fun c93 => ?_)
    refine w_aload_n rfl rfl rfl ?_
    refine w_gf (t := .ref (107)) (v := .ref (107)) rfl rfl rfl sp102 rfl rfl rfl ?_
    refine w_iload_n rfl rfl rfl ?_
    refine w_aload_n rfl rfl rfl ?_
    refine w_gf (t := .ref (105)) (v := .ref (105)) rfl rfl rfl sp102 rfl rfl rfl ?_
    refine w_iload_n rfl rfl rfl ?_
    refine w_iaload rfl rfl sp105 rfl ⟨by omega, by omega⟩ (congrFun (hF.1 105 (by decide) (by decide) (by decide) (by decide)) _) ?_
    refine w_iastore rfl rfl sp107 rfl ⟨by omega, by omega⟩ ?_
    refine w_aload_n rfl rfl rfl ?_
    refine w_iload_n rfl rfl rfl ?_
    refine w_aload_n rfl rfl rfl ?_
    refine w_gf (t := .ref (104)) (v := .ref (104)) rfl rfl rfl sp102 rfl rfl rfl ?_
    refine w_iload_n rfl rfl rfl ?_
    refine w_iaload rfl rfl sp104 rfl ⟨by omega, by omega⟩ ((congrFun (am_u_ne (by decide)) _).trans (congrFun (hF.1 104 (by decide) (by decide) (by decide) (by decide)) _)) ?_
    refine w_cv (q := am_m4) (as := [_, _]) (rest := []) (st' := []) rfl rfl rfl rfl rfl rfl sp102 rfl rfl rfl rfl (d_load (by omega) (by omega)) rfl rfl ?_
    refine w_aload_n rfl rfl rfl ?_
    refine w_iload_n rfl rfl rfl ?_
    refine w_iconst (x := Int32.ofNat 1) rfl rfl (by decide) ?_
    refine w_iaddN rfl rfl ?_
    refine w_cv (q := am_m3) (as := [_]) (rest := []) (st' := []) rfl rfl rfl rfl rfl rfl sp102 rfl rfl rfl rfl (ihp _ _ _ _ (((k_pF_tr (k_pF_tr hF k_pF_u) k_pF_ld).2 2 (by omega)).trans h2) (((k_pF_tr (k_pF_tr hF k_pF_u) k_pF_ld).2 5 (by omega)).trans h5) hkk) rfl rfl ?_
    refine w_aload_n rfl rfl rfl ?_
    refine w_iload_n rfl rfl rfl ?_
    refine w_aload_n rfl rfl rfl ?_
    refine w_gf (t := .ref (104)) (v := .ref (104)) rfl rfl rfl sp102 rfl rfl rfl ?_
    refine w_iload_n rfl rfl rfl ?_
    refine w_iaload rfl rfl sp104 rfl ⟨by omega, by omega⟩ ((congrFun ((k_pF_tr (k_pF_tr hF k_pF_u) (k_pF_tr k_pF_ld (k_pF_pl n _ _ _))).1 104 (by decide) (by decide) (by decide) (by decide)) _)) ?_
    refine w_ineg rfl rfl ?_
    refine w_cv (q := am_m4) (as := [_, _]) (rest := []) (st' := []) rfl rfl rfl rfl rfl rfl sp102 rfl rfl rfl rfl (d_load (by omega) (by omega)) rfl rfl ?_
    refine w_iinc (L' := [_, _, _, _]) rfl rfl rfl (am_incN 1) rfl ?_
    refine w_goto (pc' := 88) rfl rfl ?_
    exact wz_J (ih (r + 1) (by omega)) rfl (k_plS_e hF) rfl
theorem d_place {n m : Nat} (hn : n ≤ 5) (hm : m ≤ 5) : ∀ (f p k : Nat) (I : hI) (J : hJ) (R : hR), I 102 2 = Int32.ofNat m → I 102 5 = Int32.ofNat n → p + f = m → f + 2 ≤ k → ct k 3 [.ref 102, .int (Int32.ofNat p)] I J R none (k_pl n f p I) J R := by
  intro f
  induction f with
  | zero =>
    intro p k I J R h2 h5 e hk
    obtain ⟨k, rfl⟩ : ∃ k', k = k' + 1 := ⟨k - 1, by omega⟩
    rw [k_pl_0]
    refine ct_of (q := am_m3) (o := 0) (rt := none) (co := am_c3) (L := [_, _, _, _]) rfl rfl rfl rfl rfl rfl ?_
    refine w_aload_n rfl rfl rfl ?_
    refine w_gf (t := .int 0) (v := .int _) rfl rfl rfl sp102 rfl (congrArg Value.int rfl) rfl ?_
    refine w_aload_n rfl rfl rfl ?_
    refine w_gf (t := .int 0) (v := .int _) rfl rfl rfl sp102 rfl (congrArg Value.int rfl) rfl ?_
    refine w_aload_n rfl rfl rfl ?_
    refine w_gf (t := .int 0) (v := .int _) rfl rfl rfl sp102 rfl (congrArg Value.int rfl) rfl ?_
    refine w_iadd rfl rfl ?_
    refine w_iload_n rfl rfl rfl ?_
    refine w_isub rfl rfl ?_
    refine w_min rfl rfl rfl rfl ?_
    refine w_istore_n (L' := [_, _, _, _]) rfl rfl rfl ?_
    refine w_iload_n rfl rfl rfl ?_
    refine w_aload_n rfl rfl rfl ?_
    refine w_gf (t := .int 0) (v := .int _) rfl rfl rfl sp102 rfl (congrArg Value.int rfl) rfl ?_
    refine w_ic_lt (t := 46) (f := 27) rfl rfl rfl (fun c24 => ?_) (fun c24 => ?_)
    · exact w_ret rfl (by first | rfl | rw [if_pos (k_ct1 c24)] | rw [if_pos (k_ct2 c32 c43)] | (rw [if_neg (k_ct3 c24 c32)]; rfl) | (rw [if_neg (k_ct4 c24 c43)]; rfl)) rfl rfl
    · refine w_iload_n rfl rfl rfl ?_
      refine w_aload_n rfl rfl rfl ?_
      refine w_gf (t := .int 0) (v := .int _) rfl rfl rfl sp102 rfl (congrArg Value.int rfl) rfl ?_
      refine w_ic_ne (t := 47) (f := 35) rfl rfl rfl (fun c32 => ?_) (fun c32 => ?_)
      · refine w_iload_n rfl rfl rfl ?_
        refine w_aload_n rfl rfl rfl ?_
        refine w_gf (t := .int 0) (v := .int _) rfl rfl rfl sp102 rfl (congrArg Value.int h2) rfl ?_
        refine w_ic_ltN (t := 86) (f := 55) rfl rfl rfl (by omega) (by omega) (fun c52 => absurd c52 (by omega)) (fun c52 => ?_)
        refine w_aload_n rfl rfl rfl ?_
        refine w_aload_n rfl rfl rfl ?_
        refine w_gf (t := .int 0) (v := .int _) rfl rfl rfl sp102 rfl (congrArg Value.int rfl) rfl ?_
        refine w_pf rfl rfl rfl sp102 rfl rfl rfl ?_
        refine w_aload_n rfl rfl rfl ?_
        refine w_aload_n rfl rfl rfl ?_
        refine w_gf (t := .int 0) (v := .int _) rfl rfl rfl sp102 rfl (congrArg Value.int (am_u_nk (by decide))) rfl ?_
        refine w_pf rfl rfl rfl sp102 rfl rfl rfl ?_
        refine w_aload_n rfl rfl rfl ?_
        refine w_gf (t := .ref (107)) (v := .ref (107)) rfl rfl rfl sp102 rfl rfl rfl ?_
        refine w_iconst (x := Int32.ofNat 0) rfl rfl (by decide) ?_
        refine w_aload_n rfl rfl rfl ?_
        refine w_gf (t := .ref (108)) (v := .ref (108)) rfl rfl rfl sp102 rfl rfl rfl ?_
        refine w_iconst (x := Int32.ofNat 0) rfl rfl (by decide) ?_
        refine w_iconst (x := Int32.ofNat 5) rfl rfl (by decide) ?_
        refine w_cpy rfl rfl rfl sp107 sp108 ⟨by omega, by omega⟩ ⟨by omega, by omega⟩ (Nat.le_of_ble_eq_true rfl) ?_
        exact w_ret rfl (by first | rfl | rw [if_pos (k_ct1 c24)] | rw [if_pos (k_ct2 c32 c43)] | (rw [if_neg (k_ct3 c24 c32)]; rfl) | (rw [if_neg (k_ct4 c24 c43)]; rfl)) rfl rfl
      · refine w_aload_n rfl rfl rfl ?_
        refine w_gf (t := .int 0) (v := .int _) rfl rfl rfl sp102 rfl (congrArg Value.int rfl) rfl ?_
        refine w_aload_n rfl rfl rfl ?_
        refine w_gf (t := .int 0) (v := .int _) rfl rfl rfl sp102 rfl (congrArg Value.int rfl) rfl ?_
        refine w_ic_lt (t := 47) (f := 46) rfl rfl rfl (fun c43 => ?_) (fun c43 => ?_)
        · refine w_iload_n rfl rfl rfl ?_
          refine w_aload_n rfl rfl rfl ?_
          refine w_gf (t := .int 0) (v := .int _) rfl rfl rfl sp102 rfl (congrArg Value.int h2) rfl ?_
          refine w_ic_ltN (t := 86) (f := 55) rfl rfl rfl (by omega) (by omega) (fun c52 => absurd c52 (by omega)) (fun c52 => ?_)
          refine w_aload_n rfl rfl rfl ?_
          refine w_aload_n rfl rfl rfl ?_
          refine w_gf (t := .int 0) (v := .int _) rfl rfl rfl sp102 rfl (congrArg Value.int rfl) rfl ?_
          refine w_pf rfl rfl rfl sp102 rfl rfl rfl ?_
          refine w_aload_n rfl rfl rfl ?_
          refine w_aload_n rfl rfl rfl ?_
          refine w_gf (t := .int 0) (v := .int _) rfl rfl rfl sp102 rfl (congrArg Value.int (am_u_nk (by decide))) rfl ?_
          refine w_pf rfl rfl rfl sp102 rfl rfl rfl ?_
          refine w_aload_n rfl rfl rfl ?_
          refine w_gf (t := .ref (107)) (v := .ref (107)) rfl rfl rfl sp102 rfl rfl rfl ?_
          refine w_iconst (x := Int32.ofNat 0) rfl rfl (by decide) ?_
          refine w_aload_n rfl rfl rfl ?_
          refine w_gf (t := .ref (108)) (v := .ref (108)) rfl rfl rfl sp102 rfl rfl rfl ?_
          refine w_iconst (x := Int32.ofNat 0) rfl rfl (by decide) ?_
          refine w_iconst (x := Int32.ofNat 5) rfl rfl (by decide) ?_
          refine w_cpy rfl rfl rfl sp107 sp108 ⟨by omega, by omega⟩ ⟨by omega, by omega⟩ (Nat.le_of_ble_eq_true rfl) ?_
          exact w_ret rfl (by first | rfl | rw [if_pos (k_ct1 c24)] | rw [if_pos (k_ct2 c32 c43)] | (rw [if_neg (k_ct3 c24 c32)]; rfl) | (rw [if_neg (k_ct4 c24 c43)]; rfl)) rfl rfl
        · exact w_ret rfl (by first | rfl | rw [if_pos (k_ct1 c24)] | rw [if_pos (k_ct2 c32 c43)] | (rw [if_neg (k_ct3 c24 c32)]; rfl) | (rw [if_neg (k_ct4 c24 c43)]; rfl)) rfl rfl
  | succ f ih =>
    intro p k I J R h2 h5 e hk
    obtain ⟨k, rfl⟩ : ∃ k', k = k' + 1 := ⟨k - 1, by omega⟩
    rw [k_pl_s]
    refine ct_of (q := am_m3) (o := 0) (rt := none) (co := am_c3) (L := [_, _, _, _]) rfl rfl rfl rfl rfl rfl ?_
    refine w_aload_n rfl rfl rfl ?_
    refine w_gf (t := .int 0) (v := .int _) rfl rfl rfl sp102 rfl (congrArg Value.int rfl) rfl ?_
    refine w_aload_n rfl rfl rfl ?_
    refine w_gf (t := .int 0) (v := .int _) rfl rfl rfl sp102 rfl (congrArg Value.int rfl) rfl ?_
    refine w_aload_n rfl rfl rfl ?_
    refine w_gf (t := .int 0) (v := .int _) rfl rfl rfl sp102 rfl (congrArg Value.int rfl) rfl ?_
    refine w_iadd rfl rfl ?_
    refine w_iload_n rfl rfl rfl ?_
    refine w_isub rfl rfl ?_
    refine w_min rfl rfl rfl rfl ?_
    refine w_istore_n (L' := [_, _, _, _]) rfl rfl rfl ?_
    refine w_iload_n rfl rfl rfl ?_
    refine w_aload_n rfl rfl rfl ?_
    refine w_gf (t := .int 0) (v := .int _) rfl rfl rfl sp102 rfl (congrArg Value.int rfl) rfl ?_
    refine w_ic_lt (t := 46) (f := 27) rfl rfl rfl (fun c24 => ?_) (fun c24 => ?_)
    · exact w_ret rfl (by first | rfl | rw [if_pos (k_ct1 c24)] | rw [if_pos (k_ct2 c32 c43)] | (rw [if_neg (k_ct3 c24 c32)]; rfl) | (rw [if_neg (k_ct4 c24 c43)]; rfl)) rfl rfl
    · refine w_iload_n rfl rfl rfl ?_
      refine w_aload_n rfl rfl rfl ?_
      refine w_gf (t := .int 0) (v := .int _) rfl rfl rfl sp102 rfl (congrArg Value.int rfl) rfl ?_
      refine w_ic_ne (t := 47) (f := 35) rfl rfl rfl (fun c32 => ?_) (fun c32 => ?_)
      · refine w_iload_n rfl rfl rfl ?_
        refine w_aload_n rfl rfl rfl ?_
        refine w_gf (t := .int 0) (v := .int _) rfl rfl rfl sp102 rfl (congrArg Value.int h2) rfl ?_
        refine w_ic_ltN (t := 86) (f := 55) rfl rfl rfl (by omega) (by omega) (fun c52 => ?_) (fun c52 => absurd c52 (by omega))
        first | rw [if_neg (k_ct3 c24 c32)] | rw [if_neg (k_ct4 c24 c43)]
        refine w_iconst (x := Int32.ofNat 0) rfl rfl (by decide) ?_
        refine w_istore_n (L' := [_, _, _, _]) rfl rfl rfl ?_
        refine l_place (m := m) (f := f) hn h5 (by omega) (by omega) (fun J R k I h2 h5 hk => ih (p + 1) k I J R h2 h5 (by omega) hk) h2 (by omega) ?_ n 0 (by omega)
        refine w_aload_n rfl rfl rfl ?_
        refine w_gf (t := .ref (107)) (v := .ref (107)) rfl rfl rfl sp102 rfl rfl rfl ?_
        refine w_iload_n rfl rfl rfl ?_
        refine w_bipush (x := Int32.ofInt (-2)) rfl rfl (by decide) ?_
        refine w_iastore rfl rfl sp107 rfl ⟨by omega, by omega⟩ ?_
        refine w_aload_n rfl rfl rfl ?_
        refine w_iload_n rfl rfl rfl ?_
        refine w_iconst (x := Int32.ofNat 1) rfl rfl (by decide) ?_
        refine w_iaddN rfl rfl ?_
        refine w_cv (q := am_m3) (as := [_]) (rest := []) (st' := []) rfl rfl rfl rfl rfl rfl sp102 rfl rfl rfl rfl (ih (p + 1) _ _ _ _ ((am_u_na (by decide)).trans ((k_pF_L.2 2 (by omega)).trans h2)) ((am_u_na (by decide)).trans ((k_pF_L.2 5 (by omega)).trans h5)) (by omega) (by omega)) rfl rfl ?_
        exact w_ret rfl (by first | rfl | rw [if_pos (k_ct1 c24)] | rw [if_pos (k_ct2 c32 c43)] | (rw [if_neg (k_ct3 c24 c32)]; rfl) | (rw [if_neg (k_ct4 c24 c43)]; rfl)) rfl rfl
      · refine w_aload_n rfl rfl rfl ?_
        refine w_gf (t := .int 0) (v := .int _) rfl rfl rfl sp102 rfl (congrArg Value.int rfl) rfl ?_
        refine w_aload_n rfl rfl rfl ?_
        refine w_gf (t := .int 0) (v := .int _) rfl rfl rfl sp102 rfl (congrArg Value.int rfl) rfl ?_
        refine w_ic_lt (t := 47) (f := 46) rfl rfl rfl (fun c43 => ?_) (fun c43 => ?_)
        · refine w_iload_n rfl rfl rfl ?_
          refine w_aload_n rfl rfl rfl ?_
          refine w_gf (t := .int 0) (v := .int _) rfl rfl rfl sp102 rfl (congrArg Value.int h2) rfl ?_
          refine w_ic_ltN (t := 86) (f := 55) rfl rfl rfl (by omega) (by omega) (fun c52 => ?_) (fun c52 => absurd c52 (by omega))
          first | rw [if_neg (k_ct3 c24 c32)] | rw [if_neg (k_ct4 c24 c43)]
          refine w_iconst (x := Int32.ofNat 0) rfl rfl (by decide) ?_
          refine w_istore_n (L' := [_, _, _, _]) rfl rfl rfl ?_
          refine l_place (m := m) (f := f) hn h5 (by omega) (by omega) (fun J R k I h2 h5 hk => ih (p + 1) k I J R h2 h5 (by omega) hk) h2 (by omega) ?_ n 0 (by omega)
          refine w_aload_n rfl rfl rfl ?_
          refine w_gf (t := .ref (107)) (v := .ref (107)) rfl rfl rfl sp102 rfl rfl rfl ?_
          refine w_iload_n rfl rfl rfl ?_
          refine w_bipush (x := Int32.ofInt (-2)) rfl rfl (by decide) ?_
          refine w_iastore rfl rfl sp107 rfl ⟨by omega, by omega⟩ ?_
          refine w_aload_n rfl rfl rfl ?_
          refine w_iload_n rfl rfl rfl ?_
          refine w_iconst (x := Int32.ofNat 1) rfl rfl (by decide) ?_
          refine w_iaddN rfl rfl ?_
          refine w_cv (q := am_m3) (as := [_]) (rest := []) (st' := []) rfl rfl rfl rfl rfl rfl sp102 rfl rfl rfl rfl (ih (p + 1) _ _ _ _ ((am_u_na (by decide)).trans ((k_pF_L.2 2 (by omega)).trans h2)) ((am_u_na (by decide)).trans ((k_pF_L.2 5 (by omega)).trans h5)) (by omega) (by omega)) rfl rfl ?_
          exact w_ret rfl (by first | rfl | rw [if_pos (k_ct1 c24)] | rw [if_pos (k_ct2 c32 c43)] | (rw [if_neg (k_ct3 c24 c32)]; rfl) | (rw [if_neg (k_ct4 c24 c43)]; rfl)) rfl rfl
        · exact w_ret rfl (by first | rfl | rw [if_pos (k_ct1 c24)] | rw [if_pos (k_ct2 c32 c43)] | (rw [if_neg (k_ct3 c24 c32)]; rfl) | (rw [if_neg (k_ct4 c24 c43)]; rfl)) rfl rfl
abbrev k_fr (I : hI) (S r : Nat) : Prop := I (S + 1) r = Int32.ofNat 1 ∧ I (S + 3) r = Int32.ofInt (-1)
def k_g1 (S : Nat) : Nat → Nat → Nat → hI → Nat × hI
  | 0, _, c, I => (c, I)
  | j + 1, r, c, I => if c < 5 then (if k_fr I S r then k_g1 S j (r + 1) (c + 1) (am_u (am_u (am_u I 103 c (Int32.ofNat r)) 104 c (I (S + 2) r)) 102 2 (Int32.ofNat (c + 1))) else k_g1 S j (r + 1) c I) else (c, I)
theorem k_g1_s (S j r c : Nat) (I : hI) : k_g1 S (j + 1) r c I = if c < 5 then (if k_fr I S r then k_g1 S j (r + 1) (c + 1) (am_u (am_u (am_u I 103 c (Int32.ofNat r)) 104 c (I (S + 2) r)) 102 2 (Int32.ofNat (c + 1))) else k_g1 S j (r + 1) c I) else (c, I) := rfl
theorem k_g1_h (S : Nat) : ∀ (j r c : Nat) (I : hI), c ≤ 5 → I 102 2 = Int32.ofNat c → (k_g1 S j r c I).1 ≤ 5 ∧ (k_g1 S j r c I).2 102 2 = Int32.ofNat (k_g1 S j r c I).1 ∧ (∀ a, a ≠ 102 → a ≠ 103 → a ≠ 104 → (k_g1 S j r c I).2 a = I a) := by
  intro j
  induction j with
  | zero => intro r c I hc h; exact ⟨hc, h, fun _ _ _ _ => rfl⟩
  | succ j ih =>
    intro r c I hc h
    rw [k_g1_s]
    split
    · split
      · obtain ⟨a, b, d⟩ := ih (r + 1) (c + 1) (am_u (am_u (am_u I 103 c (Int32.ofNat r)) 104 c (I (S + 2) r)) 102 2 (Int32.ofNat (c + 1))) (by omega) am_u_at
        exact ⟨a, b, fun e h1 h2 h3 => (d e h1 h2 h3).trans ((am_u_ne h1).trans ((am_u_ne h3).trans (am_u_ne h2)))⟩
      · exact ih (r + 1) c I hc h
    · exact ⟨hc, h, fun _ _ _ _ => rfl⟩
def k_gsI (T S r c : Nat) (I : hI) : hI := am_u (am_u (am_u (am_u I 105 c (Int32.ofNat r)) 106 c (k_bear (am_u I 105 c (Int32.ofNat r)) S (Int32.ofNat r) 8 - I (T + 13) r)) 102 8 (I 102 8 + k_sg (k_bear (am_u I 105 c (Int32.ofNat r)) S (Int32.ofNat r) 8 - I (T + 13) r))) 102 5 (Int32.ofNat (c + 1))
def k_g2 (T S : Nat) : Nat → Nat → Nat → hI → Nat × hI
  | 0, _, c, I => (c, I)
  | j + 1, r, c, I => if I (S + 4) r = 0 then k_g2 T S j (r + 1) (c + 1) (k_gsI T S r c I) else k_g2 T S j (r + 1) c I
theorem k_g2_s (T S j r c : Nat) (I : hI) : k_g2 T S (j + 1) r c I = if I (S + 4) r = 0 then k_g2 T S j (r + 1) (c + 1) (k_gsI T S r c I) else k_g2 T S j (r + 1) c I := rfl
theorem k_gsI_ne {T S r c a : Nat} {I : hI} (h1 : a ≠ 102) (h2 : a ≠ 105) (h3 : a ≠ 106) : k_gsI T S r c I a = I a := (am_u_ne h1).trans ((am_u_ne h1).trans ((am_u_ne h3).trans (am_u_ne h2)))
theorem k_gsI_nk {T S r c j : Nat} {I : hI} (h1 : j ≠ 5) (h2 : j ≠ 8) : k_gsI T S r c I 102 j = I 102 j := (am_u_nk h1).trans ((am_u_nk h2).trans ((am_u_na (by decide)).trans (am_u_na (by decide))))
theorem k_g2_h (T S : Nat) : ∀ (j r c : Nat) (I : hI), I 102 5 = Int32.ofNat c → (k_g2 T S j r c I).1 ≤ c + j ∧ (k_g2 T S j r c I).2 102 5 = Int32.ofNat (k_g2 T S j r c I).1 ∧ (∀ a, a ≠ 102 → a ≠ 105 → a ≠ 106 → (k_g2 T S j r c I).2 a = I a) ∧ (∀ i, i ≠ 5 → i ≠ 8 → (k_g2 T S j r c I).2 102 i = I 102 i) := by
  intro j
  induction j with
  | zero => intro r c I h; exact ⟨by show c ≤ c + 0; omega, h, fun _ _ _ _ => rfl, fun _ _ _ => rfl⟩
  | succ j ih =>
    intro r c I h
    rw [k_g2_s]
    split
    · obtain ⟨a, b, d, f⟩ := ih (r + 1) (c + 1) (k_gsI T S r c I) am_u_at
      exact ⟨by omega, b, fun e h1 h2 h3 => (d e h1 h2 h3).trans (k_gsI_ne h1 h2 h3), fun i h1 h2 => (f i h1 h2).trans (k_gsI_nk h1 h2)⟩
    · obtain ⟨a, b, d, f⟩ := ih (r + 1) c I h
      exact ⟨by omega, b, d, f⟩
def k_ga (T S n1 n2 : Nat) (I : hI) : Nat × Nat × hI := ((k_g1 S n1 0 0 (am_u I 102 2 (Int32.ofNat 0))).1, k_g2 T S n2 0 0 (am_u (am_u (k_g1 S n1 0 0 (am_u I 102 2 (Int32.ofNat 0))).2 102 5 (Int32.ofNat 0)) 102 8 (Int32.ofNat 0)))
theorem l_gath1 {k : Nat} {R : hR} {J0 : hJ} {q : Option Value × am_H} {T : Nat} (hT : T = 9 ∨ T = 36) {S : Nat} (hS : S = 63 ∨ S = 70 ∨ S = 77) {n : Nat} (hn : n ≤ 8) (hk : 1 ≤ k) : ∀ (j r c : Nat) (I0 : hI), r + j = n → c ≤ 5 → I0 102 2 = Int32.ofNat c → I0 (T + 5) 1 = Int32.ofNat n → (∀ u : Value, wz k 0 none am_c2 75 [.ref 102, .ref T, .ref S, u] [] (k_g1 S j r c I0).2 J0 R q) → wz k 0 none am_c2 7 [.ref 102, .ref T, .ref S, .int (Int32.ofNat r)] [] I0 J0 R q := by
  intro j
  induction j with
  | zero =>
    intro r c I0 e hc h2 h5 Z
    obtain rfl : n = r := by omega
    refine w_iload_n rfl rfl rfl ?_
    refine w_aload_n rfl rfl rfl ?_
    refine w_gf (t := .ref (T + 5)) (v := .ref (T + 5)) rfl rfl rfl (shT_0 hT) rfl rfl rfl ?_
    refine w_gf (t := .int 0) (v := .int _) rfl rfl rfl (shT_5 hT) rfl (congrArg Value.int h5) rfl ?_
    refine w_ic_geN (t := 75) (f := 18) rfl rfl rfl (by omega) (by omega) (fun c15 => ?_) (fun c15 => absurd c15 (by omega))
    exact Z _
  | succ j ih =>
    intro r c I0 e hc h2 h5 Z
    rw [k_g1_s] at Z
    refine w_iload_n rfl rfl rfl ?_
    refine w_aload_n rfl rfl rfl ?_
    refine w_gf (t := .ref (T + 5)) (v := .ref (T + 5)) rfl rfl rfl (shT_0 hT) rfl rfl rfl ?_
    refine w_gf (t := .int 0) (v := .int _) rfl rfl rfl (shT_5 hT) rfl (congrArg Value.int h5) rfl ?_
    refine w_ic_geN (t := 75) (f := 18) rfl rfl rfl (by omega) (by omega) (fun c15 => absurd c15 (by omega)) (fun c15 => ?_)
    refine w_aload_n rfl rfl rfl ?_
    refine w_gf (t := .int 0) (v := .int _) rfl rfl rfl sp102 rfl (congrArg Value.int h2) rfl ?_
    refine w_iconst (x := Int32.ofNat 5) rfl rfl (by decide) ?_
    refine w_ic_geN (t := 75) (f := 26) rfl rfl rfl (by omega) (by omega) (fun c23 => ?_) (fun c23 => ?_)
    · rw [if_neg (show ¬ c < 5 by omega)] at Z
      exact Z _
    · rw [if_pos (show c < 5 by omega)] at Z
      refine w_aload_n rfl rfl rfl ?_
      refine w_iload_n rfl rfl rfl ?_
      refine w_cv (q := am_m68) (as := [_]) (rest := []) (st' := [_]) rfl rfl rfl rfl rfl rfl (shS_0 hS) rfl rfl rfl rfl (d_isFree hS (by omega) hk) rfl rfl ?_
      refine w_if_eqB (t := 69) (f := 34) rfl rfl rfl (fun c31 => ?_) (fun c31 => ?_)
      · refine w_iinc (L' := [_, _, _, _]) rfl rfl rfl (am_incN 1) rfl ?_
        refine w_goto (pc' := 7) rfl rfl ?_
        first
          | exact ih (r + 1) (c + 1) _ (by omega) (by omega) am_u_at ((am_u_na (by omega)).trans ((am_u_na (by omega)).trans ((am_u_na (by omega)).trans h5))) (by rw [if_pos (c := k_fr I0 S r) c31] at Z; exact Z)
          | exact ih (r + 1) c _ (by omega) (by omega) h2 h5 (by rw [if_neg (c := k_fr I0 S r) c31] at Z; exact Z)
      · refine w_aload_n rfl rfl rfl ?_
        refine w_gf (t := .ref (103)) (v := .ref (103)) rfl rfl rfl sp102 rfl rfl rfl ?_
        refine w_aload_n rfl rfl rfl ?_
        refine w_gf (t := .int 0) (v := .int _) rfl rfl rfl sp102 rfl (congrArg Value.int h2) rfl ?_
        refine w_iload_n rfl rfl rfl ?_
        refine w_iastore rfl rfl sp103 rfl ⟨by omega, by omega⟩ ?_
        refine w_aload_n rfl rfl rfl ?_
        refine w_gf (t := .ref (104)) (v := .ref (104)) rfl rfl rfl sp102 rfl rfl rfl ?_
        refine w_aload_n rfl rfl rfl ?_
        refine w_gf (t := .int 0) (v := .int _) rfl rfl rfl sp102 rfl (congrArg Value.int ((congrFun (am_u_ne (by decide)) _).trans h2)) rfl ?_
        refine w_aload_n rfl rfl rfl ?_
        refine w_gf (t := .ref (S + 2)) (v := .ref (S + 2)) rfl rfl rfl (shS_0 hS) rfl rfl rfl ?_
        refine w_iload_n rfl rfl rfl ?_
        refine w_iaload rfl rfl (shS_2 hS) rfl ⟨by omega, by omega⟩ (congrFun (am_u_ne (by omega)) _) ?_
        refine w_iastore rfl rfl sp104 rfl ⟨by omega, by omega⟩ ?_
        refine w_aload_n rfl rfl rfl ?_
        refine w_dup rfl rfl rfl ?_
        refine w_gf (t := .int 0) (v := .int _) rfl rfl rfl sp102 rfl (congrArg Value.int (((congrFun (am_u_ne (by decide)) _).trans (congrFun (am_u_ne (by decide)) _)).trans h2)) rfl ?_
        refine w_iconst (x := Int32.ofNat 1) rfl rfl (by decide) ?_
        refine w_iaddN rfl rfl ?_
        refine w_pf rfl rfl rfl sp102 rfl rfl rfl ?_
        refine w_iinc (L' := [_, _, _, _]) rfl rfl rfl (am_incN 1) rfl ?_
        refine w_goto (pc' := 7) rfl rfl ?_
        first
          | exact ih (r + 1) (c + 1) _ (by omega) (by omega) am_u_at ((am_u_na (by omega)).trans ((am_u_na (by omega)).trans ((am_u_na (by omega)).trans h5))) (by rw [if_pos (c := k_fr I0 S r) c31] at Z; exact Z)
          | exact ih (r + 1) c _ (by omega) (by omega) h2 h5 (by rw [if_neg (c := k_fr I0 S r) c31] at Z; exact Z)
theorem l_gath2 {k : Nat} {R : hR} {J0 : hJ} {q : Option Value × am_H} {T : Nat} (hT : T = 9 ∨ T = 36) {S : Nat} (hS : S = 63 ∨ S = 70 ∨ S = 77) {n : Nat} (hn : n ≤ 5) (hk : 1 ≤ k) : ∀ (j r c : Nat) (I0 : hI), r + j = n → c ≤ r → I0 102 5 = Int32.ofNat c → I0 (T + 11) 1 = Int32.ofNat n → (∀ u : Value, wz k 0 none am_c2 180 [.ref 102, .ref T, .ref S, u] [] (k_g2 T S j r c I0).2 J0 R q) → wz k 0 none am_c2 87 [.ref 102, .ref T, .ref S, .int (Int32.ofNat r)] [] I0 J0 R q := by
  intro j
  induction j with
  | zero =>
    intro r c I0 e hc h2 h5 Z
    obtain rfl : n = r := by omega
    refine w_iload_n rfl rfl rfl ?_
    refine w_aload_n rfl rfl rfl ?_
    refine w_gf (t := .ref (T + 11)) (v := .ref (T + 11)) rfl rfl rfl (shT_0 hT) rfl rfl rfl ?_
    refine w_gf (t := .int 0) (v := .int _) rfl rfl rfl (shT_11 hT) rfl (congrArg Value.int h5) rfl ?_
    refine w_ic_geN (t := 180) (f := 98) rfl rfl rfl (by omega) (by omega) (fun c95 => ?_) (fun c95 => absurd c95 (by omega))
    exact Z _
  | succ j ih =>
    intro r c I0 e hc h2 h5 Z
    rw [k_g2_s] at Z
    refine w_iload_n rfl rfl rfl ?_
    refine w_aload_n rfl rfl rfl ?_
    refine w_gf (t := .ref (T + 11)) (v := .ref (T + 11)) rfl rfl rfl (shT_0 hT) rfl rfl rfl ?_
    refine w_gf (t := .int 0) (v := .int _) rfl rfl rfl (shT_11 hT) rfl (congrArg Value.int h5) rfl ?_
    refine w_ic_geN (t := 180) (f := 98) rfl rfl rfl (by omega) (by omega) (fun c95 => absurd c95 (by omega)) (fun c95 => ?_)
    refine w_aload_n rfl rfl rfl ?_
    refine w_gf (t := .ref (S + 4)) (v := .ref (S + 4)) rfl rfl rfl (shS_0 hS) rfl rfl rfl ?_
    refine w_iload_n rfl rfl rfl ?_
    refine w_iaload rfl rfl (shS_4 hS) rfl ⟨by omega, by omega⟩ rfl ?_
    refine w_if_ne (t := 174) (f := 107) rfl rfl rfl (fun c104 => ?_) (fun c104 => ?_)
    · refine w_iinc (L' := [_, _, _, _]) rfl rfl rfl (am_incN 1) rfl ?_
      refine w_goto (pc' := 87) rfl rfl ?_
      first
        | exact ih (r + 1) c _ (by omega) (by omega) h2 h5 (by rw [if_neg (show ¬ I0 (S + 4) r = 0 from c104)] at Z; exact Z)
        | exact wz_M Z1 rfl (by unfold k_gsI; first | rw [k_sg1 c152] | rw [k_sg2 c152])
    · rw [if_pos c104] at Z
      have Z1 := ih (r + 1) (c + 1) (k_gsI T S r c I0) (by omega) (by omega) am_u_at ((congrFun (k_gsI_ne (by omega) (by omega) (by omega)) _).trans h5) Z
      refine w_aload_n rfl rfl rfl ?_
      refine w_gf (t := .ref (105)) (v := .ref (105)) rfl rfl rfl sp102 rfl rfl rfl ?_
      refine w_aload_n rfl rfl rfl ?_
      refine w_gf (t := .int 0) (v := .int _) rfl rfl rfl sp102 rfl (congrArg Value.int h2) rfl ?_
      refine w_iload_n rfl rfl rfl ?_
      refine w_iastore rfl rfl sp105 rfl ⟨by omega, by omega⟩ ?_
      refine w_aload_n rfl rfl rfl ?_
      refine w_gf (t := .ref (106)) (v := .ref (106)) rfl rfl rfl sp102 rfl rfl rfl ?_
      refine w_aload_n rfl rfl rfl ?_
      refine w_gf (t := .int 0) (v := .int _) rfl rfl rfl sp102 rfl (congrArg Value.int ((congrFun (am_u_ne (by decide)) _).trans h2)) rfl ?_
      refine w_aload_n rfl rfl rfl ?_
      refine w_iload_n rfl rfl rfl ?_
      refine w_cv (q := am_m66) (as := [_]) (rest := [_, _]) (st' := [_, _, _]) rfl rfl rfl rfl rfl rfl (shS_0 hS) rfl rfl rfl rfl (d_bear hS hk) rfl rfl ?_
      refine w_aload_n rfl rfl rfl ?_
      refine w_gf (t := .ref (T + 13)) (v := .ref (T + 13)) rfl rfl rfl (shT_0 hT) rfl rfl rfl ?_
      refine w_iload_n rfl rfl rfl ?_
      refine w_iaload rfl rfl (shT_13 hT) rfl ⟨by omega, by omega⟩ ((congrFun (am_u_ne (by omega)) _).trans rfl) ?_
      refine w_isub rfl rfl ?_
      refine w_iastore rfl rfl sp106 rfl ⟨by omega, by omega⟩ ?_
      refine w_aload_n rfl rfl rfl ?_
      refine w_dup rfl rfl rfl ?_
      refine w_gf (t := .int 0) (v := .int _) rfl rfl rfl sp102 rfl (congrArg Value.int ((congrFun (am_u_ne (by decide)) _).trans (congrFun (am_u_ne (by decide)) _))) rfl ?_
      refine w_aload_n rfl rfl rfl ?_
      refine w_gf (t := .ref (106)) (v := .ref (106)) rfl rfl rfl sp102 rfl rfl rfl ?_
      refine w_aload_n rfl rfl rfl ?_
      refine w_gf (t := .int 0) (v := .int _) rfl rfl rfl sp102 rfl (congrArg Value.int (((congrFun (am_u_ne (by decide)) _).trans (congrFun (am_u_ne (by decide)) _)).trans h2)) rfl ?_
      refine w_iaload rfl rfl sp106 rfl ⟨by omega, by omega⟩ am_u_at ?_
      refine w_if_lt (t := 159) (f := 155) rfl rfl rfl (fun c152 => ?_) (fun c152 => ?_)
      · refine w_iconst (x := Int32.ofNat 0) rfl rfl (by decide) ?_
        refine w_iadd rfl rfl ?_
        refine w_pf rfl rfl rfl sp102 rfl rfl rfl ?_
        refine w_aload_n rfl rfl rfl ?_
        refine w_dup rfl rfl rfl ?_
        refine w_gf (t := .int 0) (v := .int _) rfl rfl rfl sp102 rfl (congrArg Value.int (((am_u_nk (by decide)).trans ((congrFun (am_u_ne (by decide)) _).trans (congrFun (am_u_ne (by decide)) _))).trans h2)) rfl ?_
        refine w_iconst (x := Int32.ofNat 1) rfl rfl (by decide) ?_
        refine w_iaddN rfl rfl ?_
        refine w_pf rfl rfl rfl sp102 rfl rfl rfl ?_
        refine w_iinc (L' := [_, _, _, _]) rfl rfl rfl (am_incN 1) rfl ?_
        refine w_goto (pc' := 87) rfl rfl ?_
        first
          | exact ih (r + 1) c _ (by omega) (by omega) h2 h5 (by rw [if_neg (show ¬ I0 (S + 4) r = 0 from c104)] at Z; exact Z)
          | exact wz_M Z1 rfl (by unfold k_gsI; first | rw [k_sg1 c152] | rw [k_sg2 c152])
      · refine w_iconst (x := Int32.ofNat 1) rfl rfl (by decide) ?_
        refine w_goto (pc' := 160) rfl rfl ?_
        refine w_iadd rfl rfl ?_
        refine w_pf rfl rfl rfl sp102 rfl rfl rfl ?_
        refine w_aload_n rfl rfl rfl ?_
        refine w_dup rfl rfl rfl ?_
        refine w_gf (t := .int 0) (v := .int _) rfl rfl rfl sp102 rfl (congrArg Value.int (((am_u_nk (by decide)).trans ((congrFun (am_u_ne (by decide)) _).trans (congrFun (am_u_ne (by decide)) _))).trans h2)) rfl ?_
        refine w_iconst (x := Int32.ofNat 1) rfl rfl (by decide) ?_
        refine w_iaddN rfl rfl ?_
        refine w_pf rfl rfl rfl sp102 rfl rfl rfl ?_
        refine w_iinc (L' := [_, _, _, _]) rfl rfl rfl (am_incN 1) rfl ?_
        refine w_goto (pc' := 87) rfl rfl ?_
        first
          | exact ih (r + 1) c _ (by omega) (by omega) h2 h5 (by rw [if_neg (show ¬ I0 (S + 4) r = 0 from c104)] at Z; exact Z)
          | exact wz_M Z1 rfl (by unfold k_gsI; first | rw [k_sg1 c152] | rw [k_sg2 c152])
theorem d_gather {k : Nat} {I : hI} {J : hJ} {R : hR} {T : Nat} (hT : T = 9 ∨ T = 36) {S : Nat} (hS : S = 63 ∨ S = 70 ∨ S = 77) {n1 n2 : Nat} (hn1 : n1 ≤ 8) (hn2 : n2 ≤ 5) (h1 : I (T + 5) 1 = Int32.ofNat n1) (h3 : I (T + 11) 1 = Int32.ofNat n2) (hk : 2 ≤ k) : ct k 2 [.ref 102, .ref T, .ref S] I J R none ((k_ga T S n1 n2 I).2.2) J R := by
  obtain ⟨k, rfl⟩ : ∃ k', k = k' + 1 := ⟨k - 1, by omega⟩
  have hg := k_g1_h S n1 0 0 (am_u I 102 2 (Int32.ofNat 0)) (by omega) am_u_at
  refine ct_of (q := am_m2) (o := 0) (rt := none) (co := am_c2) (L := [_, _, _, _]) rfl rfl rfl rfl rfl rfl ?_
  refine w_aload_n rfl rfl rfl ?_
  refine w_iconst (x := Int32.ofNat 0) rfl rfl (by decide) ?_
  refine w_pf rfl rfl rfl sp102 rfl rfl rfl ?_
  refine w_iconst (x := Int32.ofNat 0) rfl rfl (by decide) ?_
  refine w_istore_n (L' := [_, _, _, _]) rfl rfl rfl ?_
  refine l_gath1 hT hS hn1 (by omega) n1 0 0 _ (by omega) (by omega) am_u_at ((am_u_na (by omega)).trans h1) (fun u => ?_)
  refine w_aload_n rfl rfl rfl ?_
  refine w_iconst (x := Int32.ofNat 0) rfl rfl (by decide) ?_
  refine w_pf rfl rfl rfl sp102 rfl rfl rfl ?_
  refine w_aload_n rfl rfl rfl ?_
  refine w_iconst (x := Int32.ofNat 0) rfl rfl (by decide) ?_
  refine w_pf rfl rfl rfl sp102 rfl rfl rfl ?_
  refine w_iconst (x := Int32.ofNat 0) rfl rfl (by decide) ?_
  refine w_istore_n (L' := [_, _, _, _]) rfl rfl rfl ?_
  refine l_gath2 hT hS hn2 (by omega) n2 0 0 _ (by omega) (by omega) ((am_u_nk (by decide)).trans am_u_at) ((am_u_na (by omega)).trans ((am_u_na (by omega)).trans ((congrFun (hg.2.2 _ (by omega) (by omega) (by omega)) _).trans ((am_u_na (by omega)).trans h3)))) (fun u => ?_)
  exact w_ret rfl rfl rfl rfl
theorem k_ga_h {T S n1 n2 : Nat} {I : hI} (h : n2 ≤ 5) : (k_ga T S n1 n2 I).1 ≤ 5 ∧ (k_ga T S n1 n2 I).2.1 ≤ 5 ∧ (k_ga T S n1 n2 I).2.2 102 2 = Int32.ofNat (k_ga T S n1 n2 I).1 ∧ (k_ga T S n1 n2 I).2.2 102 5 = Int32.ofNat (k_ga T S n1 n2 I).2.1 := by
  have hg := k_g1_h S n1 0 0 (am_u I 102 2 (Int32.ofNat 0)) (by omega) am_u_at
  have hh := k_g2_h T S n2 0 0 (am_u (am_u (k_g1 S n1 0 0 (am_u I 102 2 (Int32.ofNat 0))).2 102 5 (Int32.ofNat 0)) 102 8 (Int32.ofNat 0)) ((am_u_nk (by decide)).trans am_u_at)
  exact ⟨hg.1, by have := hh.1; show (k_g2 _ _ _ _ _ _).1 ≤ 5; omega, (hh.2.2.2 2 (by decide) (by decide)).trans ((am_u_nk (by decide)).trans ((am_u_nk (by decide)).trans hg.2.1)), hh.2.1⟩
def k_so0 (T S n1 n2 : Nat) (I : hI) : hI := am_u (am_u (am_u (k_ga T S n1 n2 I).2.2 102 9 (Int32.ofNat 0)) 102 10 (Int32.ofInt (-1))) 102 11 (Int32.ofNat 0)
def k_so (T S n1 n2 : Nat) (I : hI) : hI := k_pl (k_ga T S n1 n2 I).2.1 (k_ga T S n1 n2 I).1 0 (k_so0 T S n1 n2 I)
theorem d_solve {k : Nat} {I : hI} {J : hJ} {R : hR} {T : Nat} (hT : T = 9 ∨ T = 36) {S : Nat} (hS : S = 63 ∨ S = 70 ∨ S = 77) {n1 n2 : Nat} (hn1 : n1 ≤ 8) (hn2 : n2 ≤ 5) (h1 : I (T + 5) 1 = Int32.ofNat n1) (h3 : I (T + 11) 1 = Int32.ofNat n2) (hk : 9 ≤ k) : ct k 1 [.ref 102, .ref T, .ref S] I J R none (k_so T S n1 n2 I) J R := by
  obtain ⟨k, rfl⟩ : ∃ k', k = k' + 1 := ⟨k - 1, by omega⟩
  have hg := k_ga_h (T := T) (S := S) (n1 := n1) (I := I) hn2
  refine ct_of (q := am_m1) (o := 0) (rt := none) (co := am_c1) (L := [_, _, _]) rfl rfl rfl rfl rfl rfl ?_
  refine w_aload_n rfl rfl rfl ?_
  refine w_aload_n rfl rfl rfl ?_
  refine w_aload_n rfl rfl rfl ?_
  refine w_cv (q := am_m2) (as := [_, _]) (rest := []) (st' := []) rfl rfl rfl rfl rfl rfl sp102 rfl rfl rfl rfl (d_gather hT hS hn1 hn2 h1 h3 (by omega)) rfl rfl ?_
  refine w_aload_n rfl rfl rfl ?_
  refine w_iconst (x := Int32.ofNat 0) rfl rfl (by decide) ?_
  refine w_pf rfl rfl rfl sp102 rfl rfl rfl ?_
  refine w_aload_n rfl rfl rfl ?_
  refine w_iconst (x := Int32.ofInt (-1)) rfl rfl (by decide) ?_
  refine w_pf rfl rfl rfl sp102 rfl rfl rfl ?_
  refine w_aload_n rfl rfl rfl ?_
  refine w_iconst (x := Int32.ofNat 0) rfl rfl (by decide) ?_
  refine w_pf rfl rfl rfl sp102 rfl rfl rfl ?_
  refine w_aload_n rfl rfl rfl ?_
  refine w_iconst (x := Int32.ofNat 0) rfl rfl (by decide) ?_
  refine w_cv (q := am_m3) (as := [_]) (rest := []) (st' := []) rfl rfl rfl rfl rfl rfl sp102 rfl rfl rfl rfl (d_place hg.2.1 hg.1 (k_ga T S n1 n2 I).1 0 _ _ _ _ ((am_u_nk (by decide)).trans ((am_u_nk (by decide)).trans ((am_u_nk (by decide)).trans hg.2.2.1))) ((am_u_nk (by decide)).trans ((am_u_nk (by decide)).trans ((am_u_nk (by decide)).trans hg.2.2.2))) (by omega) (by omega)) rfl rfl ?_
  exact w_ret rfl rfl rfl rfl
