/-! The reference: a token. -/
/-- a token's row: next, kind, which, at -/
def m_t4 (I : hI) (n : Nat) (k w : Int32) (a : Nat) : hI := fun b j => if b = 110 ∧ j = 7 then Int32.ofNat n else if b = 110 ∧ j = 8 then k else if b = 110 ∧ j = 9 then w else if b = 110 ∧ j = 10 then Int32.ofNat a else I b j
def sgT (f : Nat → Int32) (st p : Nat) : Int32 := if st ≤ p + 1 then Int32.ofNat 0 else f (p + 1)
/-- a sign's row: next, kind, which -/
def sgn (f : Nat → Int32) (st p : Nat) : Nat × Int32 × Int32 :=
  if f p = Int32.ofNat 60 then (if sgT f st p = Int32.ofNat 61 then (p + 2, Int32.ofNat 5, Int32.ofNat 1) else if sgT f st p = Int32.ofNat 62 then (p + 2, Int32.ofNat 5, Int32.ofNat 3) else (p + 1, Int32.ofNat 5, Int32.ofNat 0))
  else if f p = Int32.ofNat 62 then (if sgT f st p = Int32.ofNat 61 then (p + 2, Int32.ofNat 5, Int32.ofNat 4) else (p + 1, Int32.ofNat 5, Int32.ofNat 5))
  else if f p = Int32.ofNat 61 then (p + 1, Int32.ofNat 5, Int32.ofNat 2)
  else if f p = Int32.ofNat 59 ∨ f p = Int32.ofNat 40 ∨ f p = Int32.ofNat 41 ∨ f p = Int32.ofNat 43 ∨ f p = Int32.ofNat 45 ∨ f p = Int32.ofNat 42 ∨ f p = Int32.ofNat 47 ∨ f p = Int32.ofNat 37 then (p + 1, Int32.ofNat 4, f p) else (p + 1, Int32.ofNat 6, f p)
def m_t3 (I : hI) (q : Nat × Int32 × Int32) : hI := fun b j => if b = 110 ∧ j = 7 then Int32.ofNat q.1 else if b = 110 ∧ j = 8 then q.2.1 else if b = 110 ∧ j = 9 then q.2.2 else I b j
theorem c_sign60 {k : Nat} {I : hI} {J : hJ} {R : hR} {f : Nat → Int32} {st p : Nat} (hf : I 111 = f) (h6 : I 110 6 = Int32.ofNat st) (h7 : I 110 7 = Int32.ofNat p) (hp : p < st) (hs : st ≤ 700) (hc : f p = Int32.ofNat 60) (hk : 1 ≤ k) : ct k 175 [.ref 110] I J R none (m_t3 I (sgn f st p)) J R := by
  obtain ⟨k, rfl⟩ : ∃ k', k = k' + 1 := ⟨k - 1, by omega⟩
  refine ct_of (q := am_m175) (L := [_, _, _, _]) rfl rfl rfl rfl rfl rfl ?_
  refine w_aload_n rfl rfl rfl ?_
  refine w_aload_n rfl rfl rfl ?_
  refine w_gf (t := .ref (111)) (v := .ref (111)) rfl rfl rfl sp110 rfl rfl rfl ?_
  refine w_aload_n rfl rfl rfl ?_
  refine w_gf (t := .int 0) (v := .int _) rfl rfl rfl sp110 rfl (congrArg Value.int h7) rfl ?_
  refine w_iaload rfl rfl sp111 rfl ⟨by omega, by omega⟩ ((congrFun hf _).trans hc) ?_
  refine w_pf rfl rfl rfl sp110 rfl rfl rfl ?_
  refine w_aload_n rfl rfl rfl ?_
  refine w_dup rfl rfl rfl ?_
  refine w_gf (t := .int 0) (v := .int _) rfl rfl rfl sp110 rfl (congrArg Value.int ((am_u_nk (by decide)).trans h7)) rfl ?_
  refine w_iconst (x := Int32.ofNat 1) rfl rfl (by decide) ?_
  refine w_iaddN rfl rfl ?_
  refine w_pf rfl rfl rfl sp110 rfl rfl rfl ?_
  refine w_aload_n rfl rfl rfl ?_
  refine w_gf (t := .int 0) (v := .int _) rfl rfl rfl sp110 rfl (congrArg Value.int ((am_u_nk (by decide)).trans am_u_at)) rfl ?_
  refine w_bipush (x := Int32.ofNat 60) rfl rfl (by decide) ?_
  refine w_ic_eqN (t := 50) (f := 32) rfl rfl rfl (by omega) (by omega) (fun c29 => ?_) (fun c29 => absurd c29 (by omega))
  clear c29
  refine w_aload_n rfl rfl rfl ?_
  refine w_gf (t := .int 0) (v := .int _) rfl rfl rfl sp110 rfl (congrArg Value.int am_u_at) rfl ?_
  refine w_aload_n rfl rfl rfl ?_
  refine w_gf (t := .int 0) (v := .int _) rfl rfl rfl sp110 rfl (congrArg Value.int (((am_u_nk (by decide)).trans (am_u_nk (by decide))).trans h6)) rfl ?_
  refine w_ic_geN (t := 73) (f := 61) rfl rfl rfl (by omega) (by omega) (fun c58 => ?_) (fun c58 => ?_)
  · refine w_iconst (x := Int32.ofNat 0) rfl rfl (by decide) ?_
    refine w_istore_n (L' := [_, _, _, _]) rfl rfl rfl ?_
    refine w_aload_n rfl rfl rfl ?_
    refine w_gf (t := .int 0) (v := .int _) rfl rfl rfl sp110 rfl (congrArg Value.int ((am_u_nk (by decide)).trans am_u_at)) rfl ?_
    refine w_bipush (x := Int32.ofNat 61) rfl rfl (by decide) ?_
    refine w_ic_eqN (t := 94) (f := 84) rfl rfl rfl (by omega) (by omega) (fun c81 => absurd c81 (by omega)) (fun c81 => ?_)
    clear c81
    refine w_iload_n rfl rfl rfl ?_
    refine w_bipush (x := Int32.ofNat 61) rfl rfl (by decide) ?_
    refine w_ic_neN (t := 94) (f := 90) rfl rfl rfl (by omega) (by omega) (fun c87 => ?_) (fun c87 => absurd c87 (by omega))
    clear c87
    refine w_iconst (x := Int32.ofNat 0) rfl rfl (by decide) ?_
    refine w_istore_n (L' := [_, _, _, _]) rfl rfl rfl ?_
    refine w_aload_n rfl rfl rfl ?_
    refine w_gf (t := .int 0) (v := .int _) rfl rfl rfl sp110 rfl (congrArg Value.int ((am_u_nk (by decide)).trans am_u_at)) rfl ?_
    refine w_bipush (x := Int32.ofNat 60) rfl rfl (by decide) ?_
    refine w_ic_neN (t := 115) (f := 105) rfl rfl rfl (by omega) (by omega) (fun c102 => absurd c102 (by omega)) (fun c102 => ?_)
    clear c102
    refine w_iload_n rfl rfl rfl ?_
    refine w_bipush (x := Int32.ofNat 62) rfl rfl (by decide) ?_
    refine w_ic_neN (t := 115) (f := 111) rfl rfl rfl (by omega) (by omega) (fun c108 => ?_) (fun c108 => absurd c108 (by omega))
    clear c108
    refine w_iconst (x := Int32.ofNat 0) rfl rfl (by decide) ?_
    refine w_istore_n (L' := [_, _, _, _]) rfl rfl rfl ?_
    refine w_iload_n rfl rfl rfl ?_
    refine w_if_ne (t := 125) (f := 121) rfl rfl rfl (fun c118 => absurd c118 (by decide)) (fun c118 => ?_)
    clear c118
    refine w_iload_n rfl rfl rfl ?_
    refine w_if_eq (t := 135) (f := 125) rfl rfl rfl (fun c122 => ?_) (fun c122 => absurd c122 (by decide))
    clear c122
    refine w_aload_n rfl rfl rfl ?_
    refine w_iconst (x := Int32.ofNat 5) rfl rfl (by decide) ?_
    refine w_pf rfl rfl rfl sp110 rfl rfl rfl ?_
    refine w_aload_n rfl rfl rfl ?_
    refine w_aload_n rfl rfl rfl ?_
    refine w_gf (t := .int 0) (v := .int _) rfl rfl rfl sp110 rfl (congrArg Value.int ((am_u_nk (by decide)).trans ((am_u_nk (by decide)).trans am_u_at))) rfl ?_
    refine w_bipush (x := Int32.ofNat 61) rfl rfl (by decide) ?_
    refine w_ic_neN (t := 154) (f := 150) rfl rfl rfl (by omega) (by omega) (fun c147 => ?_) (fun c147 => absurd c147 (by omega))
    clear c147
    refine w_aload_n rfl rfl rfl ?_
    refine w_gf (t := .int 0) (v := .int _) rfl rfl rfl sp110 rfl (congrArg Value.int ((am_u_nk (by decide)).trans ((am_u_nk (by decide)).trans am_u_at))) rfl ?_
    refine w_bipush (x := Int32.ofNat 60) rfl rfl (by decide) ?_
    refine w_ic_neN (t := 183) (f := 163) rfl rfl rfl (by omega) (by omega) (fun c160 => absurd c160 (by omega)) (fun c160 => ?_)
    clear c160
    refine w_iload_n rfl rfl rfl ?_
    refine w_if_eq (t := 171) (f := 167) rfl rfl rfl (fun c164 => ?_) (fun c164 => absurd c164 (by decide))
    clear c164
    refine w_iload_n rfl rfl rfl ?_
    refine w_if_eq (t := 179) (f := 175) rfl rfl rfl (fun c172 => ?_) (fun c172 => absurd c172 (by decide))
    clear c172
    refine w_iconst (x := Int32.ofNat 0) rfl rfl (by decide) ?_
    refine w_goto (pc' := 192) rfl rfl ?_
    refine w_pf rfl rfl rfl sp110 rfl rfl rfl ?_
    refine w_goto (pc' := 290) rfl rfl ?_
    exact w_ret rfl (by unfold sgn; simp +decide only [sgT, hc, *, ite_true, ite_false]; funext b j; simp only [m_t3, am_u]; (repeat' split) <;> first | rfl | (exfalso; omega)) rfl rfl
  · refine w_aload_n rfl rfl rfl ?_
    refine w_gf (t := .ref (111)) (v := .ref (111)) rfl rfl rfl sp110 rfl rfl rfl ?_
    refine w_aload_n rfl rfl rfl ?_
    refine w_gf (t := .int 0) (v := .int _) rfl rfl rfl sp110 rfl (congrArg Value.int am_u_at) rfl ?_
    refine w_iaload rfl rfl sp111 rfl ⟨by omega, by omega⟩ (((congrFun (am_u_ne (by decide)) _).trans (congrFun (am_u_ne (by decide)) _)).trans (congrFun hf _)) ?_
    refine w_goto (pc' := 74) rfl rfl ?_
    refine w_istore_n (L' := [_, _, _, _]) rfl rfl rfl ?_
    refine w_aload_n rfl rfl rfl ?_
    refine w_gf (t := .int 0) (v := .int _) rfl rfl rfl sp110 rfl (congrArg Value.int ((am_u_nk (by decide)).trans am_u_at)) rfl ?_
    refine w_bipush (x := Int32.ofNat 61) rfl rfl (by decide) ?_
    refine w_ic_eqN (t := 94) (f := 84) rfl rfl rfl (by omega) (by omega) (fun c81 => absurd c81 (by omega)) (fun c81 => ?_)
    clear c81
    refine w_iload_n rfl rfl rfl ?_
    refine w_bipush (x := Int32.ofNat 61) rfl rfl (by decide) ?_
    refine w_ic_ne (t := 94) (f := 90) rfl rfl rfl (fun c87 => ?_) (fun c87 => ?_)
    · refine w_iconst (x := Int32.ofNat 0) rfl rfl (by decide) ?_
      refine w_istore_n (L' := [_, _, _, _]) rfl rfl rfl ?_
      refine w_aload_n rfl rfl rfl ?_
      refine w_gf (t := .int 0) (v := .int _) rfl rfl rfl sp110 rfl (congrArg Value.int ((am_u_nk (by decide)).trans am_u_at)) rfl ?_
      refine w_bipush (x := Int32.ofNat 60) rfl rfl (by decide) ?_
      refine w_ic_neN (t := 115) (f := 105) rfl rfl rfl (by omega) (by omega) (fun c102 => absurd c102 (by omega)) (fun c102 => ?_)
      clear c102
      refine w_iload_n rfl rfl rfl ?_
      refine w_bipush (x := Int32.ofNat 62) rfl rfl (by decide) ?_
      refine w_ic_ne (t := 115) (f := 111) rfl rfl rfl (fun c108 => ?_) (fun c108 => ?_)
      · refine w_iconst (x := Int32.ofNat 0) rfl rfl (by decide) ?_
        refine w_istore_n (L' := [_, _, _, _]) rfl rfl rfl ?_
        refine w_iload_n rfl rfl rfl ?_
        refine w_if_ne (t := 125) (f := 121) rfl rfl rfl (fun c118 => absurd c118 (by decide)) (fun c118 => ?_)
        clear c118
        refine w_iload_n rfl rfl rfl ?_
        refine w_if_eq (t := 135) (f := 125) rfl rfl rfl (fun c122 => ?_) (fun c122 => absurd c122 (by decide))
        clear c122
        refine w_aload_n rfl rfl rfl ?_
        refine w_iconst (x := Int32.ofNat 5) rfl rfl (by decide) ?_
        refine w_pf rfl rfl rfl sp110 rfl rfl rfl ?_
        refine w_aload_n rfl rfl rfl ?_
        refine w_aload_n rfl rfl rfl ?_
        refine w_gf (t := .int 0) (v := .int _) rfl rfl rfl sp110 rfl (congrArg Value.int ((am_u_nk (by decide)).trans ((am_u_nk (by decide)).trans am_u_at))) rfl ?_
        refine w_bipush (x := Int32.ofNat 61) rfl rfl (by decide) ?_
        refine w_ic_neN (t := 154) (f := 150) rfl rfl rfl (by omega) (by omega) (fun c147 => ?_) (fun c147 => absurd c147 (by omega))
        clear c147
        refine w_aload_n rfl rfl rfl ?_
        refine w_gf (t := .int 0) (v := .int _) rfl rfl rfl sp110 rfl (congrArg Value.int ((am_u_nk (by decide)).trans ((am_u_nk (by decide)).trans am_u_at))) rfl ?_
        refine w_bipush (x := Int32.ofNat 60) rfl rfl (by decide) ?_
        refine w_ic_neN (t := 183) (f := 163) rfl rfl rfl (by omega) (by omega) (fun c160 => absurd c160 (by omega)) (fun c160 => ?_)
        clear c160
        refine w_iload_n rfl rfl rfl ?_
        refine w_if_eq (t := 171) (f := 167) rfl rfl rfl (fun c164 => ?_) (fun c164 => absurd c164 (by decide))
        clear c164
        refine w_iload_n rfl rfl rfl ?_
        refine w_if_eq (t := 179) (f := 175) rfl rfl rfl (fun c172 => ?_) (fun c172 => absurd c172 (by decide))
        clear c172
        refine w_iconst (x := Int32.ofNat 0) rfl rfl (by decide) ?_
        refine w_goto (pc' := 192) rfl rfl ?_
        refine w_pf rfl rfl rfl sp110 rfl rfl rfl ?_
        refine w_goto (pc' := 290) rfl rfl ?_
        exact w_ret rfl (by unfold sgn; simp +decide only [sgT, hc, *, ite_true, ite_false]; funext b j; simp only [m_t3, am_u]; (repeat' split) <;> first | rfl | (exfalso; omega)) rfl rfl
      · refine w_iconst (x := Int32.ofNat 1) rfl rfl (by decide) ?_
        refine w_goto (pc' := 116) rfl rfl ?_
        refine w_istore_n (L' := [_, _, _, _]) rfl rfl rfl ?_
        refine w_iload_n rfl rfl rfl ?_
        refine w_if_ne (t := 125) (f := 121) rfl rfl rfl (fun c118 => absurd c118 (by decide)) (fun c118 => ?_)
        clear c118
        refine w_iload_n rfl rfl rfl ?_
        refine w_if_eq (t := 135) (f := 125) rfl rfl rfl (fun c122 => absurd c122 (by decide)) (fun c122 => ?_)
        clear c122
        refine w_aload_n rfl rfl rfl ?_
        refine w_dup rfl rfl rfl ?_
        refine w_gf (t := .int 0) (v := .int _) rfl rfl rfl sp110 rfl (congrArg Value.int am_u_at) rfl ?_
        refine w_iconst (x := Int32.ofNat 1) rfl rfl (by decide) ?_
        refine w_iaddN rfl rfl ?_
        refine w_pf rfl rfl rfl sp110 rfl rfl rfl ?_
        refine w_aload_n rfl rfl rfl ?_
        refine w_iconst (x := Int32.ofNat 5) rfl rfl (by decide) ?_
        refine w_pf rfl rfl rfl sp110 rfl rfl rfl ?_
        refine w_aload_n rfl rfl rfl ?_
        refine w_aload_n rfl rfl rfl ?_
        refine w_gf (t := .int 0) (v := .int _) rfl rfl rfl sp110 rfl (congrArg Value.int ((am_u_nk (by decide)).trans ((am_u_nk (by decide)).trans ((am_u_nk (by decide)).trans am_u_at)))) rfl ?_
        refine w_bipush (x := Int32.ofNat 61) rfl rfl (by decide) ?_
        refine w_ic_neN (t := 154) (f := 150) rfl rfl rfl (by omega) (by omega) (fun c147 => ?_) (fun c147 => absurd c147 (by omega))
        clear c147
        refine w_aload_n rfl rfl rfl ?_
        refine w_gf (t := .int 0) (v := .int _) rfl rfl rfl sp110 rfl (congrArg Value.int ((am_u_nk (by decide)).trans ((am_u_nk (by decide)).trans ((am_u_nk (by decide)).trans am_u_at)))) rfl ?_
        refine w_bipush (x := Int32.ofNat 60) rfl rfl (by decide) ?_
        refine w_ic_neN (t := 183) (f := 163) rfl rfl rfl (by omega) (by omega) (fun c160 => absurd c160 (by omega)) (fun c160 => ?_)
        clear c160
        refine w_iload_n rfl rfl rfl ?_
        refine w_if_eq (t := 171) (f := 167) rfl rfl rfl (fun c164 => ?_) (fun c164 => absurd c164 (by decide))
        clear c164
        refine w_iload_n rfl rfl rfl ?_
        refine w_if_eq (t := 179) (f := 175) rfl rfl rfl (fun c172 => absurd c172 (by decide)) (fun c172 => ?_)
        clear c172
        refine w_iconst (x := Int32.ofNat 3) rfl rfl (by decide) ?_
        refine w_goto (pc' := 192) rfl rfl ?_
        refine w_pf rfl rfl rfl sp110 rfl rfl rfl ?_
        refine w_goto (pc' := 290) rfl rfl ?_
        exact w_ret rfl (by unfold sgn; simp +decide only [sgT, hc, *, ite_true, ite_false]; funext b j; simp only [m_t3, am_u]; (repeat' split) <;> first | rfl | (exfalso; omega)) rfl rfl
    · refine w_iconst (x := Int32.ofNat 1) rfl rfl (by decide) ?_
      refine w_goto (pc' := 95) rfl rfl ?_
      refine w_istore_n (L' := [_, _, _, _]) rfl rfl rfl ?_
      refine w_aload_n rfl rfl rfl ?_
      refine w_gf (t := .int 0) (v := .int _) rfl rfl rfl sp110 rfl (congrArg Value.int ((am_u_nk (by decide)).trans am_u_at)) rfl ?_
      refine w_bipush (x := Int32.ofNat 60) rfl rfl (by decide) ?_
      refine w_ic_neN (t := 115) (f := 105) rfl rfl rfl (by omega) (by omega) (fun c102 => absurd c102 (by omega)) (fun c102 => ?_)
      clear c102
      refine w_iload_n rfl rfl rfl ?_
      refine w_bipush (x := Int32.ofNat 62) rfl rfl (by decide) ?_
      refine w_ic_ne (t := 115) (f := 111) rfl rfl rfl (fun c108 => ?_) (fun c108 => ?_)
      · refine w_iconst (x := Int32.ofNat 0) rfl rfl (by decide) ?_
        refine w_istore_n (L' := [_, _, _, _]) rfl rfl rfl ?_
        refine w_iload_n rfl rfl rfl ?_
        refine w_if_ne (t := 125) (f := 121) rfl rfl rfl (fun c118 => ?_) (fun c118 => absurd c118 (by decide))
        clear c118
        refine w_aload_n rfl rfl rfl ?_
        refine w_dup rfl rfl rfl ?_
        refine w_gf (t := .int 0) (v := .int _) rfl rfl rfl sp110 rfl (congrArg Value.int am_u_at) rfl ?_
        refine w_iconst (x := Int32.ofNat 1) rfl rfl (by decide) ?_
        refine w_iaddN rfl rfl ?_
        refine w_pf rfl rfl rfl sp110 rfl rfl rfl ?_
        refine w_aload_n rfl rfl rfl ?_
        refine w_iconst (x := Int32.ofNat 5) rfl rfl (by decide) ?_
        refine w_pf rfl rfl rfl sp110 rfl rfl rfl ?_
        refine w_aload_n rfl rfl rfl ?_
        refine w_aload_n rfl rfl rfl ?_
        refine w_gf (t := .int 0) (v := .int _) rfl rfl rfl sp110 rfl (congrArg Value.int ((am_u_nk (by decide)).trans ((am_u_nk (by decide)).trans ((am_u_nk (by decide)).trans am_u_at)))) rfl ?_
        refine w_bipush (x := Int32.ofNat 61) rfl rfl (by decide) ?_
        refine w_ic_neN (t := 154) (f := 150) rfl rfl rfl (by omega) (by omega) (fun c147 => ?_) (fun c147 => absurd c147 (by omega))
        clear c147
        refine w_aload_n rfl rfl rfl ?_
        refine w_gf (t := .int 0) (v := .int _) rfl rfl rfl sp110 rfl (congrArg Value.int ((am_u_nk (by decide)).trans ((am_u_nk (by decide)).trans ((am_u_nk (by decide)).trans am_u_at)))) rfl ?_
        refine w_bipush (x := Int32.ofNat 60) rfl rfl (by decide) ?_
        refine w_ic_neN (t := 183) (f := 163) rfl rfl rfl (by omega) (by omega) (fun c160 => absurd c160 (by omega)) (fun c160 => ?_)
        clear c160
        refine w_iload_n rfl rfl rfl ?_
        refine w_if_eq (t := 171) (f := 167) rfl rfl rfl (fun c164 => absurd c164 (by decide)) (fun c164 => ?_)
        clear c164
        refine w_iconst (x := Int32.ofNat 1) rfl rfl (by decide) ?_
        refine w_goto (pc' := 192) rfl rfl ?_
        refine w_pf rfl rfl rfl sp110 rfl rfl rfl ?_
        refine w_goto (pc' := 290) rfl rfl ?_
        exact w_ret rfl (by unfold sgn; simp +decide only [sgT, hc, *, ite_true, ite_false]; funext b j; simp only [m_t3, am_u]; (repeat' split) <;> first | rfl | (exfalso; omega)) rfl rfl
      · refine w_iconst (x := Int32.ofNat 1) rfl rfl (by decide) ?_
        refine w_goto (pc' := 116) rfl rfl ?_
        refine w_istore_n (L' := [_, _, _, _]) rfl rfl rfl ?_
        refine w_iload_n rfl rfl rfl ?_
        refine w_if_ne (t := 125) (f := 121) rfl rfl rfl (fun c118 => ?_) (fun c118 => absurd c118 (by decide))
        clear c118
        refine w_aload_n rfl rfl rfl ?_
        refine w_dup rfl rfl rfl ?_
        refine w_gf (t := .int 0) (v := .int _) rfl rfl rfl sp110 rfl (congrArg Value.int am_u_at) rfl ?_
        refine w_iconst (x := Int32.ofNat 1) rfl rfl (by decide) ?_
        refine w_iaddN rfl rfl ?_
        refine w_pf rfl rfl rfl sp110 rfl rfl rfl ?_
        refine w_aload_n rfl rfl rfl ?_
        refine w_iconst (x := Int32.ofNat 5) rfl rfl (by decide) ?_
        refine w_pf rfl rfl rfl sp110 rfl rfl rfl ?_
        refine w_aload_n rfl rfl rfl ?_
        refine w_aload_n rfl rfl rfl ?_
        refine w_gf (t := .int 0) (v := .int _) rfl rfl rfl sp110 rfl (congrArg Value.int ((am_u_nk (by decide)).trans ((am_u_nk (by decide)).trans ((am_u_nk (by decide)).trans am_u_at)))) rfl ?_
        refine w_bipush (x := Int32.ofNat 61) rfl rfl (by decide) ?_
        refine w_ic_neN (t := 154) (f := 150) rfl rfl rfl (by omega) (by omega) (fun c147 => ?_) (fun c147 => absurd c147 (by omega))
        clear c147
        refine w_aload_n rfl rfl rfl ?_
        refine w_gf (t := .int 0) (v := .int _) rfl rfl rfl sp110 rfl (congrArg Value.int ((am_u_nk (by decide)).trans ((am_u_nk (by decide)).trans ((am_u_nk (by decide)).trans am_u_at)))) rfl ?_
        refine w_bipush (x := Int32.ofNat 60) rfl rfl (by decide) ?_
        refine w_ic_neN (t := 183) (f := 163) rfl rfl rfl (by omega) (by omega) (fun c160 => absurd c160 (by omega)) (fun c160 => ?_)
        clear c160
        refine w_iload_n rfl rfl rfl ?_
        refine w_if_eq (t := 171) (f := 167) rfl rfl rfl (fun c164 => absurd c164 (by decide)) (fun c164 => ?_)
        clear c164
        refine w_iconst (x := Int32.ofNat 1) rfl rfl (by decide) ?_
        refine w_goto (pc' := 192) rfl rfl ?_
        refine w_pf rfl rfl rfl sp110 rfl rfl rfl ?_
        refine w_goto (pc' := 290) rfl rfl ?_
        exact w_ret rfl (by unfold sgn; simp +decide only [sgT, hc, *, ite_true, ite_false]; funext b j; simp only [m_t3, am_u]; (repeat' split) <;> first | rfl | (exfalso; omega)) rfl rfl
theorem c_sign62 {k : Nat} {I : hI} {J : hJ} {R : hR} {f : Nat → Int32} {st p : Nat} (hf : I 111 = f) (h6 : I 110 6 = Int32.ofNat st) (h7 : I 110 7 = Int32.ofNat p) (hp : p < st) (hs : st ≤ 700) (hc : f p = Int32.ofNat 62) (hk : 1 ≤ k) : ct k 175 [.ref 110] I J R none (m_t3 I (sgn f st p)) J R := by
  obtain ⟨k, rfl⟩ : ∃ k', k = k' + 1 := ⟨k - 1, by omega⟩
  refine ct_of (q := am_m175) (L := [_, _, _, _]) rfl rfl rfl rfl rfl rfl ?_
  refine w_aload_n rfl rfl rfl ?_
  refine w_aload_n rfl rfl rfl ?_
  refine w_gf (t := .ref (111)) (v := .ref (111)) rfl rfl rfl sp110 rfl rfl rfl ?_
  refine w_aload_n rfl rfl rfl ?_
  refine w_gf (t := .int 0) (v := .int _) rfl rfl rfl sp110 rfl (congrArg Value.int h7) rfl ?_
  refine w_iaload rfl rfl sp111 rfl ⟨by omega, by omega⟩ ((congrFun hf _).trans hc) ?_
  refine w_pf rfl rfl rfl sp110 rfl rfl rfl ?_
  refine w_aload_n rfl rfl rfl ?_
  refine w_dup rfl rfl rfl ?_
  refine w_gf (t := .int 0) (v := .int _) rfl rfl rfl sp110 rfl (congrArg Value.int ((am_u_nk (by decide)).trans h7)) rfl ?_
  refine w_iconst (x := Int32.ofNat 1) rfl rfl (by decide) ?_
  refine w_iaddN rfl rfl ?_
  refine w_pf rfl rfl rfl sp110 rfl rfl rfl ?_
  refine w_aload_n rfl rfl rfl ?_
  refine w_gf (t := .int 0) (v := .int _) rfl rfl rfl sp110 rfl (congrArg Value.int ((am_u_nk (by decide)).trans am_u_at)) rfl ?_
  refine w_bipush (x := Int32.ofNat 60) rfl rfl (by decide) ?_
  refine w_ic_eqN (t := 50) (f := 32) rfl rfl rfl (by omega) (by omega) (fun c29 => absurd c29 (by omega)) (fun c29 => ?_)
  clear c29
  refine w_aload_n rfl rfl rfl ?_
  refine w_gf (t := .int 0) (v := .int _) rfl rfl rfl sp110 rfl (congrArg Value.int ((am_u_nk (by decide)).trans am_u_at)) rfl ?_
  refine w_bipush (x := Int32.ofNat 62) rfl rfl (by decide) ?_
  refine w_ic_eqN (t := 50) (f := 41) rfl rfl rfl (by omega) (by omega) (fun c38 => ?_) (fun c38 => absurd c38 (by omega))
  clear c38
  refine w_aload_n rfl rfl rfl ?_
  refine w_gf (t := .int 0) (v := .int _) rfl rfl rfl sp110 rfl (congrArg Value.int am_u_at) rfl ?_
  refine w_aload_n rfl rfl rfl ?_
  refine w_gf (t := .int 0) (v := .int _) rfl rfl rfl sp110 rfl (congrArg Value.int (((am_u_nk (by decide)).trans (am_u_nk (by decide))).trans h6)) rfl ?_
  refine w_ic_geN (t := 73) (f := 61) rfl rfl rfl (by omega) (by omega) (fun c58 => ?_) (fun c58 => ?_)
  · refine w_iconst (x := Int32.ofNat 0) rfl rfl (by decide) ?_
    refine w_istore_n (L' := [_, _, _, _]) rfl rfl rfl ?_
    refine w_aload_n rfl rfl rfl ?_
    refine w_gf (t := .int 0) (v := .int _) rfl rfl rfl sp110 rfl (congrArg Value.int ((am_u_nk (by decide)).trans am_u_at)) rfl ?_
    refine w_bipush (x := Int32.ofNat 61) rfl rfl (by decide) ?_
    refine w_ic_eqN (t := 94) (f := 84) rfl rfl rfl (by omega) (by omega) (fun c81 => absurd c81 (by omega)) (fun c81 => ?_)
    clear c81
    refine w_iload_n rfl rfl rfl ?_
    refine w_bipush (x := Int32.ofNat 61) rfl rfl (by decide) ?_
    refine w_ic_neN (t := 94) (f := 90) rfl rfl rfl (by omega) (by omega) (fun c87 => ?_) (fun c87 => absurd c87 (by omega))
    clear c87
    refine w_iconst (x := Int32.ofNat 0) rfl rfl (by decide) ?_
    refine w_istore_n (L' := [_, _, _, _]) rfl rfl rfl ?_
    refine w_aload_n rfl rfl rfl ?_
    refine w_gf (t := .int 0) (v := .int _) rfl rfl rfl sp110 rfl (congrArg Value.int ((am_u_nk (by decide)).trans am_u_at)) rfl ?_
    refine w_bipush (x := Int32.ofNat 60) rfl rfl (by decide) ?_
    refine w_ic_neN (t := 115) (f := 105) rfl rfl rfl (by omega) (by omega) (fun c102 => ?_) (fun c102 => absurd c102 (by omega))
    clear c102
    refine w_iconst (x := Int32.ofNat 0) rfl rfl (by decide) ?_
    refine w_istore_n (L' := [_, _, _, _]) rfl rfl rfl ?_
    refine w_iload_n rfl rfl rfl ?_
    refine w_if_ne (t := 125) (f := 121) rfl rfl rfl (fun c118 => absurd c118 (by decide)) (fun c118 => ?_)
    clear c118
    refine w_iload_n rfl rfl rfl ?_
    refine w_if_eq (t := 135) (f := 125) rfl rfl rfl (fun c122 => ?_) (fun c122 => absurd c122 (by decide))
    clear c122
    refine w_aload_n rfl rfl rfl ?_
    refine w_iconst (x := Int32.ofNat 5) rfl rfl (by decide) ?_
    refine w_pf rfl rfl rfl sp110 rfl rfl rfl ?_
    refine w_aload_n rfl rfl rfl ?_
    refine w_aload_n rfl rfl rfl ?_
    refine w_gf (t := .int 0) (v := .int _) rfl rfl rfl sp110 rfl (congrArg Value.int ((am_u_nk (by decide)).trans ((am_u_nk (by decide)).trans am_u_at))) rfl ?_
    refine w_bipush (x := Int32.ofNat 61) rfl rfl (by decide) ?_
    refine w_ic_neN (t := 154) (f := 150) rfl rfl rfl (by omega) (by omega) (fun c147 => ?_) (fun c147 => absurd c147 (by omega))
    clear c147
    refine w_aload_n rfl rfl rfl ?_
    refine w_gf (t := .int 0) (v := .int _) rfl rfl rfl sp110 rfl (congrArg Value.int ((am_u_nk (by decide)).trans ((am_u_nk (by decide)).trans am_u_at))) rfl ?_
    refine w_bipush (x := Int32.ofNat 60) rfl rfl (by decide) ?_
    refine w_ic_neN (t := 183) (f := 163) rfl rfl rfl (by omega) (by omega) (fun c160 => ?_) (fun c160 => absurd c160 (by omega))
    clear c160
    refine w_iload_n rfl rfl rfl ?_
    refine w_if_eq (t := 191) (f := 187) rfl rfl rfl (fun c184 => ?_) (fun c184 => absurd c184 (by decide))
    clear c184
    refine w_iconst (x := Int32.ofNat 5) rfl rfl (by decide) ?_
    refine w_pf rfl rfl rfl sp110 rfl rfl rfl ?_
    refine w_goto (pc' := 290) rfl rfl ?_
    exact w_ret rfl (by unfold sgn; simp +decide only [sgT, hc, *, ite_true, ite_false]; funext b j; simp only [m_t3, am_u]; (repeat' split) <;> first | rfl | (exfalso; omega)) rfl rfl
  · refine w_aload_n rfl rfl rfl ?_
    refine w_gf (t := .ref (111)) (v := .ref (111)) rfl rfl rfl sp110 rfl rfl rfl ?_
    refine w_aload_n rfl rfl rfl ?_
    refine w_gf (t := .int 0) (v := .int _) rfl rfl rfl sp110 rfl (congrArg Value.int am_u_at) rfl ?_
    refine w_iaload rfl rfl sp111 rfl ⟨by omega, by omega⟩ (((congrFun (am_u_ne (by decide)) _).trans (congrFun (am_u_ne (by decide)) _)).trans (congrFun hf _)) ?_
    refine w_goto (pc' := 74) rfl rfl ?_
    refine w_istore_n (L' := [_, _, _, _]) rfl rfl rfl ?_
    refine w_aload_n rfl rfl rfl ?_
    refine w_gf (t := .int 0) (v := .int _) rfl rfl rfl sp110 rfl (congrArg Value.int ((am_u_nk (by decide)).trans am_u_at)) rfl ?_
    refine w_bipush (x := Int32.ofNat 61) rfl rfl (by decide) ?_
    refine w_ic_eqN (t := 94) (f := 84) rfl rfl rfl (by omega) (by omega) (fun c81 => absurd c81 (by omega)) (fun c81 => ?_)
    clear c81
    refine w_iload_n rfl rfl rfl ?_
    refine w_bipush (x := Int32.ofNat 61) rfl rfl (by decide) ?_
    refine w_ic_ne (t := 94) (f := 90) rfl rfl rfl (fun c87 => ?_) (fun c87 => ?_)
    · refine w_iconst (x := Int32.ofNat 0) rfl rfl (by decide) ?_
      refine w_istore_n (L' := [_, _, _, _]) rfl rfl rfl ?_
      refine w_aload_n rfl rfl rfl ?_
      refine w_gf (t := .int 0) (v := .int _) rfl rfl rfl sp110 rfl (congrArg Value.int ((am_u_nk (by decide)).trans am_u_at)) rfl ?_
      refine w_bipush (x := Int32.ofNat 60) rfl rfl (by decide) ?_
      refine w_ic_neN (t := 115) (f := 105) rfl rfl rfl (by omega) (by omega) (fun c102 => ?_) (fun c102 => absurd c102 (by omega))
      clear c102
      refine w_iconst (x := Int32.ofNat 0) rfl rfl (by decide) ?_
      refine w_istore_n (L' := [_, _, _, _]) rfl rfl rfl ?_
      refine w_iload_n rfl rfl rfl ?_
      refine w_if_ne (t := 125) (f := 121) rfl rfl rfl (fun c118 => absurd c118 (by decide)) (fun c118 => ?_)
      clear c118
      refine w_iload_n rfl rfl rfl ?_
      refine w_if_eq (t := 135) (f := 125) rfl rfl rfl (fun c122 => ?_) (fun c122 => absurd c122 (by decide))
      clear c122
      refine w_aload_n rfl rfl rfl ?_
      refine w_iconst (x := Int32.ofNat 5) rfl rfl (by decide) ?_
      refine w_pf rfl rfl rfl sp110 rfl rfl rfl ?_
      refine w_aload_n rfl rfl rfl ?_
      refine w_aload_n rfl rfl rfl ?_
      refine w_gf (t := .int 0) (v := .int _) rfl rfl rfl sp110 rfl (congrArg Value.int ((am_u_nk (by decide)).trans ((am_u_nk (by decide)).trans am_u_at))) rfl ?_
      refine w_bipush (x := Int32.ofNat 61) rfl rfl (by decide) ?_
      refine w_ic_neN (t := 154) (f := 150) rfl rfl rfl (by omega) (by omega) (fun c147 => ?_) (fun c147 => absurd c147 (by omega))
      clear c147
      refine w_aload_n rfl rfl rfl ?_
      refine w_gf (t := .int 0) (v := .int _) rfl rfl rfl sp110 rfl (congrArg Value.int ((am_u_nk (by decide)).trans ((am_u_nk (by decide)).trans am_u_at))) rfl ?_
      refine w_bipush (x := Int32.ofNat 60) rfl rfl (by decide) ?_
      refine w_ic_neN (t := 183) (f := 163) rfl rfl rfl (by omega) (by omega) (fun c160 => ?_) (fun c160 => absurd c160 (by omega))
      clear c160
      refine w_iload_n rfl rfl rfl ?_
      refine w_if_eq (t := 191) (f := 187) rfl rfl rfl (fun c184 => ?_) (fun c184 => absurd c184 (by decide))
      clear c184
      refine w_iconst (x := Int32.ofNat 5) rfl rfl (by decide) ?_
      refine w_pf rfl rfl rfl sp110 rfl rfl rfl ?_
      refine w_goto (pc' := 290) rfl rfl ?_
      exact w_ret rfl (by unfold sgn; simp +decide only [sgT, hc, *, ite_true, ite_false]; funext b j; simp only [m_t3, am_u]; (repeat' split) <;> first | rfl | (exfalso; omega)) rfl rfl
    · refine w_iconst (x := Int32.ofNat 1) rfl rfl (by decide) ?_
      refine w_goto (pc' := 95) rfl rfl ?_
      refine w_istore_n (L' := [_, _, _, _]) rfl rfl rfl ?_
      refine w_aload_n rfl rfl rfl ?_
      refine w_gf (t := .int 0) (v := .int _) rfl rfl rfl sp110 rfl (congrArg Value.int ((am_u_nk (by decide)).trans am_u_at)) rfl ?_
      refine w_bipush (x := Int32.ofNat 60) rfl rfl (by decide) ?_
      refine w_ic_neN (t := 115) (f := 105) rfl rfl rfl (by omega) (by omega) (fun c102 => ?_) (fun c102 => absurd c102 (by omega))
      clear c102
      refine w_iconst (x := Int32.ofNat 0) rfl rfl (by decide) ?_
      refine w_istore_n (L' := [_, _, _, _]) rfl rfl rfl ?_
      refine w_iload_n rfl rfl rfl ?_
      refine w_if_ne (t := 125) (f := 121) rfl rfl rfl (fun c118 => ?_) (fun c118 => absurd c118 (by decide))
      clear c118
      refine w_aload_n rfl rfl rfl ?_
      refine w_dup rfl rfl rfl ?_
      refine w_gf (t := .int 0) (v := .int _) rfl rfl rfl sp110 rfl (congrArg Value.int am_u_at) rfl ?_
      refine w_iconst (x := Int32.ofNat 1) rfl rfl (by decide) ?_
      refine w_iaddN rfl rfl ?_
      refine w_pf rfl rfl rfl sp110 rfl rfl rfl ?_
      refine w_aload_n rfl rfl rfl ?_
      refine w_iconst (x := Int32.ofNat 5) rfl rfl (by decide) ?_
      refine w_pf rfl rfl rfl sp110 rfl rfl rfl ?_
      refine w_aload_n rfl rfl rfl ?_
      refine w_aload_n rfl rfl rfl ?_
      refine w_gf (t := .int 0) (v := .int _) rfl rfl rfl sp110 rfl (congrArg Value.int ((am_u_nk (by decide)).trans ((am_u_nk (by decide)).trans ((am_u_nk (by decide)).trans am_u_at)))) rfl ?_
      refine w_bipush (x := Int32.ofNat 61) rfl rfl (by decide) ?_
      refine w_ic_neN (t := 154) (f := 150) rfl rfl rfl (by omega) (by omega) (fun c147 => ?_) (fun c147 => absurd c147 (by omega))
      clear c147
      refine w_aload_n rfl rfl rfl ?_
      refine w_gf (t := .int 0) (v := .int _) rfl rfl rfl sp110 rfl (congrArg Value.int ((am_u_nk (by decide)).trans ((am_u_nk (by decide)).trans ((am_u_nk (by decide)).trans am_u_at)))) rfl ?_
      refine w_bipush (x := Int32.ofNat 60) rfl rfl (by decide) ?_
      refine w_ic_neN (t := 183) (f := 163) rfl rfl rfl (by omega) (by omega) (fun c160 => ?_) (fun c160 => absurd c160 (by omega))
      clear c160
      refine w_iload_n rfl rfl rfl ?_
      refine w_if_eq (t := 191) (f := 187) rfl rfl rfl (fun c184 => absurd c184 (by decide)) (fun c184 => ?_)
      clear c184
      refine w_iconst (x := Int32.ofNat 4) rfl rfl (by decide) ?_
      refine w_goto (pc' := 192) rfl rfl ?_
      refine w_pf rfl rfl rfl sp110 rfl rfl rfl ?_
      refine w_goto (pc' := 290) rfl rfl ?_
      exact w_ret rfl (by unfold sgn; simp +decide only [sgT, hc, *, ite_true, ite_false]; funext b j; simp only [m_t3, am_u]; (repeat' split) <;> first | rfl | (exfalso; omega)) rfl rfl
theorem c_sign61 {k : Nat} {I : hI} {J : hJ} {R : hR} {f : Nat → Int32} {st p : Nat} (hf : I 111 = f) (h6 : I 110 6 = Int32.ofNat st) (h7 : I 110 7 = Int32.ofNat p) (hp : p < st) (hs : st ≤ 700) (hc : f p = Int32.ofNat 61) (hk : 1 ≤ k) : ct k 175 [.ref 110] I J R none (m_t3 I (sgn f st p)) J R := by
  obtain ⟨k, rfl⟩ : ∃ k', k = k' + 1 := ⟨k - 1, by omega⟩
  refine ct_of (q := am_m175) (L := [_, _, _, _]) rfl rfl rfl rfl rfl rfl ?_
  refine w_aload_n rfl rfl rfl ?_
  refine w_aload_n rfl rfl rfl ?_
  refine w_gf (t := .ref (111)) (v := .ref (111)) rfl rfl rfl sp110 rfl rfl rfl ?_
  refine w_aload_n rfl rfl rfl ?_
  refine w_gf (t := .int 0) (v := .int _) rfl rfl rfl sp110 rfl (congrArg Value.int h7) rfl ?_
  refine w_iaload rfl rfl sp111 rfl ⟨by omega, by omega⟩ ((congrFun hf _).trans hc) ?_
  refine w_pf rfl rfl rfl sp110 rfl rfl rfl ?_
  refine w_aload_n rfl rfl rfl ?_
  refine w_dup rfl rfl rfl ?_
  refine w_gf (t := .int 0) (v := .int _) rfl rfl rfl sp110 rfl (congrArg Value.int ((am_u_nk (by decide)).trans h7)) rfl ?_
  refine w_iconst (x := Int32.ofNat 1) rfl rfl (by decide) ?_
  refine w_iaddN rfl rfl ?_
  refine w_pf rfl rfl rfl sp110 rfl rfl rfl ?_
  refine w_aload_n rfl rfl rfl ?_
  refine w_gf (t := .int 0) (v := .int _) rfl rfl rfl sp110 rfl (congrArg Value.int ((am_u_nk (by decide)).trans am_u_at)) rfl ?_
  refine w_bipush (x := Int32.ofNat 60) rfl rfl (by decide) ?_
  refine w_ic_eqN (t := 50) (f := 32) rfl rfl rfl (by omega) (by omega) (fun c29 => absurd c29 (by omega)) (fun c29 => ?_)
  clear c29
  refine w_aload_n rfl rfl rfl ?_
  refine w_gf (t := .int 0) (v := .int _) rfl rfl rfl sp110 rfl (congrArg Value.int ((am_u_nk (by decide)).trans am_u_at)) rfl ?_
  refine w_bipush (x := Int32.ofNat 62) rfl rfl (by decide) ?_
  refine w_ic_eqN (t := 50) (f := 41) rfl rfl rfl (by omega) (by omega) (fun c38 => absurd c38 (by omega)) (fun c38 => ?_)
  clear c38
  refine w_aload_n rfl rfl rfl ?_
  refine w_gf (t := .int 0) (v := .int _) rfl rfl rfl sp110 rfl (congrArg Value.int ((am_u_nk (by decide)).trans am_u_at)) rfl ?_
  refine w_bipush (x := Int32.ofNat 61) rfl rfl (by decide) ?_
  refine w_ic_neN (t := 198) (f := 50) rfl rfl rfl (by omega) (by omega) (fun c47 => absurd c47 (by omega)) (fun c47 => ?_)
  clear c47
  refine w_aload_n rfl rfl rfl ?_
  refine w_gf (t := .int 0) (v := .int _) rfl rfl rfl sp110 rfl (congrArg Value.int am_u_at) rfl ?_
  refine w_aload_n rfl rfl rfl ?_
  refine w_gf (t := .int 0) (v := .int _) rfl rfl rfl sp110 rfl (congrArg Value.int (((am_u_nk (by decide)).trans (am_u_nk (by decide))).trans h6)) rfl ?_
  refine w_ic_geN (t := 73) (f := 61) rfl rfl rfl (by omega) (by omega) (fun c58 => ?_) (fun c58 => ?_)
  · refine w_iconst (x := Int32.ofNat 0) rfl rfl (by decide) ?_
    refine w_istore_n (L' := [_, _, _, _]) rfl rfl rfl ?_
    refine w_aload_n rfl rfl rfl ?_
    refine w_gf (t := .int 0) (v := .int _) rfl rfl rfl sp110 rfl (congrArg Value.int ((am_u_nk (by decide)).trans am_u_at)) rfl ?_
    refine w_bipush (x := Int32.ofNat 61) rfl rfl (by decide) ?_
    refine w_ic_eqN (t := 94) (f := 84) rfl rfl rfl (by omega) (by omega) (fun c81 => ?_) (fun c81 => absurd c81 (by omega))
    clear c81
    refine w_iconst (x := Int32.ofNat 0) rfl rfl (by decide) ?_
    refine w_istore_n (L' := [_, _, _, _]) rfl rfl rfl ?_
    refine w_aload_n rfl rfl rfl ?_
    refine w_gf (t := .int 0) (v := .int _) rfl rfl rfl sp110 rfl (congrArg Value.int ((am_u_nk (by decide)).trans am_u_at)) rfl ?_
    refine w_bipush (x := Int32.ofNat 60) rfl rfl (by decide) ?_
    refine w_ic_neN (t := 115) (f := 105) rfl rfl rfl (by omega) (by omega) (fun c102 => ?_) (fun c102 => absurd c102 (by omega))
    clear c102
    refine w_iconst (x := Int32.ofNat 0) rfl rfl (by decide) ?_
    refine w_istore_n (L' := [_, _, _, _]) rfl rfl rfl ?_
    refine w_iload_n rfl rfl rfl ?_
    refine w_if_ne (t := 125) (f := 121) rfl rfl rfl (fun c118 => absurd c118 (by decide)) (fun c118 => ?_)
    clear c118
    refine w_iload_n rfl rfl rfl ?_
    refine w_if_eq (t := 135) (f := 125) rfl rfl rfl (fun c122 => ?_) (fun c122 => absurd c122 (by decide))
    clear c122
    refine w_aload_n rfl rfl rfl ?_
    refine w_iconst (x := Int32.ofNat 5) rfl rfl (by decide) ?_
    refine w_pf rfl rfl rfl sp110 rfl rfl rfl ?_
    refine w_aload_n rfl rfl rfl ?_
    refine w_aload_n rfl rfl rfl ?_
    refine w_gf (t := .int 0) (v := .int _) rfl rfl rfl sp110 rfl (congrArg Value.int ((am_u_nk (by decide)).trans ((am_u_nk (by decide)).trans am_u_at))) rfl ?_
    refine w_bipush (x := Int32.ofNat 61) rfl rfl (by decide) ?_
    refine w_ic_neN (t := 154) (f := 150) rfl rfl rfl (by omega) (by omega) (fun c147 => absurd c147 (by omega)) (fun c147 => ?_)
    clear c147
    refine w_iconst (x := Int32.ofNat 2) rfl rfl (by decide) ?_
    refine w_goto (pc' := 192) rfl rfl ?_
    refine w_pf rfl rfl rfl sp110 rfl rfl rfl ?_
    refine w_goto (pc' := 290) rfl rfl ?_
    exact w_ret rfl (by unfold sgn; simp +decide only [sgT, hc, *, ite_true, ite_false]; funext b j; simp only [m_t3, am_u]; (repeat' split) <;> first | rfl | (exfalso; omega)) rfl rfl
  · refine w_aload_n rfl rfl rfl ?_
    refine w_gf (t := .ref (111)) (v := .ref (111)) rfl rfl rfl sp110 rfl rfl rfl ?_
    refine w_aload_n rfl rfl rfl ?_
    refine w_gf (t := .int 0) (v := .int _) rfl rfl rfl sp110 rfl (congrArg Value.int am_u_at) rfl ?_
    refine w_iaload rfl rfl sp111 rfl ⟨by omega, by omega⟩ (((congrFun (am_u_ne (by decide)) _).trans (congrFun (am_u_ne (by decide)) _)).trans (congrFun hf _)) ?_
    refine w_goto (pc' := 74) rfl rfl ?_
    refine w_istore_n (L' := [_, _, _, _]) rfl rfl rfl ?_
    refine w_aload_n rfl rfl rfl ?_
    refine w_gf (t := .int 0) (v := .int _) rfl rfl rfl sp110 rfl (congrArg Value.int ((am_u_nk (by decide)).trans am_u_at)) rfl ?_
    refine w_bipush (x := Int32.ofNat 61) rfl rfl (by decide) ?_
    refine w_ic_eqN (t := 94) (f := 84) rfl rfl rfl (by omega) (by omega) (fun c81 => ?_) (fun c81 => absurd c81 (by omega))
    clear c81
    refine w_iconst (x := Int32.ofNat 0) rfl rfl (by decide) ?_
    refine w_istore_n (L' := [_, _, _, _]) rfl rfl rfl ?_
    refine w_aload_n rfl rfl rfl ?_
    refine w_gf (t := .int 0) (v := .int _) rfl rfl rfl sp110 rfl (congrArg Value.int ((am_u_nk (by decide)).trans am_u_at)) rfl ?_
    refine w_bipush (x := Int32.ofNat 60) rfl rfl (by decide) ?_
    refine w_ic_neN (t := 115) (f := 105) rfl rfl rfl (by omega) (by omega) (fun c102 => ?_) (fun c102 => absurd c102 (by omega))
    clear c102
    refine w_iconst (x := Int32.ofNat 0) rfl rfl (by decide) ?_
    refine w_istore_n (L' := [_, _, _, _]) rfl rfl rfl ?_
    refine w_iload_n rfl rfl rfl ?_
    refine w_if_ne (t := 125) (f := 121) rfl rfl rfl (fun c118 => absurd c118 (by decide)) (fun c118 => ?_)
    clear c118
    refine w_iload_n rfl rfl rfl ?_
    refine w_if_eq (t := 135) (f := 125) rfl rfl rfl (fun c122 => ?_) (fun c122 => absurd c122 (by decide))
    clear c122
    refine w_aload_n rfl rfl rfl ?_
    refine w_iconst (x := Int32.ofNat 5) rfl rfl (by decide) ?_
    refine w_pf rfl rfl rfl sp110 rfl rfl rfl ?_
    refine w_aload_n rfl rfl rfl ?_
    refine w_aload_n rfl rfl rfl ?_
    refine w_gf (t := .int 0) (v := .int _) rfl rfl rfl sp110 rfl (congrArg Value.int ((am_u_nk (by decide)).trans ((am_u_nk (by decide)).trans am_u_at))) rfl ?_
    refine w_bipush (x := Int32.ofNat 61) rfl rfl (by decide) ?_
    refine w_ic_neN (t := 154) (f := 150) rfl rfl rfl (by omega) (by omega) (fun c147 => absurd c147 (by omega)) (fun c147 => ?_)
    clear c147
    refine w_iconst (x := Int32.ofNat 2) rfl rfl (by decide) ?_
    refine w_goto (pc' := 192) rfl rfl ?_
    refine w_pf rfl rfl rfl sp110 rfl rfl rfl ?_
    refine w_goto (pc' := 290) rfl rfl ?_
    exact w_ret rfl (by unfold sgn; simp +decide only [sgT, hc, *, ite_true, ite_false]; funext b j; simp only [m_t3, am_u]; (repeat' split) <;> first | rfl | (exfalso; omega)) rfl rfl
theorem c_signO {k : Nat} {I : hI} {J : hJ} {R : hR} {f : Nat → Int32} {st p : Nat} (hf : I 111 = f) (h6 : I 110 6 = Int32.ofNat st) (h7 : I 110 7 = Int32.ofNat p) (hp : p < st) (hs : st ≤ 700) (h60 : ¬ f p = Int32.ofNat 60) (h62 : ¬ f p = Int32.ofNat 62) (h61 : ¬ f p = Int32.ofNat 61) (hk : 1 ≤ k) : ct k 175 [.ref 110] I J R none (m_t3 I (sgn f st p)) J R := by
  obtain ⟨k, rfl⟩ : ∃ k', k = k' + 1 := ⟨k - 1, by omega⟩
  refine ct_of (q := am_m175) (L := [_, _, _, _]) rfl rfl rfl rfl rfl rfl ?_
  refine w_aload_n rfl rfl rfl ?_
  refine w_aload_n rfl rfl rfl ?_
  refine w_gf (t := .ref (111)) (v := .ref (111)) rfl rfl rfl sp110 rfl rfl rfl ?_
  refine w_aload_n rfl rfl rfl ?_
  refine w_gf (t := .int 0) (v := .int _) rfl rfl rfl sp110 rfl (congrArg Value.int h7) rfl ?_
  refine w_iaload rfl rfl sp111 rfl ⟨by omega, by omega⟩ (congrFun hf _) ?_
  refine w_pf rfl rfl rfl sp110 rfl rfl rfl ?_
  refine w_aload_n rfl rfl rfl ?_
  refine w_dup rfl rfl rfl ?_
  refine w_gf (t := .int 0) (v := .int _) rfl rfl rfl sp110 rfl (congrArg Value.int ((am_u_nk (by decide)).trans h7)) rfl ?_
  refine w_iconst (x := Int32.ofNat 1) rfl rfl (by decide) ?_
  refine w_iaddN rfl rfl ?_
  refine w_pf rfl rfl rfl sp110 rfl rfl rfl ?_
  refine w_aload_n rfl rfl rfl ?_
  refine w_gf (t := .int 0) (v := .int _) rfl rfl rfl sp110 rfl (congrArg Value.int ((am_u_nk (by decide)).trans am_u_at)) rfl ?_
  refine w_bipush (x := Int32.ofNat 60) rfl rfl (by decide) ?_
  refine w_ic_eq (t := 50) (f := 32) rfl rfl rfl (fun c29 => absurd c29 h60) (fun c29 => ?_)
  refine w_aload_n rfl rfl rfl ?_
  refine w_gf (t := .int 0) (v := .int _) rfl rfl rfl sp110 rfl (congrArg Value.int ((am_u_nk (by decide)).trans am_u_at)) rfl ?_
  refine w_bipush (x := Int32.ofNat 62) rfl rfl (by decide) ?_
  refine w_ic_eq (t := 50) (f := 41) rfl rfl rfl (fun c38 => absurd c38 h62) (fun c38 => ?_)
  refine w_aload_n rfl rfl rfl ?_
  refine w_gf (t := .int 0) (v := .int _) rfl rfl rfl sp110 rfl (congrArg Value.int ((am_u_nk (by decide)).trans am_u_at)) rfl ?_
  refine w_bipush (x := Int32.ofNat 61) rfl rfl (by decide) ?_
  refine w_ic_ne (t := 198) (f := 50) rfl rfl rfl (fun c47 => ?_) (fun c47 => absurd c47 h61)
  refine w_aload_n rfl rfl rfl ?_
  refine w_gf (t := .int 0) (v := .int _) rfl rfl rfl sp110 rfl (congrArg Value.int ((am_u_nk (by decide)).trans am_u_at)) rfl ?_
  refine w_bipush (x := Int32.ofNat 59) rfl rfl (by decide) ?_
  refine w_ic_eq (t := 270) (f := 207) rfl rfl rfl (fun c204 => ?_) (fun c204 => ?_)
  · refine w_iconst (x := Int32.ofNat 1) rfl rfl (by decide) ?_
    refine w_goto (pc' := 275) rfl rfl ?_
    refine w_istore_n (L' := [_, _, _, _]) rfl rfl rfl ?_
    refine w_aload_n rfl rfl rfl ?_
    refine w_iload_n rfl rfl rfl ?_
    refine w_if_eq (t := 285) (f := 281) rfl rfl rfl (fun c278 => absurd c278 (by decide)) (fun c278 => ?_)
    clear c278
    refine w_iconst (x := Int32.ofNat 4) rfl rfl (by decide) ?_
    refine w_goto (pc' := 287) rfl rfl ?_
    refine w_pf rfl rfl rfl sp110 rfl rfl rfl ?_
    exact w_ret rfl (by unfold sgn; simp +decide only [*, true_or, or_true, or_self, ite_true, ite_false]; funext b j; simp only [m_t3, am_u]; (repeat' split) <;> first | rfl | (exfalso; omega)) rfl rfl
  · refine w_aload_n rfl rfl rfl ?_
    refine w_gf (t := .int 0) (v := .int _) rfl rfl rfl sp110 rfl (congrArg Value.int ((am_u_nk (by decide)).trans am_u_at)) rfl ?_
    refine w_bipush (x := Int32.ofNat 40) rfl rfl (by decide) ?_
    refine w_ic_eq (t := 270) (f := 216) rfl rfl rfl (fun c213 => ?_) (fun c213 => ?_)
    · refine w_iconst (x := Int32.ofNat 1) rfl rfl (by decide) ?_
      refine w_goto (pc' := 275) rfl rfl ?_
      refine w_istore_n (L' := [_, _, _, _]) rfl rfl rfl ?_
      refine w_aload_n rfl rfl rfl ?_
      refine w_iload_n rfl rfl rfl ?_
      refine w_if_eq (t := 285) (f := 281) rfl rfl rfl (fun c278 => absurd c278 (by decide)) (fun c278 => ?_)
      clear c278
      refine w_iconst (x := Int32.ofNat 4) rfl rfl (by decide) ?_
      refine w_goto (pc' := 287) rfl rfl ?_
      refine w_pf rfl rfl rfl sp110 rfl rfl rfl ?_
      exact w_ret rfl (by unfold sgn; simp +decide only [*, true_or, or_true, or_self, ite_true, ite_false]; funext b j; simp only [m_t3, am_u]; (repeat' split) <;> first | rfl | (exfalso; omega)) rfl rfl
    · refine w_aload_n rfl rfl rfl ?_
      refine w_gf (t := .int 0) (v := .int _) rfl rfl rfl sp110 rfl (congrArg Value.int ((am_u_nk (by decide)).trans am_u_at)) rfl ?_
      refine w_bipush (x := Int32.ofNat 41) rfl rfl (by decide) ?_
      refine w_ic_eq (t := 270) (f := 225) rfl rfl rfl (fun c222 => ?_) (fun c222 => ?_)
      · refine w_iconst (x := Int32.ofNat 1) rfl rfl (by decide) ?_
        refine w_goto (pc' := 275) rfl rfl ?_
        refine w_istore_n (L' := [_, _, _, _]) rfl rfl rfl ?_
        refine w_aload_n rfl rfl rfl ?_
        refine w_iload_n rfl rfl rfl ?_
        refine w_if_eq (t := 285) (f := 281) rfl rfl rfl (fun c278 => absurd c278 (by decide)) (fun c278 => ?_)
        clear c278
        refine w_iconst (x := Int32.ofNat 4) rfl rfl (by decide) ?_
        refine w_goto (pc' := 287) rfl rfl ?_
        refine w_pf rfl rfl rfl sp110 rfl rfl rfl ?_
        exact w_ret rfl (by unfold sgn; simp +decide only [*, true_or, or_true, or_self, ite_true, ite_false]; funext b j; simp only [m_t3, am_u]; (repeat' split) <;> first | rfl | (exfalso; omega)) rfl rfl
      · refine w_aload_n rfl rfl rfl ?_
        refine w_gf (t := .int 0) (v := .int _) rfl rfl rfl sp110 rfl (congrArg Value.int ((am_u_nk (by decide)).trans am_u_at)) rfl ?_
        refine w_bipush (x := Int32.ofNat 43) rfl rfl (by decide) ?_
        refine w_ic_eq (t := 270) (f := 234) rfl rfl rfl (fun c231 => ?_) (fun c231 => ?_)
        · refine w_iconst (x := Int32.ofNat 1) rfl rfl (by decide) ?_
          refine w_goto (pc' := 275) rfl rfl ?_
          refine w_istore_n (L' := [_, _, _, _]) rfl rfl rfl ?_
          refine w_aload_n rfl rfl rfl ?_
          refine w_iload_n rfl rfl rfl ?_
          refine w_if_eq (t := 285) (f := 281) rfl rfl rfl (fun c278 => absurd c278 (by decide)) (fun c278 => ?_)
          clear c278
          refine w_iconst (x := Int32.ofNat 4) rfl rfl (by decide) ?_
          refine w_goto (pc' := 287) rfl rfl ?_
          refine w_pf rfl rfl rfl sp110 rfl rfl rfl ?_
          exact w_ret rfl (by unfold sgn; simp +decide only [*, true_or, or_true, or_self, ite_true, ite_false]; funext b j; simp only [m_t3, am_u]; (repeat' split) <;> first | rfl | (exfalso; omega)) rfl rfl
        · refine w_aload_n rfl rfl rfl ?_
          refine w_gf (t := .int 0) (v := .int _) rfl rfl rfl sp110 rfl (congrArg Value.int ((am_u_nk (by decide)).trans am_u_at)) rfl ?_
          refine w_bipush (x := Int32.ofNat 45) rfl rfl (by decide) ?_
          refine w_ic_eq (t := 270) (f := 243) rfl rfl rfl (fun c240 => ?_) (fun c240 => ?_)
          · refine w_iconst (x := Int32.ofNat 1) rfl rfl (by decide) ?_
            refine w_goto (pc' := 275) rfl rfl ?_
            refine w_istore_n (L' := [_, _, _, _]) rfl rfl rfl ?_
            refine w_aload_n rfl rfl rfl ?_
            refine w_iload_n rfl rfl rfl ?_
            refine w_if_eq (t := 285) (f := 281) rfl rfl rfl (fun c278 => absurd c278 (by decide)) (fun c278 => ?_)
            clear c278
            refine w_iconst (x := Int32.ofNat 4) rfl rfl (by decide) ?_
            refine w_goto (pc' := 287) rfl rfl ?_
            refine w_pf rfl rfl rfl sp110 rfl rfl rfl ?_
            exact w_ret rfl (by unfold sgn; simp +decide only [*, true_or, or_true, or_self, ite_true, ite_false]; funext b j; simp only [m_t3, am_u]; (repeat' split) <;> first | rfl | (exfalso; omega)) rfl rfl
          · refine w_aload_n rfl rfl rfl ?_
            refine w_gf (t := .int 0) (v := .int _) rfl rfl rfl sp110 rfl (congrArg Value.int ((am_u_nk (by decide)).trans am_u_at)) rfl ?_
            refine w_bipush (x := Int32.ofNat 42) rfl rfl (by decide) ?_
            refine w_ic_eq (t := 270) (f := 252) rfl rfl rfl (fun c249 => ?_) (fun c249 => ?_)
            · refine w_iconst (x := Int32.ofNat 1) rfl rfl (by decide) ?_
              refine w_goto (pc' := 275) rfl rfl ?_
              refine w_istore_n (L' := [_, _, _, _]) rfl rfl rfl ?_
              refine w_aload_n rfl rfl rfl ?_
              refine w_iload_n rfl rfl rfl ?_
              refine w_if_eq (t := 285) (f := 281) rfl rfl rfl (fun c278 => absurd c278 (by decide)) (fun c278 => ?_)
              clear c278
              refine w_iconst (x := Int32.ofNat 4) rfl rfl (by decide) ?_
              refine w_goto (pc' := 287) rfl rfl ?_
              refine w_pf rfl rfl rfl sp110 rfl rfl rfl ?_
              exact w_ret rfl (by unfold sgn; simp +decide only [*, true_or, or_true, or_self, ite_true, ite_false]; funext b j; simp only [m_t3, am_u]; (repeat' split) <;> first | rfl | (exfalso; omega)) rfl rfl
            · refine w_aload_n rfl rfl rfl ?_
              refine w_gf (t := .int 0) (v := .int _) rfl rfl rfl sp110 rfl (congrArg Value.int ((am_u_nk (by decide)).trans am_u_at)) rfl ?_
              refine w_bipush (x := Int32.ofNat 47) rfl rfl (by decide) ?_
              refine w_ic_eq (t := 270) (f := 261) rfl rfl rfl (fun c258 => ?_) (fun c258 => ?_)
              · refine w_iconst (x := Int32.ofNat 1) rfl rfl (by decide) ?_
                refine w_goto (pc' := 275) rfl rfl ?_
                refine w_istore_n (L' := [_, _, _, _]) rfl rfl rfl ?_
                refine w_aload_n rfl rfl rfl ?_
                refine w_iload_n rfl rfl rfl ?_
                refine w_if_eq (t := 285) (f := 281) rfl rfl rfl (fun c278 => absurd c278 (by decide)) (fun c278 => ?_)
                clear c278
                refine w_iconst (x := Int32.ofNat 4) rfl rfl (by decide) ?_
                refine w_goto (pc' := 287) rfl rfl ?_
                refine w_pf rfl rfl rfl sp110 rfl rfl rfl ?_
                exact w_ret rfl (by unfold sgn; simp +decide only [*, true_or, or_true, or_self, ite_true, ite_false]; funext b j; simp only [m_t3, am_u]; (repeat' split) <;> first | rfl | (exfalso; omega)) rfl rfl
              · refine w_aload_n rfl rfl rfl ?_
                refine w_gf (t := .int 0) (v := .int _) rfl rfl rfl sp110 rfl (congrArg Value.int ((am_u_nk (by decide)).trans am_u_at)) rfl ?_
                refine w_bipush (x := Int32.ofNat 37) rfl rfl (by decide) ?_
                refine w_ic_ne (t := 274) (f := 270) rfl rfl rfl (fun c267 => ?_) (fun c267 => ?_)
                · refine w_iconst (x := Int32.ofNat 0) rfl rfl (by decide) ?_
                  refine w_istore_n (L' := [_, _, _, _]) rfl rfl rfl ?_
                  refine w_aload_n rfl rfl rfl ?_
                  refine w_iload_n rfl rfl rfl ?_
                  refine w_if_eq (t := 285) (f := 281) rfl rfl rfl (fun c278 => ?_) (fun c278 => absurd c278 (by decide))
                  clear c278
                  refine w_bipush (x := Int32.ofNat 6) rfl rfl (by decide) ?_
                  refine w_pf rfl rfl rfl sp110 rfl rfl rfl ?_
                  exact w_ret rfl (by unfold sgn; simp +decide only [*, true_or, or_true, or_self, ite_true, ite_false]; funext b j; simp only [m_t3, am_u]; (repeat' split) <;> first | rfl | (exfalso; omega)) rfl rfl
                · refine w_iconst (x := Int32.ofNat 1) rfl rfl (by decide) ?_
                  refine w_goto (pc' := 275) rfl rfl ?_
                  refine w_istore_n (L' := [_, _, _, _]) rfl rfl rfl ?_
                  refine w_aload_n rfl rfl rfl ?_
                  refine w_iload_n rfl rfl rfl ?_
                  refine w_if_eq (t := 285) (f := 281) rfl rfl rfl (fun c278 => absurd c278 (by decide)) (fun c278 => ?_)
                  clear c278
                  refine w_iconst (x := Int32.ofNat 4) rfl rfl (by decide) ?_
                  refine w_goto (pc' := 287) rfl rfl ?_
                  refine w_pf rfl rfl rfl sp110 rfl rfl rfl ?_
                  exact w_ret rfl (by unfold sgn; simp +decide only [*, true_or, or_true, or_self, ite_true, ite_false]; funext b j; simp only [m_t3, am_u]; (repeat' split) <;> first | rfl | (exfalso; omega)) rfl rfl
theorem c_sign {k : Nat} {I : hI} {J : hJ} {R : hR} {f : Nat → Int32} {st p : Nat} (hf : I 111 = f) (h6 : I 110 6 = Int32.ofNat st) (h7 : I 110 7 = Int32.ofNat p) (hp : p < st) (hs : st ≤ 700) (hk : 1 ≤ k) : ct k 175 [.ref 110] I J R none (m_t3 I (sgn f st p)) J R := by
  by_cases h60 : f p = Int32.ofNat 60
  · exact c_sign60 hf h6 h7 hp hs h60 hk
  · by_cases h62 : f p = Int32.ofNat 62
    · exact c_sign62 hf h6 h7 hp hs h62 hk
    · by_cases h61 : f p = Int32.ofNat 61
      · exact c_sign61 hf h6 h7 hp hs h61 hk
      · exact c_signO hf h6 h7 hp hs h60 h62 h61 hk
def t_sk (f : Nat → Int32) : Nat → Nat → Nat
  | 0, p => p
  | j + 1, p => if f p = Int32.ofNat 10 ∨ f p = Int32.ofNat 32 then t_sk f j (p + 1) else p
theorem t_sk_s (f : Nat → Int32) (j p : Nat) : t_sk f (j + 1) p = if f p = Int32.ofNat 10 ∨ f p = Int32.ofNat 32 then t_sk f j (p + 1) else p := rfl
theorem t_sk_le (f : Nat → Int32) : ∀ j p, p ≤ t_sk f j p ∧ t_sk f j p ≤ p + j := by
  intro j
  induction j with
  | zero => intro p; exact ⟨Nat.le_refl _, Nat.le_refl _⟩
  | succ j ih =>
    intro p
    rw [t_sk_s]
    split
    · have := ih (p + 1); omega
    · omega
def t_w (f : Nat → Int32) (st : Nat) : Nat → Nat → Nat
  | 0, p => p
  | j + 1, p => @ite _ (smP f st p) (smPD f st p) (t_w f st j (p + 1)) p
theorem t_w_s (f : Nat → Int32) (st j p : Nat) : t_w f st (j + 1) p = @ite _ (smP f st p) (smPD f st p) (t_w f st j (p + 1)) p := rfl
theorem t_w_le (f : Nat → Int32) (st : Nat) : ∀ j p, p ≤ t_w f st j p ∧ t_w f st j p ≤ p + j := by
  intro j
  induction j with
  | zero => intro p; exact ⟨Nat.le_refl _, Nat.le_refl _⟩
  | succ j ih =>
    intro p
    rw [t_w_s]
    split
    · have := ih (p + 1); omega
    · omega
/-- a number: next, which -/
def t_d (f : Nat → Int32) (st : Nat) : Nat → Nat → Int32 → Nat × Int32
  | 0, p, w => (p, w)
  | j + 1, p, w => @ite _ (dgP f st p) (dgPD f st p) (t_d f st j (p + 1) (if Int32.ofNat 99999 < w then w else Int32.ofNat 10 * w + f p - Int32.ofNat 48)) (p, w)
theorem t_d_s (f : Nat → Int32) (st j p : Nat) (w : Int32) : t_d f st (j + 1) p w = @ite _ (dgP f st p) (dgPD f st p) (t_d f st j (p + 1) (if Int32.ofNat 99999 < w then w else Int32.ofNat 10 * w + f p - Int32.ofNat 48)) (p, w) := rfl
theorem t_d_le (f : Nat → Int32) (st : Nat) : ∀ j p w, p ≤ (t_d f st j p w).1 ∧ (t_d f st j p w).1 ≤ p + j := by
  intro j
  induction j with
  | zero => intro p w; exact ⟨Nat.le_refl _, Nat.le_refl _⟩
  | succ j ih =>
    intro p w
    rw [t_d_s]
    split
    · have := ih (p + 1) (if Int32.ofNat 99999 < w then w else Int32.ofNat 10 * w + f p - Int32.ofNat 48); omega
    · exact ⟨Nat.le_refl _, Nat.le_add_right _ _⟩
/-- the token at p: next, kind, which; w0 is what which was -/
def t_one (f : Nat → Int32) (st a : Nat) (w0 : Int32) : Nat × Int32 × Int32 :=
  if a = st then (a, Int32.ofNat 0, w0)
  else @ite _ (smP f st a) (smPD f st a)
    (if m_wd f a (t_w f st (st - a) a) 21 0 < 0 then (if t_w f st (st - a) a - a ≤ 6 then (t_w f st (st - a) a, Int32.ofNat 2, m_pk f a (t_w f st (st - a) a) 6) else (t_w f st (st - a) a, Int32.ofNat 6, m_wd f a (t_w f st (st - a) a) 21 0)) else (t_w f st (st - a) a, Int32.ofNat 1, m_wd f a (t_w f st (st - a) a) 21 0))
    (@ite _ (dgP f st a) (dgPD f st a) ((t_d f st (st - a) a (Int32.ofNat 0)).1, Int32.ofNat 3, (t_d f st (st - a) a (Int32.ofNat 0)).2) (sgn f st a))
def t_at (f : Nat → Int32) (st p : Nat) : Nat := t_sk f (st - p) p
def m_tk (I : hI) (f : Nat → Int32) (st p : Nat) : hI := m_t3 (am_u I 110 10 (Int32.ofNat (t_at f st p))) (t_one f st (t_at f st p) (I 110 9))
theorem c_isSmallF {k : Nat} {I : hI} {J : hJ} {R : hR} {f : Nat → Int32} {st i : Nat} (hf : I 111 = f) (h6 : I 110 6 = Int32.ofNat st) (hs : st ≤ 700) (hi : i ≤ 1000) (hk : 1 ≤ k) : ct k 172 [.ref 110, .int (Int32.ofNat i)] I J R (some (.int (@ite _ (smP f st i) (smPD f st i) 1 0))) I J R := by
  subst hf; exact c_isSmall h6 hs hi hk
theorem c_isDigitF {k : Nat} {I : hI} {J : hJ} {R : hR} {f : Nat → Int32} {st i : Nat} (hf : I 111 = f) (h6 : I 110 6 = Int32.ofNat st) (hs : st ≤ 700) (hi : i ≤ 1000) (hk : 1 ≤ k) : ct k 173 [.ref 110, .int (Int32.ofNat i)] I J R (some (.int (@ite _ (dgP f st i) (dgPD f st i) 1 0))) I J R := by
  subst hf; exact c_isDigit h6 hs hi hk
theorem c_wordAtF {k : Nat} {I : hI} {J : hJ} {R : hR} {f : Nat → Int32} {a b : Nat} (hf : I 111 = f) (hW : ∀ i, i < 106 → I 112 i = Int32.ofNat (wd i)) (hab : a ≤ b) (hb : b ≤ 700) (hk : 1 ≤ k) : ct k 171 [.ref 110, .int (Int32.ofNat a), .int (Int32.ofNat b)] I J R (some (.int (m_wd f a b 21 0))) I J R := by
  subst hf; exact c_wordAt hW hab hb hk
theorem c_packedF {k : Nat} {I : hI} {J : hJ} {R : hR} {f : Nat → Int32} {a b : Nat} (hf : I 111 = f) (ha : a ≤ 700) (hb : b ≤ 700) (hk : 1 ≤ k) : ct k 176 [.ref 110, .int (Int32.ofNat a), .int (Int32.ofNat b)] I J R (some (.int (m_pk f a b 6))) I J R := by
  subst hf; exact c_packed ha hb hk
theorem l_skip {k : Nat} {J : hJ} {R : hR} {q : Option Value × am_H} {f : Nat → Int32} {st : Nat} (hs : st ≤ 700) : ∀ (j p : Nat) (I : hI), p + j = st → I 111 = f → I 110 6 = Int32.ofNat st → I 110 7 = Int32.ofNat p → (wz k 12 none am_c174 52 [.ref 110] [] (am_u I 110 7 (Int32.ofNat (t_sk f j p))) J R q) → wz k 12 none am_c174 0 [.ref 110] [] I J R q := by
  intro j
  induction j with
  | zero =>
    intro p I e hf h6 h7 Z
    obtain rfl : st = p := by omega
    rw [show t_sk f 0 st = st from rfl, ← h7, am_u_self] at Z
    refine w_aload_n rfl rfl rfl ?_
    refine w_gf (t := .int 0) (v := .int _) rfl rfl rfl sp110 rfl (congrArg Value.int h7) rfl ?_
    refine w_aload_n rfl rfl rfl ?_
    refine w_gf (t := .int 0) (v := .int _) rfl rfl rfl sp110 rfl (congrArg Value.int h6) rfl ?_
    refine w_ic_geN (t := 52) (f := 11) rfl rfl rfl (by omega) (by omega) (fun c8 => ?_) (fun c8 => absurd c8 (by omega))
    exact Z
  | succ j ih =>
    intro p I e hf h6 h7 Z
    rw [t_sk_s] at Z
    refine w_aload_n rfl rfl rfl ?_
    refine w_gf (t := .int 0) (v := .int _) rfl rfl rfl sp110 rfl (congrArg Value.int h7) rfl ?_
    refine w_aload_n rfl rfl rfl ?_
    refine w_gf (t := .int 0) (v := .int _) rfl rfl rfl sp110 rfl (congrArg Value.int h6) rfl ?_
    refine w_ic_geN (t := 52) (f := 11) rfl rfl rfl (by omega) (by omega) (fun c8 => absurd c8 (by omega)) (fun c8 => ?_)
    refine w_aload_n rfl rfl rfl ?_
    refine w_gf (t := .ref (111)) (v := .ref (111)) rfl rfl rfl sp110 rfl rfl rfl ?_
    refine w_aload_n rfl rfl rfl ?_
    refine w_gf (t := .int 0) (v := .int _) rfl rfl rfl sp110 rfl (congrArg Value.int h7) rfl ?_
    refine w_iaload rfl rfl sp111 rfl ⟨by omega, by omega⟩ (congrFun hf _) ?_
    refine w_bipush (x := Int32.ofNat 10) rfl rfl (by decide) ?_
    refine w_ic_eq (t := 39) (f := 25) rfl rfl rfl (fun c22 => ?_) (fun c22 => ?_)
    · refine w_aload_n rfl rfl rfl ?_
      refine w_dup rfl rfl rfl ?_
      refine w_gf (t := .int 0) (v := .int _) rfl rfl rfl sp110 rfl (congrArg Value.int h7) rfl ?_
      refine w_iconst (x := Int32.ofNat 1) rfl rfl (by decide) ?_
      refine w_iaddN rfl rfl ?_
      refine w_pf rfl rfl rfl sp110 rfl rfl rfl ?_
      refine w_goto (pc' := 0) rfl rfl ?_
      first | rw [if_pos (Or.inl c22)] at Z | rw [if_pos (Or.inr c36)] at Z
      exact ih (p + 1) (am_u I 110 7 (Int32.ofNat (p + 1))) (by omega) ((am_u_ne (by decide)).trans hf) ((am_u_nk (by decide)).trans h6) am_u_at (by rw [am_u_uu]; exact Z)
    · refine w_aload_n rfl rfl rfl ?_
      refine w_gf (t := .ref (111)) (v := .ref (111)) rfl rfl rfl sp110 rfl rfl rfl ?_
      refine w_aload_n rfl rfl rfl ?_
      refine w_gf (t := .int 0) (v := .int _) rfl rfl rfl sp110 rfl (congrArg Value.int h7) rfl ?_
      refine w_iaload rfl rfl sp111 rfl ⟨by omega, by omega⟩ (congrFun hf _) ?_
      refine w_bipush (x := Int32.ofNat 32) rfl rfl (by decide) ?_
      refine w_ic_ne (t := 52) (f := 39) rfl rfl rfl (fun c36 => ?_) (fun c36 => ?_)
      · rw [if_neg (not_or.mpr (And.intro c22 c36)), ← h7, am_u_self] at Z
        exact Z
      · refine w_aload_n rfl rfl rfl ?_
        refine w_dup rfl rfl rfl ?_
        refine w_gf (t := .int 0) (v := .int _) rfl rfl rfl sp110 rfl (congrArg Value.int h7) rfl ?_
        refine w_iconst (x := Int32.ofNat 1) rfl rfl (by decide) ?_
        refine w_iaddN rfl rfl ?_
        refine w_pf rfl rfl rfl sp110 rfl rfl rfl ?_
        refine w_goto (pc' := 0) rfl rfl ?_
        first | rw [if_pos (Or.inl c22)] at Z | rw [if_pos (Or.inr c36)] at Z
        exact ih (p + 1) (am_u I 110 7 (Int32.ofNat (p + 1))) (by omega) ((am_u_ne (by decide)).trans hf) ((am_u_nk (by decide)).trans h6) am_u_at (by rw [am_u_uu]; exact Z)
theorem l_words {k : Nat} {J : hJ} {R : hR} {q : Option Value × am_H} {f : Nat → Int32} {st : Nat} (hs : st ≤ 700) (hk : 1 ≤ k) : ∀ (j p : Nat) (I : hI), p + j = st → I 111 = f → I 110 6 = Int32.ofNat st → I 110 7 = Int32.ofNat p → (wz k 12 none am_c174 114 [.ref 110] [] (am_u I 110 7 (Int32.ofNat (t_w f st j p))) J R q) → wz k 12 none am_c174 90 [.ref 110] [] I J R q := by
  intro j
  induction j with
  | zero =>
    intro p I e hf h6 h7 Z
    obtain rfl : st = p := by omega
    rw [show t_w f st 0 st = st from rfl, ← h7, am_u_self] at Z
    refine w_aload_n rfl rfl rfl ?_
    refine w_aload_n rfl rfl rfl ?_
    refine w_gf (t := .int 0) (v := .int _) rfl rfl rfl sp110 rfl (congrArg Value.int h7) rfl ?_
    refine w_cv (q := am_m172) (as := [_]) (rest := []) (st' := [_]) rfl rfl rfl rfl rfl rfl sp110 rfl rfl rfl rfl (c_isSmallF hf h6 hs (by omega) hk) rfl rfl ?_
    refine w_if_eqB (t := 114) (f := 101) rfl rfl rfl (fun c98 => ?_) (fun c98 => absurd c98 (fun z => absurd z.1 (by omega)))
    exact Z
  | succ j ih =>
    intro p I e hf h6 h7 Z
    rw [t_w_s] at Z
    refine w_aload_n rfl rfl rfl ?_
    refine w_aload_n rfl rfl rfl ?_
    refine w_gf (t := .int 0) (v := .int _) rfl rfl rfl sp110 rfl (congrArg Value.int h7) rfl ?_
    refine w_cv (q := am_m172) (as := [_]) (rest := []) (st' := [_]) rfl rfl rfl rfl rfl rfl sp110 rfl rfl rfl rfl (c_isSmallF hf h6 hs (by omega) hk) rfl rfl ?_
    refine w_if_eqB (t := 114) (f := 101) rfl rfl rfl (fun c98 => ?_) (fun c98 => ?_)
    · rw [if_neg c98, ← h7, am_u_self] at Z
      exact Z
    · refine w_aload_n rfl rfl rfl ?_
      refine w_dup rfl rfl rfl ?_
      refine w_gf (t := .int 0) (v := .int _) rfl rfl rfl sp110 rfl (congrArg Value.int h7) rfl ?_
      refine w_iconst (x := Int32.ofNat 1) rfl rfl (by decide) ?_
      refine w_iaddN rfl rfl ?_
      refine w_pf rfl rfl rfl sp110 rfl rfl rfl ?_
      refine w_goto (pc' := 90) rfl rfl ?_
      rw [if_pos c98] at Z
      exact ih (p + 1) (am_u I 110 7 (Int32.ofNat (p + 1))) (by omega) ((am_u_ne (by decide)).trans hf) ((am_u_nk (by decide)).trans h6) am_u_at (by rw [am_u_uu]; exact Z)
theorem am_u_97 (I : hI) (a b c d : Int32) : am_u (am_u (am_u (am_u I 110 9 a) 110 7 b) 110 9 c) 110 7 d = am_u (am_u I 110 9 c) 110 7 d := by
  funext x y
  simp only [am_u]
  (repeat' split) <;> first | rfl | (exfalso; omega)
theorem l_digits {k : Nat} {J : hJ} {R : hR} {q : Option Value × am_H} {f : Nat → Int32} {st : Nat} (hs : st ≤ 700) (hk : 1 ≤ k) : ∀ (j p : Nat) (w : Int32) (I : hI), p + j = st → I 111 = f → I 110 6 = Int32.ofNat st → I 110 7 = Int32.ofNat p → I 110 9 = w → (wz k 12 none am_c174 281 [.ref 110] [] (am_u (am_u I 110 9 (t_d f st j p w).2) 110 7 (Int32.ofNat (t_d f st j p w).1)) J R q) → wz k 12 none am_c174 213 [.ref 110] [] I J R q := by
  intro j
  induction j with
  | zero =>
    intro p w I e hf h6 h7 h9 Z
    obtain rfl : st = p := by omega
    rw [show t_d f st 0 st w = (st, w) from rfl, ← h7, ← h9, am_u_self, am_u_self] at Z
    refine w_aload_n rfl rfl rfl ?_
    refine w_aload_n rfl rfl rfl ?_
    refine w_gf (t := .int 0) (v := .int _) rfl rfl rfl sp110 rfl (congrArg Value.int h7) rfl ?_
    refine w_cv (q := am_m173) (as := [_]) (rest := []) (st' := [_]) rfl rfl rfl rfl rfl rfl sp110 rfl rfl rfl rfl (c_isDigitF hf h6 hs (by omega) hk) rfl rfl ?_
    refine w_if_eqB (t := 281) (f := 224) rfl rfl rfl (fun c221 => ?_) (fun c221 => absurd c221 (fun z => absurd z.1 (by omega)))
    exact Z
  | succ j ih =>
    intro p w I e hf h6 h7 h9 Z
    subst h9
    rw [t_d_s] at Z
    refine w_aload_n rfl rfl rfl ?_
    refine w_aload_n rfl rfl rfl ?_
    refine w_gf (t := .int 0) (v := .int _) rfl rfl rfl sp110 rfl (congrArg Value.int h7) rfl ?_
    refine w_cv (q := am_m173) (as := [_]) (rest := []) (st' := [_]) rfl rfl rfl rfl rfl rfl sp110 rfl rfl rfl rfl (c_isDigitF hf h6 hs (by omega) hk) rfl rfl ?_
    refine w_if_eqB (t := 281) (f := 224) rfl rfl rfl (fun c221 => ?_) (fun c221 => ?_)
    · rw [if_neg c221, ← h7, am_u_self, am_u_self] at Z
      exact Z
    · refine w_aload_n rfl rfl rfl ?_
      refine w_aload_n rfl rfl rfl ?_
      refine w_gf (t := .int 0) (v := .int _) rfl rfl rfl sp110 rfl (congrArg Value.int rfl) rfl ?_
      refine w_ldc (x := Int32.ofNat 99999) rfl rfl rfl ?_
      refine w_ic_le (t := 241) (f := 234) rfl rfl rfl (fun c231 => ?_) (fun c231 => ?_)
      · refine w_bipush (x := Int32.ofNat 10) rfl rfl (by decide) ?_
        refine w_aload_n rfl rfl rfl ?_
        refine w_gf (t := .int 0) (v := .int _) rfl rfl rfl sp110 rfl (congrArg Value.int rfl) rfl ?_
        refine w_imul rfl rfl ?_
        refine w_aload_n rfl rfl rfl ?_
        refine w_gf (t := .ref (111)) (v := .ref (111)) rfl rfl rfl sp110 rfl rfl rfl ?_
        refine w_aload_n rfl rfl rfl ?_
        refine w_gf (t := .int 0) (v := .int _) rfl rfl rfl sp110 rfl (congrArg Value.int h7) rfl ?_
        refine w_iaload rfl rfl sp111 rfl ⟨by omega, by omega⟩ (congrFun hf _) ?_
        refine w_iadd rfl rfl ?_
        refine w_bipush (x := Int32.ofNat 48) rfl rfl (by decide) ?_
        refine w_isub rfl rfl ?_
        refine w_pf rfl rfl rfl sp110 rfl rfl rfl ?_
        refine w_aload_n rfl rfl rfl ?_
        refine w_dup rfl rfl rfl ?_
        refine w_gf (t := .int 0) (v := .int _) rfl rfl rfl sp110 rfl (congrArg Value.int ((am_u_nk (by decide)).trans h7)) rfl ?_
        refine w_iconst (x := Int32.ofNat 1) rfl rfl (by decide) ?_
        refine w_iaddN rfl rfl ?_
        refine w_pf rfl rfl rfl sp110 rfl rfl rfl ?_
        refine w_goto (pc' := 213) rfl rfl ?_
        rw [if_pos c221] at Z
        first | rw [if_pos c231] at Z | rw [if_neg c231] at Z
        exact ih (p + 1) _ _ (by omega) ((am_u_ne (by decide)).trans ((am_u_ne (by decide)).trans hf)) ((am_u_nk (by decide)).trans ((am_u_nk (by decide)).trans h6)) am_u_at ((am_u_nk (by decide)).trans am_u_at) (by rw [am_u_97]; exact Z)
      · refine w_aload_n rfl rfl rfl ?_
        refine w_gf (t := .int 0) (v := .int _) rfl rfl rfl sp110 rfl (congrArg Value.int rfl) rfl ?_
        refine w_goto (pc' := 261) rfl rfl ?_
        refine w_pf rfl rfl rfl sp110 rfl rfl rfl ?_
        refine w_aload_n rfl rfl rfl ?_
        refine w_dup rfl rfl rfl ?_
        refine w_gf (t := .int 0) (v := .int _) rfl rfl rfl sp110 rfl (congrArg Value.int ((am_u_nk (by decide)).trans h7)) rfl ?_
        refine w_iconst (x := Int32.ofNat 1) rfl rfl (by decide) ?_
        refine w_iaddN rfl rfl ?_
        refine w_pf rfl rfl rfl sp110 rfl rfl rfl ?_
        refine w_goto (pc' := 213) rfl rfl ?_
        rw [if_pos c221] at Z
        first | rw [if_pos c231] at Z | rw [if_neg c231] at Z
        exact ih (p + 1) _ _ (by omega) ((am_u_ne (by decide)).trans ((am_u_ne (by decide)).trans hf)) ((am_u_nk (by decide)).trans ((am_u_nk (by decide)).trans h6)) am_u_at ((am_u_nk (by decide)).trans am_u_at) (by rw [am_u_97]; exact Z)
theorem c_token {k : Nat} {I : hI} {J : hJ} {R : hR} {f : Nat → Int32} {st p : Nat} (hf : I 111 = f) (hW : ∀ i, i < 106 → I 112 i = Int32.ofNat (wd i)) (h6 : I 110 6 = Int32.ofNat st) (h7 : I 110 7 = Int32.ofNat p) (hp : p ≤ st) (hs : st ≤ 700) (hk : 2 ≤ k) : ct k 174 [.ref 110] I J R none (m_tk I f st p) J R := by
  obtain ⟨k, rfl⟩ : ∃ k', k = k' + 1 := ⟨k - 1, by omega⟩
  have la := t_sk_le f (st - p) p
  have la2 : t_sk f (st - p) p = t_at f st p := rfl
  rw [la2] at la
  have lw := t_w_le f st (st - t_at f st p) (t_at f st p)
  refine ct_of (q := am_m174) (L := [_]) rfl rfl rfl rfl rfl rfl ?_
  refine l_skip (f := f) hs (st - p) p I (by omega) hf h6 h7 ?_
  rw [la2]
  refine w_aload_n rfl rfl rfl ?_
  refine w_aload_n rfl rfl rfl ?_
  refine w_gf (t := .int 0) (v := .int _) rfl rfl rfl sp110 rfl (congrArg Value.int am_u_at) rfl ?_
  refine w_pf rfl rfl rfl sp110 rfl rfl rfl ?_
  refine w_aload_n rfl rfl rfl ?_
  refine w_gf (t := .int 0) (v := .int _) rfl rfl rfl sp110 rfl (congrArg Value.int ((am_u_nk (by decide)).trans am_u_at)) rfl ?_
  refine w_aload_n rfl rfl rfl ?_
  refine w_gf (t := .int 0) (v := .int _) rfl rfl rfl sp110 rfl (congrArg Value.int (((am_u_nk (by decide)).trans (am_u_nk (by decide))).trans h6)) rfl ?_
  refine w_ic_neN (t := 79) (f := 71) rfl rfl rfl (by omega) (by omega) (fun c68 => ?_) (fun c68 => ?_)
  · refine w_aload_n rfl rfl rfl ?_
    refine w_aload_n rfl rfl rfl ?_
    refine w_gf (t := .int 0) (v := .int _) rfl rfl rfl sp110 rfl (congrArg Value.int ((am_u_nk (by decide)).trans am_u_at)) rfl ?_
    refine w_cv (q := am_m172) (as := [_]) (rest := []) (st' := [_]) rfl rfl rfl rfl rfl rfl sp110 rfl rfl rfl rfl (c_isSmallF ((am_u_ne (by decide)).trans ((am_u_ne (by decide)).trans hf)) ((am_u_nk (by decide)).trans ((am_u_nk (by decide)).trans h6)) hs (by omega) (by omega)) rfl rfl ?_
    refine w_if_eqB (t := 192) (f := 90) rfl rfl rfl (fun c87 => ?_) (fun c87 => ?_)
    · refine w_aload_n rfl rfl rfl ?_
      refine w_aload_n rfl rfl rfl ?_
      refine w_gf (t := .int 0) (v := .int _) rfl rfl rfl sp110 rfl (congrArg Value.int ((am_u_nk (by decide)).trans am_u_at)) rfl ?_
      refine w_cv (q := am_m173) (as := [_]) (rest := []) (st' := [_]) rfl rfl rfl rfl rfl rfl sp110 rfl rfl rfl rfl (c_isDigitF ((am_u_ne (by decide)).trans ((am_u_ne (by decide)).trans hf)) ((am_u_nk (by decide)).trans ((am_u_nk (by decide)).trans h6)) hs (by omega) (by omega)) rfl rfl ?_
      refine w_if_eqB (t := 277) (f := 203) rfl rfl rfl (fun c200 => ?_) (fun c200 => ?_)
      · refine w_aload_n rfl rfl rfl ?_
        refine w_cv (q := am_m175) (as := []) (rest := []) (st' := []) rfl rfl rfl rfl rfl rfl sp110 rfl rfl rfl rfl (c_sign ((am_u_ne (by decide)).trans ((am_u_ne (by decide)).trans hf)) ((am_u_nk (by decide)).trans ((am_u_nk (by decide)).trans h6)) ((am_u_nk (by decide)).trans am_u_at) (by omega) hs (by omega)) rfl rfl ?_
        exact w_ret rfl (by unfold m_tk t_one; (first | rw [if_pos c68] | (rw [if_neg c68]; first | (rw [if_pos c87]; first | rw [if_neg c135] | (rw [if_pos c135]; first | rw [if_pos c153] | rw [if_neg c153])) | (rw [if_neg c87]; first | rw [if_pos c200] | rw [if_neg c200]))); funext b j; simp only [m_t3, am_u]; (repeat' split) <;> first | rfl | (exfalso; omega) | simp_all) rfl rfl
      · refine w_aload_n rfl rfl rfl ?_
        refine w_iconst (x := Int32.ofNat 3) rfl rfl (by decide) ?_
        refine w_pf rfl rfl rfl sp110 rfl rfl rfl ?_
        refine w_aload_n rfl rfl rfl ?_
        refine w_iconst (x := Int32.ofNat 0) rfl rfl (by decide) ?_
        refine w_pf rfl rfl rfl sp110 rfl rfl rfl ?_
        refine l_digits (f := f) (st := st) hs (by omega) (st - t_at f st p) (t_at f st p) (Int32.ofNat 0) _ (by omega) ((am_u_ne (by decide)).trans ((am_u_ne (by decide)).trans ((am_u_ne (by decide)).trans ((am_u_ne (by decide)).trans hf)))) ((am_u_nk (by decide)).trans ((am_u_nk (by decide)).trans ((am_u_nk (by decide)).trans ((am_u_nk (by decide)).trans h6)))) ((am_u_nk (by decide)).trans ((am_u_nk (by decide)).trans ((am_u_nk (by decide)).trans am_u_at))) am_u_at ?_
        exact w_ret rfl (by unfold m_tk t_one; (first | rw [if_pos c68] | (rw [if_neg c68]; first | (rw [if_pos c87]; first | rw [if_neg c135] | (rw [if_pos c135]; first | rw [if_pos c153] | rw [if_neg c153])) | (rw [if_neg c87]; first | rw [if_pos c200] | rw [if_neg c200]))); funext b j; simp only [m_t3, am_u]; (repeat' split) <;> first | rfl | (exfalso; omega) | simp_all) rfl rfl
    · refine l_words (f := f) (st := st) hs (by omega) (st - t_at f st p) (t_at f st p) _ (by omega) ((am_u_ne (by decide)).trans ((am_u_ne (by decide)).trans hf)) ((am_u_nk (by decide)).trans ((am_u_nk (by decide)).trans h6)) ((am_u_nk (by decide)).trans am_u_at) ?_
      refine w_aload_n rfl rfl rfl ?_
      refine w_aload_n rfl rfl rfl ?_
      refine w_aload_n rfl rfl rfl ?_
      refine w_gf (t := .int 0) (v := .int _) rfl rfl rfl sp110 rfl (congrArg Value.int ((am_u_nk (by decide)).trans am_u_at)) rfl ?_
      refine w_aload_n rfl rfl rfl ?_
      refine w_gf (t := .int 0) (v := .int _) rfl rfl rfl sp110 rfl (congrArg Value.int am_u_at) rfl ?_
      refine w_cv (q := am_m171) (as := [_, _]) (rest := [_]) (st' := [_, _]) rfl rfl rfl rfl rfl rfl sp110 rfl rfl rfl rfl (c_wordAtF ((am_u_ne (by decide)).trans ((am_u_ne (by decide)).trans ((am_u_ne (by decide)).trans hf))) hW (by omega) (by omega) (by omega)) rfl rfl ?_
      refine w_pf rfl rfl rfl sp110 rfl rfl rfl ?_
      refine w_aload_n rfl rfl rfl ?_
      refine w_aload_n rfl rfl rfl ?_
      refine w_gf (t := .int 0) (v := .int _) rfl rfl rfl sp110 rfl (congrArg Value.int am_u_at) rfl ?_
      refine w_if_lt (t := 142) (f := 138) rfl rfl rfl (fun c135 => ?_) (fun c135 => ?_)
      · refine w_aload_n rfl rfl rfl ?_
        refine w_gf (t := .int 0) (v := .int _) rfl rfl rfl sp110 rfl (congrArg Value.int ((am_u_nk (by decide)).trans am_u_at)) rfl ?_
        refine w_aload_n rfl rfl rfl ?_
        refine w_gf (t := .int 0) (v := .int _) rfl rfl rfl sp110 rfl (congrArg Value.int ((am_u_nk (by decide)).trans ((am_u_nk (by decide)).trans am_u_at))) rfl ?_
        refine w_isubN rfl rfl (by omega) ?_
        refine w_bipush (x := Int32.ofNat 6) rfl rfl (by decide) ?_
        refine w_ic_leN (t := 161) (f := 156) rfl rfl rfl (by omega) (by omega) (fun c153 => ?_) (fun c153 => ?_)
        · refine w_iconst (x := Int32.ofNat 2) rfl rfl (by decide) ?_
          refine w_pf rfl rfl rfl sp110 rfl rfl rfl ?_
          refine w_aload_n rfl rfl rfl ?_
          refine w_gf (t := .int 0) (v := .int _) rfl rfl rfl sp110 rfl (congrArg Value.int am_u_at) rfl ?_
          refine w_iconst (x := Int32.ofNat 2) rfl rfl (by decide) ?_
          refine w_ic_neN (t := 281) (f := 173) rfl rfl rfl (by omega) (by omega) (fun c170 => absurd c170 (by omega)) (fun c170 => ?_)
          clear c170
          refine w_aload_n rfl rfl rfl ?_
          refine w_aload_n rfl rfl rfl ?_
          refine w_aload_n rfl rfl rfl ?_
          refine w_gf (t := .int 0) (v := .int _) rfl rfl rfl sp110 rfl (congrArg Value.int ((am_u_nk (by decide)).trans ((am_u_nk (by decide)).trans ((am_u_nk (by decide)).trans am_u_at)))) rfl ?_
          refine w_aload_n rfl rfl rfl ?_
          refine w_gf (t := .int 0) (v := .int _) rfl rfl rfl sp110 rfl (congrArg Value.int ((am_u_nk (by decide)).trans ((am_u_nk (by decide)).trans am_u_at))) rfl ?_
          refine w_cv (q := am_m176) (as := [_, _]) (rest := [_]) (st' := [_, _]) rfl rfl rfl rfl rfl rfl sp110 rfl rfl rfl rfl (c_packedF ((am_u_ne (by decide)).trans ((am_u_ne (by decide)).trans ((am_u_ne (by decide)).trans ((am_u_ne (by decide)).trans ((am_u_ne (by decide)).trans hf))))) (by omega) (by omega) (by omega)) rfl rfl ?_
          refine w_pf rfl rfl rfl sp110 rfl rfl rfl ?_
          refine w_goto (pc' := 281) rfl rfl ?_
          exact w_ret rfl (by unfold m_tk t_one; (first | rw [if_pos c68] | (rw [if_neg c68]; first | (rw [if_pos c87]; first | rw [if_neg c135] | (rw [if_pos c135]; first | rw [if_pos c153] | rw [if_neg c153])) | (rw [if_neg c87]; first | rw [if_pos c200] | rw [if_neg c200]))); funext b j; simp only [m_t3, am_u]; (repeat' split) <;> first | rfl | (exfalso; omega) | simp_all) rfl rfl
        · refine w_bipush (x := Int32.ofNat 6) rfl rfl (by decide) ?_
          refine w_goto (pc' := 162) rfl rfl ?_
          refine w_pf rfl rfl rfl sp110 rfl rfl rfl ?_
          refine w_aload_n rfl rfl rfl ?_
          refine w_gf (t := .int 0) (v := .int _) rfl rfl rfl sp110 rfl (congrArg Value.int am_u_at) rfl ?_
          refine w_iconst (x := Int32.ofNat 2) rfl rfl (by decide) ?_
          refine w_ic_neN (t := 281) (f := 173) rfl rfl rfl (by omega) (by omega) (fun c170 => ?_) (fun c170 => absurd c170 (by omega))
          clear c170
          exact w_ret rfl (by unfold m_tk t_one; (first | rw [if_pos c68] | (rw [if_neg c68]; first | (rw [if_pos c87]; first | rw [if_neg c135] | (rw [if_pos c135]; first | rw [if_pos c153] | rw [if_neg c153])) | (rw [if_neg c87]; first | rw [if_pos c200] | rw [if_neg c200]))); funext b j; simp only [m_t3, am_u]; (repeat' split) <;> first | rfl | (exfalso; omega) | simp_all) rfl rfl
      · refine w_iconst (x := Int32.ofNat 1) rfl rfl (by decide) ?_
        refine w_goto (pc' := 162) rfl rfl ?_
        refine w_pf rfl rfl rfl sp110 rfl rfl rfl ?_
        refine w_aload_n rfl rfl rfl ?_
        refine w_gf (t := .int 0) (v := .int _) rfl rfl rfl sp110 rfl (congrArg Value.int am_u_at) rfl ?_
        refine w_iconst (x := Int32.ofNat 2) rfl rfl (by decide) ?_
        refine w_ic_neN (t := 281) (f := 173) rfl rfl rfl (by omega) (by omega) (fun c170 => ?_) (fun c170 => absurd c170 (by omega))
        clear c170
        exact w_ret rfl (by unfold m_tk t_one; (first | rw [if_pos c68] | (rw [if_neg c68]; first | (rw [if_pos c87]; first | rw [if_neg c135] | (rw [if_pos c135]; first | rw [if_pos c153] | rw [if_neg c153])) | (rw [if_neg c87]; first | rw [if_pos c200] | rw [if_neg c200]))); funext b j; simp only [m_t3, am_u]; (repeat' split) <;> first | rfl | (exfalso; omega) | simp_all) rfl rfl
  · refine w_aload_n rfl rfl rfl ?_
    refine w_iconst (x := Int32.ofNat 0) rfl rfl (by decide) ?_
    refine w_pf rfl rfl rfl sp110 rfl rfl rfl ?_
    refine w_goto (pc' := 281) rfl rfl ?_
    exact w_ret rfl (by unfold m_tk t_one; (first | rw [if_pos c68] | (rw [if_neg c68]; first | (rw [if_pos c87]; first | rw [if_neg c135] | (rw [if_pos c135]; first | rw [if_pos c153] | rw [if_neg c153])) | (rw [if_neg c87]; first | rw [if_pos c200] | rw [if_neg c200]))); funext b j; simp only [m_t3, am_u]; (repeat' split) <;> first | rfl | (exfalso; omega) | simp_all) rfl rfl
