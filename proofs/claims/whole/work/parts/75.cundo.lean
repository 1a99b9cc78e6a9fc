theorem neg1N {x : Nat} (h : x < 2147483648) : ¬ Int32.ofNat x = Int32.ofInt (-1) := fun e => am_oN0 h (by rw [e]; decide)
/-! The class: the latest change undone; what was seen. -/
theorem d_undo0 {k : Nat} {I : hI} {J : hJ} {R : hR} {S : Nat} (hS : S = 63 ∨ S = 70 ∨ S = 77) (h0 : I 96 0 = 0) (hk : 1 ≤ k) : ct k 11 [.ref 96, .ref S] I J R (some (.int (Int32.ofInt (-1)))) I J R := by
  obtain ⟨k, rfl⟩ : ∃ k', k = k' + 1 := ⟨k - 1, by omega⟩
  refine ct_of (q := am_m11) (o := 1) (rt := (some .int)) (co := am_c11) (L := [_, _, _]) rfl rfl rfl rfl rfl rfl ?_
  refine w_aload_n rfl rfl rfl ?_
  refine w_gf (t := .int 0) (v := .int _) rfl rfl rfl sp96 rfl (congrArg Value.int rfl) rfl ?_
  refine w_if_ne (t := 9) (f := 7) rfl rfl rfl (fun c4 => absurd c4 (fun z => z h0)) (fun c4 => ?_)
  refine w_iconst (x := Int32.ofInt (-1)) rfl rfl (by decide) ?_
  exact w_iret rfl rfl rfl rfl rfl
def k_unS (I : hI) (S u s : Nat) : hI := am_u (am_u (am_u I 96 0 (Int32.ofNat u)) (S + 4) s (Int32.ofNat 0)) (S + 5) s (Int32.ofNat 0)
def k_unR (I : hI) (S u r : Nat) : hI := am_u (am_u (am_u (am_u I 96 0 (Int32.ofNat u)) (S + 1) r (I 98 u)) (S + 2) r (I 99 u)) (S + 3) r (I 100 u)
theorem d_undoS {k : Nat} {I : hI} {J : hJ} {R : hR} {S : Nat} (hS : S = 63 ∨ S = 70 ∨ S = 77) {u s : Nat} (hu : u < 20) (hs : s < 5) (h0 : I 96 0 = Int32.ofNat (u + 1)) (h1 : I 97 u = Int32.ofInt (-1)) (h2 : I 101 u = Int32.ofNat s) (hk : 1 ≤ k) : ct k 11 [.ref 96, .ref S] I J R (some (.int (Int32.ofNat u))) (k_unS I S u s) J R := by
  obtain ⟨k, rfl⟩ : ∃ k', k = k' + 1 := ⟨k - 1, by omega⟩
  refine ct_of (q := am_m11) (o := 1) (rt := (some .int)) (co := am_c11) (L := [_, _, _]) rfl rfl rfl rfl rfl rfl ?_
  refine w_aload_n rfl rfl rfl ?_
  refine w_gf (t := .int 0) (v := .int _) rfl rfl rfl sp96 rfl (congrArg Value.int h0) rfl ?_
  refine w_if_ne (t := 9) (f := 7) rfl rfl rfl (fun c4 => ?_) (fun c4 => absurd c4 (fun z => absurd ((am_eqN (y := 0) (by omega) (by omega)).mp z) (by omega)))
  refine w_aload_n rfl rfl rfl ?_
  refine w_dup rfl rfl rfl ?_
  refine w_gf (t := .int 0) (v := .int _) rfl rfl rfl sp96 rfl (congrArg Value.int h0) rfl ?_
  refine w_iconst (x := Int32.ofNat 1) rfl rfl (by decide) ?_
  refine w_isubN rfl rfl (by omega) ?_
  refine w_pf rfl rfl rfl sp96 rfl rfl rfl ?_
  refine w_aload_n rfl rfl rfl ?_
  refine w_gf (t := .ref (97)) (v := .ref (97)) rfl rfl rfl sp96 rfl rfl rfl ?_
  refine w_aload_n rfl rfl rfl ?_
  refine w_gf (t := .int 0) (v := .int _) rfl rfl rfl sp96 rfl (congrArg Value.int am_u_at) rfl ?_
  refine w_iaload rfl rfl sp97 rfl ⟨by omega, by omega⟩ ((congrFun (am_u_ne (by decide)) _).trans h1) ?_
  refine w_istore_n (L' := [_, _, _]) rfl rfl rfl ?_
  refine w_iload_n rfl rfl rfl ?_
  refine w_iconst (x := Int32.ofInt (-1)) rfl rfl (by decide) ?_
  refine w_ic_ne (t := 67) (f := 34) rfl rfl rfl (fun c31 => absurd c31 (fun z => z rfl)) (fun c31 => ?_)
  refine w_aload_n rfl rfl rfl ?_
  refine w_gf (t := .ref (S + 4)) (v := .ref (S + 4)) rfl rfl rfl (shS_0 hS) rfl rfl rfl ?_
  refine w_aload_n rfl rfl rfl ?_
  refine w_gf (t := .ref (101)) (v := .ref (101)) rfl rfl rfl sp96 rfl rfl rfl ?_
  refine w_aload_n rfl rfl rfl ?_
  refine w_gf (t := .int 0) (v := .int _) rfl rfl rfl sp96 rfl (congrArg Value.int am_u_at) rfl ?_
  refine w_iaload rfl rfl sp101 rfl ⟨by omega, by omega⟩ ((congrFun (am_u_ne (by decide)) _).trans h2) ?_
  refine w_iconst (x := Int32.ofNat 0) rfl rfl (by decide) ?_
  refine w_iastore rfl rfl (shS_4 hS) rfl ⟨by omega, by omega⟩ ?_
  refine w_aload_n rfl rfl rfl ?_
  refine w_gf (t := .ref (S + 5)) (v := .ref (S + 5)) rfl rfl rfl (shS_0 hS) rfl rfl rfl ?_
  refine w_aload_n rfl rfl rfl ?_
  refine w_gf (t := .ref (101)) (v := .ref (101)) rfl rfl rfl sp96 rfl rfl rfl ?_
  refine w_aload_n rfl rfl rfl ?_
  refine w_gf (t := .int 0) (v := .int _) rfl rfl rfl sp96 rfl (congrArg Value.int ((congrFun (am_u_ne (by omega)) _).trans am_u_at)) rfl ?_
  refine w_iaload rfl rfl sp101 rfl ⟨by omega, by omega⟩ (((congrFun (am_u_ne (by omega)) _).trans (congrFun (am_u_ne (by decide)) _)).trans h2) ?_
  refine w_iconst (x := Int32.ofNat 0) rfl rfl (by decide) ?_
  refine w_iastore rfl rfl (shS_5 hS) rfl ⟨by omega, by omega⟩ ?_
  refine w_goto (pc' := 112) rfl rfl ?_
  refine w_aload_n rfl rfl rfl ?_
  refine w_gf (t := .int 0) (v := .int _) rfl rfl rfl sp96 rfl (congrArg Value.int ((congrFun (am_u_ne (by omega)) _).trans ((congrFun (am_u_ne (by omega)) _).trans am_u_at))) rfl ?_
  exact w_iret rfl rfl rfl rfl rfl
theorem d_undoR {k : Nat} {I : hI} {J : hJ} {R : hR} {S : Nat} (hS : S = 63 ∨ S = 70 ∨ S = 77) {u r : Nat} (hu : u < 20) (hr : r < 8) (h0 : I 96 0 = Int32.ofNat (u + 1)) (h1 : I 97 u = Int32.ofNat r) (hk : 1 ≤ k) : ct k 11 [.ref 96, .ref S] I J R (some (.int (Int32.ofNat u))) (k_unR I S u r) J R := by
  obtain ⟨k, rfl⟩ : ∃ k', k = k' + 1 := ⟨k - 1, by omega⟩
  refine ct_of (q := am_m11) (o := 1) (rt := (some .int)) (co := am_c11) (L := [_, _, _]) rfl rfl rfl rfl rfl rfl ?_
  refine w_aload_n rfl rfl rfl ?_
  refine w_gf (t := .int 0) (v := .int _) rfl rfl rfl sp96 rfl (congrArg Value.int h0) rfl ?_
  refine w_if_ne (t := 9) (f := 7) rfl rfl rfl (fun c4 => ?_) (fun c4 => absurd c4 (fun z => absurd ((am_eqN (y := 0) (by omega) (by omega)).mp z) (by omega)))
  refine w_aload_n rfl rfl rfl ?_
  refine w_dup rfl rfl rfl ?_
  refine w_gf (t := .int 0) (v := .int _) rfl rfl rfl sp96 rfl (congrArg Value.int h0) rfl ?_
  refine w_iconst (x := Int32.ofNat 1) rfl rfl (by decide) ?_
  refine w_isubN rfl rfl (by omega) ?_
  refine w_pf rfl rfl rfl sp96 rfl rfl rfl ?_
  refine w_aload_n rfl rfl rfl ?_
  refine w_gf (t := .ref (97)) (v := .ref (97)) rfl rfl rfl sp96 rfl rfl rfl ?_
  refine w_aload_n rfl rfl rfl ?_
  refine w_gf (t := .int 0) (v := .int _) rfl rfl rfl sp96 rfl (congrArg Value.int am_u_at) rfl ?_
  refine w_iaload rfl rfl sp97 rfl ⟨by omega, by omega⟩ ((congrFun (am_u_ne (by decide)) _).trans h1) ?_
  refine w_istore_n (L' := [_, _, _]) rfl rfl rfl ?_
  refine w_iload_n rfl rfl rfl ?_
  refine w_iconst (x := Int32.ofInt (-1)) rfl rfl (by decide) ?_
  refine w_ic_ne (t := 67) (f := 34) rfl rfl rfl (fun c31 => ?_) (fun c31 => absurd c31 (fun z => neg1N (by omega) z))
  refine w_aload_n rfl rfl rfl ?_
  refine w_gf (t := .ref (S + 1)) (v := .ref (S + 1)) rfl rfl rfl (shS_0 hS) rfl rfl rfl ?_
  refine w_iload_n rfl rfl rfl ?_
  refine w_aload_n rfl rfl rfl ?_
  refine w_gf (t := .ref (98)) (v := .ref (98)) rfl rfl rfl sp96 rfl rfl rfl ?_
  refine w_aload_n rfl rfl rfl ?_
  refine w_gf (t := .int 0) (v := .int _) rfl rfl rfl sp96 rfl (congrArg Value.int am_u_at) rfl ?_
  refine w_iaload rfl rfl sp98 rfl ⟨by omega, by omega⟩ (congrFun (am_u_ne (by decide)) _) ?_
  refine w_iastore rfl rfl (shS_1 hS) rfl ⟨by omega, by omega⟩ ?_
  refine w_aload_n rfl rfl rfl ?_
  refine w_gf (t := .ref (S + 2)) (v := .ref (S + 2)) rfl rfl rfl (shS_0 hS) rfl rfl rfl ?_
  refine w_iload_n rfl rfl rfl ?_
  refine w_aload_n rfl rfl rfl ?_
  refine w_gf (t := .ref (99)) (v := .ref (99)) rfl rfl rfl sp96 rfl rfl rfl ?_
  refine w_aload_n rfl rfl rfl ?_
  refine w_gf (t := .int 0) (v := .int _) rfl rfl rfl sp96 rfl (congrArg Value.int ((congrFun (am_u_ne (by omega)) _).trans am_u_at)) rfl ?_
  refine w_iaload rfl rfl sp99 rfl ⟨by omega, by omega⟩ ((congrFun (am_u_ne (by omega)) _).trans (congrFun (am_u_ne (by decide)) _)) ?_
  refine w_iastore rfl rfl (shS_2 hS) rfl ⟨by omega, by omega⟩ ?_
  refine w_aload_n rfl rfl rfl ?_
  refine w_gf (t := .ref (S + 3)) (v := .ref (S + 3)) rfl rfl rfl (shS_0 hS) rfl rfl rfl ?_
  refine w_iload_n rfl rfl rfl ?_
  refine w_aload_n rfl rfl rfl ?_
  refine w_gf (t := .ref (100)) (v := .ref (100)) rfl rfl rfl sp96 rfl rfl rfl ?_
  refine w_aload_n rfl rfl rfl ?_
  refine w_gf (t := .int 0) (v := .int _) rfl rfl rfl sp96 rfl (congrArg Value.int ((congrFun (am_u_ne (by omega)) _).trans ((congrFun (am_u_ne (by omega)) _).trans am_u_at))) rfl ?_
  refine w_iaload rfl rfl sp100 rfl ⟨by omega, by omega⟩ ((congrFun (am_u_ne (by omega)) _).trans ((congrFun (am_u_ne (by omega)) _).trans (congrFun (am_u_ne (by decide)) _))) ?_
  refine w_iastore rfl rfl (shS_3 hS) rfl ⟨by omega, by omega⟩ ?_
  refine w_aload_n rfl rfl rfl ?_
  refine w_gf (t := .int 0) (v := .int _) rfl rfl rfl sp96 rfl (congrArg Value.int ((congrFun (am_u_ne (by omega)) _).trans ((congrFun (am_u_ne (by omega)) _).trans ((congrFun (am_u_ne (by omega)) _).trans am_u_at)))) rfl ?_
  exact w_iret rfl rfl rfl rfl rfl
