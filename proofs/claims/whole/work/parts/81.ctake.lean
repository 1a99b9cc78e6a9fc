/-! The class: a law's tokens taken. -/
abbrev k_tvP (x : Int32) : Prop := x = Int32.ofNat 2 ∨ (¬ x < Int32.ofNat 24 ∧ ¬ Int32.ofNat 30 < x)
def k_tv3 (I : hI) (A c : Nat) : Int32 × hI := if c < 64 ∧ ¬ (I 3 4 = Int32.ofNat 2 ∧ Int32.ofNat 9999 < I 3 6) then (1, am_u (k_ad (am_u I 6 4 (Int32.ofNat (c + 1))) A (I 3 4) (I 3 6)) 6 5 (Int32.ofNat 0)) else (0, u_bl I (Int32.ofNat 2))
def k_tv2 (I : hI) (A c : Nat) : Int32 × hI := if k_tvP (I 3 4) then k_tv3 I A c else (0, u_bl I (Int32.ofNat 1))
def k_tv (I : hI) (A h o c : Nat) : Int32 × hI := if I 3 4 = Int32.ofNat 41 then k_op I h o else if I 3 4 = Int32.ofNat 23 ∧ ¬ I 6 6 = 0 then k_hk I h c else k_tv2 I A c
theorem k_tvA {I : hI} {A h o c : Nat} (a : I 3 4 = Int32.ofNat 41) : k_tv I A h o c = k_op I h o := if_pos a
theorem k_tvB {I : hI} {A h o c : Nat} (a : ¬ I 3 4 = Int32.ofNat 41) (b : I 3 4 = Int32.ofNat 23) (d : ¬ I 6 6 = 0) : k_tv I A h o c = k_hk I h c := (if_neg a).trans (if_pos ⟨b, d⟩)
theorem k_tvC {I : hI} {A h o c : Nat} (a : ¬ I 3 4 = Int32.ofNat 41) (b : ¬ I 3 4 = Int32.ofNat 23) : k_tv I A h o c = k_tv2 I A c := (if_neg a).trans (if_neg fun z => b z.1)
theorem k_tvE {I : hI} {A h o c : Nat} (a : ¬ I 3 4 = Int32.ofNat 41) (b : I 6 6 = 0) : k_tv I A h o c = k_tv2 I A c := (if_neg a).trans (if_neg fun z => z.2 b)
theorem k_tv2A {I : hI} {A c : Nat} (a : I 3 4 = Int32.ofNat 2) : k_tv2 I A c = k_tv3 I A c := if_pos (Or.inl a)
theorem k_tv2B {I : hI} {A c : Nat} (a : ¬ I 3 4 < Int32.ofNat 24) (b : ¬ Int32.ofNat 30 < I 3 4) : k_tv2 I A c = k_tv3 I A c := if_pos (Or.inr ⟨a, b⟩)
theorem k_tv2C {I : hI} {A c : Nat} (a : ¬ I 3 4 = Int32.ofNat 2) (b : I 3 4 < Int32.ofNat 24) : k_tv2 I A c = (0, u_bl I (Int32.ofNat 1)) := if_neg fun z => z.elim a fun z => z.1 b
theorem k_tv2D {I : hI} {A c : Nat} (a : ¬ I 3 4 = Int32.ofNat 2) (b : Int32.ofNat 30 < I 3 4) : k_tv2 I A c = (0, u_bl I (Int32.ofNat 1)) := if_neg fun z => z.elim a fun z => z.2 b
theorem k_tv3A {I : hI} {A c : Nat} (a : ¬ c < 64) : k_tv3 I A c = (0, u_bl I (Int32.ofNat 2)) := if_neg fun z => a z.1
theorem k_tv3B {I : hI} {A c : Nat} (a : I 3 4 = Int32.ofNat 2) (b : Int32.ofNat 9999 < I 3 6) : k_tv3 I A c = (0, u_bl I (Int32.ofNat 2)) := if_neg fun z => z.2 ⟨a, b⟩
theorem k_tv3C {I : hI} {A c : Nat} (e : c < 64) (a : ¬ I 3 4 = Int32.ofNat 2) : k_tv3 I A c = (1, am_u (k_ad (am_u I 6 4 (Int32.ofNat (c + 1))) A (I 3 4) (I 3 6)) 6 5 (Int32.ofNat 0)) := if_pos ⟨e, fun z => a z.1⟩
theorem k_tv3D {I : hI} {A c : Nat} (e : c < 64) (a : ¬ Int32.ofNat 9999 < I 3 6) : k_tv3 I A c = (1, am_u (k_ad (am_u I 6 4 (Int32.ofNat (c + 1))) A (I 3 4) (I 3 6)) 6 5 (Int32.ofNat 0)) := if_pos ⟨e, fun z => a z.2⟩
theorem k_op01 {I : hI} {h o : Nat} : (k_op I h o).1 = 0 ∨ (k_op I h o).1 = 1 := by
  unfold k_op; split; exact Or.inr rfl; exact Or.inl rfl
theorem k_hk01 {I : hI} {h o : Nat} : (k_hk I h o).1 = 0 ∨ (k_hk I h o).1 = 1 := by
  unfold k_hk; split; exact Or.inr rfl; exact Or.inl rfl
theorem d_takeValue {k : Nat} {I : hI} {J : hJ} {R : hR} {A : Nat} (hA : lwA A) {h : Nat} (hh : h ≤ 72) (h2 : I 6 2 = Int32.ofNat h) {c : Nat} (hc : c ≤ 64) (h4 : I 6 4 = Int32.ofNat c) {o : Nat} (ho : o ≤ 8) (h3 : I 6 3 = Int32.ofNat o) (h0 : okn (I A 0) 65) (hk : 4 ≤ k) : ct k 39 [.ref 6, .ref A, .ref 3] I J R (some (.int (k_tv I A h o c).1)) ((k_tv I A h o c).2) J R := by
  obtain ⟨k, rfl⟩ : ∃ k', k = k' + 1 := ⟨k - 1, by omega⟩
  have g := lwA_g hA
  refine ct_of (q := am_m39) (o := 4) (rt := (some .boolean)) (co := am_c39) (L := [_, _, _, _, _]) rfl rfl rfl rfl rfl rfl ?_
  refine w_aload_n rfl rfl rfl ?_
  refine w_gf (t := .int 0) (v := .int _) rfl rfl rfl sp3 rfl (congrArg Value.int rfl) rfl ?_
  refine w_istore_n (L' := [_, _, _, _, _]) rfl rfl rfl ?_
  refine w_iload_n rfl rfl rfl ?_
  refine w_bipush (x := Int32.ofNat 41) rfl rfl (by decide) ?_
  refine w_ic_ne (t := 17) (f := 11) rfl rfl rfl (fun c8 => ?_) (fun c8 => ?_)
  · refine w_iload_n rfl rfl rfl ?_
    refine w_bipush (x := Int32.ofNat 23) rfl rfl (by decide) ?_
    refine w_ic_ne (t := 36) (f := 23) rfl rfl rfl (fun c20 => ?_) (fun c20 => ?_)
    · refine w_iload_n rfl rfl rfl ?_
      refine w_iconst (x := Int32.ofNat 2) rfl rfl (by decide) ?_
      refine w_ic_eq (t := 53) (f := 41) rfl rfl rfl (fun c38 => ?_) (fun c38 => ?_)
      · refine w_iconst (x := Int32.ofNat 1) rfl rfl (by decide) ?_
        refine w_goto (pc' := 58) rfl rfl ?_
        refine w_istore (L' := [_, _, _, _, _]) rfl rfl rfl ?_
        refine w_iload rfl rfl rfl ?_
        refine w_if_ne (t := 71) (f := 65) rfl rfl rfl (fun c62 => ?_) (fun c62 => absurd c62 (by decide))
        clear c62
        refine w_aload_n rfl rfl rfl ?_
        refine w_gf (t := .int 0) (v := .int _) rfl rfl rfl sp6 rfl (congrArg Value.int h4) rfl ?_
        refine w_bipush (x := Int32.ofNat 64) rfl rfl (by decide) ?_
        refine w_ic_geN (t := 95) (f := 80) rfl rfl rfl (by omega) (by omega) (fun c77 => ?_) (fun c77 => ?_)
        · refine w_aload_n rfl rfl rfl ?_
          refine w_iconst (x := Int32.ofNat 2) rfl rfl (by decide) ?_
          refine w_cv (q := am_m92) (as := [_]) (rest := []) (st' := [_]) rfl rfl rfl rfl rfl rfl sp3 rfl rfl rfl rfl (d_blame (by omega)) rfl rfl ?_
          exact w_bret rfl (by first | decide | exact k_op01 | exact k_hk01) (by (first | rw [k_tvA c8] | rw [k_tvB c8 c20 c27] | ((first | rw [k_tvC c8 c20] | rw [k_tvE c8 c27]); first | rw [k_tv2C c38 c44] | rw [k_tv2D c38 c50] | ((first | rw [k_tv2A c38] | rw [k_tv2B c44 c50]); first | rw [k_tv3A (show ¬ c < 64 by omega)] | rw [k_tv3B c82 c92] | rw [k_tv3C (show c < 64 by omega) c82] | rw [k_tv3D (show c < 64 by omega) c92]))) <;> rfl) (by first | rw [k_tvA c8] | rw [k_tvB c8 c20 c27] | ((first | rw [k_tvC c8 c20] | rw [k_tvE c8 c27]); first | rw [k_tv2C c38 c44] | rw [k_tv2D c38 c50] | ((first | rw [k_tv2A c38] | rw [k_tv2B c44 c50]); first | rw [k_tv3A (show ¬ c < 64 by omega)] | rw [k_tv3B c82 c92] | rw [k_tv3C (show c < 64 by omega) c82] | rw [k_tv3D (show c < 64 by omega) c92]))) rfl rfl
        · refine w_iload_n rfl rfl rfl ?_
          refine w_iconst (x := Int32.ofNat 2) rfl rfl (by decide) ?_
          refine w_ic_ne (t := 101) (f := 85) rfl rfl rfl (fun c82 => ?_) (fun c82 => ?_)
          · refine w_aload_n rfl rfl rfl ?_
            refine w_dup rfl rfl rfl ?_
            refine w_gf (t := .int 0) (v := .int _) rfl rfl rfl sp6 rfl (congrArg Value.int h4) rfl ?_
            refine w_iconst (x := Int32.ofNat 1) rfl rfl (by decide) ?_
            refine w_iaddN rfl rfl ?_
            refine w_pf rfl rfl rfl sp6 rfl rfl rfl ?_
            refine w_aload_n rfl rfl rfl ?_
            refine w_iload_n rfl rfl rfl ?_
            refine w_aload_n rfl rfl rfl ?_
            refine w_gf (t := .int 0) (v := .int _) rfl rfl rfl sp3 rfl (congrArg Value.int (congrFun (am_u_ne (by decide)) _)) rfl ?_
            refine w_cv (q := am_m33) (as := [_, _]) (rest := []) (st' := []) rfl rfl rfl rfl rfl rfl (lwA_0 hA) rfl rfl rfl rfl (d_ad hA (by rw [am_u_na (by omega)]; exact h0) (by omega)) rfl rfl ?_
            refine w_aload_n rfl rfl rfl ?_
            refine w_iconst (x := Int32.ofNat 0) rfl rfl (by decide) ?_
            refine w_pf rfl rfl rfl sp6 rfl rfl rfl ?_
            refine w_iconst (x := Int32.ofNat 1) rfl rfl (by decide) ?_
            exact w_bret rfl (by first | decide | exact k_op01 | exact k_hk01) (by (first | rw [k_tvA c8] | rw [k_tvB c8 c20 c27] | ((first | rw [k_tvC c8 c20] | rw [k_tvE c8 c27]); first | rw [k_tv2C c38 c44] | rw [k_tv2D c38 c50] | ((first | rw [k_tv2A c38] | rw [k_tv2B c44 c50]); first | rw [k_tv3A (show ¬ c < 64 by omega)] | rw [k_tv3B c82 c92] | rw [k_tv3C (show c < 64 by omega) c82] | rw [k_tv3D (show c < 64 by omega) c92]))) <;> rfl) (by first | rw [k_tvA c8] | rw [k_tvB c8 c20 c27] | ((first | rw [k_tvC c8 c20] | rw [k_tvE c8 c27]); first | rw [k_tv2C c38 c44] | rw [k_tv2D c38 c50] | ((first | rw [k_tv2A c38] | rw [k_tv2B c44 c50]); first | rw [k_tv3A (show ¬ c < 64 by omega)] | rw [k_tv3B c82 c92] | rw [k_tv3C (show c < 64 by omega) c82] | rw [k_tv3D (show c < 64 by omega) c92]))) rfl rfl
          · refine w_aload_n rfl rfl rfl ?_
            refine w_gf (t := .int 0) (v := .int _) rfl rfl rfl sp3 rfl (congrArg Value.int rfl) rfl ?_
            refine w_sipush (x := Int32.ofNat 9999) rfl rfl (by decide) ?_
            refine w_ic_le (t := 101) (f := 95) rfl rfl rfl (fun c92 => ?_) (fun c92 => ?_)
            · refine w_aload_n rfl rfl rfl ?_
              refine w_dup rfl rfl rfl ?_
              refine w_gf (t := .int 0) (v := .int _) rfl rfl rfl sp6 rfl (congrArg Value.int h4) rfl ?_
              refine w_iconst (x := Int32.ofNat 1) rfl rfl (by decide) ?_
              refine w_iaddN rfl rfl ?_
              refine w_pf rfl rfl rfl sp6 rfl rfl rfl ?_
              refine w_aload_n rfl rfl rfl ?_
              refine w_iload_n rfl rfl rfl ?_
              refine w_aload_n rfl rfl rfl ?_
              refine w_gf (t := .int 0) (v := .int _) rfl rfl rfl sp3 rfl (congrArg Value.int (congrFun (am_u_ne (by decide)) _)) rfl ?_
              refine w_cv (q := am_m33) (as := [_, _]) (rest := []) (st' := []) rfl rfl rfl rfl rfl rfl (lwA_0 hA) rfl rfl rfl rfl (d_ad hA (by rw [am_u_na (by omega)]; exact h0) (by omega)) rfl rfl ?_
              refine w_aload_n rfl rfl rfl ?_
              refine w_iconst (x := Int32.ofNat 0) rfl rfl (by decide) ?_
              refine w_pf rfl rfl rfl sp6 rfl rfl rfl ?_
              refine w_iconst (x := Int32.ofNat 1) rfl rfl (by decide) ?_
              exact w_bret rfl (by first | decide | exact k_op01 | exact k_hk01) (by (first | rw [k_tvA c8] | rw [k_tvB c8 c20 c27] | ((first | rw [k_tvC c8 c20] | rw [k_tvE c8 c27]); first | rw [k_tv2C c38 c44] | rw [k_tv2D c38 c50] | ((first | rw [k_tv2A c38] | rw [k_tv2B c44 c50]); first | rw [k_tv3A (show ¬ c < 64 by omega)] | rw [k_tv3B c82 c92] | rw [k_tv3C (show c < 64 by omega) c82] | rw [k_tv3D (show c < 64 by omega) c92]))) <;> rfl) (by first | rw [k_tvA c8] | rw [k_tvB c8 c20 c27] | ((first | rw [k_tvC c8 c20] | rw [k_tvE c8 c27]); first | rw [k_tv2C c38 c44] | rw [k_tv2D c38 c50] | ((first | rw [k_tv2A c38] | rw [k_tv2B c44 c50]); first | rw [k_tv3A (show ¬ c < 64 by omega)] | rw [k_tv3B c82 c92] | rw [k_tv3C (show c < 64 by omega) c82] | rw [k_tv3D (show c < 64 by omega) c92]))) rfl rfl
            · refine w_aload_n rfl rfl rfl ?_
              refine w_iconst (x := Int32.ofNat 2) rfl rfl (by decide) ?_
              refine w_cv (q := am_m92) (as := [_]) (rest := []) (st' := [_]) rfl rfl rfl rfl rfl rfl sp3 rfl rfl rfl rfl (d_blame (by omega)) rfl rfl ?_
              exact w_bret rfl (by first | decide | exact k_op01 | exact k_hk01) (by (first | rw [k_tvA c8] | rw [k_tvB c8 c20 c27] | ((first | rw [k_tvC c8 c20] | rw [k_tvE c8 c27]); first | rw [k_tv2C c38 c44] | rw [k_tv2D c38 c50] | ((first | rw [k_tv2A c38] | rw [k_tv2B c44 c50]); first | rw [k_tv3A (show ¬ c < 64 by omega)] | rw [k_tv3B c82 c92] | rw [k_tv3C (show c < 64 by omega) c82] | rw [k_tv3D (show c < 64 by omega) c92]))) <;> rfl) (by first | rw [k_tvA c8] | rw [k_tvB c8 c20 c27] | ((first | rw [k_tvC c8 c20] | rw [k_tvE c8 c27]); first | rw [k_tv2C c38 c44] | rw [k_tv2D c38 c50] | ((first | rw [k_tv2A c38] | rw [k_tv2B c44 c50]); first | rw [k_tv3A (show ¬ c < 64 by omega)] | rw [k_tv3B c82 c92] | rw [k_tv3C (show c < 64 by omega) c82] | rw [k_tv3D (show c < 64 by omega) c92]))) rfl rfl
      · refine w_iload_n rfl rfl rfl ?_
        refine w_bipush (x := Int32.ofNat 24) rfl rfl (by decide) ?_
        refine w_ic_lt (t := 57) (f := 47) rfl rfl rfl (fun c44 => ?_) (fun c44 => ?_)
        · refine w_iconst (x := Int32.ofNat 0) rfl rfl (by decide) ?_
          refine w_istore (L' := [_, _, _, _, _]) rfl rfl rfl ?_
          refine w_iload rfl rfl rfl ?_
          refine w_if_ne (t := 71) (f := 65) rfl rfl rfl (fun c62 => absurd c62 (by decide)) (fun c62 => ?_)
          clear c62
          refine w_aload_n rfl rfl rfl ?_
          refine w_iconst (x := Int32.ofNat 1) rfl rfl (by decide) ?_
          refine w_cv (q := am_m92) (as := [_]) (rest := []) (st' := [_]) rfl rfl rfl rfl rfl rfl sp3 rfl rfl rfl rfl (d_blame (by omega)) rfl rfl ?_
          exact w_bret rfl (by first | decide | exact k_op01 | exact k_hk01) (by (first | rw [k_tvA c8] | rw [k_tvB c8 c20 c27] | ((first | rw [k_tvC c8 c20] | rw [k_tvE c8 c27]); first | rw [k_tv2C c38 c44] | rw [k_tv2D c38 c50] | ((first | rw [k_tv2A c38] | rw [k_tv2B c44 c50]); first | rw [k_tv3A (show ¬ c < 64 by omega)] | rw [k_tv3B c82 c92] | rw [k_tv3C (show c < 64 by omega) c82] | rw [k_tv3D (show c < 64 by omega) c92]))) <;> rfl) (by first | rw [k_tvA c8] | rw [k_tvB c8 c20 c27] | ((first | rw [k_tvC c8 c20] | rw [k_tvE c8 c27]); first | rw [k_tv2C c38 c44] | rw [k_tv2D c38 c50] | ((first | rw [k_tv2A c38] | rw [k_tv2B c44 c50]); first | rw [k_tv3A (show ¬ c < 64 by omega)] | rw [k_tv3B c82 c92] | rw [k_tv3C (show c < 64 by omega) c82] | rw [k_tv3D (show c < 64 by omega) c92]))) rfl rfl
        · refine w_iload_n rfl rfl rfl ?_
          refine w_bipush (x := Int32.ofNat 30) rfl rfl (by decide) ?_
          refine w_ic_gt (t := 57) (f := 53) rfl rfl rfl (fun c50 => ?_) (fun c50 => ?_)
          · refine w_iconst (x := Int32.ofNat 0) rfl rfl (by decide) ?_
            refine w_istore (L' := [_, _, _, _, _]) rfl rfl rfl ?_
            refine w_iload rfl rfl rfl ?_
            refine w_if_ne (t := 71) (f := 65) rfl rfl rfl (fun c62 => absurd c62 (by decide)) (fun c62 => ?_)
            clear c62
            refine w_aload_n rfl rfl rfl ?_
            refine w_iconst (x := Int32.ofNat 1) rfl rfl (by decide) ?_
            refine w_cv (q := am_m92) (as := [_]) (rest := []) (st' := [_]) rfl rfl rfl rfl rfl rfl sp3 rfl rfl rfl rfl (d_blame (by omega)) rfl rfl ?_
            exact w_bret rfl (by first | decide | exact k_op01 | exact k_hk01) (by (first | rw [k_tvA c8] | rw [k_tvB c8 c20 c27] | ((first | rw [k_tvC c8 c20] | rw [k_tvE c8 c27]); first | rw [k_tv2C c38 c44] | rw [k_tv2D c38 c50] | ((first | rw [k_tv2A c38] | rw [k_tv2B c44 c50]); first | rw [k_tv3A (show ¬ c < 64 by omega)] | rw [k_tv3B c82 c92] | rw [k_tv3C (show c < 64 by omega) c82] | rw [k_tv3D (show c < 64 by omega) c92]))) <;> rfl) (by first | rw [k_tvA c8] | rw [k_tvB c8 c20 c27] | ((first | rw [k_tvC c8 c20] | rw [k_tvE c8 c27]); first | rw [k_tv2C c38 c44] | rw [k_tv2D c38 c50] | ((first | rw [k_tv2A c38] | rw [k_tv2B c44 c50]); first | rw [k_tv3A (show ¬ c < 64 by omega)] | rw [k_tv3B c82 c92] | rw [k_tv3C (show c < 64 by omega) c82] | rw [k_tv3D (show c < 64 by omega) c92]))) rfl rfl
          · refine w_iconst (x := Int32.ofNat 1) rfl rfl (by decide) ?_
            refine w_goto (pc' := 58) rfl rfl ?_
            refine w_istore (L' := [_, _, _, _, _]) rfl rfl rfl ?_
            refine w_iload rfl rfl rfl ?_
            refine w_if_ne (t := 71) (f := 65) rfl rfl rfl (fun c62 => ?_) (fun c62 => absurd c62 (by decide))
            clear c62
            refine w_aload_n rfl rfl rfl ?_
            refine w_gf (t := .int 0) (v := .int _) rfl rfl rfl sp6 rfl (congrArg Value.int h4) rfl ?_
            refine w_bipush (x := Int32.ofNat 64) rfl rfl (by decide) ?_
            refine w_ic_geN (t := 95) (f := 80) rfl rfl rfl (by omega) (by omega) (fun c77 => ?_) (fun c77 => ?_)
            · refine w_aload_n rfl rfl rfl ?_
              refine w_iconst (x := Int32.ofNat 2) rfl rfl (by decide) ?_
              refine w_cv (q := am_m92) (as := [_]) (rest := []) (st' := [_]) rfl rfl rfl rfl rfl rfl sp3 rfl rfl rfl rfl (d_blame (by omega)) rfl rfl ?_
              exact w_bret rfl (by first | decide | exact k_op01 | exact k_hk01) (by (first | rw [k_tvA c8] | rw [k_tvB c8 c20 c27] | ((first | rw [k_tvC c8 c20] | rw [k_tvE c8 c27]); first | rw [k_tv2C c38 c44] | rw [k_tv2D c38 c50] | ((first | rw [k_tv2A c38] | rw [k_tv2B c44 c50]); first | rw [k_tv3A (show ¬ c < 64 by omega)] | rw [k_tv3B c82 c92] | rw [k_tv3C (show c < 64 by omega) c82] | rw [k_tv3D (show c < 64 by omega) c92]))) <;> rfl) (by first | rw [k_tvA c8] | rw [k_tvB c8 c20 c27] | ((first | rw [k_tvC c8 c20] | rw [k_tvE c8 c27]); first | rw [k_tv2C c38 c44] | rw [k_tv2D c38 c50] | ((first | rw [k_tv2A c38] | rw [k_tv2B c44 c50]); first | rw [k_tv3A (show ¬ c < 64 by omega)] | rw [k_tv3B c82 c92] | rw [k_tv3C (show c < 64 by omega) c82] | rw [k_tv3D (show c < 64 by omega) c92]))) rfl rfl
            · refine w_iload_n rfl rfl rfl ?_
              refine w_iconst (x := Int32.ofNat 2) rfl rfl (by decide) ?_
              refine w_ic_ne (t := 101) (f := 85) rfl rfl rfl (fun c82 => ?_) (fun c82 => ?_)
              · refine w_aload_n rfl rfl rfl ?_
                refine w_dup rfl rfl rfl ?_
                refine w_gf (t := .int 0) (v := .int _) rfl rfl rfl sp6 rfl (congrArg Value.int h4) rfl ?_
                refine w_iconst (x := Int32.ofNat 1) rfl rfl (by decide) ?_
                refine w_iaddN rfl rfl ?_
                refine w_pf rfl rfl rfl sp6 rfl rfl rfl ?_
                refine w_aload_n rfl rfl rfl ?_
                refine w_iload_n rfl rfl rfl ?_
                refine w_aload_n rfl rfl rfl ?_
                refine w_gf (t := .int 0) (v := .int _) rfl rfl rfl sp3 rfl (congrArg Value.int (congrFun (am_u_ne (by decide)) _)) rfl ?_
                refine w_cv (q := am_m33) (as := [_, _]) (rest := []) (st' := []) rfl rfl rfl rfl rfl rfl (lwA_0 hA) rfl rfl rfl rfl (d_ad hA (by rw [am_u_na (by omega)]; exact h0) (by omega)) rfl rfl ?_
                refine w_aload_n rfl rfl rfl ?_
                refine w_iconst (x := Int32.ofNat 0) rfl rfl (by decide) ?_
                refine w_pf rfl rfl rfl sp6 rfl rfl rfl ?_
                refine w_iconst (x := Int32.ofNat 1) rfl rfl (by decide) ?_
                exact w_bret rfl (by first | decide | exact k_op01 | exact k_hk01) (by (first | rw [k_tvA c8] | rw [k_tvB c8 c20 c27] | ((first | rw [k_tvC c8 c20] | rw [k_tvE c8 c27]); first | rw [k_tv2C c38 c44] | rw [k_tv2D c38 c50] | ((first | rw [k_tv2A c38] | rw [k_tv2B c44 c50]); first | rw [k_tv3A (show ¬ c < 64 by omega)] | rw [k_tv3B c82 c92] | rw [k_tv3C (show c < 64 by omega) c82] | rw [k_tv3D (show c < 64 by omega) c92]))) <;> rfl) (by first | rw [k_tvA c8] | rw [k_tvB c8 c20 c27] | ((first | rw [k_tvC c8 c20] | rw [k_tvE c8 c27]); first | rw [k_tv2C c38 c44] | rw [k_tv2D c38 c50] | ((first | rw [k_tv2A c38] | rw [k_tv2B c44 c50]); first | rw [k_tv3A (show ¬ c < 64 by omega)] | rw [k_tv3B c82 c92] | rw [k_tv3C (show c < 64 by omega) c82] | rw [k_tv3D (show c < 64 by omega) c92]))) rfl rfl
              · refine w_aload_n rfl rfl rfl ?_
                refine w_gf (t := .int 0) (v := .int _) rfl rfl rfl sp3 rfl (congrArg Value.int rfl) rfl ?_
                refine w_sipush (x := Int32.ofNat 9999) rfl rfl (by decide) ?_
                refine w_ic_le (t := 101) (f := 95) rfl rfl rfl (fun c92 => ?_) (fun c92 => ?_)
                · refine w_aload_n rfl rfl rfl ?_
                  refine w_dup rfl rfl rfl ?_
                  refine w_gf (t := .int 0) (v := .int _) rfl rfl rfl sp6 rfl (congrArg Value.int h4) rfl ?_
                  refine w_iconst (x := Int32.ofNat 1) rfl rfl (by decide) ?_
                  refine w_iaddN rfl rfl ?_
                  refine w_pf rfl rfl rfl sp6 rfl rfl rfl ?_
                  refine w_aload_n rfl rfl rfl ?_
                  refine w_iload_n rfl rfl rfl ?_
                  refine w_aload_n rfl rfl rfl ?_
                  refine w_gf (t := .int 0) (v := .int _) rfl rfl rfl sp3 rfl (congrArg Value.int (congrFun (am_u_ne (by decide)) _)) rfl ?_
                  refine w_cv (q := am_m33) (as := [_, _]) (rest := []) (st' := []) rfl rfl rfl rfl rfl rfl (lwA_0 hA) rfl rfl rfl rfl (d_ad hA (by rw [am_u_na (by omega)]; exact h0) (by omega)) rfl rfl ?_
                  refine w_aload_n rfl rfl rfl ?_
                  refine w_iconst (x := Int32.ofNat 0) rfl rfl (by decide) ?_
                  refine w_pf rfl rfl rfl sp6 rfl rfl rfl ?_
                  refine w_iconst (x := Int32.ofNat 1) rfl rfl (by decide) ?_
                  exact w_bret rfl (by first | decide | exact k_op01 | exact k_hk01) (by (first | rw [k_tvA c8] | rw [k_tvB c8 c20 c27] | ((first | rw [k_tvC c8 c20] | rw [k_tvE c8 c27]); first | rw [k_tv2C c38 c44] | rw [k_tv2D c38 c50] | ((first | rw [k_tv2A c38] | rw [k_tv2B c44 c50]); first | rw [k_tv3A (show ¬ c < 64 by omega)] | rw [k_tv3B c82 c92] | rw [k_tv3C (show c < 64 by omega) c82] | rw [k_tv3D (show c < 64 by omega) c92]))) <;> rfl) (by first | rw [k_tvA c8] | rw [k_tvB c8 c20 c27] | ((first | rw [k_tvC c8 c20] | rw [k_tvE c8 c27]); first | rw [k_tv2C c38 c44] | rw [k_tv2D c38 c50] | ((first | rw [k_tv2A c38] | rw [k_tv2B c44 c50]); first | rw [k_tv3A (show ¬ c < 64 by omega)] | rw [k_tv3B c82 c92] | rw [k_tv3C (show c < 64 by omega) c82] | rw [k_tv3D (show c < 64 by omega) c92]))) rfl rfl
                · refine w_aload_n rfl rfl rfl ?_
                  refine w_iconst (x := Int32.ofNat 2) rfl rfl (by decide) ?_
                  refine w_cv (q := am_m92) (as := [_]) (rest := []) (st' := [_]) rfl rfl rfl rfl rfl rfl sp3 rfl rfl rfl rfl (d_blame (by omega)) rfl rfl ?_
                  exact w_bret rfl (by first | decide | exact k_op01 | exact k_hk01) (by (first | rw [k_tvA c8] | rw [k_tvB c8 c20 c27] | ((first | rw [k_tvC c8 c20] | rw [k_tvE c8 c27]); first | rw [k_tv2C c38 c44] | rw [k_tv2D c38 c50] | ((first | rw [k_tv2A c38] | rw [k_tv2B c44 c50]); first | rw [k_tv3A (show ¬ c < 64 by omega)] | rw [k_tv3B c82 c92] | rw [k_tv3C (show c < 64 by omega) c82] | rw [k_tv3D (show c < 64 by omega) c92]))) <;> rfl) (by first | rw [k_tvA c8] | rw [k_tvB c8 c20 c27] | ((first | rw [k_tvC c8 c20] | rw [k_tvE c8 c27]); first | rw [k_tv2C c38 c44] | rw [k_tv2D c38 c50] | ((first | rw [k_tv2A c38] | rw [k_tv2B c44 c50]); first | rw [k_tv3A (show ¬ c < 64 by omega)] | rw [k_tv3B c82 c92] | rw [k_tv3C (show c < 64 by omega) c82] | rw [k_tv3D (show c < 64 by omega) c92]))) rfl rfl
    · refine w_aload_n rfl rfl rfl ?_
      refine w_gf (t := .int 0) (v := .int _) rfl rfl rfl sp6 rfl (congrArg Value.int rfl) rfl ?_
      refine w_if_eq (t := 36) (f := 30) rfl rfl rfl (fun c27 => ?_) (fun c27 => ?_)
      · refine w_iload_n rfl rfl rfl ?_
        refine w_iconst (x := Int32.ofNat 2) rfl rfl (by decide) ?_
        refine w_ic_eq (t := 53) (f := 41) rfl rfl rfl (fun c38 => ?_) (fun c38 => ?_)
        · refine w_iconst (x := Int32.ofNat 1) rfl rfl (by decide) ?_
          refine w_goto (pc' := 58) rfl rfl ?_
          refine w_istore (L' := [_, _, _, _, _]) rfl rfl rfl ?_
          refine w_iload rfl rfl rfl ?_
          refine w_if_ne (t := 71) (f := 65) rfl rfl rfl (fun c62 => ?_) (fun c62 => absurd c62 (by decide))
          clear c62
          refine w_aload_n rfl rfl rfl ?_
          refine w_gf (t := .int 0) (v := .int _) rfl rfl rfl sp6 rfl (congrArg Value.int h4) rfl ?_
          refine w_bipush (x := Int32.ofNat 64) rfl rfl (by decide) ?_
          refine w_ic_geN (t := 95) (f := 80) rfl rfl rfl (by omega) (by omega) (fun c77 => ?_) (fun c77 => ?_)
          · refine w_aload_n rfl rfl rfl ?_
            refine w_iconst (x := Int32.ofNat 2) rfl rfl (by decide) ?_
            refine w_cv (q := am_m92) (as := [_]) (rest := []) (st' := [_]) rfl rfl rfl rfl rfl rfl sp3 rfl rfl rfl rfl (d_blame (by omega)) rfl rfl ?_
            exact w_bret rfl (by first | decide | exact k_op01 | exact k_hk01) (by (first | rw [k_tvA c8] | rw [k_tvB c8 c20 c27] | ((first | rw [k_tvC c8 c20] | rw [k_tvE c8 c27]); first | rw [k_tv2C c38 c44] | rw [k_tv2D c38 c50] | ((first | rw [k_tv2A c38] | rw [k_tv2B c44 c50]); first | rw [k_tv3A (show ¬ c < 64 by omega)] | rw [k_tv3B c82 c92] | rw [k_tv3C (show c < 64 by omega) c82] | rw [k_tv3D (show c < 64 by omega) c92]))) <;> rfl) (by first | rw [k_tvA c8] | rw [k_tvB c8 c20 c27] | ((first | rw [k_tvC c8 c20] | rw [k_tvE c8 c27]); first | rw [k_tv2C c38 c44] | rw [k_tv2D c38 c50] | ((first | rw [k_tv2A c38] | rw [k_tv2B c44 c50]); first | rw [k_tv3A (show ¬ c < 64 by omega)] | rw [k_tv3B c82 c92] | rw [k_tv3C (show c < 64 by omega) c82] | rw [k_tv3D (show c < 64 by omega) c92]))) rfl rfl
          · refine w_iload_n rfl rfl rfl ?_
            refine w_iconst (x := Int32.ofNat 2) rfl rfl (by decide) ?_
            refine w_ic_ne (t := 101) (f := 85) rfl rfl rfl (fun c82 => ?_) (fun c82 => ?_)
            · refine w_aload_n rfl rfl rfl ?_
              refine w_dup rfl rfl rfl ?_
              refine w_gf (t := .int 0) (v := .int _) rfl rfl rfl sp6 rfl (congrArg Value.int h4) rfl ?_
              refine w_iconst (x := Int32.ofNat 1) rfl rfl (by decide) ?_
              refine w_iaddN rfl rfl ?_
              refine w_pf rfl rfl rfl sp6 rfl rfl rfl ?_
              refine w_aload_n rfl rfl rfl ?_
              refine w_iload_n rfl rfl rfl ?_
              refine w_aload_n rfl rfl rfl ?_
              refine w_gf (t := .int 0) (v := .int _) rfl rfl rfl sp3 rfl (congrArg Value.int (congrFun (am_u_ne (by decide)) _)) rfl ?_
              refine w_cv (q := am_m33) (as := [_, _]) (rest := []) (st' := []) rfl rfl rfl rfl rfl rfl (lwA_0 hA) rfl rfl rfl rfl (d_ad hA (by rw [am_u_na (by omega)]; exact h0) (by omega)) rfl rfl ?_
              refine w_aload_n rfl rfl rfl ?_
              refine w_iconst (x := Int32.ofNat 0) rfl rfl (by decide) ?_
              refine w_pf rfl rfl rfl sp6 rfl rfl rfl ?_
              refine w_iconst (x := Int32.ofNat 1) rfl rfl (by decide) ?_
              exact w_bret rfl (by first | decide | exact k_op01 | exact k_hk01) (by (first | rw [k_tvA c8] | rw [k_tvB c8 c20 c27] | ((first | rw [k_tvC c8 c20] | rw [k_tvE c8 c27]); first | rw [k_tv2C c38 c44] | rw [k_tv2D c38 c50] | ((first | rw [k_tv2A c38] | rw [k_tv2B c44 c50]); first | rw [k_tv3A (show ¬ c < 64 by omega)] | rw [k_tv3B c82 c92] | rw [k_tv3C (show c < 64 by omega) c82] | rw [k_tv3D (show c < 64 by omega) c92]))) <;> rfl) (by first | rw [k_tvA c8] | rw [k_tvB c8 c20 c27] | ((first | rw [k_tvC c8 c20] | rw [k_tvE c8 c27]); first | rw [k_tv2C c38 c44] | rw [k_tv2D c38 c50] | ((first | rw [k_tv2A c38] | rw [k_tv2B c44 c50]); first | rw [k_tv3A (show ¬ c < 64 by omega)] | rw [k_tv3B c82 c92] | rw [k_tv3C (show c < 64 by omega) c82] | rw [k_tv3D (show c < 64 by omega) c92]))) rfl rfl
            · refine w_aload_n rfl rfl rfl ?_
              refine w_gf (t := .int 0) (v := .int _) rfl rfl rfl sp3 rfl (congrArg Value.int rfl) rfl ?_
              refine w_sipush (x := Int32.ofNat 9999) rfl rfl (by decide) ?_
              refine w_ic_le (t := 101) (f := 95) rfl rfl rfl (fun c92 => ?_) (fun c92 => ?_)
              · refine w_aload_n rfl rfl rfl ?_
                refine w_dup rfl rfl rfl ?_
                refine w_gf (t := .int 0) (v := .int _) rfl rfl rfl sp6 rfl (congrArg Value.int h4) rfl ?_
                refine w_iconst (x := Int32.ofNat 1) rfl rfl (by decide) ?_
                refine w_iaddN rfl rfl ?_
                refine w_pf rfl rfl rfl sp6 rfl rfl rfl ?_
                refine w_aload_n rfl rfl rfl ?_
                refine w_iload_n rfl rfl rfl ?_
                refine w_aload_n rfl rfl rfl ?_
                refine w_gf (t := .int 0) (v := .int _) rfl rfl rfl sp3 rfl (congrArg Value.int (congrFun (am_u_ne (by decide)) _)) rfl ?_
                refine w_cv (q := am_m33) (as := [_, _]) (rest := []) (st' := []) rfl rfl rfl rfl rfl rfl (lwA_0 hA) rfl rfl rfl rfl (d_ad hA (by rw [am_u_na (by omega)]; exact h0) (by omega)) rfl rfl ?_
                refine w_aload_n rfl rfl rfl ?_
                refine w_iconst (x := Int32.ofNat 0) rfl rfl (by decide) ?_
                refine w_pf rfl rfl rfl sp6 rfl rfl rfl ?_
                refine w_iconst (x := Int32.ofNat 1) rfl rfl (by decide) ?_
                exact w_bret rfl (by first | decide | exact k_op01 | exact k_hk01) (by (first | rw [k_tvA c8] | rw [k_tvB c8 c20 c27] | ((first | rw [k_tvC c8 c20] | rw [k_tvE c8 c27]); first | rw [k_tv2C c38 c44] | rw [k_tv2D c38 c50] | ((first | rw [k_tv2A c38] | rw [k_tv2B c44 c50]); first | rw [k_tv3A (show ¬ c < 64 by omega)] | rw [k_tv3B c82 c92] | rw [k_tv3C (show c < 64 by omega) c82] | rw [k_tv3D (show c < 64 by omega) c92]))) <;> rfl) (by first | rw [k_tvA c8] | rw [k_tvB c8 c20 c27] | ((first | rw [k_tvC c8 c20] | rw [k_tvE c8 c27]); first | rw [k_tv2C c38 c44] | rw [k_tv2D c38 c50] | ((first | rw [k_tv2A c38] | rw [k_tv2B c44 c50]); first | rw [k_tv3A (show ¬ c < 64 by omega)] | rw [k_tv3B c82 c92] | rw [k_tv3C (show c < 64 by omega) c82] | rw [k_tv3D (show c < 64 by omega) c92]))) rfl rfl
              · refine w_aload_n rfl rfl rfl ?_
                refine w_iconst (x := Int32.ofNat 2) rfl rfl (by decide) ?_
                refine w_cv (q := am_m92) (as := [_]) (rest := []) (st' := [_]) rfl rfl rfl rfl rfl rfl sp3 rfl rfl rfl rfl (d_blame (by omega)) rfl rfl ?_
                exact w_bret rfl (by first | decide | exact k_op01 | exact k_hk01) (by (first | rw [k_tvA c8] | rw [k_tvB c8 c20 c27] | ((first | rw [k_tvC c8 c20] | rw [k_tvE c8 c27]); first | rw [k_tv2C c38 c44] | rw [k_tv2D c38 c50] | ((first | rw [k_tv2A c38] | rw [k_tv2B c44 c50]); first | rw [k_tv3A (show ¬ c < 64 by omega)] | rw [k_tv3B c82 c92] | rw [k_tv3C (show c < 64 by omega) c82] | rw [k_tv3D (show c < 64 by omega) c92]))) <;> rfl) (by first | rw [k_tvA c8] | rw [k_tvB c8 c20 c27] | ((first | rw [k_tvC c8 c20] | rw [k_tvE c8 c27]); first | rw [k_tv2C c38 c44] | rw [k_tv2D c38 c50] | ((first | rw [k_tv2A c38] | rw [k_tv2B c44 c50]); first | rw [k_tv3A (show ¬ c < 64 by omega)] | rw [k_tv3B c82 c92] | rw [k_tv3C (show c < 64 by omega) c82] | rw [k_tv3D (show c < 64 by omega) c92]))) rfl rfl
        · refine w_iload_n rfl rfl rfl ?_
          refine w_bipush (x := Int32.ofNat 24) rfl rfl (by decide) ?_
          refine w_ic_lt (t := 57) (f := 47) rfl rfl rfl (fun c44 => ?_) (fun c44 => ?_)
          · refine w_iconst (x := Int32.ofNat 0) rfl rfl (by decide) ?_
            refine w_istore (L' := [_, _, _, _, _]) rfl rfl rfl ?_
            refine w_iload rfl rfl rfl ?_
            refine w_if_ne (t := 71) (f := 65) rfl rfl rfl (fun c62 => absurd c62 (by decide)) (fun c62 => ?_)
            clear c62
            refine w_aload_n rfl rfl rfl ?_
            refine w_iconst (x := Int32.ofNat 1) rfl rfl (by decide) ?_
            refine w_cv (q := am_m92) (as := [_]) (rest := []) (st' := [_]) rfl rfl rfl rfl rfl rfl sp3 rfl rfl rfl rfl (d_blame (by omega)) rfl rfl ?_
            exact w_bret rfl (by first | decide | exact k_op01 | exact k_hk01) (by (first | rw [k_tvA c8] | rw [k_tvB c8 c20 c27] | ((first | rw [k_tvC c8 c20] | rw [k_tvE c8 c27]); first | rw [k_tv2C c38 c44] | rw [k_tv2D c38 c50] | ((first | rw [k_tv2A c38] | rw [k_tv2B c44 c50]); first | rw [k_tv3A (show ¬ c < 64 by omega)] | rw [k_tv3B c82 c92] | rw [k_tv3C (show c < 64 by omega) c82] | rw [k_tv3D (show c < 64 by omega) c92]))) <;> rfl) (by first | rw [k_tvA c8] | rw [k_tvB c8 c20 c27] | ((first | rw [k_tvC c8 c20] | rw [k_tvE c8 c27]); first | rw [k_tv2C c38 c44] | rw [k_tv2D c38 c50] | ((first | rw [k_tv2A c38] | rw [k_tv2B c44 c50]); first | rw [k_tv3A (show ¬ c < 64 by omega)] | rw [k_tv3B c82 c92] | rw [k_tv3C (show c < 64 by omega) c82] | rw [k_tv3D (show c < 64 by omega) c92]))) rfl rfl
          · refine w_iload_n rfl rfl rfl ?_
            refine w_bipush (x := Int32.ofNat 30) rfl rfl (by decide) ?_
            refine w_ic_gt (t := 57) (f := 53) rfl rfl rfl (fun c50 => ?_) (fun c50 => ?_)
            · refine w_iconst (x := Int32.ofNat 0) rfl rfl (by decide) ?_
              refine w_istore (L' := [_, _, _, _, _]) rfl rfl rfl ?_
              refine w_iload rfl rfl rfl ?_
              refine w_if_ne (t := 71) (f := 65) rfl rfl rfl (fun c62 => absurd c62 (by decide)) (fun c62 => ?_)
              clear c62
              refine w_aload_n rfl rfl rfl ?_
              refine w_iconst (x := Int32.ofNat 1) rfl rfl (by decide) ?_
              refine w_cv (q := am_m92) (as := [_]) (rest := []) (st' := [_]) rfl rfl rfl rfl rfl rfl sp3 rfl rfl rfl rfl (d_blame (by omega)) rfl rfl ?_
              exact w_bret rfl (by first | decide | exact k_op01 | exact k_hk01) (by (first | rw [k_tvA c8] | rw [k_tvB c8 c20 c27] | ((first | rw [k_tvC c8 c20] | rw [k_tvE c8 c27]); first | rw [k_tv2C c38 c44] | rw [k_tv2D c38 c50] | ((first | rw [k_tv2A c38] | rw [k_tv2B c44 c50]); first | rw [k_tv3A (show ¬ c < 64 by omega)] | rw [k_tv3B c82 c92] | rw [k_tv3C (show c < 64 by omega) c82] | rw [k_tv3D (show c < 64 by omega) c92]))) <;> rfl) (by first | rw [k_tvA c8] | rw [k_tvB c8 c20 c27] | ((first | rw [k_tvC c8 c20] | rw [k_tvE c8 c27]); first | rw [k_tv2C c38 c44] | rw [k_tv2D c38 c50] | ((first | rw [k_tv2A c38] | rw [k_tv2B c44 c50]); first | rw [k_tv3A (show ¬ c < 64 by omega)] | rw [k_tv3B c82 c92] | rw [k_tv3C (show c < 64 by omega) c82] | rw [k_tv3D (show c < 64 by omega) c92]))) rfl rfl
            · refine w_iconst (x := Int32.ofNat 1) rfl rfl (by decide) ?_
              refine w_goto (pc' := 58) rfl rfl ?_
              refine w_istore (L' := [_, _, _, _, _]) rfl rfl rfl ?_
              refine w_iload rfl rfl rfl ?_
              refine w_if_ne (t := 71) (f := 65) rfl rfl rfl (fun c62 => ?_) (fun c62 => absurd c62 (by decide))
              clear c62
              refine w_aload_n rfl rfl rfl ?_
              refine w_gf (t := .int 0) (v := .int _) rfl rfl rfl sp6 rfl (congrArg Value.int h4) rfl ?_
              refine w_bipush (x := Int32.ofNat 64) rfl rfl (by decide) ?_
              refine w_ic_geN (t := 95) (f := 80) rfl rfl rfl (by omega) (by omega) (fun c77 => ?_) (fun c77 => ?_)
              · refine w_aload_n rfl rfl rfl ?_
                refine w_iconst (x := Int32.ofNat 2) rfl rfl (by decide) ?_
                refine w_cv (q := am_m92) (as := [_]) (rest := []) (st' := [_]) rfl rfl rfl rfl rfl rfl sp3 rfl rfl rfl rfl (d_blame (by omega)) rfl rfl ?_
                exact w_bret rfl (by first | decide | exact k_op01 | exact k_hk01) (by (first | rw [k_tvA c8] | rw [k_tvB c8 c20 c27] | ((first | rw [k_tvC c8 c20] | rw [k_tvE c8 c27]); first | rw [k_tv2C c38 c44] | rw [k_tv2D c38 c50] | ((first | rw [k_tv2A c38] | rw [k_tv2B c44 c50]); first | rw [k_tv3A (show ¬ c < 64 by omega)] | rw [k_tv3B c82 c92] | rw [k_tv3C (show c < 64 by omega) c82] | rw [k_tv3D (show c < 64 by omega) c92]))) <;> rfl) (by first | rw [k_tvA c8] | rw [k_tvB c8 c20 c27] | ((first | rw [k_tvC c8 c20] | rw [k_tvE c8 c27]); first | rw [k_tv2C c38 c44] | rw [k_tv2D c38 c50] | ((first | rw [k_tv2A c38] | rw [k_tv2B c44 c50]); first | rw [k_tv3A (show ¬ c < 64 by omega)] | rw [k_tv3B c82 c92] | rw [k_tv3C (show c < 64 by omega) c82] | rw [k_tv3D (show c < 64 by omega) c92]))) rfl rfl
              · refine w_iload_n rfl rfl rfl ?_
                refine w_iconst (x := Int32.ofNat 2) rfl rfl (by decide) ?_
                refine w_ic_ne (t := 101) (f := 85) rfl rfl rfl (fun c82 => ?_) (fun c82 => ?_)
                · refine w_aload_n rfl rfl rfl ?_
                  refine w_dup rfl rfl rfl ?_
                  refine w_gf (t := .int 0) (v := .int _) rfl rfl rfl sp6 rfl (congrArg Value.int h4) rfl ?_
                  refine w_iconst (x := Int32.ofNat 1) rfl rfl (by decide) ?_
                  refine w_iaddN rfl rfl ?_
                  refine w_pf rfl rfl rfl sp6 rfl rfl rfl ?_
                  refine w_aload_n rfl rfl rfl ?_
                  refine w_iload_n rfl rfl rfl ?_
                  refine w_aload_n rfl rfl rfl ?_
                  refine w_gf (t := .int 0) (v := .int _) rfl rfl rfl sp3 rfl (congrArg Value.int (congrFun (am_u_ne (by decide)) _)) rfl ?_
                  refine w_cv (q := am_m33) (as := [_, _]) (rest := []) (st' := []) rfl rfl rfl rfl rfl rfl (lwA_0 hA) rfl rfl rfl rfl (d_ad hA (by rw [am_u_na (by omega)]; exact h0) (by omega)) rfl rfl ?_
                  refine w_aload_n rfl rfl rfl ?_
                  refine w_iconst (x := Int32.ofNat 0) rfl rfl (by decide) ?_
                  refine w_pf rfl rfl rfl sp6 rfl rfl rfl ?_
                  refine w_iconst (x := Int32.ofNat 1) rfl rfl (by decide) ?_
                  exact w_bret rfl (by first | decide | exact k_op01 | exact k_hk01) (by (first | rw [k_tvA c8] | rw [k_tvB c8 c20 c27] | ((first | rw [k_tvC c8 c20] | rw [k_tvE c8 c27]); first | rw [k_tv2C c38 c44] | rw [k_tv2D c38 c50] | ((first | rw [k_tv2A c38] | rw [k_tv2B c44 c50]); first | rw [k_tv3A (show ¬ c < 64 by omega)] | rw [k_tv3B c82 c92] | rw [k_tv3C (show c < 64 by omega) c82] | rw [k_tv3D (show c < 64 by omega) c92]))) <;> rfl) (by first | rw [k_tvA c8] | rw [k_tvB c8 c20 c27] | ((first | rw [k_tvC c8 c20] | rw [k_tvE c8 c27]); first | rw [k_tv2C c38 c44] | rw [k_tv2D c38 c50] | ((first | rw [k_tv2A c38] | rw [k_tv2B c44 c50]); first | rw [k_tv3A (show ¬ c < 64 by omega)] | rw [k_tv3B c82 c92] | rw [k_tv3C (show c < 64 by omega) c82] | rw [k_tv3D (show c < 64 by omega) c92]))) rfl rfl
                · refine w_aload_n rfl rfl rfl ?_
                  refine w_gf (t := .int 0) (v := .int _) rfl rfl rfl sp3 rfl (congrArg Value.int rfl) rfl ?_
                  refine w_sipush (x := Int32.ofNat 9999) rfl rfl (by decide) ?_
                  refine w_ic_le (t := 101) (f := 95) rfl rfl rfl (fun c92 => ?_) (fun c92 => ?_)
                  · refine w_aload_n rfl rfl rfl ?_
                    refine w_dup rfl rfl rfl ?_
                    refine w_gf (t := .int 0) (v := .int _) rfl rfl rfl sp6 rfl (congrArg Value.int h4) rfl ?_
                    refine w_iconst (x := Int32.ofNat 1) rfl rfl (by decide) ?_
                    refine w_iaddN rfl rfl ?_
                    refine w_pf rfl rfl rfl sp6 rfl rfl rfl ?_
                    refine w_aload_n rfl rfl rfl ?_
                    refine w_iload_n rfl rfl rfl ?_
                    refine w_aload_n rfl rfl rfl ?_
                    refine w_gf (t := .int 0) (v := .int _) rfl rfl rfl sp3 rfl (congrArg Value.int (congrFun (am_u_ne (by decide)) _)) rfl ?_
                    refine w_cv (q := am_m33) (as := [_, _]) (rest := []) (st' := []) rfl rfl rfl rfl rfl rfl (lwA_0 hA) rfl rfl rfl rfl (d_ad hA (by rw [am_u_na (by omega)]; exact h0) (by omega)) rfl rfl ?_
                    refine w_aload_n rfl rfl rfl ?_
                    refine w_iconst (x := Int32.ofNat 0) rfl rfl (by decide) ?_
                    refine w_pf rfl rfl rfl sp6 rfl rfl rfl ?_
                    refine w_iconst (x := Int32.ofNat 1) rfl rfl (by decide) ?_
                    exact w_bret rfl (by first | decide | exact k_op01 | exact k_hk01) (by (first | rw [k_tvA c8] | rw [k_tvB c8 c20 c27] | ((first | rw [k_tvC c8 c20] | rw [k_tvE c8 c27]); first | rw [k_tv2C c38 c44] | rw [k_tv2D c38 c50] | ((first | rw [k_tv2A c38] | rw [k_tv2B c44 c50]); first | rw [k_tv3A (show ¬ c < 64 by omega)] | rw [k_tv3B c82 c92] | rw [k_tv3C (show c < 64 by omega) c82] | rw [k_tv3D (show c < 64 by omega) c92]))) <;> rfl) (by first | rw [k_tvA c8] | rw [k_tvB c8 c20 c27] | ((first | rw [k_tvC c8 c20] | rw [k_tvE c8 c27]); first | rw [k_tv2C c38 c44] | rw [k_tv2D c38 c50] | ((first | rw [k_tv2A c38] | rw [k_tv2B c44 c50]); first | rw [k_tv3A (show ¬ c < 64 by omega)] | rw [k_tv3B c82 c92] | rw [k_tv3C (show c < 64 by omega) c82] | rw [k_tv3D (show c < 64 by omega) c92]))) rfl rfl
                  · refine w_aload_n rfl rfl rfl ?_
                    refine w_iconst (x := Int32.ofNat 2) rfl rfl (by decide) ?_
                    refine w_cv (q := am_m92) (as := [_]) (rest := []) (st' := [_]) rfl rfl rfl rfl rfl rfl sp3 rfl rfl rfl rfl (d_blame (by omega)) rfl rfl ?_
                    exact w_bret rfl (by first | decide | exact k_op01 | exact k_hk01) (by (first | rw [k_tvA c8] | rw [k_tvB c8 c20 c27] | ((first | rw [k_tvC c8 c20] | rw [k_tvE c8 c27]); first | rw [k_tv2C c38 c44] | rw [k_tv2D c38 c50] | ((first | rw [k_tv2A c38] | rw [k_tv2B c44 c50]); first | rw [k_tv3A (show ¬ c < 64 by omega)] | rw [k_tv3B c82 c92] | rw [k_tv3C (show c < 64 by omega) c82] | rw [k_tv3D (show c < 64 by omega) c92]))) <;> rfl) (by first | rw [k_tvA c8] | rw [k_tvB c8 c20 c27] | ((first | rw [k_tvC c8 c20] | rw [k_tvE c8 c27]); first | rw [k_tv2C c38 c44] | rw [k_tv2D c38 c50] | ((first | rw [k_tv2A c38] | rw [k_tv2B c44 c50]); first | rw [k_tv3A (show ¬ c < 64 by omega)] | rw [k_tv3B c82 c92] | rw [k_tv3C (show c < 64 by omega) c82] | rw [k_tv3D (show c < 64 by omega) c92]))) rfl rfl
      · refine w_aload_n rfl rfl rfl ?_
        refine w_aload_n rfl rfl rfl ?_
        refine w_cv (q := am_m43) (as := [_]) (rest := []) (st' := [_]) rfl rfl rfl rfl rfl rfl sp6 rfl rfl rfl rfl (d_holdKnot hh h2 hc h4 (by omega)) rfl rfl ?_
        exact w_bret rfl (by first | decide | exact k_op01 | exact k_hk01) (by (first | rw [k_tvA c8] | rw [k_tvB c8 c20 c27] | ((first | rw [k_tvC c8 c20] | rw [k_tvE c8 c27]); first | rw [k_tv2C c38 c44] | rw [k_tv2D c38 c50] | ((first | rw [k_tv2A c38] | rw [k_tv2B c44 c50]); first | rw [k_tv3A (show ¬ c < 64 by omega)] | rw [k_tv3B c82 c92] | rw [k_tv3C (show c < 64 by omega) c82] | rw [k_tv3D (show c < 64 by omega) c92]))) <;> rfl) (by first | rw [k_tvA c8] | rw [k_tvB c8 c20 c27] | ((first | rw [k_tvC c8 c20] | rw [k_tvE c8 c27]); first | rw [k_tv2C c38 c44] | rw [k_tv2D c38 c50] | ((first | rw [k_tv2A c38] | rw [k_tv2B c44 c50]); first | rw [k_tv3A (show ¬ c < 64 by omega)] | rw [k_tv3B c82 c92] | rw [k_tv3C (show c < 64 by omega) c82] | rw [k_tv3D (show c < 64 by omega) c92]))) rfl rfl
  · refine w_aload_n rfl rfl rfl ?_
    refine w_aload_n rfl rfl rfl ?_
    refine w_cv (q := am_m40) (as := [_]) (rest := []) (st' := [_]) rfl rfl rfl rfl rfl rfl sp6 rfl rfl rfl rfl (d_takeOpen hh h2 ho h3 (by omega)) rfl rfl ?_
    exact w_bret rfl (by first | decide | exact k_op01 | exact k_hk01) (by (first | rw [k_tvA c8] | rw [k_tvB c8 c20 c27] | ((first | rw [k_tvC c8 c20] | rw [k_tvE c8 c27]); first | rw [k_tv2C c38 c44] | rw [k_tv2D c38 c50] | ((first | rw [k_tv2A c38] | rw [k_tv2B c44 c50]); first | rw [k_tv3A (show ¬ c < 64 by omega)] | rw [k_tv3B c82 c92] | rw [k_tv3C (show c < 64 by omega) c82] | rw [k_tv3D (show c < 64 by omega) c92]))) <;> rfl) (by first | rw [k_tvA c8] | rw [k_tvB c8 c20 c27] | ((first | rw [k_tvC c8 c20] | rw [k_tvE c8 c27]); first | rw [k_tv2C c38 c44] | rw [k_tv2D c38 c50] | ((first | rw [k_tv2A c38] | rw [k_tv2B c44 c50]); first | rw [k_tv3A (show ¬ c < 64 by omega)] | rw [k_tv3B c82 c92] | rw [k_tv3C (show c < 64 by omega) c82] | rw [k_tv3D (show c < 64 by omega) c92]))) rfl rfl
def k_tsW (x : Int32) : Int32 := if k_rk x = Int32.ofNat 4 then Int32.ofNat 5 else k_rk x
def k_ts2 (I : hI) (h c : Nat) (x : Int32) : Int32 × hI := k_hk (am_u (am_u I 6 5 (Int32.ofNat 1)) 6 6 (if x = Int32.ofNat 21 ∨ x = Int32.ofNat 22 then Int32.ofNat 1 else Int32.ofNat 0)) h c
abbrev k_tsP (I : hI) (h : Nat) (x : Int32) : Prop := k_rk x = Int32.ofNat 4 ∧ 0 < Int32.ofNat h ∧ I 8 (h - 1) = Int32.ofNat 4
def k_ts1 (I : hI) (h c : Nat) (x : Int32) : Int32 × hI := if k_tsP I h x then (0, u_bl I (Int32.ofNat 1)) else k_ts2 I h c x
def k_ts (I : hI) (A h c : Nat) : Int32 × hI := if k_rk (I 3 4) = 0 ∨ I 3 4 = Int32.ofNat 23 then (0, u_bl I (Int32.ofNat 1)) else k_ts1 (k_rel A (k_tsW (I 3 4)) h I) (k_rh (k_tsW (I 3 4)) (I 8) h) c (I 3 4)
theorem k_tsA {I : hI} {A h c : Nat} (a : k_rk (I 3 4) = 0) : k_ts I A h c = (0, u_bl I (Int32.ofNat 1)) := if_pos (Or.inl a)
theorem k_tsB {I : hI} {A h c : Nat} (a : I 3 4 = Int32.ofNat 23) : k_ts I A h c = (0, u_bl I (Int32.ofNat 1)) := if_pos (Or.inr a)
theorem k_tsC {I : hI} {A h c : Nat} (a : ¬ k_rk (I 3 4) = 0) (b : ¬ I 3 4 = Int32.ofNat 23) : k_ts I A h c = k_ts1 (k_rel A (k_tsW (I 3 4)) h I) (k_rh (k_tsW (I 3 4)) (I 8) h) c (I 3 4) := if_neg fun z => z.elim a b
theorem k_ts1a {I : hI} {h c : Nat} {x : Int32} (a : k_rk x = Int32.ofNat 4) (b : 0 < Int32.ofNat h) (d : I 8 (h - 1) = Int32.ofNat 4) : k_ts1 I h c x = (0, u_bl I (Int32.ofNat 1)) := if_pos ⟨a, b, d⟩
theorem k_ts1b {I : hI} {h c : Nat} {x : Int32} (a : ¬ k_rk x = Int32.ofNat 4) : k_ts1 I h c x = k_ts2 I h c x := if_neg fun z => a z.1
theorem k_ts1c {I : hI} {h c : Nat} {x : Int32} (a : ¬ 0 < Int32.ofNat h) : k_ts1 I h c x = k_ts2 I h c x := if_neg fun z => a z.2.1
theorem k_ts1d {I : hI} {h c : Nat} {x : Int32} (a : ¬ I 8 (h - 1) = Int32.ofNat 4) : k_ts1 I h c x = k_ts2 I h c x := if_neg fun z => a z.2.2
theorem k_ts2a {I : hI} {h c : Nat} {x : Int32} (a : x = Int32.ofNat 21) : k_ts2 I h c x = k_hk (am_u (am_u I 6 5 (Int32.ofNat 1)) 6 6 (Int32.ofNat 1)) h c := by unfold k_ts2; rw [if_pos (Or.inl a)]
theorem k_ts2b {I : hI} {h c : Nat} {x : Int32} (a : x = Int32.ofNat 22) : k_ts2 I h c x = k_hk (am_u (am_u I 6 5 (Int32.ofNat 1)) 6 6 (Int32.ofNat 1)) h c := by unfold k_ts2; rw [if_pos (Or.inr a)]
theorem k_ts2c {I : hI} {h c : Nat} {x : Int32} (a : ¬ x = Int32.ofNat 21) (b : ¬ x = Int32.ofNat 22) : k_ts2 I h c x = k_hk (am_u (am_u I 6 5 (Int32.ofNat 1)) 6 6 (Int32.ofNat 0)) h c := by unfold k_ts2; rw [if_neg (not_or.mpr ⟨a, b⟩)]
theorem pos0N {h : Nat} (hh : h < 2147483648) (a : 0 < Int32.ofNat h) : 0 < h := (am_ltN (x := 0) (by omega) (by omega)).mp a
theorem d_takeSign {k : Nat} {I : hI} {J : hJ} {R : hR} {A : Nat} (hA : lwA A) {h : Nat} (hh : h ≤ 72) (h2 : I 6 2 = Int32.ofNat h) {c : Nat} (hc : c ≤ 64) (h4 : I 6 4 = Int32.ofNat c) (h0 : okn (I A 0) 65) (hk : 4 ≤ k) : ct k 41 [.ref 6, .ref A, .ref 3] I J R (some (.int (k_ts I A h c).1)) ((k_ts I A h c).2) J R := by
  obtain ⟨k, rfl⟩ : ∃ k', k = k' + 1 := ⟨k - 1, by omega⟩
  have g := lwA_g hA
  have R1 : ∀ w : Int32, k_rel A w h I 6 2 = Int32.ofNat (k_rh w (I 8) h) ∧ k_rel A w h I 6 4 = Int32.ofNat c := fun w => ⟨(k_rel_h hA w h I h0 h2).2.1, ((k_rel_h hA w h I h0 h2).2.2.2.2 4 (by decide)).trans h4⟩
  have R2 := fun w => k_rh_le w (I 8) h
  refine ct_of (q := am_m41) (o := 4) (rt := (some .boolean)) (co := am_c41) (L := [_, _, _, _, _, _]) rfl rfl rfl rfl rfl rfl ?_
  refine w_aload_n rfl rfl rfl ?_
  refine w_gf (t := .int 0) (v := .int _) rfl rfl rfl sp3 rfl (congrArg Value.int rfl) rfl ?_
  refine w_istore_n (L' := [_, _, _, _, _, _]) rfl rfl rfl ?_
  refine w_iload_n rfl rfl rfl ?_
  refine w_cs (q := am_m46) (na := 1) (as := [_]) (st' := [_]) rfl rfl rfl rfl (by decide) rfl rfl (Nat.le_of_ble_eq_true rfl) rfl rfl rfl (d_rank (by omega)) rfl rfl ?_
  refine w_istore (L' := [_, _, _, _, _, _]) rfl rfl rfl ?_
  refine w_iload rfl rfl rfl ?_
  refine w_if_eq (t := 22) (f := 16) rfl rfl rfl (fun c13 => ?_) (fun c13 => ?_)
  · refine w_aload_n rfl rfl rfl ?_
    refine w_iconst (x := Int32.ofNat 1) rfl rfl (by decide) ?_
    refine w_cv (q := am_m92) (as := [_]) (rest := []) (st' := [_]) rfl rfl rfl rfl rfl rfl sp3 rfl rfl rfl rfl (d_blame (by omega)) rfl rfl ?_
    exact w_bret rfl (by first | decide | exact k_hk01) (by (first | rw [k_tsA c13] | rw [k_tsB c19]) <;> rfl) (by first | rw [k_tsA c13] | rw [k_tsB c19]) rfl rfl
  · refine w_iload_n rfl rfl rfl ?_
    refine w_bipush (x := Int32.ofNat 23) rfl rfl (by decide) ?_
    refine w_ic_ne (t := 28) (f := 22) rfl rfl rfl (fun c19 => ?_) (fun c19 => ?_)
    · refine w_aload_n rfl rfl rfl ?_
      refine w_aload_n rfl rfl rfl ?_
      refine w_iload rfl rfl rfl ?_
      refine w_iconst (x := Int32.ofNat 4) rfl rfl (by decide) ?_
      refine w_ic_ne (t := 40) (f := 36) rfl rfl rfl (fun c33 => ?_) (fun c33 => ?_)
      · refine w_iload rfl rfl rfl ?_
        first | rw [k_tsC c13 c19]
        first | rw [show k_tsW (I 3 4) = Int32.ofNat 5 from if_pos c33] | rw [show k_tsW (I 3 4) = k_rk (I 3 4) from if_neg c33]
        refine w_cv (q := am_m45) (as := [_, _]) (rest := []) (st' := []) rfl rfl rfl rfl rfl rfl sp6 rfl rfl rfl rfl (d_release hA hh h2 h0 (by omega)) rfl rfl ?_
        refine w_aload_n rfl rfl rfl ?_
        refine w_gf (t := .int 0) (v := .int _) rfl rfl rfl sp6 rfl (congrArg Value.int (R1 _).1) rfl ?_
        refine w_if_le (t := 71) (f := 52) rfl rfl rfl (fun c49 => ?_) (fun c49 => ?_)
        · refine w_iconst (x := Int32.ofNat 0) rfl rfl (by decide) ?_
          refine w_istore (L' := [_, _, _, _, _, _]) rfl rfl rfl ?_
          refine w_iload rfl rfl rfl ?_
          refine w_iconst (x := Int32.ofNat 4) rfl rfl (by decide) ?_
          refine w_ic_ne (t := 91) (f := 80) rfl rfl rfl (fun c77 => ?_) (fun c77 => ?_)
          · refine w_aload_n rfl rfl rfl ?_
            refine w_iconst (x := Int32.ofNat 1) rfl rfl (by decide) ?_
            refine w_pf rfl rfl rfl sp6 rfl rfl rfl ?_
            refine w_aload_n rfl rfl rfl ?_
            refine w_iload_n rfl rfl rfl ?_
            refine w_bipush (x := Int32.ofNat 21) rfl rfl (by decide) ?_
            refine w_ic_eq (t := 109) (f := 103) rfl rfl rfl (fun c100 => ?_) (fun c100 => ?_)
            · refine w_iconst (x := Int32.ofNat 1) rfl rfl (by decide) ?_
              refine w_goto (pc' := 114) rfl rfl ?_
              refine w_pf rfl rfl rfl sp6 rfl rfl rfl ?_
              refine w_aload_n rfl rfl rfl ?_
              refine w_aload_n rfl rfl rfl ?_
              first | rw [k_ts1b c77] | rw [k_ts1c c49] | rw [k_ts1d c64]
              first | rw [k_ts2a c100] | rw [k_ts2b c106] | rw [k_ts2c c100 c106]
              refine w_cv (q := am_m43) (as := [_]) (rest := []) (st' := [_]) rfl rfl rfl rfl rfl rfl sp6 rfl rfl rfl rfl (d_holdKnot (Nat.le_trans (k_rh_le _ _ _) hh) ((am_u_nk (by decide)).trans ((am_u_nk (by decide)).trans (R1 _).1)) hc ((am_u_nk (by decide)).trans ((am_u_nk (by decide)).trans (R1 _).2)) (by omega)) rfl rfl ?_
              exact w_bret rfl (by first | decide | exact k_hk01) rfl rfl rfl rfl
            · refine w_iload_n rfl rfl rfl ?_
              refine w_bipush (x := Int32.ofNat 22) rfl rfl (by decide) ?_
              refine w_ic_ne (t := 113) (f := 109) rfl rfl rfl (fun c106 => ?_) (fun c106 => ?_)
              · refine w_iconst (x := Int32.ofNat 0) rfl rfl (by decide) ?_
                refine w_pf rfl rfl rfl sp6 rfl rfl rfl ?_
                refine w_aload_n rfl rfl rfl ?_
                refine w_aload_n rfl rfl rfl ?_
                first | rw [k_ts1b c77] | rw [k_ts1c c49] | rw [k_ts1d c64]
                first | rw [k_ts2a c100] | rw [k_ts2b c106] | rw [k_ts2c c100 c106]
                refine w_cv (q := am_m43) (as := [_]) (rest := []) (st' := [_]) rfl rfl rfl rfl rfl rfl sp6 rfl rfl rfl rfl (d_holdKnot (Nat.le_trans (k_rh_le _ _ _) hh) ((am_u_nk (by decide)).trans ((am_u_nk (by decide)).trans (R1 _).1)) hc ((am_u_nk (by decide)).trans ((am_u_nk (by decide)).trans (R1 _).2)) (by omega)) rfl rfl ?_
                exact w_bret rfl (by first | decide | exact k_hk01) rfl rfl rfl rfl
              · refine w_iconst (x := Int32.ofNat 1) rfl rfl (by decide) ?_
                refine w_goto (pc' := 114) rfl rfl ?_
                refine w_pf rfl rfl rfl sp6 rfl rfl rfl ?_
                refine w_aload_n rfl rfl rfl ?_
                refine w_aload_n rfl rfl rfl ?_
                first | rw [k_ts1b c77] | rw [k_ts1c c49] | rw [k_ts1d c64]
                first | rw [k_ts2a c100] | rw [k_ts2b c106] | rw [k_ts2c c100 c106]
                refine w_cv (q := am_m43) (as := [_]) (rest := []) (st' := [_]) rfl rfl rfl rfl rfl rfl sp6 rfl rfl rfl rfl (d_holdKnot (Nat.le_trans (k_rh_le _ _ _) hh) ((am_u_nk (by decide)).trans ((am_u_nk (by decide)).trans (R1 _).1)) hc ((am_u_nk (by decide)).trans ((am_u_nk (by decide)).trans (R1 _).2)) (by omega)) rfl rfl ?_
                exact w_bret rfl (by first | decide | exact k_hk01) rfl rfl rfl rfl
          · refine w_iload rfl rfl rfl ?_
            refine w_if_eq (t := 91) (f := 85) rfl rfl rfl (fun c82 => ?_) (fun c82 => absurd c82 (by decide))
            clear c82
            refine w_aload_n rfl rfl rfl ?_
            refine w_iconst (x := Int32.ofNat 1) rfl rfl (by decide) ?_
            refine w_pf rfl rfl rfl sp6 rfl rfl rfl ?_
            refine w_aload_n rfl rfl rfl ?_
            refine w_iload_n rfl rfl rfl ?_
            refine w_bipush (x := Int32.ofNat 21) rfl rfl (by decide) ?_
            refine w_ic_eq (t := 109) (f := 103) rfl rfl rfl (fun c100 => ?_) (fun c100 => ?_)
            · refine w_iconst (x := Int32.ofNat 1) rfl rfl (by decide) ?_
              refine w_goto (pc' := 114) rfl rfl ?_
              refine w_pf rfl rfl rfl sp6 rfl rfl rfl ?_
              refine w_aload_n rfl rfl rfl ?_
              refine w_aload_n rfl rfl rfl ?_
              first | rw [k_ts1b c77] | rw [k_ts1c c49] | rw [k_ts1d c64]
              first | rw [k_ts2a c100] | rw [k_ts2b c106] | rw [k_ts2c c100 c106]
              refine w_cv (q := am_m43) (as := [_]) (rest := []) (st' := [_]) rfl rfl rfl rfl rfl rfl sp6 rfl rfl rfl rfl (d_holdKnot (Nat.le_trans (k_rh_le _ _ _) hh) ((am_u_nk (by decide)).trans ((am_u_nk (by decide)).trans (R1 _).1)) hc ((am_u_nk (by decide)).trans ((am_u_nk (by decide)).trans (R1 _).2)) (by omega)) rfl rfl ?_
              exact w_bret rfl (by first | decide | exact k_hk01) rfl rfl rfl rfl
            · refine w_iload_n rfl rfl rfl ?_
              refine w_bipush (x := Int32.ofNat 22) rfl rfl (by decide) ?_
              refine w_ic_ne (t := 113) (f := 109) rfl rfl rfl (fun c106 => ?_) (fun c106 => ?_)
              · refine w_iconst (x := Int32.ofNat 0) rfl rfl (by decide) ?_
                refine w_pf rfl rfl rfl sp6 rfl rfl rfl ?_
                refine w_aload_n rfl rfl rfl ?_
                refine w_aload_n rfl rfl rfl ?_
                first | rw [k_ts1b c77] | rw [k_ts1c c49] | rw [k_ts1d c64]
                first | rw [k_ts2a c100] | rw [k_ts2b c106] | rw [k_ts2c c100 c106]
                refine w_cv (q := am_m43) (as := [_]) (rest := []) (st' := [_]) rfl rfl rfl rfl rfl rfl sp6 rfl rfl rfl rfl (d_holdKnot (Nat.le_trans (k_rh_le _ _ _) hh) ((am_u_nk (by decide)).trans ((am_u_nk (by decide)).trans (R1 _).1)) hc ((am_u_nk (by decide)).trans ((am_u_nk (by decide)).trans (R1 _).2)) (by omega)) rfl rfl ?_
                exact w_bret rfl (by first | decide | exact k_hk01) rfl rfl rfl rfl
              · refine w_iconst (x := Int32.ofNat 1) rfl rfl (by decide) ?_
                refine w_goto (pc' := 114) rfl rfl ?_
                refine w_pf rfl rfl rfl sp6 rfl rfl rfl ?_
                refine w_aload_n rfl rfl rfl ?_
                refine w_aload_n rfl rfl rfl ?_
                first | rw [k_ts1b c77] | rw [k_ts1c c49] | rw [k_ts1d c64]
                first | rw [k_ts2a c100] | rw [k_ts2b c106] | rw [k_ts2c c100 c106]
                refine w_cv (q := am_m43) (as := [_]) (rest := []) (st' := [_]) rfl rfl rfl rfl rfl rfl sp6 rfl rfl rfl rfl (d_holdKnot (Nat.le_trans (k_rh_le _ _ _) hh) ((am_u_nk (by decide)).trans ((am_u_nk (by decide)).trans (R1 _).1)) hc ((am_u_nk (by decide)).trans ((am_u_nk (by decide)).trans (R1 _).2)) (by omega)) rfl rfl ?_
                exact w_bret rfl (by first | decide | exact k_hk01) rfl rfl rfl rfl
        · have p1 := pos0N (Nat.lt_of_le_of_lt (k_rh_le _ _ _) (by omega)) c49
          have p2 := k_rh_le (Int32.ofNat 5) (I 8) h
          have p3 := k_rh_le (k_rk (I 3 4)) (I 8) h
          refine w_aload_n rfl rfl rfl ?_
          refine w_gf (t := .ref (8)) (v := .ref (8)) rfl rfl rfl sp6 rfl rfl rfl ?_
          refine w_aload_n rfl rfl rfl ?_
          refine w_gf (t := .int 0) (v := .int _) rfl rfl rfl sp6 rfl (congrArg Value.int (R1 _).1) rfl ?_
          refine w_iconst (x := Int32.ofNat 1) rfl rfl (by decide) ?_
          refine w_isubN rfl rfl p1 ?_
          refine w_iaload rfl rfl sp8 rfl ⟨by omega, by omega⟩ rfl ?_
          refine w_iconst (x := Int32.ofNat 4) rfl rfl (by decide) ?_
          refine w_ic_ne (t := 71) (f := 67) rfl rfl rfl (fun c64 => ?_) (fun c64 => ?_)
          · refine w_iconst (x := Int32.ofNat 0) rfl rfl (by decide) ?_
            refine w_istore (L' := [_, _, _, _, _, _]) rfl rfl rfl ?_
            refine w_iload rfl rfl rfl ?_
            refine w_iconst (x := Int32.ofNat 4) rfl rfl (by decide) ?_
            refine w_ic_ne (t := 91) (f := 80) rfl rfl rfl (fun c77 => ?_) (fun c77 => ?_)
            · refine w_aload_n rfl rfl rfl ?_
              refine w_iconst (x := Int32.ofNat 1) rfl rfl (by decide) ?_
              refine w_pf rfl rfl rfl sp6 rfl rfl rfl ?_
              refine w_aload_n rfl rfl rfl ?_
              refine w_iload_n rfl rfl rfl ?_
              refine w_bipush (x := Int32.ofNat 21) rfl rfl (by decide) ?_
              refine w_ic_eq (t := 109) (f := 103) rfl rfl rfl (fun c100 => ?_) (fun c100 => ?_)
              · refine w_iconst (x := Int32.ofNat 1) rfl rfl (by decide) ?_
                refine w_goto (pc' := 114) rfl rfl ?_
                refine w_pf rfl rfl rfl sp6 rfl rfl rfl ?_
                refine w_aload_n rfl rfl rfl ?_
                refine w_aload_n rfl rfl rfl ?_
                first | rw [k_ts1b c77] | rw [k_ts1c c49] | rw [k_ts1d c64]
                first | rw [k_ts2a c100] | rw [k_ts2b c106] | rw [k_ts2c c100 c106]
                refine w_cv (q := am_m43) (as := [_]) (rest := []) (st' := [_]) rfl rfl rfl rfl rfl rfl sp6 rfl rfl rfl rfl (d_holdKnot (Nat.le_trans (k_rh_le _ _ _) hh) ((am_u_nk (by decide)).trans ((am_u_nk (by decide)).trans (R1 _).1)) hc ((am_u_nk (by decide)).trans ((am_u_nk (by decide)).trans (R1 _).2)) (by omega)) rfl rfl ?_
                exact w_bret rfl (by first | decide | exact k_hk01) rfl rfl rfl rfl
              · refine w_iload_n rfl rfl rfl ?_
                refine w_bipush (x := Int32.ofNat 22) rfl rfl (by decide) ?_
                refine w_ic_ne (t := 113) (f := 109) rfl rfl rfl (fun c106 => ?_) (fun c106 => ?_)
                · refine w_iconst (x := Int32.ofNat 0) rfl rfl (by decide) ?_
                  refine w_pf rfl rfl rfl sp6 rfl rfl rfl ?_
                  refine w_aload_n rfl rfl rfl ?_
                  refine w_aload_n rfl rfl rfl ?_
                  first | rw [k_ts1b c77] | rw [k_ts1c c49] | rw [k_ts1d c64]
                  first | rw [k_ts2a c100] | rw [k_ts2b c106] | rw [k_ts2c c100 c106]
                  refine w_cv (q := am_m43) (as := [_]) (rest := []) (st' := [_]) rfl rfl rfl rfl rfl rfl sp6 rfl rfl rfl rfl (d_holdKnot (Nat.le_trans (k_rh_le _ _ _) hh) ((am_u_nk (by decide)).trans ((am_u_nk (by decide)).trans (R1 _).1)) hc ((am_u_nk (by decide)).trans ((am_u_nk (by decide)).trans (R1 _).2)) (by omega)) rfl rfl ?_
                  exact w_bret rfl (by first | decide | exact k_hk01) rfl rfl rfl rfl
                · refine w_iconst (x := Int32.ofNat 1) rfl rfl (by decide) ?_
                  refine w_goto (pc' := 114) rfl rfl ?_
                  refine w_pf rfl rfl rfl sp6 rfl rfl rfl ?_
                  refine w_aload_n rfl rfl rfl ?_
                  refine w_aload_n rfl rfl rfl ?_
                  first | rw [k_ts1b c77] | rw [k_ts1c c49] | rw [k_ts1d c64]
                  first | rw [k_ts2a c100] | rw [k_ts2b c106] | rw [k_ts2c c100 c106]
                  refine w_cv (q := am_m43) (as := [_]) (rest := []) (st' := [_]) rfl rfl rfl rfl rfl rfl sp6 rfl rfl rfl rfl (d_holdKnot (Nat.le_trans (k_rh_le _ _ _) hh) ((am_u_nk (by decide)).trans ((am_u_nk (by decide)).trans (R1 _).1)) hc ((am_u_nk (by decide)).trans ((am_u_nk (by decide)).trans (R1 _).2)) (by omega)) rfl rfl ?_
                  exact w_bret rfl (by first | decide | exact k_hk01) rfl rfl rfl rfl
            · refine w_iload rfl rfl rfl ?_
              refine w_if_eq (t := 91) (f := 85) rfl rfl rfl (fun c82 => ?_) (fun c82 => absurd c82 (by decide))
              clear c82
              refine w_aload_n rfl rfl rfl ?_
              refine w_iconst (x := Int32.ofNat 1) rfl rfl (by decide) ?_
              refine w_pf rfl rfl rfl sp6 rfl rfl rfl ?_
              refine w_aload_n rfl rfl rfl ?_
              refine w_iload_n rfl rfl rfl ?_
              refine w_bipush (x := Int32.ofNat 21) rfl rfl (by decide) ?_
              refine w_ic_eq (t := 109) (f := 103) rfl rfl rfl (fun c100 => ?_) (fun c100 => ?_)
              · refine w_iconst (x := Int32.ofNat 1) rfl rfl (by decide) ?_
                refine w_goto (pc' := 114) rfl rfl ?_
                refine w_pf rfl rfl rfl sp6 rfl rfl rfl ?_
                refine w_aload_n rfl rfl rfl ?_
                refine w_aload_n rfl rfl rfl ?_
                first | rw [k_ts1b c77] | rw [k_ts1c c49] | rw [k_ts1d c64]
                first | rw [k_ts2a c100] | rw [k_ts2b c106] | rw [k_ts2c c100 c106]
                refine w_cv (q := am_m43) (as := [_]) (rest := []) (st' := [_]) rfl rfl rfl rfl rfl rfl sp6 rfl rfl rfl rfl (d_holdKnot (Nat.le_trans (k_rh_le _ _ _) hh) ((am_u_nk (by decide)).trans ((am_u_nk (by decide)).trans (R1 _).1)) hc ((am_u_nk (by decide)).trans ((am_u_nk (by decide)).trans (R1 _).2)) (by omega)) rfl rfl ?_
                exact w_bret rfl (by first | decide | exact k_hk01) rfl rfl rfl rfl
              · refine w_iload_n rfl rfl rfl ?_
                refine w_bipush (x := Int32.ofNat 22) rfl rfl (by decide) ?_
                refine w_ic_ne (t := 113) (f := 109) rfl rfl rfl (fun c106 => ?_) (fun c106 => ?_)
                · refine w_iconst (x := Int32.ofNat 0) rfl rfl (by decide) ?_
                  refine w_pf rfl rfl rfl sp6 rfl rfl rfl ?_
                  refine w_aload_n rfl rfl rfl ?_
                  refine w_aload_n rfl rfl rfl ?_
                  first | rw [k_ts1b c77] | rw [k_ts1c c49] | rw [k_ts1d c64]
                  first | rw [k_ts2a c100] | rw [k_ts2b c106] | rw [k_ts2c c100 c106]
                  refine w_cv (q := am_m43) (as := [_]) (rest := []) (st' := [_]) rfl rfl rfl rfl rfl rfl sp6 rfl rfl rfl rfl (d_holdKnot (Nat.le_trans (k_rh_le _ _ _) hh) ((am_u_nk (by decide)).trans ((am_u_nk (by decide)).trans (R1 _).1)) hc ((am_u_nk (by decide)).trans ((am_u_nk (by decide)).trans (R1 _).2)) (by omega)) rfl rfl ?_
                  exact w_bret rfl (by first | decide | exact k_hk01) rfl rfl rfl rfl
                · refine w_iconst (x := Int32.ofNat 1) rfl rfl (by decide) ?_
                  refine w_goto (pc' := 114) rfl rfl ?_
                  refine w_pf rfl rfl rfl sp6 rfl rfl rfl ?_
                  refine w_aload_n rfl rfl rfl ?_
                  refine w_aload_n rfl rfl rfl ?_
                  first | rw [k_ts1b c77] | rw [k_ts1c c49] | rw [k_ts1d c64]
                  first | rw [k_ts2a c100] | rw [k_ts2b c106] | rw [k_ts2c c100 c106]
                  refine w_cv (q := am_m43) (as := [_]) (rest := []) (st' := [_]) rfl rfl rfl rfl rfl rfl sp6 rfl rfl rfl rfl (d_holdKnot (Nat.le_trans (k_rh_le _ _ _) hh) ((am_u_nk (by decide)).trans ((am_u_nk (by decide)).trans (R1 _).1)) hc ((am_u_nk (by decide)).trans ((am_u_nk (by decide)).trans (R1 _).2)) (by omega)) rfl rfl ?_
                  exact w_bret rfl (by first | decide | exact k_hk01) rfl rfl rfl rfl
          · refine w_iconst (x := Int32.ofNat 1) rfl rfl (by decide) ?_
            refine w_goto (pc' := 72) rfl rfl ?_
            refine w_istore (L' := [_, _, _, _, _, _]) rfl rfl rfl ?_
            refine w_iload rfl rfl rfl ?_
            refine w_iconst (x := Int32.ofNat 4) rfl rfl (by decide) ?_
            refine w_ic_ne (t := 91) (f := 80) rfl rfl rfl (fun c77 => ?_) (fun c77 => ?_)
            · refine w_aload_n rfl rfl rfl ?_
              refine w_iconst (x := Int32.ofNat 1) rfl rfl (by decide) ?_
              refine w_pf rfl rfl rfl sp6 rfl rfl rfl ?_
              refine w_aload_n rfl rfl rfl ?_
              refine w_iload_n rfl rfl rfl ?_
              refine w_bipush (x := Int32.ofNat 21) rfl rfl (by decide) ?_
              refine w_ic_eq (t := 109) (f := 103) rfl rfl rfl (fun c100 => ?_) (fun c100 => ?_)
              · refine w_iconst (x := Int32.ofNat 1) rfl rfl (by decide) ?_
                refine w_goto (pc' := 114) rfl rfl ?_
                refine w_pf rfl rfl rfl sp6 rfl rfl rfl ?_
                refine w_aload_n rfl rfl rfl ?_
                refine w_aload_n rfl rfl rfl ?_
                first | rw [k_ts1b c77] | rw [k_ts1c c49] | rw [k_ts1d c64]
                first | rw [k_ts2a c100] | rw [k_ts2b c106] | rw [k_ts2c c100 c106]
                refine w_cv (q := am_m43) (as := [_]) (rest := []) (st' := [_]) rfl rfl rfl rfl rfl rfl sp6 rfl rfl rfl rfl (d_holdKnot (Nat.le_trans (k_rh_le _ _ _) hh) ((am_u_nk (by decide)).trans ((am_u_nk (by decide)).trans (R1 _).1)) hc ((am_u_nk (by decide)).trans ((am_u_nk (by decide)).trans (R1 _).2)) (by omega)) rfl rfl ?_
                exact w_bret rfl (by first | decide | exact k_hk01) rfl rfl rfl rfl
              · refine w_iload_n rfl rfl rfl ?_
                refine w_bipush (x := Int32.ofNat 22) rfl rfl (by decide) ?_
                refine w_ic_ne (t := 113) (f := 109) rfl rfl rfl (fun c106 => ?_) (fun c106 => ?_)
                · refine w_iconst (x := Int32.ofNat 0) rfl rfl (by decide) ?_
                  refine w_pf rfl rfl rfl sp6 rfl rfl rfl ?_
                  refine w_aload_n rfl rfl rfl ?_
                  refine w_aload_n rfl rfl rfl ?_
                  first | rw [k_ts1b c77] | rw [k_ts1c c49] | rw [k_ts1d c64]
                  first | rw [k_ts2a c100] | rw [k_ts2b c106] | rw [k_ts2c c100 c106]
                  refine w_cv (q := am_m43) (as := [_]) (rest := []) (st' := [_]) rfl rfl rfl rfl rfl rfl sp6 rfl rfl rfl rfl (d_holdKnot (Nat.le_trans (k_rh_le _ _ _) hh) ((am_u_nk (by decide)).trans ((am_u_nk (by decide)).trans (R1 _).1)) hc ((am_u_nk (by decide)).trans ((am_u_nk (by decide)).trans (R1 _).2)) (by omega)) rfl rfl ?_
                  exact w_bret rfl (by first | decide | exact k_hk01) rfl rfl rfl rfl
                · refine w_iconst (x := Int32.ofNat 1) rfl rfl (by decide) ?_
                  refine w_goto (pc' := 114) rfl rfl ?_
                  refine w_pf rfl rfl rfl sp6 rfl rfl rfl ?_
                  refine w_aload_n rfl rfl rfl ?_
                  refine w_aload_n rfl rfl rfl ?_
                  first | rw [k_ts1b c77] | rw [k_ts1c c49] | rw [k_ts1d c64]
                  first | rw [k_ts2a c100] | rw [k_ts2b c106] | rw [k_ts2c c100 c106]
                  refine w_cv (q := am_m43) (as := [_]) (rest := []) (st' := [_]) rfl rfl rfl rfl rfl rfl sp6 rfl rfl rfl rfl (d_holdKnot (Nat.le_trans (k_rh_le _ _ _) hh) ((am_u_nk (by decide)).trans ((am_u_nk (by decide)).trans (R1 _).1)) hc ((am_u_nk (by decide)).trans ((am_u_nk (by decide)).trans (R1 _).2)) (by omega)) rfl rfl ?_
                  exact w_bret rfl (by first | decide | exact k_hk01) rfl rfl rfl rfl
            · refine w_iload rfl rfl rfl ?_
              refine w_if_eq (t := 91) (f := 85) rfl rfl rfl (fun c82 => absurd c82 (by decide)) (fun c82 => ?_)
              clear c82
              refine w_aload_n rfl rfl rfl ?_
              refine w_iconst (x := Int32.ofNat 1) rfl rfl (by decide) ?_
              refine w_cv (q := am_m92) (as := [_]) (rest := []) (st' := [_]) rfl rfl rfl rfl rfl rfl sp3 rfl rfl rfl rfl (d_blame (by omega)) rfl rfl ?_
              exact w_bret rfl (by first | decide | exact k_hk01) (by (rw [k_ts1a c77 c49 c64]) <;> rfl) (by rw [k_ts1a c77 c49 c64]) rfl rfl
      · refine w_iconst (x := Int32.ofNat 5) rfl rfl (by decide) ?_
        refine w_goto (pc' := 42) rfl rfl ?_
        first | rw [k_tsC c13 c19]
        first | rw [show k_tsW (I 3 4) = Int32.ofNat 5 from if_pos c33] | rw [show k_tsW (I 3 4) = k_rk (I 3 4) from if_neg c33]
        refine w_cv (q := am_m45) (as := [_, _]) (rest := []) (st' := []) rfl rfl rfl rfl rfl rfl sp6 rfl rfl rfl rfl (d_release hA hh h2 h0 (by omega)) rfl rfl ?_
        refine w_aload_n rfl rfl rfl ?_
        refine w_gf (t := .int 0) (v := .int _) rfl rfl rfl sp6 rfl (congrArg Value.int (R1 _).1) rfl ?_
        refine w_if_le (t := 71) (f := 52) rfl rfl rfl (fun c49 => ?_) (fun c49 => ?_)
        · refine w_iconst (x := Int32.ofNat 0) rfl rfl (by decide) ?_
          refine w_istore (L' := [_, _, _, _, _, _]) rfl rfl rfl ?_
          refine w_iload rfl rfl rfl ?_
          refine w_iconst (x := Int32.ofNat 4) rfl rfl (by decide) ?_
          refine w_ic_ne (t := 91) (f := 80) rfl rfl rfl (fun c77 => ?_) (fun c77 => ?_)
          · refine w_aload_n rfl rfl rfl ?_
            refine w_iconst (x := Int32.ofNat 1) rfl rfl (by decide) ?_
            refine w_pf rfl rfl rfl sp6 rfl rfl rfl ?_
            refine w_aload_n rfl rfl rfl ?_
            refine w_iload_n rfl rfl rfl ?_
            refine w_bipush (x := Int32.ofNat 21) rfl rfl (by decide) ?_
            refine w_ic_eq (t := 109) (f := 103) rfl rfl rfl (fun c100 => ?_) (fun c100 => ?_)
            · refine w_iconst (x := Int32.ofNat 1) rfl rfl (by decide) ?_
              refine w_goto (pc' := 114) rfl rfl ?_
              refine w_pf rfl rfl rfl sp6 rfl rfl rfl ?_
              refine w_aload_n rfl rfl rfl ?_
              refine w_aload_n rfl rfl rfl ?_
              first | rw [k_ts1b c77] | rw [k_ts1c c49] | rw [k_ts1d c64]
              first | rw [k_ts2a c100] | rw [k_ts2b c106] | rw [k_ts2c c100 c106]
              refine w_cv (q := am_m43) (as := [_]) (rest := []) (st' := [_]) rfl rfl rfl rfl rfl rfl sp6 rfl rfl rfl rfl (d_holdKnot (Nat.le_trans (k_rh_le _ _ _) hh) ((am_u_nk (by decide)).trans ((am_u_nk (by decide)).trans (R1 _).1)) hc ((am_u_nk (by decide)).trans ((am_u_nk (by decide)).trans (R1 _).2)) (by omega)) rfl rfl ?_
              exact w_bret rfl (by first | decide | exact k_hk01) rfl rfl rfl rfl
            · refine w_iload_n rfl rfl rfl ?_
              refine w_bipush (x := Int32.ofNat 22) rfl rfl (by decide) ?_
              refine w_ic_ne (t := 113) (f := 109) rfl rfl rfl (fun c106 => ?_) (fun c106 => ?_)
              · refine w_iconst (x := Int32.ofNat 0) rfl rfl (by decide) ?_
                refine w_pf rfl rfl rfl sp6 rfl rfl rfl ?_
                refine w_aload_n rfl rfl rfl ?_
                refine w_aload_n rfl rfl rfl ?_
                first | rw [k_ts1b c77] | rw [k_ts1c c49] | rw [k_ts1d c64]
                first | rw [k_ts2a c100] | rw [k_ts2b c106] | rw [k_ts2c c100 c106]
                refine w_cv (q := am_m43) (as := [_]) (rest := []) (st' := [_]) rfl rfl rfl rfl rfl rfl sp6 rfl rfl rfl rfl (d_holdKnot (Nat.le_trans (k_rh_le _ _ _) hh) ((am_u_nk (by decide)).trans ((am_u_nk (by decide)).trans (R1 _).1)) hc ((am_u_nk (by decide)).trans ((am_u_nk (by decide)).trans (R1 _).2)) (by omega)) rfl rfl ?_
                exact w_bret rfl (by first | decide | exact k_hk01) rfl rfl rfl rfl
              · refine w_iconst (x := Int32.ofNat 1) rfl rfl (by decide) ?_
                refine w_goto (pc' := 114) rfl rfl ?_
                refine w_pf rfl rfl rfl sp6 rfl rfl rfl ?_
                refine w_aload_n rfl rfl rfl ?_
                refine w_aload_n rfl rfl rfl ?_
                first | rw [k_ts1b c77] | rw [k_ts1c c49] | rw [k_ts1d c64]
                first | rw [k_ts2a c100] | rw [k_ts2b c106] | rw [k_ts2c c100 c106]
                refine w_cv (q := am_m43) (as := [_]) (rest := []) (st' := [_]) rfl rfl rfl rfl rfl rfl sp6 rfl rfl rfl rfl (d_holdKnot (Nat.le_trans (k_rh_le _ _ _) hh) ((am_u_nk (by decide)).trans ((am_u_nk (by decide)).trans (R1 _).1)) hc ((am_u_nk (by decide)).trans ((am_u_nk (by decide)).trans (R1 _).2)) (by omega)) rfl rfl ?_
                exact w_bret rfl (by first | decide | exact k_hk01) rfl rfl rfl rfl
          · refine w_iload rfl rfl rfl ?_
            refine w_if_eq (t := 91) (f := 85) rfl rfl rfl (fun c82 => ?_) (fun c82 => absurd c82 (by decide))
            clear c82
            refine w_aload_n rfl rfl rfl ?_
            refine w_iconst (x := Int32.ofNat 1) rfl rfl (by decide) ?_
            refine w_pf rfl rfl rfl sp6 rfl rfl rfl ?_
            refine w_aload_n rfl rfl rfl ?_
            refine w_iload_n rfl rfl rfl ?_
            refine w_bipush (x := Int32.ofNat 21) rfl rfl (by decide) ?_
            refine w_ic_eq (t := 109) (f := 103) rfl rfl rfl (fun c100 => ?_) (fun c100 => ?_)
            · refine w_iconst (x := Int32.ofNat 1) rfl rfl (by decide) ?_
              refine w_goto (pc' := 114) rfl rfl ?_
              refine w_pf rfl rfl rfl sp6 rfl rfl rfl ?_
              refine w_aload_n rfl rfl rfl ?_
              refine w_aload_n rfl rfl rfl ?_
              first | rw [k_ts1b c77] | rw [k_ts1c c49] | rw [k_ts1d c64]
              first | rw [k_ts2a c100] | rw [k_ts2b c106] | rw [k_ts2c c100 c106]
              refine w_cv (q := am_m43) (as := [_]) (rest := []) (st' := [_]) rfl rfl rfl rfl rfl rfl sp6 rfl rfl rfl rfl (d_holdKnot (Nat.le_trans (k_rh_le _ _ _) hh) ((am_u_nk (by decide)).trans ((am_u_nk (by decide)).trans (R1 _).1)) hc ((am_u_nk (by decide)).trans ((am_u_nk (by decide)).trans (R1 _).2)) (by omega)) rfl rfl ?_
              exact w_bret rfl (by first | decide | exact k_hk01) rfl rfl rfl rfl
            · refine w_iload_n rfl rfl rfl ?_
              refine w_bipush (x := Int32.ofNat 22) rfl rfl (by decide) ?_
              refine w_ic_ne (t := 113) (f := 109) rfl rfl rfl (fun c106 => ?_) (fun c106 => ?_)
              · refine w_iconst (x := Int32.ofNat 0) rfl rfl (by decide) ?_
                refine w_pf rfl rfl rfl sp6 rfl rfl rfl ?_
                refine w_aload_n rfl rfl rfl ?_
                refine w_aload_n rfl rfl rfl ?_
                first | rw [k_ts1b c77] | rw [k_ts1c c49] | rw [k_ts1d c64]
                first | rw [k_ts2a c100] | rw [k_ts2b c106] | rw [k_ts2c c100 c106]
                refine w_cv (q := am_m43) (as := [_]) (rest := []) (st' := [_]) rfl rfl rfl rfl rfl rfl sp6 rfl rfl rfl rfl (d_holdKnot (Nat.le_trans (k_rh_le _ _ _) hh) ((am_u_nk (by decide)).trans ((am_u_nk (by decide)).trans (R1 _).1)) hc ((am_u_nk (by decide)).trans ((am_u_nk (by decide)).trans (R1 _).2)) (by omega)) rfl rfl ?_
                exact w_bret rfl (by first | decide | exact k_hk01) rfl rfl rfl rfl
              · refine w_iconst (x := Int32.ofNat 1) rfl rfl (by decide) ?_
                refine w_goto (pc' := 114) rfl rfl ?_
                refine w_pf rfl rfl rfl sp6 rfl rfl rfl ?_
                refine w_aload_n rfl rfl rfl ?_
                refine w_aload_n rfl rfl rfl ?_
                first | rw [k_ts1b c77] | rw [k_ts1c c49] | rw [k_ts1d c64]
                first | rw [k_ts2a c100] | rw [k_ts2b c106] | rw [k_ts2c c100 c106]
                refine w_cv (q := am_m43) (as := [_]) (rest := []) (st' := [_]) rfl rfl rfl rfl rfl rfl sp6 rfl rfl rfl rfl (d_holdKnot (Nat.le_trans (k_rh_le _ _ _) hh) ((am_u_nk (by decide)).trans ((am_u_nk (by decide)).trans (R1 _).1)) hc ((am_u_nk (by decide)).trans ((am_u_nk (by decide)).trans (R1 _).2)) (by omega)) rfl rfl ?_
                exact w_bret rfl (by first | decide | exact k_hk01) rfl rfl rfl rfl
        · have p1 := pos0N (Nat.lt_of_le_of_lt (k_rh_le _ _ _) (by omega)) c49
          have p2 := k_rh_le (Int32.ofNat 5) (I 8) h
          have p3 := k_rh_le (k_rk (I 3 4)) (I 8) h
          refine w_aload_n rfl rfl rfl ?_
          refine w_gf (t := .ref (8)) (v := .ref (8)) rfl rfl rfl sp6 rfl rfl rfl ?_
          refine w_aload_n rfl rfl rfl ?_
          refine w_gf (t := .int 0) (v := .int _) rfl rfl rfl sp6 rfl (congrArg Value.int (R1 _).1) rfl ?_
          refine w_iconst (x := Int32.ofNat 1) rfl rfl (by decide) ?_
          refine w_isubN rfl rfl p1 ?_
          refine w_iaload rfl rfl sp8 rfl ⟨by omega, by omega⟩ rfl ?_
          refine w_iconst (x := Int32.ofNat 4) rfl rfl (by decide) ?_
          refine w_ic_ne (t := 71) (f := 67) rfl rfl rfl (fun c64 => ?_) (fun c64 => ?_)
          · refine w_iconst (x := Int32.ofNat 0) rfl rfl (by decide) ?_
            refine w_istore (L' := [_, _, _, _, _, _]) rfl rfl rfl ?_
            refine w_iload rfl rfl rfl ?_
            refine w_iconst (x := Int32.ofNat 4) rfl rfl (by decide) ?_
            refine w_ic_ne (t := 91) (f := 80) rfl rfl rfl (fun c77 => ?_) (fun c77 => ?_)
            · refine w_aload_n rfl rfl rfl ?_
              refine w_iconst (x := Int32.ofNat 1) rfl rfl (by decide) ?_
              refine w_pf rfl rfl rfl sp6 rfl rfl rfl ?_
              refine w_aload_n rfl rfl rfl ?_
              refine w_iload_n rfl rfl rfl ?_
              refine w_bipush (x := Int32.ofNat 21) rfl rfl (by decide) ?_
              refine w_ic_eq (t := 109) (f := 103) rfl rfl rfl (fun c100 => ?_) (fun c100 => ?_)
              · refine w_iconst (x := Int32.ofNat 1) rfl rfl (by decide) ?_
                refine w_goto (pc' := 114) rfl rfl ?_
                refine w_pf rfl rfl rfl sp6 rfl rfl rfl ?_
                refine w_aload_n rfl rfl rfl ?_
                refine w_aload_n rfl rfl rfl ?_
                first | rw [k_ts1b c77] | rw [k_ts1c c49] | rw [k_ts1d c64]
                first | rw [k_ts2a c100] | rw [k_ts2b c106] | rw [k_ts2c c100 c106]
                refine w_cv (q := am_m43) (as := [_]) (rest := []) (st' := [_]) rfl rfl rfl rfl rfl rfl sp6 rfl rfl rfl rfl (d_holdKnot (Nat.le_trans (k_rh_le _ _ _) hh) ((am_u_nk (by decide)).trans ((am_u_nk (by decide)).trans (R1 _).1)) hc ((am_u_nk (by decide)).trans ((am_u_nk (by decide)).trans (R1 _).2)) (by omega)) rfl rfl ?_
                exact w_bret rfl (by first | decide | exact k_hk01) rfl rfl rfl rfl
              · refine w_iload_n rfl rfl rfl ?_
                refine w_bipush (x := Int32.ofNat 22) rfl rfl (by decide) ?_
                refine w_ic_ne (t := 113) (f := 109) rfl rfl rfl (fun c106 => ?_) (fun c106 => ?_)
                · refine w_iconst (x := Int32.ofNat 0) rfl rfl (by decide) ?_
                  refine w_pf rfl rfl rfl sp6 rfl rfl rfl ?_
                  refine w_aload_n rfl rfl rfl ?_
                  refine w_aload_n rfl rfl rfl ?_
                  first | rw [k_ts1b c77] | rw [k_ts1c c49] | rw [k_ts1d c64]
                  first | rw [k_ts2a c100] | rw [k_ts2b c106] | rw [k_ts2c c100 c106]
                  refine w_cv (q := am_m43) (as := [_]) (rest := []) (st' := [_]) rfl rfl rfl rfl rfl rfl sp6 rfl rfl rfl rfl (d_holdKnot (Nat.le_trans (k_rh_le _ _ _) hh) ((am_u_nk (by decide)).trans ((am_u_nk (by decide)).trans (R1 _).1)) hc ((am_u_nk (by decide)).trans ((am_u_nk (by decide)).trans (R1 _).2)) (by omega)) rfl rfl ?_
                  exact w_bret rfl (by first | decide | exact k_hk01) rfl rfl rfl rfl
                · refine w_iconst (x := Int32.ofNat 1) rfl rfl (by decide) ?_
                  refine w_goto (pc' := 114) rfl rfl ?_
                  refine w_pf rfl rfl rfl sp6 rfl rfl rfl ?_
                  refine w_aload_n rfl rfl rfl ?_
                  refine w_aload_n rfl rfl rfl ?_
                  first | rw [k_ts1b c77] | rw [k_ts1c c49] | rw [k_ts1d c64]
                  first | rw [k_ts2a c100] | rw [k_ts2b c106] | rw [k_ts2c c100 c106]
                  refine w_cv (q := am_m43) (as := [_]) (rest := []) (st' := [_]) rfl rfl rfl rfl rfl rfl sp6 rfl rfl rfl rfl (d_holdKnot (Nat.le_trans (k_rh_le _ _ _) hh) ((am_u_nk (by decide)).trans ((am_u_nk (by decide)).trans (R1 _).1)) hc ((am_u_nk (by decide)).trans ((am_u_nk (by decide)).trans (R1 _).2)) (by omega)) rfl rfl ?_
                  exact w_bret rfl (by first | decide | exact k_hk01) rfl rfl rfl rfl
            · refine w_iload rfl rfl rfl ?_
              refine w_if_eq (t := 91) (f := 85) rfl rfl rfl (fun c82 => ?_) (fun c82 => absurd c82 (by decide))
              clear c82
              refine w_aload_n rfl rfl rfl ?_
              refine w_iconst (x := Int32.ofNat 1) rfl rfl (by decide) ?_
              refine w_pf rfl rfl rfl sp6 rfl rfl rfl ?_
              refine w_aload_n rfl rfl rfl ?_
              refine w_iload_n rfl rfl rfl ?_
              refine w_bipush (x := Int32.ofNat 21) rfl rfl (by decide) ?_
              refine w_ic_eq (t := 109) (f := 103) rfl rfl rfl (fun c100 => ?_) (fun c100 => ?_)
              · refine w_iconst (x := Int32.ofNat 1) rfl rfl (by decide) ?_
                refine w_goto (pc' := 114) rfl rfl ?_
                refine w_pf rfl rfl rfl sp6 rfl rfl rfl ?_
                refine w_aload_n rfl rfl rfl ?_
                refine w_aload_n rfl rfl rfl ?_
                first | rw [k_ts1b c77] | rw [k_ts1c c49] | rw [k_ts1d c64]
                first | rw [k_ts2a c100] | rw [k_ts2b c106] | rw [k_ts2c c100 c106]
                refine w_cv (q := am_m43) (as := [_]) (rest := []) (st' := [_]) rfl rfl rfl rfl rfl rfl sp6 rfl rfl rfl rfl (d_holdKnot (Nat.le_trans (k_rh_le _ _ _) hh) ((am_u_nk (by decide)).trans ((am_u_nk (by decide)).trans (R1 _).1)) hc ((am_u_nk (by decide)).trans ((am_u_nk (by decide)).trans (R1 _).2)) (by omega)) rfl rfl ?_
                exact w_bret rfl (by first | decide | exact k_hk01) rfl rfl rfl rfl
              · refine w_iload_n rfl rfl rfl ?_
                refine w_bipush (x := Int32.ofNat 22) rfl rfl (by decide) ?_
                refine w_ic_ne (t := 113) (f := 109) rfl rfl rfl (fun c106 => ?_) (fun c106 => ?_)
                · refine w_iconst (x := Int32.ofNat 0) rfl rfl (by decide) ?_
                  refine w_pf rfl rfl rfl sp6 rfl rfl rfl ?_
                  refine w_aload_n rfl rfl rfl ?_
                  refine w_aload_n rfl rfl rfl ?_
                  first | rw [k_ts1b c77] | rw [k_ts1c c49] | rw [k_ts1d c64]
                  first | rw [k_ts2a c100] | rw [k_ts2b c106] | rw [k_ts2c c100 c106]
                  refine w_cv (q := am_m43) (as := [_]) (rest := []) (st' := [_]) rfl rfl rfl rfl rfl rfl sp6 rfl rfl rfl rfl (d_holdKnot (Nat.le_trans (k_rh_le _ _ _) hh) ((am_u_nk (by decide)).trans ((am_u_nk (by decide)).trans (R1 _).1)) hc ((am_u_nk (by decide)).trans ((am_u_nk (by decide)).trans (R1 _).2)) (by omega)) rfl rfl ?_
                  exact w_bret rfl (by first | decide | exact k_hk01) rfl rfl rfl rfl
                · refine w_iconst (x := Int32.ofNat 1) rfl rfl (by decide) ?_
                  refine w_goto (pc' := 114) rfl rfl ?_
                  refine w_pf rfl rfl rfl sp6 rfl rfl rfl ?_
                  refine w_aload_n rfl rfl rfl ?_
                  refine w_aload_n rfl rfl rfl ?_
                  first | rw [k_ts1b c77] | rw [k_ts1c c49] | rw [k_ts1d c64]
                  first | rw [k_ts2a c100] | rw [k_ts2b c106] | rw [k_ts2c c100 c106]
                  refine w_cv (q := am_m43) (as := [_]) (rest := []) (st' := [_]) rfl rfl rfl rfl rfl rfl sp6 rfl rfl rfl rfl (d_holdKnot (Nat.le_trans (k_rh_le _ _ _) hh) ((am_u_nk (by decide)).trans ((am_u_nk (by decide)).trans (R1 _).1)) hc ((am_u_nk (by decide)).trans ((am_u_nk (by decide)).trans (R1 _).2)) (by omega)) rfl rfl ?_
                  exact w_bret rfl (by first | decide | exact k_hk01) rfl rfl rfl rfl
          · refine w_iconst (x := Int32.ofNat 1) rfl rfl (by decide) ?_
            refine w_goto (pc' := 72) rfl rfl ?_
            refine w_istore (L' := [_, _, _, _, _, _]) rfl rfl rfl ?_
            refine w_iload rfl rfl rfl ?_
            refine w_iconst (x := Int32.ofNat 4) rfl rfl (by decide) ?_
            refine w_ic_ne (t := 91) (f := 80) rfl rfl rfl (fun c77 => ?_) (fun c77 => ?_)
            · refine w_aload_n rfl rfl rfl ?_
              refine w_iconst (x := Int32.ofNat 1) rfl rfl (by decide) ?_
              refine w_pf rfl rfl rfl sp6 rfl rfl rfl ?_
              refine w_aload_n rfl rfl rfl ?_
              refine w_iload_n rfl rfl rfl ?_
              refine w_bipush (x := Int32.ofNat 21) rfl rfl (by decide) ?_
              refine w_ic_eq (t := 109) (f := 103) rfl rfl rfl (fun c100 => ?_) (fun c100 => ?_)
              · refine w_iconst (x := Int32.ofNat 1) rfl rfl (by decide) ?_
                refine w_goto (pc' := 114) rfl rfl ?_
                refine w_pf rfl rfl rfl sp6 rfl rfl rfl ?_
                refine w_aload_n rfl rfl rfl ?_
                refine w_aload_n rfl rfl rfl ?_
                first | rw [k_ts1b c77] | rw [k_ts1c c49] | rw [k_ts1d c64]
                first | rw [k_ts2a c100] | rw [k_ts2b c106] | rw [k_ts2c c100 c106]
                refine w_cv (q := am_m43) (as := [_]) (rest := []) (st' := [_]) rfl rfl rfl rfl rfl rfl sp6 rfl rfl rfl rfl (d_holdKnot (Nat.le_trans (k_rh_le _ _ _) hh) ((am_u_nk (by decide)).trans ((am_u_nk (by decide)).trans (R1 _).1)) hc ((am_u_nk (by decide)).trans ((am_u_nk (by decide)).trans (R1 _).2)) (by omega)) rfl rfl ?_
                exact w_bret rfl (by first | decide | exact k_hk01) rfl rfl rfl rfl
              · refine w_iload_n rfl rfl rfl ?_
                refine w_bipush (x := Int32.ofNat 22) rfl rfl (by decide) ?_
                refine w_ic_ne (t := 113) (f := 109) rfl rfl rfl (fun c106 => ?_) (fun c106 => ?_)
                · refine w_iconst (x := Int32.ofNat 0) rfl rfl (by decide) ?_
                  refine w_pf rfl rfl rfl sp6 rfl rfl rfl ?_
                  refine w_aload_n rfl rfl rfl ?_
                  refine w_aload_n rfl rfl rfl ?_
                  first | rw [k_ts1b c77] | rw [k_ts1c c49] | rw [k_ts1d c64]
                  first | rw [k_ts2a c100] | rw [k_ts2b c106] | rw [k_ts2c c100 c106]
                  refine w_cv (q := am_m43) (as := [_]) (rest := []) (st' := [_]) rfl rfl rfl rfl rfl rfl sp6 rfl rfl rfl rfl (d_holdKnot (Nat.le_trans (k_rh_le _ _ _) hh) ((am_u_nk (by decide)).trans ((am_u_nk (by decide)).trans (R1 _).1)) hc ((am_u_nk (by decide)).trans ((am_u_nk (by decide)).trans (R1 _).2)) (by omega)) rfl rfl ?_
                  exact w_bret rfl (by first | decide | exact k_hk01) rfl rfl rfl rfl
                · refine w_iconst (x := Int32.ofNat 1) rfl rfl (by decide) ?_
                  refine w_goto (pc' := 114) rfl rfl ?_
                  refine w_pf rfl rfl rfl sp6 rfl rfl rfl ?_
                  refine w_aload_n rfl rfl rfl ?_
                  refine w_aload_n rfl rfl rfl ?_
                  first | rw [k_ts1b c77] | rw [k_ts1c c49] | rw [k_ts1d c64]
                  first | rw [k_ts2a c100] | rw [k_ts2b c106] | rw [k_ts2c c100 c106]
                  refine w_cv (q := am_m43) (as := [_]) (rest := []) (st' := [_]) rfl rfl rfl rfl rfl rfl sp6 rfl rfl rfl rfl (d_holdKnot (Nat.le_trans (k_rh_le _ _ _) hh) ((am_u_nk (by decide)).trans ((am_u_nk (by decide)).trans (R1 _).1)) hc ((am_u_nk (by decide)).trans ((am_u_nk (by decide)).trans (R1 _).2)) (by omega)) rfl rfl ?_
                  exact w_bret rfl (by first | decide | exact k_hk01) rfl rfl rfl rfl
            · refine w_iload rfl rfl rfl ?_
              refine w_if_eq (t := 91) (f := 85) rfl rfl rfl (fun c82 => absurd c82 (by decide)) (fun c82 => ?_)
              clear c82
              refine w_aload_n rfl rfl rfl ?_
              refine w_iconst (x := Int32.ofNat 1) rfl rfl (by decide) ?_
              refine w_cv (q := am_m92) (as := [_]) (rest := []) (st' := [_]) rfl rfl rfl rfl rfl rfl sp3 rfl rfl rfl rfl (d_blame (by omega)) rfl rfl ?_
              exact w_bret rfl (by first | decide | exact k_hk01) (by (rw [k_ts1a c77 c49 c64]) <;> rfl) (by rw [k_ts1a c77 c49 c64]) rfl rfl
    · refine w_aload_n rfl rfl rfl ?_
      refine w_iconst (x := Int32.ofNat 1) rfl rfl (by decide) ?_
      refine w_cv (q := am_m92) (as := [_]) (rest := []) (st' := [_]) rfl rfl rfl rfl rfl rfl sp3 rfl rfl rfl rfl (d_blame (by omega)) rfl rfl ?_
      exact w_bret rfl (by first | decide | exact k_hk01) (by (first | rw [k_tsA c13] | rw [k_tsB c19]) <;> rfl) (by first | rw [k_tsA c13] | rw [k_tsB c19]) rfl rfl
def k_tc (I : hI) (A h o : Nat) : Int32 × hI := if I 3 4 = Int32.ofNat 42 then (if I 6 3 = 0 then (0, u_bl I (Int32.ofNat 1)) else (1, am_u (am_u (k_rel A (Int32.ofNat 1) h I) 6 2 (Int32.ofNat (k_rh (Int32.ofNat 1) (I 8) h - 1))) 6 3 (Int32.ofNat (o - 1)))) else (if I 6 3 = 0 then (1, k_rel A (Int32.ofNat 1) h I) else (0, u_bl I (Int32.ofNat 1)))
theorem d_takeClosing {k : Nat} {I : hI} {J : hJ} {R : hR} {A : Nat} (hA : lwA A) {h : Nat} (hh : h ≤ 72) (h2 : I 6 2 = Int32.ofNat h) {o : Nat} (ho : o ≤ 8) (h3 : I 6 3 = Int32.ofNat o) (h0 : okn (I A 0) 65) (hop : I 3 4 = Int32.ofNat 42 → ¬ I 6 3 = 0 → 0 < k_rh (Int32.ofNat 1) (I 8) h) (hk : 4 ≤ k) : ct k 42 [.ref 6, .ref A, .ref 3] I J R (some (.int (k_tc I A h o).1)) ((k_tc I A h o).2) J R := by
  obtain ⟨k, rfl⟩ : ∃ k', k = k' + 1 := ⟨k - 1, by omega⟩
  have g := lwA_g hA
  have R1 := k_rel_h hA (Int32.ofNat 1) h I h0 h2
  have R3 := (R1.2.2.2.2 3 (by decide)).trans h3
  refine ct_of (q := am_m42) (o := 4) (rt := (some .boolean)) (co := am_c42) (L := [_, _, _, _]) rfl rfl rfl rfl rfl rfl ?_
  refine w_aload_n rfl rfl rfl ?_
  refine w_gf (t := .int 0) (v := .int _) rfl rfl rfl sp3 rfl (congrArg Value.int rfl) rfl ?_
  refine w_bipush (x := Int32.ofNat 42) rfl rfl (by decide) ?_
  refine w_ic_ne (t := 13) (f := 9) rfl rfl rfl (fun c6 => ?_) (fun c6 => ?_)
  · refine w_iconst (x := Int32.ofNat 0) rfl rfl (by decide) ?_
    refine w_istore_n (L' := [_, _, _, _]) rfl rfl rfl ?_
    refine w_iload_n rfl rfl rfl ?_
    refine w_aload_n rfl rfl rfl ?_
    refine w_gf (t := .int 0) (v := .int _) rfl rfl rfl sp6 rfl (congrArg Value.int rfl) rfl ?_
    refine w_if_ne (t := 27) (f := 23) rfl rfl rfl (fun c20 => ?_) (fun c20 => ?_)
    · refine w_iconst (x := Int32.ofNat 0) rfl rfl (by decide) ?_
      refine w_ic_neN (t := 37) (f := 31) rfl rfl rfl (by omega) (by omega) (fun c28 => absurd c28 (by omega)) (fun c28 => ?_)
      clear c28
      refine w_aload_n rfl rfl rfl ?_
      refine w_iconst (x := Int32.ofNat 1) rfl rfl (by decide) ?_
      refine w_cv (q := am_m92) (as := [_]) (rest := []) (st' := [_]) rfl rfl rfl rfl rfl rfl sp3 rfl rfl rfl rfl (d_blame (by omega)) rfl rfl ?_
      exact w_bret rfl (by decide) (by (unfold k_tc; (first | rw [if_pos c6] | rw [if_neg c6]); (first | rw [if_neg c20] | rw [if_pos c20])) <;> rfl) (by unfold k_tc; (first | rw [if_pos c6] | rw [if_neg c6]); (first | rw [if_neg c20] | rw [if_pos c20])) rfl rfl
    · refine w_iconst (x := Int32.ofNat 1) rfl rfl (by decide) ?_
      refine w_goto (pc' := 28) rfl rfl ?_
      refine w_ic_neN (t := 37) (f := 31) rfl rfl rfl (by omega) (by omega) (fun c28 => ?_) (fun c28 => absurd c28 (by omega))
      clear c28
      refine w_aload_n rfl rfl rfl ?_
      refine w_aload_n rfl rfl rfl ?_
      refine w_iconst (x := Int32.ofNat 1) rfl rfl (by decide) ?_
      refine w_cv (q := am_m45) (as := [_, _]) (rest := []) (st' := []) rfl rfl rfl rfl rfl rfl sp6 rfl rfl rfl rfl (d_release hA hh h2 h0 (by omega)) rfl rfl ?_
      refine w_iload_n rfl rfl rfl ?_
      refine w_if_eq (t := 67) (f := 47) rfl rfl rfl (fun c44 => ?_) (fun c44 => absurd c44 (by decide))
      clear c44
      refine w_iconst (x := Int32.ofNat 1) rfl rfl (by decide) ?_
      exact w_bret rfl (by decide) (by (unfold k_tc; (first | rw [if_pos c6] | rw [if_neg c6]); (first | rw [if_neg c20] | rw [if_pos c20])) <;> rfl) (by unfold k_tc; (first | rw [if_pos c6] | rw [if_neg c6]); (first | rw [if_neg c20] | rw [if_pos c20])) rfl rfl
  · refine w_iconst (x := Int32.ofNat 1) rfl rfl (by decide) ?_
    refine w_goto (pc' := 14) rfl rfl ?_
    refine w_istore_n (L' := [_, _, _, _]) rfl rfl rfl ?_
    refine w_iload_n rfl rfl rfl ?_
    refine w_aload_n rfl rfl rfl ?_
    refine w_gf (t := .int 0) (v := .int _) rfl rfl rfl sp6 rfl (congrArg Value.int rfl) rfl ?_
    refine w_if_ne (t := 27) (f := 23) rfl rfl rfl (fun c20 => ?_) (fun c20 => ?_)
    · refine w_iconst (x := Int32.ofNat 0) rfl rfl (by decide) ?_
      refine w_ic_neN (t := 37) (f := 31) rfl rfl rfl (by omega) (by omega) (fun c28 => ?_) (fun c28 => absurd c28 (by omega))
      clear c28
      refine w_aload_n rfl rfl rfl ?_
      refine w_aload_n rfl rfl rfl ?_
      refine w_iconst (x := Int32.ofNat 1) rfl rfl (by decide) ?_
      refine w_cv (q := am_m45) (as := [_, _]) (rest := []) (st' := []) rfl rfl rfl rfl rfl rfl sp6 rfl rfl rfl rfl (d_release hA hh h2 h0 (by omega)) rfl rfl ?_
      refine w_iload_n rfl rfl rfl ?_
      refine w_if_eq (t := 67) (f := 47) rfl rfl rfl (fun c44 => absurd c44 (by decide)) (fun c44 => ?_)
      clear c44
      refine w_aload_n rfl rfl rfl ?_
      refine w_dup rfl rfl rfl ?_
      refine w_gf (t := .int 0) (v := .int _) rfl rfl rfl sp6 rfl (congrArg Value.int R1.2.1) rfl ?_
      refine w_iconst (x := Int32.ofNat 1) rfl rfl (by decide) ?_
      refine w_isubN rfl rfl (hop c6 c20) ?_
      refine w_pf rfl rfl rfl sp6 rfl rfl rfl ?_
      refine w_aload_n rfl rfl rfl ?_
      refine w_dup rfl rfl rfl ?_
      refine w_gf (t := .int 0) (v := .int _) rfl rfl rfl sp6 rfl (congrArg Value.int ((am_u_nk (by decide)).trans R3)) rfl ?_
      refine w_iconst (x := Int32.ofNat 1) rfl rfl (by decide) ?_
      refine w_isubN rfl rfl (by have : ¬ o = 0 := (fun z => c20 (by rw [h3, z]; rfl)); omega) ?_
      refine w_pf rfl rfl rfl sp6 rfl rfl rfl ?_
      refine w_iconst (x := Int32.ofNat 1) rfl rfl (by decide) ?_
      exact w_bret rfl (by decide) (by (unfold k_tc; (first | rw [if_pos c6] | rw [if_neg c6]); (first | rw [if_neg c20] | rw [if_pos c20])) <;> rfl) (by unfold k_tc; (first | rw [if_pos c6] | rw [if_neg c6]); (first | rw [if_neg c20] | rw [if_pos c20])) rfl rfl
    · refine w_iconst (x := Int32.ofNat 1) rfl rfl (by decide) ?_
      refine w_goto (pc' := 28) rfl rfl ?_
      refine w_ic_neN (t := 37) (f := 31) rfl rfl rfl (by omega) (by omega) (fun c28 => absurd c28 (by omega)) (fun c28 => ?_)
      clear c28
      refine w_aload_n rfl rfl rfl ?_
      refine w_iconst (x := Int32.ofNat 1) rfl rfl (by decide) ?_
      refine w_cv (q := am_m92) (as := [_]) (rest := []) (st' := [_]) rfl rfl rfl rfl rfl rfl sp3 rfl rfl rfl rfl (d_blame (by omega)) rfl rfl ?_
      exact w_bret rfl (by decide) (by (unfold k_tc; (first | rw [if_pos c6] | rw [if_neg c6]); (first | rw [if_neg c20] | rw [if_pos c20])) <;> rfl) (by unfold k_tc; (first | rw [if_pos c6] | rw [if_neg c6]); (first | rw [if_neg c20] | rw [if_pos c20])) rfl rfl
