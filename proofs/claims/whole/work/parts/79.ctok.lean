/-! The class: tokens. -/
abbrev k_ltP (x : Int32) : Prop := ¬ x < Int32.ofNat 97 ∧ ¬ Int32.ofNat 122 < x
abbrev k_dgP (x : Int32) : Prop := ¬ x < Int32.ofNat 48 ∧ ¬ Int32.ofNat 57 < x
theorem d_isLetter {k : Nat} {I : hI} {J : hJ} {R : hR} {x : Int32} (hk : 1 ≤ k) : ct k 100 [.int x] I J R (some (.int (if k_ltP x then 1 else 0))) I J R := by
  obtain ⟨k, rfl⟩ : ∃ k', k = k' + 1 := ⟨k - 1, by omega⟩
  refine ct_of (q := am_m100) (o := 9) (rt := (some .boolean)) (co := am_c100) (L := [_]) rfl rfl rfl rfl rfl rfl ?_
  refine w_iload_n rfl rfl rfl ?_
  refine w_bipush (x := Int32.ofNat 97) rfl rfl (by decide) ?_
  refine w_ic_lt (t := 16) (f := 6) rfl rfl rfl (fun c3 => ?_) (fun c3 => ?_)
  · refine w_iconst (x := Int32.ofNat 0) rfl rfl (by decide) ?_
    exact w_bret rfl (by decide) (by first | exact (if_pos (c := k_ltP x) ⟨c3, c9⟩).symm | exact (if_neg (c := k_ltP x) (fun z => z.1 c3)).symm | exact (if_neg (c := k_ltP x) (fun z => z.2 c9)).symm) rfl rfl rfl
  · refine w_iload_n rfl rfl rfl ?_
    refine w_bipush (x := Int32.ofNat 122) rfl rfl (by decide) ?_
    refine w_ic_gt (t := 16) (f := 12) rfl rfl rfl (fun c9 => ?_) (fun c9 => ?_)
    · refine w_iconst (x := Int32.ofNat 0) rfl rfl (by decide) ?_
      exact w_bret rfl (by decide) (by first | exact (if_pos (c := k_ltP x) ⟨c3, c9⟩).symm | exact (if_neg (c := k_ltP x) (fun z => z.1 c3)).symm | exact (if_neg (c := k_ltP x) (fun z => z.2 c9)).symm) rfl rfl rfl
    · refine w_iconst (x := Int32.ofNat 1) rfl rfl (by decide) ?_
      refine w_goto (pc' := 17) rfl rfl ?_
      exact w_bret rfl (by decide) (by first | exact (if_pos (c := k_ltP x) ⟨c3, c9⟩).symm | exact (if_neg (c := k_ltP x) (fun z => z.1 c3)).symm | exact (if_neg (c := k_ltP x) (fun z => z.2 c9)).symm) rfl rfl rfl
theorem d_isDigit {k : Nat} {I : hI} {J : hJ} {R : hR} {x : Int32} (hk : 1 ≤ k) : ct k 101 [.int x] I J R (some (.int (if k_dgP x then 1 else 0))) I J R := by
  obtain ⟨k, rfl⟩ : ∃ k', k = k' + 1 := ⟨k - 1, by omega⟩
  refine ct_of (q := am_m101) (o := 9) (rt := (some .boolean)) (co := am_c101) (L := [_]) rfl rfl rfl rfl rfl rfl ?_
  refine w_iload_n rfl rfl rfl ?_
  refine w_bipush (x := Int32.ofNat 48) rfl rfl (by decide) ?_
  refine w_ic_lt (t := 16) (f := 6) rfl rfl rfl (fun c3 => ?_) (fun c3 => ?_)
  · refine w_iconst (x := Int32.ofNat 0) rfl rfl (by decide) ?_
    exact w_bret rfl (by decide) (by first | exact (if_pos (c := k_dgP x) ⟨c3, c9⟩).symm | exact (if_neg (c := k_dgP x) (fun z => z.1 c3)).symm | exact (if_neg (c := k_dgP x) (fun z => z.2 c9)).symm) rfl rfl rfl
  · refine w_iload_n rfl rfl rfl ?_
    refine w_bipush (x := Int32.ofNat 57) rfl rfl (by decide) ?_
    refine w_ic_gt (t := 16) (f := 12) rfl rfl rfl (fun c9 => ?_) (fun c9 => ?_)
    · refine w_iconst (x := Int32.ofNat 0) rfl rfl (by decide) ?_
      exact w_bret rfl (by decide) (by first | exact (if_pos (c := k_dgP x) ⟨c3, c9⟩).symm | exact (if_neg (c := k_dgP x) (fun z => z.1 c3)).symm | exact (if_neg (c := k_dgP x) (fun z => z.2 c9)).symm) rfl rfl rfl
    · refine w_iconst (x := Int32.ofNat 1) rfl rfl (by decide) ?_
      refine w_goto (pc' := 17) rfl rfl ?_
      exact w_bret rfl (by decide) (by first | exact (if_pos (c := k_dgP x) ⟨c3, c9⟩).symm | exact (if_neg (c := k_dgP x) (fun z => z.1 c3)).symm | exact (if_neg (c := k_dgP x) (fun z => z.2 c9)).symm) rfl rfl rfl
def k_fl : Nat → Int32 → Int32
  | 0, x => x
  | j + 1, x => k_fl j (x * Int32.ofNat 32)
theorem k_fl_s (j : Nat) (x : Int32) : k_fl (j + 1) x = k_fl j (x * Int32.ofNat 32) := rfl
theorem l_filled {k : Nat} {I : hI} {J : hJ} {R : hR} {y : Int32} {c : Nat} : ∀ (j r : Nat) (x : Int32), r < 1000 → 6 - r = j → wz k 9 (some .int) am_c95 4 [.int y, .int (Int32.ofNat c), .int x, .int (Int32.ofNat r)] [] I J R (some (.int (k_fl j x)), am_hp I J R) := by
  intro j
  induction j with
  | zero =>
    intro r x h e
    refine w_iload_n rfl rfl rfl ?_
    refine w_bipush (x := Int32.ofNat 6) rfl rfl (by decide) ?_
    refine w_ic_geN (t := 21) (f := 10) rfl rfl rfl (by omega) (by omega) (fun c7 => ?_) (fun c7 => absurd c7 (by omega))
    refine w_iload_n rfl rfl rfl ?_
    exact w_iret rfl rfl rfl rfl rfl
  | succ j ih =>
    intro r x h e
    refine w_iload_n rfl rfl rfl ?_
    refine w_bipush (x := Int32.ofNat 6) rfl rfl (by decide) ?_
    refine w_ic_geN (t := 21) (f := 10) rfl rfl rfl (by omega) (by omega) (fun c7 => absurd c7 (by omega)) (fun c7 => ?_)
    refine w_iload_n rfl rfl rfl ?_
    refine w_bipush (x := Int32.ofNat 32) rfl rfl (by decide) ?_
    refine w_imul rfl rfl ?_
    refine w_istore_n (L' := [_, _, _, _]) rfl rfl rfl ?_
    refine w_iinc (L' := [_, _, _, _]) rfl rfl rfl (am_incN 1) rfl ?_
    refine w_goto (pc' := 4) rfl rfl ?_
    exact ih (r + 1) _ (by omega) (by omega)
theorem d_filled {k : Nat} {I : hI} {J : hJ} {R : hR} {x : Int32} {c : Nat} (hc : c < 1000) (hk : 1 ≤ k) : ct k 95 [.int x, .int (Int32.ofNat c)] I J R (some (.int (k_fl (6 - c) x))) I J R := by
  obtain ⟨k, rfl⟩ : ∃ k', k = k' + 1 := ⟨k - 1, by omega⟩
  refine ct_of (q := am_m95) (o := 9) (rt := (some .int)) (co := am_c95) (L := [_, _, _, _]) rfl rfl rfl rfl rfl rfl ?_
  refine w_iload_n rfl rfl rfl ?_
  refine w_istore_n (L' := [_, _, _, _]) rfl rfl rfl ?_
  refine w_iload_n rfl rfl rfl ?_
  refine w_istore_n (L' := [_, _, _, _]) rfl rfl rfl ?_
  exact l_filled (6 - c) c _ hc rfl
def k_wk (g : Nat → Int32) (x : Int32) : Nat → Nat → Int32
  | 0, _ => Int32.ofNat 3
  | j + 1, r => if g r = x then Int32.ofNat (10 + r) else k_wk g x j (r + 1)
theorem k_wk_s (g : Nat → Int32) (x : Int32) (j r : Nat) : k_wk g x (j + 1) r = if g r = x then Int32.ofNat (10 + r) else k_wk g x j (r + 1) := rfl
theorem l_wordK {k : Nat} {I : hI} {J : hJ} {R : hR} {x : Int32} : ∀ (j r : Nat), r + j = 21 → wz k 9 (some .int) am_c96 2 [.ref 3, .int x, .int (Int32.ofNat r)] [] I J R (some (.int (k_wk (I 4) x j r)), am_hp I J R) := by
  intro j
  induction j with
  | zero =>
    intro r e
    obtain rfl : 21 = r := by omega
    refine w_iload_n rfl rfl rfl ?_
    refine w_bipush (x := Int32.ofNat 21) rfl rfl (by decide) ?_
    refine w_ic_geN (t := 29) (f := 8) rfl rfl rfl (by omega) (by omega) (fun c5 => ?_) (fun c5 => absurd c5 (by omega))
    refine w_iconst (x := Int32.ofNat 3) rfl rfl (by decide) ?_
    exact w_iret rfl rfl rfl rfl rfl
  | succ j ih =>
    intro r e
    rw [k_wk_s]
    refine w_iload_n rfl rfl rfl ?_
    refine w_bipush (x := Int32.ofNat 21) rfl rfl (by decide) ?_
    refine w_ic_geN (t := 29) (f := 8) rfl rfl rfl (by omega) (by omega) (fun c5 => absurd c5 (by omega)) (fun c5 => ?_)
    refine w_aload_n rfl rfl rfl ?_
    refine w_gf (t := .ref (4)) (v := .ref (4)) rfl rfl rfl sp3 rfl rfl rfl ?_
    refine w_iload_n rfl rfl rfl ?_
    refine w_iaload rfl rfl sp4 rfl ⟨by omega, by omega⟩ rfl ?_
    refine w_iload_n rfl rfl rfl ?_
    refine w_ic_ne (t := 23) (f := 18) rfl rfl rfl (fun c15 => ?_) (fun c15 => ?_)
    · refine w_iinc (L' := [_, _, _]) rfl rfl rfl (am_incN 1) rfl ?_
      refine w_goto (pc' := 2) rfl rfl ?_
      rw [if_neg c15]
      exact ih (r + 1) (by omega)
    · refine w_bipush (x := Int32.ofNat 10) rfl rfl (by decide) ?_
      refine w_iload_n rfl rfl rfl ?_
      refine w_iaddN rfl rfl ?_
      exact w_iret rfl (by rw [if_pos c15]) rfl rfl rfl
theorem d_wordKind {k : Nat} {I : hI} {J : hJ} {R : hR} {x : Int32} (hk : 1 ≤ k) : ct k 96 [.ref 3, .int x] I J R (some (.int (k_wk (I 4) x 21 0))) I J R := by
  obtain ⟨k, rfl⟩ : ∃ k', k = k' + 1 := ⟨k - 1, by omega⟩
  refine ct_of (q := am_m96) (o := 9) (rt := (some .int)) (co := am_c96) (L := [_, _, _]) rfl rfl rfl rfl rfl rfl ?_
  refine w_iconst (x := Int32.ofNat 0) rfl rfl (by decide) ?_
  refine w_istore_n (L' := [_, _, _]) rfl rfl rfl ?_
  exact l_wordK 21 0 (by omega)
def k_sk1 (x : Int32) : Int32 := if x = Int32.ofNat 59 then Int32.ofNat 40 else if x = Int32.ofNat 40 then Int32.ofNat 41 else if x = Int32.ofNat 41 then Int32.ofNat 42 else if x = Int32.ofNat 60 then Int32.ofNat 43 else if x = Int32.ofNat 61 then Int32.ofNat 45 else if x = Int32.ofNat 62 then Int32.ofNat 48 else if x = Int32.ofNat 43 then Int32.ofNat 49 else if x = Int32.ofNat 45 then Int32.ofNat 50 else if x = Int32.ofNat 42 then Int32.ofNat 51 else if x = Int32.ofNat 47 then Int32.ofNat 52 else Int32.ofNat 1
theorem d_signKind {k : Nat} {I : hI} {J : hJ} {R : hR} {x : Int32} (hk : 1 ≤ k) : ct k 99 [.int x] I J R (some (.int (k_sk1 x))) I J R := by
  obtain ⟨k, rfl⟩ : ∃ k', k = k' + 1 := ⟨k - 1, by omega⟩
  refine ct_of (q := am_m99) (o := 9) (rt := (some .int)) (co := am_c99) (L := [_]) rfl rfl rfl rfl rfl rfl ?_
  refine w_iload_n rfl rfl rfl ?_
  refine w_ts (lo := 40) (hi := 62) (d := 138) rfl rfl (by decide) (fun sw => ?_) (fun n h1 h2 sw => ?_)
  · refine w_iconst (x := Int32.ofNat 1) rfl rfl (by decide) ?_
    exact w_iret rfl (by first | (simp +decide only [k_sk1, sw, ite_true, ite_false] <;> rfl) | (simp only [k_sk1, sw 59 (by decide) (by decide), sw 40 (by decide) (by decide), sw 41 (by decide) (by decide), sw 60 (by decide) (by decide), sw 61 (by decide) (by decide), sw 62 (by decide) (by decide), sw 43 (by decide) (by decide), sw 45 (by decide) (by decide), sw 42 (by decide) (by decide), sw 47 (by decide) (by decide), ite_false] <;> rfl)) rfl rfl rfl
  · have h3 : n = 40 ∨ n = 41 ∨ n = 42 ∨ n = 43 ∨ n = 44 ∨ n = 45 ∨ n = 46 ∨ n = 47 ∨ n = 48 ∨ n = 49 ∨ n = 50 ∨ n = 51 ∨ n = 52 ∨ n = 53 ∨ n = 54 ∨ n = 55 ∨ n = 56 ∨ n = 57 ∨ n = 58 ∨ n = 59 ∨ n = 60 ∨ n = 61 ∨ n = 62 := by omega
    rcases h3 with rfl | rfl | rfl | rfl | rfl | rfl | rfl | rfl | rfl | rfl | rfl | rfl | rfl | rfl | rfl | rfl | rfl | rfl | rfl | rfl | rfl | rfl | rfl
    · refine ⟨111, rfl, ?_⟩
      refine w_bipush (x := Int32.ofNat 41) rfl rfl (by decide) ?_
      exact w_iret rfl (by simp +decide only [k_sk1, sw, ite_true, ite_false] <;> rfl) rfl rfl rfl
    · refine ⟨114, rfl, ?_⟩
      refine w_bipush (x := Int32.ofNat 42) rfl rfl (by decide) ?_
      exact w_iret rfl (by simp +decide only [k_sk1, sw, ite_true, ite_false] <;> rfl) rfl rfl rfl
    · refine ⟨132, rfl, ?_⟩
      refine w_bipush (x := Int32.ofNat 51) rfl rfl (by decide) ?_
      exact w_iret rfl (by simp +decide only [k_sk1, sw, ite_true, ite_false] <;> rfl) rfl rfl rfl
    · refine ⟨126, rfl, ?_⟩
      refine w_bipush (x := Int32.ofNat 49) rfl rfl (by decide) ?_
      exact w_iret rfl (by simp +decide only [k_sk1, sw, ite_true, ite_false] <;> rfl) rfl rfl rfl
    · refine ⟨138, rfl, ?_⟩
      refine w_iconst (x := Int32.ofNat 1) rfl rfl (by decide) ?_
      exact w_iret rfl (by first | (simp +decide only [k_sk1, sw, ite_true, ite_false] <;> rfl) | (simp only [k_sk1, sw 59 (by decide) (by decide), sw 40 (by decide) (by decide), sw 41 (by decide) (by decide), sw 60 (by decide) (by decide), sw 61 (by decide) (by decide), sw 62 (by decide) (by decide), sw 43 (by decide) (by decide), sw 45 (by decide) (by decide), sw 42 (by decide) (by decide), sw 47 (by decide) (by decide), ite_false] <;> rfl)) rfl rfl rfl
    · refine ⟨129, rfl, ?_⟩
      refine w_bipush (x := Int32.ofNat 50) rfl rfl (by decide) ?_
      exact w_iret rfl (by simp +decide only [k_sk1, sw, ite_true, ite_false] <;> rfl) rfl rfl rfl
    · refine ⟨138, rfl, ?_⟩
      refine w_iconst (x := Int32.ofNat 1) rfl rfl (by decide) ?_
      exact w_iret rfl (by first | (simp +decide only [k_sk1, sw, ite_true, ite_false] <;> rfl) | (simp only [k_sk1, sw 59 (by decide) (by decide), sw 40 (by decide) (by decide), sw 41 (by decide) (by decide), sw 60 (by decide) (by decide), sw 61 (by decide) (by decide), sw 62 (by decide) (by decide), sw 43 (by decide) (by decide), sw 45 (by decide) (by decide), sw 42 (by decide) (by decide), sw 47 (by decide) (by decide), ite_false] <;> rfl)) rfl rfl rfl
    · refine ⟨135, rfl, ?_⟩
      refine w_bipush (x := Int32.ofNat 52) rfl rfl (by decide) ?_
      exact w_iret rfl (by simp +decide only [k_sk1, sw, ite_true, ite_false] <;> rfl) rfl rfl rfl
    · refine ⟨138, rfl, ?_⟩
      refine w_iconst (x := Int32.ofNat 1) rfl rfl (by decide) ?_
      exact w_iret rfl (by first | (simp +decide only [k_sk1, sw, ite_true, ite_false] <;> rfl) | (simp only [k_sk1, sw 59 (by decide) (by decide), sw 40 (by decide) (by decide), sw 41 (by decide) (by decide), sw 60 (by decide) (by decide), sw 61 (by decide) (by decide), sw 62 (by decide) (by decide), sw 43 (by decide) (by decide), sw 45 (by decide) (by decide), sw 42 (by decide) (by decide), sw 47 (by decide) (by decide), ite_false] <;> rfl)) rfl rfl rfl
    · refine ⟨138, rfl, ?_⟩
      refine w_iconst (x := Int32.ofNat 1) rfl rfl (by decide) ?_
      exact w_iret rfl (by first | (simp +decide only [k_sk1, sw, ite_true, ite_false] <;> rfl) | (simp only [k_sk1, sw 59 (by decide) (by decide), sw 40 (by decide) (by decide), sw 41 (by decide) (by decide), sw 60 (by decide) (by decide), sw 61 (by decide) (by decide), sw 62 (by decide) (by decide), sw 43 (by decide) (by decide), sw 45 (by decide) (by decide), sw 42 (by decide) (by decide), sw 47 (by decide) (by decide), ite_false] <;> rfl)) rfl rfl rfl
    · refine ⟨138, rfl, ?_⟩
      refine w_iconst (x := Int32.ofNat 1) rfl rfl (by decide) ?_
      exact w_iret rfl (by first | (simp +decide only [k_sk1, sw, ite_true, ite_false] <;> rfl) | (simp only [k_sk1, sw 59 (by decide) (by decide), sw 40 (by decide) (by decide), sw 41 (by decide) (by decide), sw 60 (by decide) (by decide), sw 61 (by decide) (by decide), sw 62 (by decide) (by decide), sw 43 (by decide) (by decide), sw 45 (by decide) (by decide), sw 42 (by decide) (by decide), sw 47 (by decide) (by decide), ite_false] <;> rfl)) rfl rfl rfl
    · refine ⟨138, rfl, ?_⟩
      refine w_iconst (x := Int32.ofNat 1) rfl rfl (by decide) ?_
      exact w_iret rfl (by first | (simp +decide only [k_sk1, sw, ite_true, ite_false] <;> rfl) | (simp only [k_sk1, sw 59 (by decide) (by decide), sw 40 (by decide) (by decide), sw 41 (by decide) (by decide), sw 60 (by decide) (by decide), sw 61 (by decide) (by decide), sw 62 (by decide) (by decide), sw 43 (by decide) (by decide), sw 45 (by decide) (by decide), sw 42 (by decide) (by decide), sw 47 (by decide) (by decide), ite_false] <;> rfl)) rfl rfl rfl
    · refine ⟨138, rfl, ?_⟩
      refine w_iconst (x := Int32.ofNat 1) rfl rfl (by decide) ?_
      exact w_iret rfl (by first | (simp +decide only [k_sk1, sw, ite_true, ite_false] <;> rfl) | (simp only [k_sk1, sw 59 (by decide) (by decide), sw 40 (by decide) (by decide), sw 41 (by decide) (by decide), sw 60 (by decide) (by decide), sw 61 (by decide) (by decide), sw 62 (by decide) (by decide), sw 43 (by decide) (by decide), sw 45 (by decide) (by decide), sw 42 (by decide) (by decide), sw 47 (by decide) (by decide), ite_false] <;> rfl)) rfl rfl rfl
    · refine ⟨138, rfl, ?_⟩
      refine w_iconst (x := Int32.ofNat 1) rfl rfl (by decide) ?_
      exact w_iret rfl (by first | (simp +decide only [k_sk1, sw, ite_true, ite_false] <;> rfl) | (simp only [k_sk1, sw 59 (by decide) (by decide), sw 40 (by decide) (by decide), sw 41 (by decide) (by decide), sw 60 (by decide) (by decide), sw 61 (by decide) (by decide), sw 62 (by decide) (by decide), sw 43 (by decide) (by decide), sw 45 (by decide) (by decide), sw 42 (by decide) (by decide), sw 47 (by decide) (by decide), ite_false] <;> rfl)) rfl rfl rfl
    · refine ⟨138, rfl, ?_⟩
      refine w_iconst (x := Int32.ofNat 1) rfl rfl (by decide) ?_
      exact w_iret rfl (by first | (simp +decide only [k_sk1, sw, ite_true, ite_false] <;> rfl) | (simp only [k_sk1, sw 59 (by decide) (by decide), sw 40 (by decide) (by decide), sw 41 (by decide) (by decide), sw 60 (by decide) (by decide), sw 61 (by decide) (by decide), sw 62 (by decide) (by decide), sw 43 (by decide) (by decide), sw 45 (by decide) (by decide), sw 42 (by decide) (by decide), sw 47 (by decide) (by decide), ite_false] <;> rfl)) rfl rfl rfl
    · refine ⟨138, rfl, ?_⟩
      refine w_iconst (x := Int32.ofNat 1) rfl rfl (by decide) ?_
      exact w_iret rfl (by first | (simp +decide only [k_sk1, sw, ite_true, ite_false] <;> rfl) | (simp only [k_sk1, sw 59 (by decide) (by decide), sw 40 (by decide) (by decide), sw 41 (by decide) (by decide), sw 60 (by decide) (by decide), sw 61 (by decide) (by decide), sw 62 (by decide) (by decide), sw 43 (by decide) (by decide), sw 45 (by decide) (by decide), sw 42 (by decide) (by decide), sw 47 (by decide) (by decide), ite_false] <;> rfl)) rfl rfl rfl
    · refine ⟨138, rfl, ?_⟩
      refine w_iconst (x := Int32.ofNat 1) rfl rfl (by decide) ?_
      exact w_iret rfl (by first | (simp +decide only [k_sk1, sw, ite_true, ite_false] <;> rfl) | (simp only [k_sk1, sw 59 (by decide) (by decide), sw 40 (by decide) (by decide), sw 41 (by decide) (by decide), sw 60 (by decide) (by decide), sw 61 (by decide) (by decide), sw 62 (by decide) (by decide), sw 43 (by decide) (by decide), sw 45 (by decide) (by decide), sw 42 (by decide) (by decide), sw 47 (by decide) (by decide), ite_false] <;> rfl)) rfl rfl rfl
    · refine ⟨138, rfl, ?_⟩
      refine w_iconst (x := Int32.ofNat 1) rfl rfl (by decide) ?_
      exact w_iret rfl (by first | (simp +decide only [k_sk1, sw, ite_true, ite_false] <;> rfl) | (simp only [k_sk1, sw 59 (by decide) (by decide), sw 40 (by decide) (by decide), sw 41 (by decide) (by decide), sw 60 (by decide) (by decide), sw 61 (by decide) (by decide), sw 62 (by decide) (by decide), sw 43 (by decide) (by decide), sw 45 (by decide) (by decide), sw 42 (by decide) (by decide), sw 47 (by decide) (by decide), ite_false] <;> rfl)) rfl rfl rfl
    · refine ⟨138, rfl, ?_⟩
      refine w_iconst (x := Int32.ofNat 1) rfl rfl (by decide) ?_
      exact w_iret rfl (by first | (simp +decide only [k_sk1, sw, ite_true, ite_false] <;> rfl) | (simp only [k_sk1, sw 59 (by decide) (by decide), sw 40 (by decide) (by decide), sw 41 (by decide) (by decide), sw 60 (by decide) (by decide), sw 61 (by decide) (by decide), sw 62 (by decide) (by decide), sw 43 (by decide) (by decide), sw 45 (by decide) (by decide), sw 42 (by decide) (by decide), sw 47 (by decide) (by decide), ite_false] <;> rfl)) rfl rfl rfl
    · refine ⟨108, rfl, ?_⟩
      refine w_bipush (x := Int32.ofNat 40) rfl rfl (by decide) ?_
      exact w_iret rfl (by simp +decide only [k_sk1, sw, ite_true, ite_false] <;> rfl) rfl rfl rfl
    · refine ⟨117, rfl, ?_⟩
      refine w_bipush (x := Int32.ofNat 43) rfl rfl (by decide) ?_
      exact w_iret rfl (by simp +decide only [k_sk1, sw, ite_true, ite_false] <;> rfl) rfl rfl rfl
    · refine ⟨120, rfl, ?_⟩
      refine w_bipush (x := Int32.ofNat 45) rfl rfl (by decide) ?_
      exact w_iret rfl (by simp +decide only [k_sk1, sw, ite_true, ite_false] <;> rfl) rfl rfl rfl
    · refine ⟨123, rfl, ?_⟩
      refine w_bipush (x := Int32.ofNat 48) rfl rfl (by decide) ?_
      exact w_iret rfl (by simp +decide only [k_sk1, sw, ite_true, ite_false] <;> rfl) rfl rfl rfl
/-- a token's row: next, kind, value -/
def u_3 (I : hI) (q : Nat × Int32 × Int32) : hI := fun b j => if b = 3 ∧ j = 3 then Int32.ofNat q.1 else if b = 3 ∧ j = 4 then q.2.1 else if b = 3 ∧ j = 6 then q.2.2 else I b j
def u_sg (f : Nat → Int32) (st p : Nat) : Nat × Int32 := if k_sk1 (f p) = Int32.ofNat 43 ∧ sgT f st p = Int32.ofNat 61 then (p + 2, Int32.ofNat 44) else if k_sk1 (f p) = Int32.ofNat 43 ∧ sgT f st p = Int32.ofNat 62 then (p + 2, Int32.ofNat 46) else if k_sk1 (f p) = Int32.ofNat 48 ∧ sgT f st p = Int32.ofNat 61 then (p + 2, Int32.ofNat 47) else (p + 1, k_sk1 (f p))
def u_w (f : Nat → Int32) : Nat → Nat → Int32 → Nat → Nat × Int32 × Nat
  | 0, p, x, c => (p, x, c)
  | j + 1, p, x, c => if k_ltP (f p) then u_w f j (p + 1) (if c < 6 then x * Int32.ofNat 32 + f p - Int32.ofNat 97 + Int32.ofNat 1 else x) (c + 1) else (p, x, c)
theorem u_w_s (f : Nat → Int32) (j p : Nat) (x : Int32) (c : Nat) : u_w f (j + 1) p x c = if k_ltP (f p) then u_w f j (p + 1) (if c < 6 then x * Int32.ofNat 32 + f p - Int32.ofNat 97 + Int32.ofNat 1 else x) (c + 1) else (p, x, c) := rfl
theorem u_w_le (f : Nat → Int32) : ∀ j p x c, p ≤ (u_w f j p x c).1 ∧ (u_w f j p x c).1 ≤ p + j ∧ (u_w f j p x c).2.2 + p = c + (u_w f j p x c).1 := by
  intro j
  induction j with
  | zero => intro p x c; exact ⟨Nat.le_refl _, Nat.le_refl _, rfl⟩
  | succ j ih =>
    intro p x c
    rw [u_w_s]
    split
    · have := ih (p + 1) (if c < 6 then x * Int32.ofNat 32 + f p - Int32.ofNat 97 + Int32.ofNat 1 else x) (c + 1); omega
    · exact ⟨Nat.le_refl _, Nat.le_add_right _ _, rfl⟩
def u_d (f : Nat → Int32) : Nat → Nat → Int32 → Nat × Int32
  | 0, p, w => (p, w)
  | j + 1, p, w => if k_dgP (f p) then u_d f j (p + 1) (if Int32.ofNat 1000000 < w * Int32.ofNat 10 + f p - Int32.ofNat 48 then Int32.ofNat 1000000 else w * Int32.ofNat 10 + f p - Int32.ofNat 48) else (p, w)
theorem u_d_s (f : Nat → Int32) (j p : Nat) (w : Int32) : u_d f (j + 1) p w = if k_dgP (f p) then u_d f j (p + 1) (if Int32.ofNat 1000000 < w * Int32.ofNat 10 + f p - Int32.ofNat 48 then Int32.ofNat 1000000 else w * Int32.ofNat 10 + f p - Int32.ofNat 48) else (p, w) := rfl
theorem u_d_le (f : Nat → Int32) : ∀ j p w, p ≤ (u_d f j p w).1 ∧ (u_d f j p w).1 ≤ p + j := by
  intro j
  induction j with
  | zero => intro p w; exact ⟨Nat.le_refl _, Nat.le_refl _⟩
  | succ j ih =>
    intro p w
    rw [u_d_s]
    split
    · have := ih (p + 1) (if Int32.ofNat 1000000 < w * Int32.ofNat 10 + f p - Int32.ofNat 48 then Int32.ofNat 1000000 else w * Int32.ofNat 10 + f p - Int32.ofNat 48); omega
    · exact ⟨Nat.le_refl _, Nat.le_add_right _ _⟩
def u_wd (g f : Nat → Int32) (st a : Nat) : Nat × Int32 × Int32 := ((u_w f (st - a) a (Int32.ofNat 0) 0).1, (if 6 < (u_w f (st - a) a (Int32.ofNat 0) 0).2.2 then Int32.ofNat 1 else k_wk g (k_fl (6 - (u_w f (st - a) a (Int32.ofNat 0) 0).2.2) (u_w f (st - a) a (Int32.ofNat 0) 0).2.1) 21 0), k_fl (6 - (u_w f (st - a) a (Int32.ofNat 0) 0).2.2) (u_w f (st - a) a (Int32.ofNat 0) 0).2.1)
/-- the token at a: next, kind, value -/
def u_one (g f : Nat → Int32) (st a : Nat) : Nat × Int32 × Int32 :=
  if a = st then (a, Int32.ofNat 0, Int32.ofNat 0)
  else if k_ltP (f a) then u_wd g f st a
  else if k_dgP (f a) then ((u_d f (st - a) a (Int32.ofNat 0)).1, Int32.ofNat 2, (u_d f (st - a) a (Int32.ofNat 0)).2)
  else ((u_sg f st a).1, (u_sg f st a).2, Int32.ofNat 0)
def u_tk (I : hI) (f : Nat → Int32) (st p : Nat) : hI := u_3 (am_u I 3 5 (Int32.ofNat (t_at f st p))) (u_one (I 4) f st (t_at f st p))
theorem d_stepSign {k : Nat} {I : hI} {J : hJ} {R : hR} {f : Nat → Int32} {st p : Nat} (hf : I 1 = f) (h2 : I 3 2 = Int32.ofNat st) (h3 : I 3 3 = Int32.ofNat p) (hp : p < st) (hs : st ≤ 700) (hB : R 3 1 = 1) (hk : 2 ≤ k) : ct k 98 [.ref 3] I J R none (am_u (am_u I 3 3 (Int32.ofNat (u_sg f st p).1)) 3 4 (u_sg f st p).2) J R := by
  obtain ⟨k, rfl⟩ : ∃ k', k = k' + 1 := ⟨k - 1, by omega⟩
  refine ct_of (q := am_m98) (o := 9) (rt := none) (co := am_c98) (L := [_, _]) rfl rfl rfl rfl rfl rfl ?_
  refine w_aload_n rfl rfl rfl ?_
  refine w_gf (t := .int 0) (v := .int _) rfl rfl rfl sp3 rfl (congrArg Value.int h3) rfl ?_
  refine w_iconst (x := Int32.ofNat 1) rfl rfl (by decide) ?_
  refine w_iaddN rfl rfl ?_
  refine w_aload_n rfl rfl rfl ?_
  refine w_gf (t := .int 0) (v := .int _) rfl rfl rfl sp3 rfl (congrArg Value.int h2) rfl ?_
  refine w_ic_geN (t := 27) (f := 13) rfl rfl rfl (by omega) (by omega) (fun c10 => ?_) (fun c10 => ?_)
  · refine w_iconst (x := Int32.ofNat 0) rfl rfl (by decide) ?_
    refine w_istore_n (L' := [_, _]) rfl rfl rfl ?_
    refine w_aload_n rfl rfl rfl ?_
    refine w_aload_n rfl rfl rfl ?_
    refine w_gf (t := .retAddr 0) (v := .ref (1)) rfl rfl rfl sp3 rfl (congrArg Value.ref hB) rfl ?_
    refine w_aload_n rfl rfl rfl ?_
    refine w_gf (t := .int 0) (v := .int _) rfl rfl rfl sp3 rfl (congrArg Value.int h3) rfl ?_
    refine w_iaload rfl rfl sp1 rfl ⟨by omega, by omega⟩ (congrFun hf _) ?_
    refine w_cs (q := am_m99) (na := 1) (as := [_]) (st' := [_, _]) rfl rfl rfl rfl (by decide) rfl rfl (Nat.le_of_ble_eq_true rfl) rfl rfl rfl (d_signKind (by omega)) rfl rfl ?_
    refine w_pf rfl rfl rfl sp3 rfl rfl rfl ?_
    refine w_aload_n rfl rfl rfl ?_
    refine w_dup rfl rfl rfl ?_
    refine w_gf (t := .int 0) (v := .int _) rfl rfl rfl sp3 rfl (congrArg Value.int ((am_u_nk (by decide)).trans h3)) rfl ?_
    refine w_iconst (x := Int32.ofNat 1) rfl rfl (by decide) ?_
    refine w_iaddN rfl rfl ?_
    refine w_pf rfl rfl rfl sp3 rfl rfl rfl ?_
    refine w_aload_n rfl rfl rfl ?_
    refine w_gf (t := .int 0) (v := .int _) rfl rfl rfl sp3 rfl (congrArg Value.int ((am_u_nk (by decide)).trans am_u_at)) rfl ?_
    refine w_bipush (x := Int32.ofNat 43) rfl rfl (by decide) ?_
    refine w_ic_ne (t := 89) (f := 64) rfl rfl rfl (fun c61 => ?_) (fun c61 => ?_)
    · refine w_aload_n rfl rfl rfl ?_
      refine w_gf (t := .int 0) (v := .int _) rfl rfl rfl sp3 rfl (congrArg Value.int ((am_u_nk (by decide)).trans am_u_at)) rfl ?_
      refine w_bipush (x := Int32.ofNat 43) rfl rfl (by decide) ?_
      refine w_ic_ne (t := 123) (f := 98) rfl rfl rfl (fun c95 => ?_) (fun c95 => ?_)
      · refine w_aload_n rfl rfl rfl ?_
        refine w_gf (t := .int 0) (v := .int _) rfl rfl rfl sp3 rfl (congrArg Value.int ((am_u_nk (by decide)).trans am_u_at)) rfl ?_
        refine w_bipush (x := Int32.ofNat 48) rfl rfl (by decide) ?_
        refine w_ic_ne (t := 154) (f := 132) rfl rfl rfl (fun c129 => ?_) (fun c129 => ?_)
        · exact w_ret rfl (by unfold u_sg sgT; (first | rw [if_pos (show st ≤ p + 1 from c10)] | rw [if_neg (show ¬ st ≤ p + 1 from c10)]); simp +decide only [*, ite_true, ite_false, and_self, and_true, true_and, and_false, false_and]; funext b j; simp only [u_3, am_u]; (repeat' split) <;> first | rfl | (exfalso; omega) | simp_all) rfl rfl
        · refine w_iload_n rfl rfl rfl ?_
          refine w_bipush (x := Int32.ofNat 61) rfl rfl (by decide) ?_
          refine w_ic_neN (t := 154) (f := 138) rfl rfl rfl (by omega) (by omega) (fun c135 => ?_) (fun c135 => absurd c135 (by omega))
          clear c135
          exact w_ret rfl (by unfold u_sg sgT; (first | rw [if_pos (show st ≤ p + 1 from c10)] | rw [if_neg (show ¬ st ≤ p + 1 from c10)]); simp +decide only [*, ite_true, ite_false, and_self, and_true, true_and, and_false, false_and]; funext b j; simp only [u_3, am_u]; (repeat' split) <;> first | rfl | (exfalso; omega) | simp_all) rfl rfl
      · refine w_iload_n rfl rfl rfl ?_
        refine w_bipush (x := Int32.ofNat 62) rfl rfl (by decide) ?_
        refine w_ic_neN (t := 123) (f := 104) rfl rfl rfl (by omega) (by omega) (fun c101 => ?_) (fun c101 => absurd c101 (by omega))
        clear c101
        refine w_aload_n rfl rfl rfl ?_
        refine w_gf (t := .int 0) (v := .int _) rfl rfl rfl sp3 rfl (congrArg Value.int ((am_u_nk (by decide)).trans am_u_at)) rfl ?_
        refine w_bipush (x := Int32.ofNat 48) rfl rfl (by decide) ?_
        refine w_ic_ne (t := 154) (f := 132) rfl rfl rfl (fun c129 => ?_) (fun c129 => ?_)
        · exact w_ret rfl (by unfold u_sg sgT; (first | rw [if_pos (show st ≤ p + 1 from c10)] | rw [if_neg (show ¬ st ≤ p + 1 from c10)]); simp +decide only [*, ite_true, ite_false, and_self, and_true, true_and, and_false, false_and]; funext b j; simp only [u_3, am_u]; (repeat' split) <;> first | rfl | (exfalso; omega) | simp_all) rfl rfl
        · refine w_iload_n rfl rfl rfl ?_
          refine w_bipush (x := Int32.ofNat 61) rfl rfl (by decide) ?_
          refine w_ic_neN (t := 154) (f := 138) rfl rfl rfl (by omega) (by omega) (fun c135 => ?_) (fun c135 => absurd c135 (by omega))
          clear c135
          exact w_ret rfl (by unfold u_sg sgT; (first | rw [if_pos (show st ≤ p + 1 from c10)] | rw [if_neg (show ¬ st ≤ p + 1 from c10)]); simp +decide only [*, ite_true, ite_false, and_self, and_true, true_and, and_false, false_and]; funext b j; simp only [u_3, am_u]; (repeat' split) <;> first | rfl | (exfalso; omega) | simp_all) rfl rfl
    · refine w_iload_n rfl rfl rfl ?_
      refine w_bipush (x := Int32.ofNat 61) rfl rfl (by decide) ?_
      refine w_ic_neN (t := 89) (f := 70) rfl rfl rfl (by omega) (by omega) (fun c67 => ?_) (fun c67 => absurd c67 (by omega))
      clear c67
      refine w_aload_n rfl rfl rfl ?_
      refine w_gf (t := .int 0) (v := .int _) rfl rfl rfl sp3 rfl (congrArg Value.int ((am_u_nk (by decide)).trans am_u_at)) rfl ?_
      refine w_bipush (x := Int32.ofNat 43) rfl rfl (by decide) ?_
      refine w_ic_ne (t := 123) (f := 98) rfl rfl rfl (fun c95 => ?_) (fun c95 => ?_)
      · refine w_aload_n rfl rfl rfl ?_
        refine w_gf (t := .int 0) (v := .int _) rfl rfl rfl sp3 rfl (congrArg Value.int ((am_u_nk (by decide)).trans am_u_at)) rfl ?_
        refine w_bipush (x := Int32.ofNat 48) rfl rfl (by decide) ?_
        refine w_ic_ne (t := 154) (f := 132) rfl rfl rfl (fun c129 => ?_) (fun c129 => ?_)
        · exact w_ret rfl (by unfold u_sg sgT; (first | rw [if_pos (show st ≤ p + 1 from c10)] | rw [if_neg (show ¬ st ≤ p + 1 from c10)]); simp +decide only [*, ite_true, ite_false, and_self, and_true, true_and, and_false, false_and]; funext b j; simp only [u_3, am_u]; (repeat' split) <;> first | rfl | (exfalso; omega) | simp_all) rfl rfl
        · refine w_iload_n rfl rfl rfl ?_
          refine w_bipush (x := Int32.ofNat 61) rfl rfl (by decide) ?_
          refine w_ic_neN (t := 154) (f := 138) rfl rfl rfl (by omega) (by omega) (fun c135 => ?_) (fun c135 => absurd c135 (by omega))
          clear c135
          exact w_ret rfl (by unfold u_sg sgT; (first | rw [if_pos (show st ≤ p + 1 from c10)] | rw [if_neg (show ¬ st ≤ p + 1 from c10)]); simp +decide only [*, ite_true, ite_false, and_self, and_true, true_and, and_false, false_and]; funext b j; simp only [u_3, am_u]; (repeat' split) <;> first | rfl | (exfalso; omega) | simp_all) rfl rfl
      · refine w_iload_n rfl rfl rfl ?_
        refine w_bipush (x := Int32.ofNat 62) rfl rfl (by decide) ?_
        refine w_ic_neN (t := 123) (f := 104) rfl rfl rfl (by omega) (by omega) (fun c101 => ?_) (fun c101 => absurd c101 (by omega))
        clear c101
        refine w_aload_n rfl rfl rfl ?_
        refine w_gf (t := .int 0) (v := .int _) rfl rfl rfl sp3 rfl (congrArg Value.int ((am_u_nk (by decide)).trans am_u_at)) rfl ?_
        refine w_bipush (x := Int32.ofNat 48) rfl rfl (by decide) ?_
        refine w_ic_ne (t := 154) (f := 132) rfl rfl rfl (fun c129 => ?_) (fun c129 => ?_)
        · exact w_ret rfl (by unfold u_sg sgT; (first | rw [if_pos (show st ≤ p + 1 from c10)] | rw [if_neg (show ¬ st ≤ p + 1 from c10)]); simp +decide only [*, ite_true, ite_false, and_self, and_true, true_and, and_false, false_and]; funext b j; simp only [u_3, am_u]; (repeat' split) <;> first | rfl | (exfalso; omega) | simp_all) rfl rfl
        · refine w_iload_n rfl rfl rfl ?_
          refine w_bipush (x := Int32.ofNat 61) rfl rfl (by decide) ?_
          refine w_ic_neN (t := 154) (f := 138) rfl rfl rfl (by omega) (by omega) (fun c135 => ?_) (fun c135 => absurd c135 (by omega))
          clear c135
          exact w_ret rfl (by unfold u_sg sgT; (first | rw [if_pos (show st ≤ p + 1 from c10)] | rw [if_neg (show ¬ st ≤ p + 1 from c10)]); simp +decide only [*, ite_true, ite_false, and_self, and_true, true_and, and_false, false_and]; funext b j; simp only [u_3, am_u]; (repeat' split) <;> first | rfl | (exfalso; omega) | simp_all) rfl rfl
  · refine w_aload_n rfl rfl rfl ?_
    refine w_gf (t := .retAddr 0) (v := .ref (1)) rfl rfl rfl sp3 rfl (congrArg Value.ref hB) rfl ?_
    refine w_aload_n rfl rfl rfl ?_
    refine w_gf (t := .int 0) (v := .int _) rfl rfl rfl sp3 rfl (congrArg Value.int h3) rfl ?_
    refine w_iconst (x := Int32.ofNat 1) rfl rfl (by decide) ?_
    refine w_iaddN rfl rfl ?_
    refine w_iaload rfl rfl sp1 rfl ⟨by omega, by omega⟩ (congrFun hf _) ?_
    refine w_goto (pc' := 28) rfl rfl ?_
    refine w_istore_n (L' := [_, _]) rfl rfl rfl ?_
    refine w_aload_n rfl rfl rfl ?_
    refine w_aload_n rfl rfl rfl ?_
    refine w_gf (t := .retAddr 0) (v := .ref (1)) rfl rfl rfl sp3 rfl (congrArg Value.ref hB) rfl ?_
    refine w_aload_n rfl rfl rfl ?_
    refine w_gf (t := .int 0) (v := .int _) rfl rfl rfl sp3 rfl (congrArg Value.int h3) rfl ?_
    refine w_iaload rfl rfl sp1 rfl ⟨by omega, by omega⟩ (congrFun hf _) ?_
    refine w_cs (q := am_m99) (na := 1) (as := [_]) (st' := [_, _]) rfl rfl rfl rfl (by decide) rfl rfl (Nat.le_of_ble_eq_true rfl) rfl rfl rfl (d_signKind (by omega)) rfl rfl ?_
    refine w_pf rfl rfl rfl sp3 rfl rfl rfl ?_
    refine w_aload_n rfl rfl rfl ?_
    refine w_dup rfl rfl rfl ?_
    refine w_gf (t := .int 0) (v := .int _) rfl rfl rfl sp3 rfl (congrArg Value.int ((am_u_nk (by decide)).trans h3)) rfl ?_
    refine w_iconst (x := Int32.ofNat 1) rfl rfl (by decide) ?_
    refine w_iaddN rfl rfl ?_
    refine w_pf rfl rfl rfl sp3 rfl rfl rfl ?_
    refine w_aload_n rfl rfl rfl ?_
    refine w_gf (t := .int 0) (v := .int _) rfl rfl rfl sp3 rfl (congrArg Value.int ((am_u_nk (by decide)).trans am_u_at)) rfl ?_
    refine w_bipush (x := Int32.ofNat 43) rfl rfl (by decide) ?_
    refine w_ic_ne (t := 89) (f := 64) rfl rfl rfl (fun c61 => ?_) (fun c61 => ?_)
    · refine w_aload_n rfl rfl rfl ?_
      refine w_gf (t := .int 0) (v := .int _) rfl rfl rfl sp3 rfl (congrArg Value.int ((am_u_nk (by decide)).trans am_u_at)) rfl ?_
      refine w_bipush (x := Int32.ofNat 43) rfl rfl (by decide) ?_
      refine w_ic_ne (t := 123) (f := 98) rfl rfl rfl (fun c95 => ?_) (fun c95 => ?_)
      · refine w_aload_n rfl rfl rfl ?_
        refine w_gf (t := .int 0) (v := .int _) rfl rfl rfl sp3 rfl (congrArg Value.int ((am_u_nk (by decide)).trans am_u_at)) rfl ?_
        refine w_bipush (x := Int32.ofNat 48) rfl rfl (by decide) ?_
        refine w_ic_ne (t := 154) (f := 132) rfl rfl rfl (fun c129 => ?_) (fun c129 => ?_)
        · exact w_ret rfl (by unfold u_sg sgT; (first | rw [if_pos (show st ≤ p + 1 from c10)] | rw [if_neg (show ¬ st ≤ p + 1 from c10)]); simp +decide only [*, ite_true, ite_false, and_self, and_true, true_and, and_false, false_and]; funext b j; simp only [u_3, am_u]; (repeat' split) <;> first | rfl | (exfalso; omega) | simp_all) rfl rfl
        · refine w_iload_n rfl rfl rfl ?_
          refine w_bipush (x := Int32.ofNat 61) rfl rfl (by decide) ?_
          refine w_ic_ne (t := 154) (f := 138) rfl rfl rfl (fun c135 => ?_) (fun c135 => ?_)
          · exact w_ret rfl (by unfold u_sg sgT; (first | rw [if_pos (show st ≤ p + 1 from c10)] | rw [if_neg (show ¬ st ≤ p + 1 from c10)]); simp +decide only [*, ite_true, ite_false, and_self, and_true, true_and, and_false, false_and]; funext b j; simp only [u_3, am_u]; (repeat' split) <;> first | rfl | (exfalso; omega) | simp_all) rfl rfl
          · refine w_aload_n rfl rfl rfl ?_
            refine w_bipush (x := Int32.ofNat 47) rfl rfl (by decide) ?_
            refine w_pf rfl rfl rfl sp3 rfl rfl rfl ?_
            refine w_aload_n rfl rfl rfl ?_
            refine w_dup rfl rfl rfl ?_
            refine w_gf (t := .int 0) (v := .int _) rfl rfl rfl sp3 rfl (congrArg Value.int ((am_u_nk (by decide)).trans am_u_at)) rfl ?_
            refine w_iconst (x := Int32.ofNat 1) rfl rfl (by decide) ?_
            refine w_iaddN rfl rfl ?_
            refine w_pf rfl rfl rfl sp3 rfl rfl rfl ?_
            exact w_ret rfl (by unfold u_sg sgT; (first | rw [if_pos (show st ≤ p + 1 from c10)] | rw [if_neg (show ¬ st ≤ p + 1 from c10)]); simp +decide only [*, ite_true, ite_false, and_self, and_true, true_and, and_false, false_and]; funext b j; simp only [u_3, am_u]; (repeat' split) <;> first | rfl | (exfalso; omega) | simp_all) rfl rfl
      · refine w_iload_n rfl rfl rfl ?_
        refine w_bipush (x := Int32.ofNat 62) rfl rfl (by decide) ?_
        refine w_ic_ne (t := 123) (f := 104) rfl rfl rfl (fun c101 => ?_) (fun c101 => ?_)
        · refine w_aload_n rfl rfl rfl ?_
          refine w_gf (t := .int 0) (v := .int _) rfl rfl rfl sp3 rfl (congrArg Value.int ((am_u_nk (by decide)).trans am_u_at)) rfl ?_
          refine w_bipush (x := Int32.ofNat 48) rfl rfl (by decide) ?_
          refine w_ic_ne (t := 154) (f := 132) rfl rfl rfl (fun c129 => ?_) (fun c129 => ?_)
          · exact w_ret rfl (by unfold u_sg sgT; (first | rw [if_pos (show st ≤ p + 1 from c10)] | rw [if_neg (show ¬ st ≤ p + 1 from c10)]); simp +decide only [*, ite_true, ite_false, and_self, and_true, true_and, and_false, false_and]; funext b j; simp only [u_3, am_u]; (repeat' split) <;> first | rfl | (exfalso; omega) | simp_all) rfl rfl
          · refine w_iload_n rfl rfl rfl ?_
            refine w_bipush (x := Int32.ofNat 61) rfl rfl (by decide) ?_
            refine w_ic_ne (t := 154) (f := 138) rfl rfl rfl (fun c135 => ?_) (fun c135 => ?_)
            · exact w_ret rfl (by unfold u_sg sgT; (first | rw [if_pos (show st ≤ p + 1 from c10)] | rw [if_neg (show ¬ st ≤ p + 1 from c10)]); simp +decide only [*, ite_true, ite_false, and_self, and_true, true_and, and_false, false_and]; funext b j; simp only [u_3, am_u]; (repeat' split) <;> first | rfl | (exfalso; omega) | simp_all) rfl rfl
            · refine w_aload_n rfl rfl rfl ?_
              refine w_bipush (x := Int32.ofNat 47) rfl rfl (by decide) ?_
              refine w_pf rfl rfl rfl sp3 rfl rfl rfl ?_
              refine w_aload_n rfl rfl rfl ?_
              refine w_dup rfl rfl rfl ?_
              refine w_gf (t := .int 0) (v := .int _) rfl rfl rfl sp3 rfl (congrArg Value.int ((am_u_nk (by decide)).trans am_u_at)) rfl ?_
              refine w_iconst (x := Int32.ofNat 1) rfl rfl (by decide) ?_
              refine w_iaddN rfl rfl ?_
              refine w_pf rfl rfl rfl sp3 rfl rfl rfl ?_
              exact w_ret rfl (by unfold u_sg sgT; (first | rw [if_pos (show st ≤ p + 1 from c10)] | rw [if_neg (show ¬ st ≤ p + 1 from c10)]); simp +decide only [*, ite_true, ite_false, and_self, and_true, true_and, and_false, false_and]; funext b j; simp only [u_3, am_u]; (repeat' split) <;> first | rfl | (exfalso; omega) | simp_all) rfl rfl
        · refine w_aload_n rfl rfl rfl ?_
          refine w_bipush (x := Int32.ofNat 46) rfl rfl (by decide) ?_
          refine w_pf rfl rfl rfl sp3 rfl rfl rfl ?_
          refine w_aload_n rfl rfl rfl ?_
          refine w_dup rfl rfl rfl ?_
          refine w_gf (t := .int 0) (v := .int _) rfl rfl rfl sp3 rfl (congrArg Value.int ((am_u_nk (by decide)).trans am_u_at)) rfl ?_
          refine w_iconst (x := Int32.ofNat 1) rfl rfl (by decide) ?_
          refine w_iaddN rfl rfl ?_
          refine w_pf rfl rfl rfl sp3 rfl rfl rfl ?_
          refine w_goto (pc' := 154) rfl rfl ?_
          exact w_ret rfl (by unfold u_sg sgT; (first | rw [if_pos (show st ≤ p + 1 from c10)] | rw [if_neg (show ¬ st ≤ p + 1 from c10)]); simp +decide only [*, ite_true, ite_false, and_self, and_true, true_and, and_false, false_and]; funext b j; simp only [u_3, am_u]; (repeat' split) <;> first | rfl | (exfalso; omega) | simp_all) rfl rfl
    · refine w_iload_n rfl rfl rfl ?_
      refine w_bipush (x := Int32.ofNat 61) rfl rfl (by decide) ?_
      refine w_ic_ne (t := 89) (f := 70) rfl rfl rfl (fun c67 => ?_) (fun c67 => ?_)
      · refine w_aload_n rfl rfl rfl ?_
        refine w_gf (t := .int 0) (v := .int _) rfl rfl rfl sp3 rfl (congrArg Value.int ((am_u_nk (by decide)).trans am_u_at)) rfl ?_
        refine w_bipush (x := Int32.ofNat 43) rfl rfl (by decide) ?_
        refine w_ic_ne (t := 123) (f := 98) rfl rfl rfl (fun c95 => ?_) (fun c95 => ?_)
        · refine w_aload_n rfl rfl rfl ?_
          refine w_gf (t := .int 0) (v := .int _) rfl rfl rfl sp3 rfl (congrArg Value.int ((am_u_nk (by decide)).trans am_u_at)) rfl ?_
          refine w_bipush (x := Int32.ofNat 48) rfl rfl (by decide) ?_
          refine w_ic_ne (t := 154) (f := 132) rfl rfl rfl (fun c129 => ?_) (fun c129 => ?_)
          · exact w_ret rfl (by unfold u_sg sgT; (first | rw [if_pos (show st ≤ p + 1 from c10)] | rw [if_neg (show ¬ st ≤ p + 1 from c10)]); simp +decide only [*, ite_true, ite_false, and_self, and_true, true_and, and_false, false_and]; funext b j; simp only [u_3, am_u]; (repeat' split) <;> first | rfl | (exfalso; omega) | simp_all) rfl rfl
          · refine w_iload_n rfl rfl rfl ?_
            refine w_bipush (x := Int32.ofNat 61) rfl rfl (by decide) ?_
            refine w_ic_ne (t := 154) (f := 138) rfl rfl rfl (fun c135 => ?_) (fun c135 => ?_)
            · exact w_ret rfl (by unfold u_sg sgT; (first | rw [if_pos (show st ≤ p + 1 from c10)] | rw [if_neg (show ¬ st ≤ p + 1 from c10)]); simp +decide only [*, ite_true, ite_false, and_self, and_true, true_and, and_false, false_and]; funext b j; simp only [u_3, am_u]; (repeat' split) <;> first | rfl | (exfalso; omega) | simp_all) rfl rfl
            · refine w_aload_n rfl rfl rfl ?_
              refine w_bipush (x := Int32.ofNat 47) rfl rfl (by decide) ?_
              refine w_pf rfl rfl rfl sp3 rfl rfl rfl ?_
              refine w_aload_n rfl rfl rfl ?_
              refine w_dup rfl rfl rfl ?_
              refine w_gf (t := .int 0) (v := .int _) rfl rfl rfl sp3 rfl (congrArg Value.int ((am_u_nk (by decide)).trans am_u_at)) rfl ?_
              refine w_iconst (x := Int32.ofNat 1) rfl rfl (by decide) ?_
              refine w_iaddN rfl rfl ?_
              refine w_pf rfl rfl rfl sp3 rfl rfl rfl ?_
              exact w_ret rfl (by unfold u_sg sgT; (first | rw [if_pos (show st ≤ p + 1 from c10)] | rw [if_neg (show ¬ st ≤ p + 1 from c10)]); simp +decide only [*, ite_true, ite_false, and_self, and_true, true_and, and_false, false_and]; funext b j; simp only [u_3, am_u]; (repeat' split) <;> first | rfl | (exfalso; omega) | simp_all) rfl rfl
        · refine w_iload_n rfl rfl rfl ?_
          refine w_bipush (x := Int32.ofNat 62) rfl rfl (by decide) ?_
          refine w_ic_ne (t := 123) (f := 104) rfl rfl rfl (fun c101 => ?_) (fun c101 => ?_)
          · refine w_aload_n rfl rfl rfl ?_
            refine w_gf (t := .int 0) (v := .int _) rfl rfl rfl sp3 rfl (congrArg Value.int ((am_u_nk (by decide)).trans am_u_at)) rfl ?_
            refine w_bipush (x := Int32.ofNat 48) rfl rfl (by decide) ?_
            refine w_ic_ne (t := 154) (f := 132) rfl rfl rfl (fun c129 => ?_) (fun c129 => ?_)
            · exact w_ret rfl (by unfold u_sg sgT; (first | rw [if_pos (show st ≤ p + 1 from c10)] | rw [if_neg (show ¬ st ≤ p + 1 from c10)]); simp +decide only [*, ite_true, ite_false, and_self, and_true, true_and, and_false, false_and]; funext b j; simp only [u_3, am_u]; (repeat' split) <;> first | rfl | (exfalso; omega) | simp_all) rfl rfl
            · refine w_iload_n rfl rfl rfl ?_
              refine w_bipush (x := Int32.ofNat 61) rfl rfl (by decide) ?_
              refine w_ic_ne (t := 154) (f := 138) rfl rfl rfl (fun c135 => ?_) (fun c135 => ?_)
              · exact w_ret rfl (by unfold u_sg sgT; (first | rw [if_pos (show st ≤ p + 1 from c10)] | rw [if_neg (show ¬ st ≤ p + 1 from c10)]); simp +decide only [*, ite_true, ite_false, and_self, and_true, true_and, and_false, false_and]; funext b j; simp only [u_3, am_u]; (repeat' split) <;> first | rfl | (exfalso; omega) | simp_all) rfl rfl
              · refine w_aload_n rfl rfl rfl ?_
                refine w_bipush (x := Int32.ofNat 47) rfl rfl (by decide) ?_
                refine w_pf rfl rfl rfl sp3 rfl rfl rfl ?_
                refine w_aload_n rfl rfl rfl ?_
                refine w_dup rfl rfl rfl ?_
                refine w_gf (t := .int 0) (v := .int _) rfl rfl rfl sp3 rfl (congrArg Value.int ((am_u_nk (by decide)).trans am_u_at)) rfl ?_
                refine w_iconst (x := Int32.ofNat 1) rfl rfl (by decide) ?_
                refine w_iaddN rfl rfl ?_
                refine w_pf rfl rfl rfl sp3 rfl rfl rfl ?_
                exact w_ret rfl (by unfold u_sg sgT; (first | rw [if_pos (show st ≤ p + 1 from c10)] | rw [if_neg (show ¬ st ≤ p + 1 from c10)]); simp +decide only [*, ite_true, ite_false, and_self, and_true, true_and, and_false, false_and]; funext b j; simp only [u_3, am_u]; (repeat' split) <;> first | rfl | (exfalso; omega) | simp_all) rfl rfl
          · refine w_aload_n rfl rfl rfl ?_
            refine w_bipush (x := Int32.ofNat 46) rfl rfl (by decide) ?_
            refine w_pf rfl rfl rfl sp3 rfl rfl rfl ?_
            refine w_aload_n rfl rfl rfl ?_
            refine w_dup rfl rfl rfl ?_
            refine w_gf (t := .int 0) (v := .int _) rfl rfl rfl sp3 rfl (congrArg Value.int ((am_u_nk (by decide)).trans am_u_at)) rfl ?_
            refine w_iconst (x := Int32.ofNat 1) rfl rfl (by decide) ?_
            refine w_iaddN rfl rfl ?_
            refine w_pf rfl rfl rfl sp3 rfl rfl rfl ?_
            refine w_goto (pc' := 154) rfl rfl ?_
            exact w_ret rfl (by unfold u_sg sgT; (first | rw [if_pos (show st ≤ p + 1 from c10)] | rw [if_neg (show ¬ st ≤ p + 1 from c10)]); simp +decide only [*, ite_true, ite_false, and_self, and_true, true_and, and_false, false_and]; funext b j; simp only [u_3, am_u]; (repeat' split) <;> first | rfl | (exfalso; omega) | simp_all) rfl rfl
      · refine w_aload_n rfl rfl rfl ?_
        refine w_bipush (x := Int32.ofNat 44) rfl rfl (by decide) ?_
        refine w_pf rfl rfl rfl sp3 rfl rfl rfl ?_
        refine w_aload_n rfl rfl rfl ?_
        refine w_dup rfl rfl rfl ?_
        refine w_gf (t := .int 0) (v := .int _) rfl rfl rfl sp3 rfl (congrArg Value.int ((am_u_nk (by decide)).trans am_u_at)) rfl ?_
        refine w_iconst (x := Int32.ofNat 1) rfl rfl (by decide) ?_
        refine w_iaddN rfl rfl ?_
        refine w_pf rfl rfl rfl sp3 rfl rfl rfl ?_
        refine w_goto (pc' := 154) rfl rfl ?_
        exact w_ret rfl (by unfold u_sg sgT; (first | rw [if_pos (show st ≤ p + 1 from c10)] | rw [if_neg (show ¬ st ≤ p + 1 from c10)]); simp +decide only [*, ite_true, ite_false, and_self, and_true, true_and, and_false, false_and]; funext b j; simp only [u_3, am_u]; (repeat' split) <;> first | rfl | (exfalso; omega) | simp_all) rfl rfl
theorem l_skipC {k : Nat} {J : hJ} {R : hR} {q : Option Value × am_H} {f : Nat → Int32} {st : Nat} (hs : st ≤ 700) (hB : R 3 1 = 1) : ∀ (j p : Nat) (I : hI), p + j = st → I 1 = f → I 3 2 = Int32.ofNat st → I 3 3 = Int32.ofNat p → (wz k 9 none am_c93 52 [.ref 3] [] (am_u I 3 3 (Int32.ofNat (t_sk f j p))) J R q) → wz k 9 none am_c93 0 [.ref 3] [] I J R q := by
  intro j
  induction j with
  | zero =>
    intro p I e hf h2 h3 Z
    obtain rfl : st = p := by omega
    rw [show t_sk f 0 st = st from rfl, ← h3, am_u_self] at Z
    refine w_aload_n rfl rfl rfl ?_
    refine w_gf (t := .int 0) (v := .int _) rfl rfl rfl sp3 rfl (congrArg Value.int h3) rfl ?_
    refine w_aload_n rfl rfl rfl ?_
    refine w_gf (t := .int 0) (v := .int _) rfl rfl rfl sp3 rfl (congrArg Value.int h2) rfl ?_
    refine w_ic_geN (t := 52) (f := 11) rfl rfl rfl (by omega) (by omega) (fun c8 => ?_) (fun c8 => absurd c8 (by omega))
    exact Z
  | succ j ih =>
    intro p I e hf h2 h3 Z
    rw [t_sk_s] at Z
    refine w_aload_n rfl rfl rfl ?_
    refine w_gf (t := .int 0) (v := .int _) rfl rfl rfl sp3 rfl (congrArg Value.int h3) rfl ?_
    refine w_aload_n rfl rfl rfl ?_
    refine w_gf (t := .int 0) (v := .int _) rfl rfl rfl sp3 rfl (congrArg Value.int h2) rfl ?_
    refine w_ic_geN (t := 52) (f := 11) rfl rfl rfl (by omega) (by omega) (fun c8 => absurd c8 (by omega)) (fun c8 => ?_)
    refine w_aload_n rfl rfl rfl ?_
    refine w_gf (t := .retAddr 0) (v := .ref (1)) rfl rfl rfl sp3 rfl (congrArg Value.ref hB) rfl ?_
    refine w_aload_n rfl rfl rfl ?_
    refine w_gf (t := .int 0) (v := .int _) rfl rfl rfl sp3 rfl (congrArg Value.int h3) rfl ?_
    refine w_iaload rfl rfl sp1 rfl ⟨by omega, by omega⟩ (congrFun hf _) ?_
    refine w_bipush (x := Int32.ofNat 10) rfl rfl (by decide) ?_
    refine w_ic_eq (t := 39) (f := 25) rfl rfl rfl (fun c22 => ?_) (fun c22 => ?_)
    · refine w_aload_n rfl rfl rfl ?_
      refine w_dup rfl rfl rfl ?_
      refine w_gf (t := .int 0) (v := .int _) rfl rfl rfl sp3 rfl (congrArg Value.int h3) rfl ?_
      refine w_iconst (x := Int32.ofNat 1) rfl rfl (by decide) ?_
      refine w_iaddN rfl rfl ?_
      refine w_pf rfl rfl rfl sp3 rfl rfl rfl ?_
      refine w_goto (pc' := 0) rfl rfl ?_
      first | rw [if_pos (Or.inl c22)] at Z | rw [if_pos (Or.inr c36)] at Z
      exact ih (p + 1) (am_u I 3 3 (Int32.ofNat (p + 1))) (by omega) ((am_u_ne (by decide)).trans hf) ((am_u_nk (by decide)).trans h2) am_u_at (by rw [am_u_uu]; exact Z)
    · refine w_aload_n rfl rfl rfl ?_
      refine w_gf (t := .retAddr 0) (v := .ref (1)) rfl rfl rfl sp3 rfl (congrArg Value.ref hB) rfl ?_
      refine w_aload_n rfl rfl rfl ?_
      refine w_gf (t := .int 0) (v := .int _) rfl rfl rfl sp3 rfl (congrArg Value.int h3) rfl ?_
      refine w_iaload rfl rfl sp1 rfl ⟨by omega, by omega⟩ (congrFun hf _) ?_
      refine w_bipush (x := Int32.ofNat 32) rfl rfl (by decide) ?_
      refine w_ic_ne (t := 52) (f := 39) rfl rfl rfl (fun c36 => ?_) (fun c36 => ?_)
      · rw [if_neg (not_or.mpr (And.intro c22 c36)), ← h3, am_u_self] at Z
        exact Z
      · refine w_aload_n rfl rfl rfl ?_
        refine w_dup rfl rfl rfl ?_
        refine w_gf (t := .int 0) (v := .int _) rfl rfl rfl sp3 rfl (congrArg Value.int h3) rfl ?_
        refine w_iconst (x := Int32.ofNat 1) rfl rfl (by decide) ?_
        refine w_iaddN rfl rfl ?_
        refine w_pf rfl rfl rfl sp3 rfl rfl rfl ?_
        refine w_goto (pc' := 0) rfl rfl ?_
        first | rw [if_pos (Or.inl c22)] at Z | rw [if_pos (Or.inr c36)] at Z
        exact ih (p + 1) (am_u I 3 3 (Int32.ofNat (p + 1))) (by omega) ((am_u_ne (by decide)).trans hf) ((am_u_nk (by decide)).trans h2) am_u_at (by rw [am_u_uu]; exact Z)
theorem l_wordC {k : Nat} {J : hJ} {R : hR} {q : Option Value × am_H} {f : Nat → Int32} {st : Nat} (hs : st ≤ 700) (hB : R 3 1 = 1) (hk : 1 ≤ k) : ∀ (j p : Nat) (y : Int32) (c : Nat) (I : hI), p + j = st → c ≤ p → I 1 = f → I 3 2 = Int32.ofNat st → I 3 3 = Int32.ofNat p → (wz k 9 none am_c94 72 [.ref 3, .int (u_w f j p y c).2.1, .int (Int32.ofNat (u_w f j p y c).2.2)] [] (am_u I 3 3 (Int32.ofNat (u_w f j p y c).1)) J R q) → wz k 9 none am_c94 4 [.ref 3, .int y, .int (Int32.ofNat c)] [] I J R q := by
  intro j
  induction j with
  | zero =>
    intro p y c I e hc hf h2 h3 Z
    obtain rfl : st = p := by omega
    rw [show u_w f 0 st y c = (st, y, c) from rfl, ← h3, am_u_self] at Z
    refine w_aload_n rfl rfl rfl ?_
    refine w_gf (t := .int 0) (v := .int _) rfl rfl rfl sp3 rfl (congrArg Value.int h3) rfl ?_
    refine w_aload_n rfl rfl rfl ?_
    refine w_gf (t := .int 0) (v := .int _) rfl rfl rfl sp3 rfl (congrArg Value.int h2) rfl ?_
    refine w_ic_geN (t := 72) (f := 15) rfl rfl rfl (by omega) (by omega) (fun c12 => ?_) (fun c12 => absurd c12 (by omega))
    exact Z
  | succ j ih =>
    intro p y c I e hc hf h2 h3 Z
    rw [u_w_s] at Z
    refine w_aload_n rfl rfl rfl ?_
    refine w_gf (t := .int 0) (v := .int _) rfl rfl rfl sp3 rfl (congrArg Value.int h3) rfl ?_
    refine w_aload_n rfl rfl rfl ?_
    refine w_gf (t := .int 0) (v := .int _) rfl rfl rfl sp3 rfl (congrArg Value.int h2) rfl ?_
    refine w_ic_geN (t := 72) (f := 15) rfl rfl rfl (by omega) (by omega) (fun c12 => absurd c12 (by omega)) (fun c12 => ?_)
    refine w_aload_n rfl rfl rfl ?_
    refine w_gf (t := .retAddr 0) (v := .ref (1)) rfl rfl rfl sp3 rfl (congrArg Value.ref hB) rfl ?_
    refine w_aload_n rfl rfl rfl ?_
    refine w_gf (t := .int 0) (v := .int _) rfl rfl rfl sp3 rfl (congrArg Value.int h3) rfl ?_
    refine w_iaload rfl rfl sp1 rfl ⟨by omega, by omega⟩ (congrFun hf _) ?_
    refine w_cs (q := am_m100) (na := 1) (as := [_]) (st' := [_]) rfl rfl rfl rfl (by decide) rfl rfl (Nat.le_of_ble_eq_true rfl) rfl rfl rfl (d_isLetter hk) rfl rfl ?_
    refine w_if_eqB (t := 72) (f := 30) rfl rfl rfl (fun c27 => ?_) (fun c27 => ?_)
    · rw [if_neg c27, ← h3, am_u_self] at Z
      exact Z
    · refine w_iload_n rfl rfl rfl ?_
      refine w_bipush (x := Int32.ofNat 6) rfl rfl (by decide) ?_
      refine w_ic_geN (t := 56) (f := 36) rfl rfl rfl (by omega) (by omega) (fun c33 => ?_) (fun c33 => ?_)
      · refine w_iinc (L' := [_, _, _]) rfl rfl rfl (am_incN 1) rfl ?_
        refine w_aload_n rfl rfl rfl ?_
        refine w_dup rfl rfl rfl ?_
        refine w_gf (t := .int 0) (v := .int _) rfl rfl rfl sp3 rfl (congrArg Value.int h3) rfl ?_
        refine w_iconst (x := Int32.ofNat 1) rfl rfl (by decide) ?_
        refine w_iaddN rfl rfl ?_
        refine w_pf rfl rfl rfl sp3 rfl rfl rfl ?_
        refine w_goto (pc' := 4) rfl rfl ?_
        rw [if_pos c27] at Z
        first | rw [if_pos (show c < 6 by omega)] at Z | rw [if_neg (show ¬ c < 6 by omega)] at Z
        exact ih (p + 1) _ _ (am_u I 3 3 (Int32.ofNat (p + 1))) (by omega) (by omega) ((am_u_ne (by decide)).trans hf) ((am_u_nk (by decide)).trans h2) am_u_at (by rw [am_u_uu]; exact Z)
      · refine w_iload_n rfl rfl rfl ?_
        refine w_bipush (x := Int32.ofNat 32) rfl rfl (by decide) ?_
        refine w_imul rfl rfl ?_
        refine w_aload_n rfl rfl rfl ?_
        refine w_gf (t := .retAddr 0) (v := .ref (1)) rfl rfl rfl sp3 rfl (congrArg Value.ref hB) rfl ?_
        refine w_aload_n rfl rfl rfl ?_
        refine w_gf (t := .int 0) (v := .int _) rfl rfl rfl sp3 rfl (congrArg Value.int h3) rfl ?_
        refine w_iaload rfl rfl sp1 rfl ⟨by omega, by omega⟩ (congrFun hf _) ?_
        refine w_iadd rfl rfl ?_
        refine w_bipush (x := Int32.ofNat 97) rfl rfl (by decide) ?_
        refine w_isub rfl rfl ?_
        refine w_iconst (x := Int32.ofNat 1) rfl rfl (by decide) ?_
        refine w_iadd rfl rfl ?_
        refine w_istore_n (L' := [_, _, _]) rfl rfl rfl ?_
        refine w_iinc (L' := [_, _, _]) rfl rfl rfl (am_incN 1) rfl ?_
        refine w_aload_n rfl rfl rfl ?_
        refine w_dup rfl rfl rfl ?_
        refine w_gf (t := .int 0) (v := .int _) rfl rfl rfl sp3 rfl (congrArg Value.int h3) rfl ?_
        refine w_iconst (x := Int32.ofNat 1) rfl rfl (by decide) ?_
        refine w_iaddN rfl rfl ?_
        refine w_pf rfl rfl rfl sp3 rfl rfl rfl ?_
        refine w_goto (pc' := 4) rfl rfl ?_
        rw [if_pos c27] at Z
        first | rw [if_pos (show c < 6 by omega)] at Z | rw [if_neg (show ¬ c < 6 by omega)] at Z
        exact ih (p + 1) _ _ (am_u I 3 3 (Int32.ofNat (p + 1))) (by omega) (by omega) ((am_u_ne (by decide)).trans hf) ((am_u_nk (by decide)).trans h2) am_u_at (by rw [am_u_uu]; exact Z)
theorem am_u_36 (I : hI) (a b c d : Int32) : am_u (am_u (am_u (am_u I 3 6 a) 3 3 b) 3 6 c) 3 3 d = am_u (am_u I 3 6 c) 3 3 d := by
  funext x y
  simp only [am_u]
  (repeat' split) <;> first | rfl | (exfalso; omega)
theorem l_numC {k : Nat} {J : hJ} {R : hR} {q : Option Value × am_H} {f : Nat → Int32} {st : Nat} (hs : st ≤ 700) (hB : R 3 1 = 1) (hk : 1 ≤ k) : ∀ (j p : Nat) (w : Int32) (I : hI), p + j = st → I 1 = f → I 3 2 = Int32.ofNat st → I 3 3 = Int32.ofNat p → I 3 6 = w → (wz k 9 none am_c97 73 [.ref 3] [] (am_u (am_u I 3 6 (u_d f j p w).2) 3 3 (Int32.ofNat (u_d f j p w).1)) J R q) → wz k 9 none am_c97 5 [.ref 3] [] I J R q := by
  intro j
  induction j with
  | zero =>
    intro p w I e hf h2 h3 h6 Z
    obtain rfl : st = p := by omega
    rw [show u_d f 0 st w = (st, w) from rfl, ← h3, ← h6, am_u_self, am_u_self] at Z
    refine w_aload_n rfl rfl rfl ?_
    refine w_gf (t := .int 0) (v := .int _) rfl rfl rfl sp3 rfl (congrArg Value.int h3) rfl ?_
    refine w_aload_n rfl rfl rfl ?_
    refine w_gf (t := .int 0) (v := .int _) rfl rfl rfl sp3 rfl (congrArg Value.int h2) rfl ?_
    refine w_ic_geN (t := 73) (f := 16) rfl rfl rfl (by omega) (by omega) (fun c13 => ?_) (fun c13 => absurd c13 (by omega))
    exact Z
  | succ j ih =>
    intro p w I e hf h2 h3 h6 Z
    subst h6
    rw [u_d_s] at Z
    refine w_aload_n rfl rfl rfl ?_
    refine w_gf (t := .int 0) (v := .int _) rfl rfl rfl sp3 rfl (congrArg Value.int h3) rfl ?_
    refine w_aload_n rfl rfl rfl ?_
    refine w_gf (t := .int 0) (v := .int _) rfl rfl rfl sp3 rfl (congrArg Value.int h2) rfl ?_
    refine w_ic_geN (t := 73) (f := 16) rfl rfl rfl (by omega) (by omega) (fun c13 => absurd c13 (by omega)) (fun c13 => ?_)
    refine w_aload_n rfl rfl rfl ?_
    refine w_gf (t := .retAddr 0) (v := .ref (1)) rfl rfl rfl sp3 rfl (congrArg Value.ref hB) rfl ?_
    refine w_aload_n rfl rfl rfl ?_
    refine w_gf (t := .int 0) (v := .int _) rfl rfl rfl sp3 rfl (congrArg Value.int h3) rfl ?_
    refine w_iaload rfl rfl sp1 rfl ⟨by omega, by omega⟩ (congrFun hf _) ?_
    refine w_cs (q := am_m101) (na := 1) (as := [_]) (st' := [_]) rfl rfl rfl rfl (by decide) rfl rfl (Nat.le_of_ble_eq_true rfl) rfl rfl rfl (d_isDigit hk) rfl rfl ?_
    refine w_if_eqB (t := 73) (f := 31) rfl rfl rfl (fun c28 => ?_) (fun c28 => ?_)
    · rw [if_neg c28, ← h3, am_u_self, am_u_self] at Z
      exact Z
    · refine w_aload_n rfl rfl rfl ?_
      refine w_aload_n rfl rfl rfl ?_
      refine w_gf (t := .int 0) (v := .int _) rfl rfl rfl sp3 rfl (congrArg Value.int rfl) rfl ?_
      refine w_bipush (x := Int32.ofNat 10) rfl rfl (by decide) ?_
      refine w_imul rfl rfl ?_
      refine w_aload_n rfl rfl rfl ?_
      refine w_gf (t := .retAddr 0) (v := .ref (1)) rfl rfl rfl sp3 rfl (congrArg Value.ref hB) rfl ?_
      refine w_aload_n rfl rfl rfl ?_
      refine w_gf (t := .int 0) (v := .int _) rfl rfl rfl sp3 rfl (congrArg Value.int h3) rfl ?_
      refine w_iaload rfl rfl sp1 rfl ⟨by omega, by omega⟩ (congrFun hf _) ?_
      refine w_iadd rfl rfl ?_
      refine w_bipush (x := Int32.ofNat 48) rfl rfl (by decide) ?_
      refine w_isub rfl rfl ?_
      refine w_ldc (x := Int32.ofNat 1000000) rfl rfl rfl ?_
      refine w_min rfl rfl rfl rfl ?_
      refine w_pf rfl rfl rfl sp3 rfl rfl rfl ?_
      refine w_aload_n rfl rfl rfl ?_
      refine w_dup rfl rfl rfl ?_
      refine w_gf (t := .int 0) (v := .int _) rfl rfl rfl sp3 rfl (congrArg Value.int ((am_u_nk (by decide)).trans h3)) rfl ?_
      refine w_iconst (x := Int32.ofNat 1) rfl rfl (by decide) ?_
      refine w_iaddN rfl rfl ?_
      refine w_pf rfl rfl rfl sp3 rfl rfl rfl ?_
      refine w_goto (pc' := 5) rfl rfl ?_
      rw [if_pos c28] at Z
      exact ih (p + 1) _ _ (by omega) ((am_u_ne (by decide)).trans ((am_u_ne (by decide)).trans hf)) ((am_u_nk (by decide)).trans ((am_u_nk (by decide)).trans h2)) am_u_at ((am_u_nk (by decide)).trans am_u_at) (by rw [am_u_36]; exact Z)
theorem d_stepWord {k : Nat} {I : hI} {J : hJ} {R : hR} {f : Nat → Int32} {st p : Nat} (hf : I 1 = f) (h2 : I 3 2 = Int32.ofNat st) (h3 : I 3 3 = Int32.ofNat p) (hp : p < st) (hs : st ≤ 700) (hB : R 3 1 = 1) (hk : 2 ≤ k) : ct k 94 [.ref 3] I J R none (u_3 I (u_wd (I 4) f st p)) J R := by
  obtain ⟨k, rfl⟩ : ∃ k', k = k' + 1 := ⟨k - 1, by omega⟩
  have hw := u_w_le f (st - p) p (Int32.ofNat 0) 0
  refine ct_of (q := am_m94) (o := 9) (rt := none) (co := am_c94) (L := [_, _, _]) rfl rfl rfl rfl rfl rfl ?_
  refine w_iconst (x := Int32.ofNat 0) rfl rfl (by decide) ?_
  refine w_istore_n (L' := [_, _, _]) rfl rfl rfl ?_
  refine w_iconst (x := Int32.ofNat 0) rfl rfl (by decide) ?_
  refine w_istore_n (L' := [_, _, _]) rfl rfl rfl ?_
  refine l_wordC (f := f) hs hB (by omega) (st - p) p _ 0 I (by omega) (by omega) hf h2 h3 ?_
  refine w_aload_n rfl rfl rfl ?_
  refine w_iload_n rfl rfl rfl ?_
  refine w_iload_n rfl rfl rfl ?_
  refine w_cs (q := am_m95) (na := 2) (as := [_, _]) (st' := [_, _]) rfl rfl rfl rfl (by decide) rfl rfl (Nat.le_of_ble_eq_true rfl) rfl rfl rfl (d_filled (by omega) (by omega)) rfl rfl ?_
  refine w_pf rfl rfl rfl sp3 rfl rfl rfl ?_
  refine w_aload_n rfl rfl rfl ?_
  refine w_iload_n rfl rfl rfl ?_
  refine w_bipush (x := Int32.ofNat 6) rfl rfl (by decide) ?_
  refine w_ic_leN (t := 92) (f := 88) rfl rfl rfl (by omega) (by omega) (fun c85 => ?_) (fun c85 => ?_)
  · refine w_aload_n rfl rfl rfl ?_
    refine w_aload_n rfl rfl rfl ?_
    refine w_gf (t := .int 0) (v := .int _) rfl rfl rfl sp3 rfl (congrArg Value.int am_u_at) rfl ?_
    refine w_cv (q := am_m96) (as := [_]) (rest := [_]) (st' := [_, _]) rfl rfl rfl rfl rfl rfl sp3 rfl rfl rfl rfl (d_wordKind (by omega)) rfl rfl ?_
    refine w_pf rfl rfl rfl sp3 rfl rfl rfl ?_
    exact w_ret rfl (by unfold u_wd; (first | rw [if_pos (show 6 < (u_w f (st - p) p (Int32.ofNat 0) 0).2.2 by omega)] | rw [if_neg (show ¬ 6 < (u_w f (st - p) p (Int32.ofNat 0) 0).2.2 by omega)]); funext b j; simp only [u_3, am_u]; (repeat' split) <;> first | rfl | (exfalso; omega) | simp_all) rfl rfl
  · refine w_iconst (x := Int32.ofNat 1) rfl rfl (by decide) ?_
    refine w_goto (pc' := 100) rfl rfl ?_
    refine w_pf rfl rfl rfl sp3 rfl rfl rfl ?_
    exact w_ret rfl (by unfold u_wd; (first | rw [if_pos (show 6 < (u_w f (st - p) p (Int32.ofNat 0) 0).2.2 by omega)] | rw [if_neg (show ¬ 6 < (u_w f (st - p) p (Int32.ofNat 0) 0).2.2 by omega)]); funext b j; simp only [u_3, am_u]; (repeat' split) <;> first | rfl | (exfalso; omega) | simp_all) rfl rfl
theorem d_stepNumber {k : Nat} {I : hI} {J : hJ} {R : hR} {f : Nat → Int32} {st p : Nat} (hf : I 1 = f) (h2 : I 3 2 = Int32.ofNat st) (h3 : I 3 3 = Int32.ofNat p) (hp : p < st) (hs : st ≤ 700) (hB : R 3 1 = 1) (h6 : I 3 6 = Int32.ofNat 0) (hk : 2 ≤ k) : ct k 97 [.ref 3] I J R none (u_3 I ((u_d f (st - p) p (Int32.ofNat 0)).1, Int32.ofNat 2, (u_d f (st - p) p (Int32.ofNat 0)).2)) J R := by
  obtain ⟨k, rfl⟩ : ∃ k', k = k' + 1 := ⟨k - 1, by omega⟩
  refine ct_of (q := am_m97) (o := 9) (rt := none) (co := am_c97) (L := [_]) rfl rfl rfl rfl rfl rfl ?_
  refine w_aload_n rfl rfl rfl ?_
  refine w_iconst (x := Int32.ofNat 2) rfl rfl (by decide) ?_
  refine w_pf rfl rfl rfl sp3 rfl rfl rfl ?_
  refine l_numC (f := f) hs hB (by omega) (st - p) p (Int32.ofNat 0) _ (by omega) ((am_u_ne (by decide)).trans hf) ((am_u_nk (by decide)).trans h2) ((am_u_nk (by decide)).trans h3) ((am_u_nk (by decide)).trans h6) ?_
  exact w_ret rfl (by funext b j; simp only [u_3, am_u]; (repeat' split) <;> first | rfl | (exfalso; omega) | simp_all) rfl rfl
theorem d_step {k : Nat} {I : hI} {J : hJ} {R : hR} {f : Nat → Int32} {st p : Nat} (hf : I 1 = f) (h2 : I 3 2 = Int32.ofNat st) (h3 : I 3 3 = Int32.ofNat p) (hp : p ≤ st) (hs : st ≤ 700) (hB : R 3 1 = 1) (hk : 3 ≤ k) : ct k 93 [.ref 3] I J R none (u_tk I f st p) J R := by
  obtain ⟨k, rfl⟩ : ∃ k', k = k' + 1 := ⟨k - 1, by omega⟩
  have la := t_sk_le f (st - p) p
  have la2 : t_sk f (st - p) p = t_at f st p := rfl
  rw [la2] at la
  refine ct_of (q := am_m93) (o := 9) (rt := none) (co := am_c93) (L := [_]) rfl rfl rfl rfl rfl rfl ?_
  refine l_skipC (f := f) hs hB (st - p) p I (by omega) hf h2 h3 ?_
  rw [la2]
  refine w_aload_n rfl rfl rfl ?_
  refine w_aload_n rfl rfl rfl ?_
  refine w_gf (t := .int 0) (v := .int _) rfl rfl rfl sp3 rfl (congrArg Value.int am_u_at) rfl ?_
  refine w_pf rfl rfl rfl sp3 rfl rfl rfl ?_
  refine w_aload_n rfl rfl rfl ?_
  refine w_iconst (x := Int32.ofNat 0) rfl rfl (by decide) ?_
  refine w_pf rfl rfl rfl sp3 rfl rfl rfl ?_
  refine w_aload_n rfl rfl rfl ?_
  refine w_gf (t := .int 0) (v := .int _) rfl rfl rfl sp3 rfl (congrArg Value.int ((am_u_nk (by decide)).trans ((am_u_nk (by decide)).trans am_u_at))) rfl ?_
  refine w_aload_n rfl rfl rfl ?_
  refine w_gf (t := .int 0) (v := .int _) rfl rfl rfl sp3 rfl (congrArg Value.int (((am_u_nk (by decide)).trans ((am_u_nk (by decide)).trans (am_u_nk (by decide)))).trans h2)) rfl ?_
  refine w_ic_ltN (t := 84) (f := 76) rfl rfl rfl (by omega) (by omega) (fun c73 => ?_) (fun c73 => ?_)
  · refine w_aload_n rfl rfl rfl ?_
    refine w_gf (t := .retAddr 0) (v := .ref (1)) rfl rfl rfl sp3 rfl (congrArg Value.ref hB) rfl ?_
    refine w_aload_n rfl rfl rfl ?_
    refine w_gf (t := .int 0) (v := .int _) rfl rfl rfl sp3 rfl (congrArg Value.int ((am_u_nk (by decide)).trans ((am_u_nk (by decide)).trans am_u_at))) rfl ?_
    refine w_iaload rfl rfl sp1 rfl ⟨by omega, by omega⟩ (((congrFun (am_u_ne (by decide)) _).trans ((congrFun (am_u_ne (by decide)) _).trans (congrFun (am_u_ne (by decide)) _))).trans (congrFun hf _)) ?_
    refine w_cs (q := am_m100) (na := 1) (as := [_]) (st' := [_]) rfl rfl rfl rfl (by decide) rfl rfl (Nat.le_of_ble_eq_true rfl) rfl rfl rfl (d_isLetter (by omega)) rfl rfl ?_
    refine w_if_eqB (t := 106) (f := 99) rfl rfl rfl (fun c96 => ?_) (fun c96 => ?_)
    · refine w_aload_n rfl rfl rfl ?_
      refine w_gf (t := .retAddr 0) (v := .ref (1)) rfl rfl rfl sp3 rfl (congrArg Value.ref hB) rfl ?_
      refine w_aload_n rfl rfl rfl ?_
      refine w_gf (t := .int 0) (v := .int _) rfl rfl rfl sp3 rfl (congrArg Value.int ((am_u_nk (by decide)).trans ((am_u_nk (by decide)).trans am_u_at))) rfl ?_
      refine w_iaload rfl rfl sp1 rfl ⟨by omega, by omega⟩ (((congrFun (am_u_ne (by decide)) _).trans ((congrFun (am_u_ne (by decide)) _).trans (congrFun (am_u_ne (by decide)) _))).trans (congrFun hf _)) ?_
      refine w_cs (q := am_m101) (na := 1) (as := [_]) (st' := [_]) rfl rfl rfl rfl (by decide) rfl rfl (Nat.le_of_ble_eq_true rfl) rfl rfl rfl (d_isDigit (by omega)) rfl rfl ?_
      refine w_if_eqB (t := 128) (f := 121) rfl rfl rfl (fun c118 => ?_) (fun c118 => ?_)
      · refine w_aload_n rfl rfl rfl ?_
        refine w_cv (q := am_m98) (as := []) (rest := []) (st' := []) rfl rfl rfl rfl rfl rfl sp3 rfl rfl rfl rfl (d_stepSign (f := f) (st := st) (p := t_at f st p) ((am_u_ne (by decide)).trans ((am_u_ne (by decide)).trans ((am_u_ne (by decide)).trans hf))) ((am_u_nk (by decide)).trans ((am_u_nk (by decide)).trans ((am_u_nk (by decide)).trans h2))) ((am_u_nk (by decide)).trans ((am_u_nk (by decide)).trans am_u_at)) (by omega) hs hB (by omega)) rfl rfl ?_
        exact w_ret rfl (by unfold u_tk u_one; (first | rw [if_pos (show t_at f st p = st by omega)] | (rw [if_neg (show ¬ t_at f st p = st by omega)]; first | rw [if_pos c96] | (rw [if_neg c96]; first | rw [if_pos c118] | rw [if_neg c118]))); funext b j; simp only [u_3, am_u]; (repeat' split) <;> first | rfl | (exfalso; omega) | simp_all) rfl rfl
      · refine w_aload_n rfl rfl rfl ?_
        refine w_cv (q := am_m97) (as := []) (rest := []) (st' := []) rfl rfl rfl rfl rfl rfl sp3 rfl rfl rfl rfl (d_stepNumber (f := f) (st := st) (p := t_at f st p) ((am_u_ne (by decide)).trans ((am_u_ne (by decide)).trans ((am_u_ne (by decide)).trans hf))) ((am_u_nk (by decide)).trans ((am_u_nk (by decide)).trans ((am_u_nk (by decide)).trans h2))) ((am_u_nk (by decide)).trans ((am_u_nk (by decide)).trans am_u_at)) (by omega) hs hB am_u_at (by omega)) rfl rfl ?_
        refine w_goto (pc' := 132) rfl rfl ?_
        exact w_ret rfl (by unfold u_tk u_one; (first | rw [if_pos (show t_at f st p = st by omega)] | (rw [if_neg (show ¬ t_at f st p = st by omega)]; first | rw [if_pos c96] | (rw [if_neg c96]; first | rw [if_pos c118] | rw [if_neg c118]))); funext b j; simp only [u_3, am_u]; (repeat' split) <;> first | rfl | (exfalso; omega) | simp_all) rfl rfl
    · refine w_aload_n rfl rfl rfl ?_
      refine w_cv (q := am_m94) (as := []) (rest := []) (st' := []) rfl rfl rfl rfl rfl rfl sp3 rfl rfl rfl rfl (d_stepWord (f := f) (st := st) (p := t_at f st p) ((am_u_ne (by decide)).trans ((am_u_ne (by decide)).trans ((am_u_ne (by decide)).trans hf))) ((am_u_nk (by decide)).trans ((am_u_nk (by decide)).trans ((am_u_nk (by decide)).trans h2))) ((am_u_nk (by decide)).trans ((am_u_nk (by decide)).trans am_u_at)) (by omega) hs hB (by omega)) rfl rfl ?_
      refine w_goto (pc' := 132) rfl rfl ?_
      exact w_ret rfl (by unfold u_tk u_one; (first | rw [if_pos (show t_at f st p = st by omega)] | (rw [if_neg (show ¬ t_at f st p = st by omega)]; first | rw [if_pos c96] | (rw [if_neg c96]; first | rw [if_pos c118] | rw [if_neg c118]))); funext b j; simp only [u_3, am_u]; (repeat' split) <;> first | rfl | (exfalso; omega) | simp_all) rfl rfl
  · refine w_aload_n rfl rfl rfl ?_
    refine w_iconst (x := Int32.ofNat 0) rfl rfl (by decide) ?_
    refine w_pf rfl rfl rfl sp3 rfl rfl rfl ?_
    refine w_goto (pc' := 132) rfl rfl ?_
    exact w_ret rfl (by unfold u_tk u_one; (first | rw [if_pos (show t_at f st p = st by omega)] | (rw [if_neg (show ¬ t_at f st p = st by omega)]; first | rw [if_pos c96] | (rw [if_neg c96]; first | rw [if_pos c118] | rw [if_neg c118]))); funext b j; simp only [u_3, am_u]; (repeat' split) <;> first | rfl | (exfalso; omega) | simp_all) rfl rfl
def u_bg (I : hI) (n : Nat) : hI := am_u (am_u (am_u (am_u I 3 2 (Int32.ofNat n)) 3 3 (Int32.ofNat 0)) 3 7 (Int32.ofNat 0)) 3 8 (Int32.ofInt (-1))
theorem d_tbegin {k : Nat} {I : hI} {J : hJ} {R : hR} {n : Nat} (hn : n ≤ 700) (hk : 1 ≤ k) : ct k 91 [.ref 3, .ref 1, .int (Int32.ofNat n)] I J R none (u_bg I n) J (am_u R 3 1 1) := by
  obtain ⟨k, rfl⟩ : ∃ k', k = k' + 1 := ⟨k - 1, by omega⟩
  refine ct_of (q := am_m91) (o := 9) (rt := none) (co := am_c91) (L := [_, _, _]) rfl rfl rfl rfl rfl rfl ?_
  refine w_aload_n rfl rfl rfl ?_
  refine w_aload_n rfl rfl rfl ?_
  refine w_pfR rfl rfl rfl sp3 rfl rfl rfl ?_
  refine w_aload_n rfl rfl rfl ?_
  refine w_iload_n rfl rfl rfl ?_
  refine w_aload_n rfl rfl rfl ?_
  refine w_alen rfl rfl sp1 (by decide) ?_
  refine w_min rfl rfl rfl rfl ?_
  refine w_pf rfl rfl rfl sp3 rfl rfl rfl ?_
  refine w_aload_n rfl rfl rfl ?_
  refine w_iconst (x := Int32.ofNat 0) rfl rfl (by decide) ?_
  refine w_pf rfl rfl rfl sp3 rfl rfl rfl ?_
  refine w_aload_n rfl rfl rfl ?_
  refine w_iconst (x := Int32.ofNat 0) rfl rfl (by decide) ?_
  refine w_pf rfl rfl rfl sp3 rfl rfl rfl ?_
  refine w_aload_n rfl rfl rfl ?_
  refine w_iconst (x := Int32.ofInt (-1)) rfl rfl (by decide) ?_
  refine w_pf rfl rfl rfl sp3 rfl rfl rfl ?_
  exact w_ret rfl (by unfold u_bg; rw [if_neg (by rw [am_ltN (by omega) (by omega)]; omega)]) rfl rfl
def u_bl (I : hI) (x : Int32) : hI := am_u (am_u I 3 7 x) 3 8 (I 3 5)
theorem d_blame {k : Nat} {I : hI} {J : hJ} {R : hR} {x : Int32} (hk : 1 ≤ k) : ct k 92 [.ref 3, .int x] I J R (some (.int 0)) (u_bl I x) J R := by
  obtain ⟨k, rfl⟩ : ∃ k', k = k' + 1 := ⟨k - 1, by omega⟩
  refine ct_of (q := am_m92) (o := 9) (rt := (some .boolean)) (co := am_c92) (L := [_, _]) rfl rfl rfl rfl rfl rfl ?_
  refine w_aload_n rfl rfl rfl ?_
  refine w_iload_n rfl rfl rfl ?_
  refine w_pf rfl rfl rfl sp3 rfl rfl rfl ?_
  refine w_aload_n rfl rfl rfl ?_
  refine w_aload_n rfl rfl rfl ?_
  refine w_gf (t := .int 0) (v := .int _) rfl rfl rfl sp3 rfl (congrArg Value.int (am_u_nk (by decide))) rfl ?_
  refine w_pf rfl rfl rfl sp3 rfl rfl rfl ?_
  refine w_iconst (x := Int32.ofNat 0) rfl rfl (by decide) ?_
  exact w_bret rfl (by decide) rfl rfl rfl rfl
