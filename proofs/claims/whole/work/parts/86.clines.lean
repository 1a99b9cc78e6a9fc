/-! The class: a law's line, any line, a text. -/
theorem lwA_T18 {T : Nat} (h : T = 9 ∨ T = 36) : lwA (T + 18) := by unfold lwA; omega
theorem lwA_T21 {T : Nat} (h : T = 9 ∨ T = 36) : lwA (T + 21) := by unfold lwA; omega
theorem lwA_T24 {T : Nat} (h : T = 9 ∨ T = 36) : lwA (T + 24) := by unfold lwA; omega
theorem am_btN {x : Int32} {a b : Nat} (ha : a < 1000000) (hb : b < 1000000) (h : ¬ x < Int32.ofNat a) (g : ¬ Int32.ofNat b < x) : x = Int32.ofNat (nn x) ∧ a ≤ nn x ∧ nn x ≤ b := by
  have e1 : (Int32.ofNat a).toInt = a := Int32.toInt_ofNat_of_lt (by omega)
  have e2 : (Int32.ofNat b).toInt = b := Int32.toInt_ofNat_of_lt (by omega)
  rw [Int32.lt_iff_toInt_lt, e1] at h
  rw [Int32.lt_iff_toInt_lt, e2] at g
  have e : x.toInt = ((x.toInt.toNat : Nat) : Int) := by omega
  have n : nn x = x.toInt.toNat := rfl
  refine ⟨?_, by rw [n]; omega, by rw [n]; omega⟩
  rw [n]
  apply Int32.toInt_inj.mp
  rw [Int32.toInt_ofNat_of_lt (by omega)]
  exact e
theorem lwk3 {x : Int32} (h : ¬ x < Int32.ofNat 18) (g : ¬ Int32.ofNat 20 < x) : x = Int32.ofNat 18 ∨ x = Int32.ofNat 19 ∨ x = Int32.ofNat 20 := by
  obtain ⟨e, h1, h2⟩ := am_btN (by omega) (by omega) h g
  rw [e]
  have : nn x = 18 ∨ nn x = 19 ∨ nn x = 20 := by omega
  rcases this with z | z | z <;> rw [z]
  · exact Or.inl rfl
  · exact Or.inr (Or.inl rfl)
  · exact Or.inr (Or.inr rfl)
theorem am_zer {x : Int32} {a : Nat} (e : x = Int32.ofNat a) (ha : a ≤ 64) (h : ¬ 0 < x) : x = Int32.ofNat 0 := by
  have : a = 0 := by
    apply Decidable.byContradiction
    intro g
    exact h (by rw [e]; exact (am_ltN (x := 0) (by omega) (by omega)).mpr (by omega))
  rw [e, this]
def k_lwr1 (I : hI) (A c : Nat) : Int32 × hI := if 0 < I A 0 then (0, u_bl I (Int32.ofNat 3)) else k_rdI I A c
theorem k_lwr11 {I : hI} {A c : Nat} (h : 0 < I A 0) : k_lwr1 I A c = (0, u_bl I (Int32.ofNat 3)) := if_pos h
theorem k_lwr10 {I : hI} {A c : Nat} (h : ¬ 0 < I A 0) : k_lwr1 I A c = k_rdI I A c := if_neg h
def k_lwr (I : hI) (T c : Nat) : Int32 × hI := if u_tok I 3 4 = Int32.ofNat 18 then k_lwr1 (u_tok I) (T + 18) c else if u_tok I 3 4 = Int32.ofNat 19 then k_lwr1 (u_tok I) (T + 21) c else if u_tok I 3 4 = Int32.ofNat 20 then k_lwr1 (u_tok I) (T + 24) c else (0, u_bl (u_tok I) (Int32.ofNat 1))
theorem k_lwr18 {I : hI} {T c : Nat} (h : u_tok I 3 4 = Int32.ofNat 18) : k_lwr I T c = k_lwr1 (u_tok I) (T + 18) c := if_pos h
theorem k_lwr19 {I : hI} {T c : Nat} (h : u_tok I 3 4 = Int32.ofNat 19) : k_lwr I T c = k_lwr1 (u_tok I) (T + 21) c := (if_neg (by rw [h]; decide)).trans (if_pos h)
theorem k_lwr20 {I : hI} {T c : Nat} (h : u_tok I 3 4 = Int32.ofNat 20) : k_lwr I T c = k_lwr1 (u_tok I) (T + 24) c := (if_neg (by rw [h]; decide)).trans ((if_neg (by rw [h]; decide)).trans (if_pos h))
theorem k_lwrl {I : hI} {T c : Nat} (h : u_tok I 3 4 < Int32.ofNat 18) : k_lwr I T c = (0, u_bl (u_tok I) (Int32.ofNat 1)) := (if_neg (fun z => by rw [z] at h; exact absurd h (by decide))).trans ((if_neg (fun z => by rw [z] at h; exact absurd h (by decide))).trans (if_neg (fun z => by rw [z] at h; exact absurd h (by decide))))
theorem k_lwrg {I : hI} {T c : Nat} (h : Int32.ofNat 20 < u_tok I 3 4) : k_lwr I T c = (0, u_bl (u_tok I) (Int32.ofNat 1)) := (if_neg (fun z => by rw [z] at h; exact absurd h (by decide))).trans ((if_neg (fun z => by rw [z] at h; exact absurd h (by decide))).trans (if_neg (fun z => by rw [z] at h; exact absurd h (by decide))))
theorem l_law18 {k : Nat} {I : hI} {J : hJ} {R : hR} {T : Nat} (hT : T = 9 ∨ T = 36) {st : Nat} (v : tks I st) (hB : R 3 1 = 1) (hr2 : R 2 2 = T) {a b c : Nat} (h4 : I (T + 18) 0 = Int32.ofNat a) (h5 : I (T + 21) 0 = Int32.ofNat b) (h6 : I (T + 24) 0 = Int32.ofNat c) (hl : a + b + c ≤ 64) (e : u_tok I 3 4 = Int32.ofNat 18) {L1 : Value} (hk : 5 ≤ k) : wz k 8 (some .boolean) am_c85 40 [.ref 2, L1] [] (u_tok I) J R (some (.int (k_lwr I T (a + b + c)).1), am_hp (k_lwr I T (a + b + c)).2 J R) := by
  have v1 := tks_tok v
  obtain ⟨p, hp, hp2⟩ := okn_E v1.2.2
  have g4 : u_tok I (T + 18) 0 = Int32.ofNat a := (congrFun (u_tok_ne (by omega)) 0).trans h4
  have g5 : u_tok I (T + 21) 0 = Int32.ofNat b := (congrFun (u_tok_ne (by omega)) 0).trans h5
  have g6 : u_tok I (T + 24) 0 = Int32.ofNat c := (congrFun (u_tok_ne (by omega)) 0).trans h6
  refine w_aload_n rfl rfl rfl ?_
  refine w_gf (t := .retAddr 0) (v := .ref (T)) rfl rfl rfl sp2 rfl (congrArg Value.ref hr2) rfl ?_
  refine w_gf (t := .ref (T + 17)) (v := .ref (T + 17)) rfl rfl rfl (shT_0 hT) rfl rfl rfl ?_
  refine w_aload_n rfl rfl rfl ?_
  refine w_gf (t := .ref (3)) (v := .ref (3)) rfl rfl rfl sp2 rfl rfl rfl ?_
  refine w_gf (t := .int 0) (v := .int _) rfl rfl rfl sp3 rfl (congrArg Value.int e) rfl ?_
  refine w_bipush (x := Int32.ofNat 18) rfl rfl (by decide) ?_
  refine w_isubN rfl rfl (Nat.le_of_ble_eq_true rfl) ?_
  refine w_aaload rfl rfl (shT_17 hT) rfl ⟨Nat.le_of_ble_eq_true rfl, Nat.le_of_ble_eq_true rfl⟩ rfl ?_
  refine w_astore_n (L' := [_, _]) rfl rfl rfl ?_
  refine w_aload_n rfl rfl rfl ?_
  refine w_cv (q := am_m32) (as := []) (rest := []) (st' := [_]) rfl rfl rfl rfl rfl rfl (shT_18 hT) rfl rfl rfl rfl (d_isTold (lwA_0 (lwA_T18 hT)) (lwA_1 (lwA_T18 hT)) (lwA_2 (lwA_T18 hT)) (by omega)) rfl rfl ?_
  refine w_if_eqB (t := 75) (f := 66) rfl rfl rfl (fun c63 => ?_) (fun c63 => ?_)
  · refine w_aload_n rfl rfl rfl ?_
    refine w_gf (t := .ref (6)) (v := .ref (6)) rfl rfl rfl sp2 rfl rfl rfl ?_
    refine w_aload_n rfl rfl rfl ?_
    refine w_aload_n rfl rfl rfl ?_
    refine w_gf (t := .ref (3)) (v := .ref (3)) rfl rfl rfl sp2 rfl rfl rfl ?_
    refine w_aload_n rfl rfl rfl ?_
    refine w_gf (t := .retAddr 0) (v := .ref (T)) rfl rfl rfl sp2 rfl (congrArg Value.ref hr2) rfl ?_
    refine w_cv (q := am_m104) (as := []) (rest := [_, _, _]) (st' := [_, _, _, _]) rfl rfl rfl rfl rfl rfl (shT_0 hT) rfl rfl rfl rfl (d_knots hT g4 g5 g6 (by omega)) rfl rfl ?_
    refine w_cv (q := am_m38) (as := [_, _, _]) (rest := []) (st' := [_]) rfl rfl rfl rfl rfl rfl sp6 rfl rfl rfl rfl (d_readInto (lwA_T18 hT) v1.1 v1.2.1 hp hp2 (am_zer g4 (by omega) c63) (by omega) hB (by omega)) rfl rfl ?_
    exact w_bret rfl (by first | decide | exact k_ri01) (by rw [k_lwr18 e]; (first | (rw [k_lwr11 c63] <;> rfl) | (rw [k_lwr10 c63] <;> rfl))) (by rw [k_lwr18 e]; (first | (rw [k_lwr11 c63] <;> rfl) | (rw [k_lwr10 c63] <;> rfl))) rfl rfl
  · refine w_aload_n rfl rfl rfl ?_
    refine w_gf (t := .ref (3)) (v := .ref (3)) rfl rfl rfl sp2 rfl rfl rfl ?_
    refine w_iconst (x := Int32.ofNat 3) rfl rfl (by decide) ?_
    refine w_cv (q := am_m92) (as := [_]) (rest := []) (st' := [_]) rfl rfl rfl rfl rfl rfl sp3 rfl rfl rfl rfl (d_blame (by omega)) rfl rfl ?_
    exact w_bret rfl (by first | decide | exact k_ri01) (by rw [k_lwr18 e]; (first | (rw [k_lwr11 c63] <;> rfl) | (rw [k_lwr10 c63] <;> rfl))) (by rw [k_lwr18 e]; (first | (rw [k_lwr11 c63] <;> rfl) | (rw [k_lwr10 c63] <;> rfl))) rfl rfl
theorem l_law19 {k : Nat} {I : hI} {J : hJ} {R : hR} {T : Nat} (hT : T = 9 ∨ T = 36) {st : Nat} (v : tks I st) (hB : R 3 1 = 1) (hr2 : R 2 2 = T) {a b c : Nat} (h4 : I (T + 18) 0 = Int32.ofNat a) (h5 : I (T + 21) 0 = Int32.ofNat b) (h6 : I (T + 24) 0 = Int32.ofNat c) (hl : a + b + c ≤ 64) (e : u_tok I 3 4 = Int32.ofNat 19) {L1 : Value} (hk : 5 ≤ k) : wz k 8 (some .boolean) am_c85 40 [.ref 2, L1] [] (u_tok I) J R (some (.int (k_lwr I T (a + b + c)).1), am_hp (k_lwr I T (a + b + c)).2 J R) := by
  have v1 := tks_tok v
  obtain ⟨p, hp, hp2⟩ := okn_E v1.2.2
  have g4 : u_tok I (T + 18) 0 = Int32.ofNat a := (congrFun (u_tok_ne (by omega)) 0).trans h4
  have g5 : u_tok I (T + 21) 0 = Int32.ofNat b := (congrFun (u_tok_ne (by omega)) 0).trans h5
  have g6 : u_tok I (T + 24) 0 = Int32.ofNat c := (congrFun (u_tok_ne (by omega)) 0).trans h6
  refine w_aload_n rfl rfl rfl ?_
  refine w_gf (t := .retAddr 0) (v := .ref (T)) rfl rfl rfl sp2 rfl (congrArg Value.ref hr2) rfl ?_
  refine w_gf (t := .ref (T + 17)) (v := .ref (T + 17)) rfl rfl rfl (shT_0 hT) rfl rfl rfl ?_
  refine w_aload_n rfl rfl rfl ?_
  refine w_gf (t := .ref (3)) (v := .ref (3)) rfl rfl rfl sp2 rfl rfl rfl ?_
  refine w_gf (t := .int 0) (v := .int _) rfl rfl rfl sp3 rfl (congrArg Value.int e) rfl ?_
  refine w_bipush (x := Int32.ofNat 18) rfl rfl (by decide) ?_
  refine w_isubN rfl rfl (Nat.le_of_ble_eq_true rfl) ?_
  refine w_aaload rfl rfl (shT_17 hT) rfl ⟨Nat.le_of_ble_eq_true rfl, Nat.le_of_ble_eq_true rfl⟩ rfl ?_
  refine w_astore_n (L' := [_, _]) rfl rfl rfl ?_
  refine w_aload_n rfl rfl rfl ?_
  refine w_cv (q := am_m32) (as := []) (rest := []) (st' := [_]) rfl rfl rfl rfl rfl rfl (shT_21 hT) rfl rfl rfl rfl (d_isTold (lwA_0 (lwA_T21 hT)) (lwA_1 (lwA_T21 hT)) (lwA_2 (lwA_T21 hT)) (by omega)) rfl rfl ?_
  refine w_if_eqB (t := 75) (f := 66) rfl rfl rfl (fun c63 => ?_) (fun c63 => ?_)
  · refine w_aload_n rfl rfl rfl ?_
    refine w_gf (t := .ref (6)) (v := .ref (6)) rfl rfl rfl sp2 rfl rfl rfl ?_
    refine w_aload_n rfl rfl rfl ?_
    refine w_aload_n rfl rfl rfl ?_
    refine w_gf (t := .ref (3)) (v := .ref (3)) rfl rfl rfl sp2 rfl rfl rfl ?_
    refine w_aload_n rfl rfl rfl ?_
    refine w_gf (t := .retAddr 0) (v := .ref (T)) rfl rfl rfl sp2 rfl (congrArg Value.ref hr2) rfl ?_
    refine w_cv (q := am_m104) (as := []) (rest := [_, _, _]) (st' := [_, _, _, _]) rfl rfl rfl rfl rfl rfl (shT_0 hT) rfl rfl rfl rfl (d_knots hT g4 g5 g6 (by omega)) rfl rfl ?_
    refine w_cv (q := am_m38) (as := [_, _, _]) (rest := []) (st' := [_]) rfl rfl rfl rfl rfl rfl sp6 rfl rfl rfl rfl (d_readInto (lwA_T21 hT) v1.1 v1.2.1 hp hp2 (am_zer g5 (by omega) c63) (by omega) hB (by omega)) rfl rfl ?_
    exact w_bret rfl (by first | decide | exact k_ri01) (by rw [k_lwr19 e]; (first | (rw [k_lwr11 c63] <;> rfl) | (rw [k_lwr10 c63] <;> rfl))) (by rw [k_lwr19 e]; (first | (rw [k_lwr11 c63] <;> rfl) | (rw [k_lwr10 c63] <;> rfl))) rfl rfl
  · refine w_aload_n rfl rfl rfl ?_
    refine w_gf (t := .ref (3)) (v := .ref (3)) rfl rfl rfl sp2 rfl rfl rfl ?_
    refine w_iconst (x := Int32.ofNat 3) rfl rfl (by decide) ?_
    refine w_cv (q := am_m92) (as := [_]) (rest := []) (st' := [_]) rfl rfl rfl rfl rfl rfl sp3 rfl rfl rfl rfl (d_blame (by omega)) rfl rfl ?_
    exact w_bret rfl (by first | decide | exact k_ri01) (by rw [k_lwr19 e]; (first | (rw [k_lwr11 c63] <;> rfl) | (rw [k_lwr10 c63] <;> rfl))) (by rw [k_lwr19 e]; (first | (rw [k_lwr11 c63] <;> rfl) | (rw [k_lwr10 c63] <;> rfl))) rfl rfl
theorem l_law20 {k : Nat} {I : hI} {J : hJ} {R : hR} {T : Nat} (hT : T = 9 ∨ T = 36) {st : Nat} (v : tks I st) (hB : R 3 1 = 1) (hr2 : R 2 2 = T) {a b c : Nat} (h4 : I (T + 18) 0 = Int32.ofNat a) (h5 : I (T + 21) 0 = Int32.ofNat b) (h6 : I (T + 24) 0 = Int32.ofNat c) (hl : a + b + c ≤ 64) (e : u_tok I 3 4 = Int32.ofNat 20) {L1 : Value} (hk : 5 ≤ k) : wz k 8 (some .boolean) am_c85 40 [.ref 2, L1] [] (u_tok I) J R (some (.int (k_lwr I T (a + b + c)).1), am_hp (k_lwr I T (a + b + c)).2 J R) := by
  have v1 := tks_tok v
  obtain ⟨p, hp, hp2⟩ := okn_E v1.2.2
  have g4 : u_tok I (T + 18) 0 = Int32.ofNat a := (congrFun (u_tok_ne (by omega)) 0).trans h4
  have g5 : u_tok I (T + 21) 0 = Int32.ofNat b := (congrFun (u_tok_ne (by omega)) 0).trans h5
  have g6 : u_tok I (T + 24) 0 = Int32.ofNat c := (congrFun (u_tok_ne (by omega)) 0).trans h6
  refine w_aload_n rfl rfl rfl ?_
  refine w_gf (t := .retAddr 0) (v := .ref (T)) rfl rfl rfl sp2 rfl (congrArg Value.ref hr2) rfl ?_
  refine w_gf (t := .ref (T + 17)) (v := .ref (T + 17)) rfl rfl rfl (shT_0 hT) rfl rfl rfl ?_
  refine w_aload_n rfl rfl rfl ?_
  refine w_gf (t := .ref (3)) (v := .ref (3)) rfl rfl rfl sp2 rfl rfl rfl ?_
  refine w_gf (t := .int 0) (v := .int _) rfl rfl rfl sp3 rfl (congrArg Value.int e) rfl ?_
  refine w_bipush (x := Int32.ofNat 18) rfl rfl (by decide) ?_
  refine w_isubN rfl rfl (Nat.le_of_ble_eq_true rfl) ?_
  refine w_aaload rfl rfl (shT_17 hT) rfl ⟨Nat.le_of_ble_eq_true rfl, Nat.le_of_ble_eq_true rfl⟩ rfl ?_
  refine w_astore_n (L' := [_, _]) rfl rfl rfl ?_
  refine w_aload_n rfl rfl rfl ?_
  refine w_cv (q := am_m32) (as := []) (rest := []) (st' := [_]) rfl rfl rfl rfl rfl rfl (shT_24 hT) rfl rfl rfl rfl (d_isTold (lwA_0 (lwA_T24 hT)) (lwA_1 (lwA_T24 hT)) (lwA_2 (lwA_T24 hT)) (by omega)) rfl rfl ?_
  refine w_if_eqB (t := 75) (f := 66) rfl rfl rfl (fun c63 => ?_) (fun c63 => ?_)
  · refine w_aload_n rfl rfl rfl ?_
    refine w_gf (t := .ref (6)) (v := .ref (6)) rfl rfl rfl sp2 rfl rfl rfl ?_
    refine w_aload_n rfl rfl rfl ?_
    refine w_aload_n rfl rfl rfl ?_
    refine w_gf (t := .ref (3)) (v := .ref (3)) rfl rfl rfl sp2 rfl rfl rfl ?_
    refine w_aload_n rfl rfl rfl ?_
    refine w_gf (t := .retAddr 0) (v := .ref (T)) rfl rfl rfl sp2 rfl (congrArg Value.ref hr2) rfl ?_
    refine w_cv (q := am_m104) (as := []) (rest := [_, _, _]) (st' := [_, _, _, _]) rfl rfl rfl rfl rfl rfl (shT_0 hT) rfl rfl rfl rfl (d_knots hT g4 g5 g6 (by omega)) rfl rfl ?_
    refine w_cv (q := am_m38) (as := [_, _, _]) (rest := []) (st' := [_]) rfl rfl rfl rfl rfl rfl sp6 rfl rfl rfl rfl (d_readInto (lwA_T24 hT) v1.1 v1.2.1 hp hp2 (am_zer g6 (by omega) c63) (by omega) hB (by omega)) rfl rfl ?_
    exact w_bret rfl (by first | decide | exact k_ri01) (by rw [k_lwr20 e]; (first | (rw [k_lwr11 c63] <;> rfl) | (rw [k_lwr10 c63] <;> rfl))) (by rw [k_lwr20 e]; (first | (rw [k_lwr11 c63] <;> rfl) | (rw [k_lwr10 c63] <;> rfl))) rfl rfl
  · refine w_aload_n rfl rfl rfl ?_
    refine w_gf (t := .ref (3)) (v := .ref (3)) rfl rfl rfl sp2 rfl rfl rfl ?_
    refine w_iconst (x := Int32.ofNat 3) rfl rfl (by decide) ?_
    refine w_cv (q := am_m92) (as := [_]) (rest := []) (st' := [_]) rfl rfl rfl rfl rfl rfl sp3 rfl rfl rfl rfl (d_blame (by omega)) rfl rfl ?_
    exact w_bret rfl (by first | decide | exact k_ri01) (by rw [k_lwr20 e]; (first | (rw [k_lwr11 c63] <;> rfl) | (rw [k_lwr10 c63] <;> rfl))) (by rw [k_lwr20 e]; (first | (rw [k_lwr11 c63] <;> rfl) | (rw [k_lwr10 c63] <;> rfl))) rfl rfl
theorem d_readLaw {k : Nat} {I : hI} {J : hJ} {R : hR} {T : Nat} (hT : T = 9 ∨ T = 36) {st : Nat} (v : tks I st) (hB : R 3 1 = 1) (hr2 : R 2 2 = T) {a b c : Nat} (h4 : I (T + 18) 0 = Int32.ofNat a) (h5 : I (T + 21) 0 = Int32.ofNat b) (h6 : I (T + 24) 0 = Int32.ofNat c) (hl : a + b + c ≤ 64) (hk : 6 ≤ k) : ct k 85 [.ref 2] I J R (some (.int (k_lwr I T (a + b + c)).1)) ((k_lwr I T (a + b + c)).2) J R := by
  obtain ⟨k, rfl⟩ : ∃ k', k = k' + 1 := ⟨k - 1, by omega⟩
  refine ct_of (q := am_m85) (o := 8) (rt := (some .boolean)) (co := am_c85) (L := [_, _]) rfl rfl rfl rfl rfl rfl ?_
  refine w_aload_n rfl rfl rfl ?_
  refine w_gf (t := .ref (3)) (v := .ref (3)) rfl rfl rfl sp2 rfl rfl rfl ?_
  refine w_cv (q := am_m93) (as := []) (rest := []) (st' := []) rfl rfl rfl rfl rfl rfl sp3 rfl rfl rfl rfl (d_tokS v hB (by omega)) rfl rfl ?_
  refine w_aload_n rfl rfl rfl ?_
  refine w_gf (t := .ref (3)) (v := .ref (3)) rfl rfl rfl sp2 rfl rfl rfl ?_
  refine w_gf (t := .int 0) (v := .int _) rfl rfl rfl sp3 rfl (congrArg Value.int rfl) rfl ?_
  refine w_bipush (x := Int32.ofNat 18) rfl rfl (by decide) ?_
  refine w_ic_lt (t := 31) (f := 19) rfl rfl rfl (fun c16 => ?_) (fun c16 => ?_)
  · refine w_aload_n rfl rfl rfl ?_
    refine w_gf (t := .ref (3)) (v := .ref (3)) rfl rfl rfl sp2 rfl rfl rfl ?_
    refine w_iconst (x := Int32.ofNat 1) rfl rfl (by decide) ?_
    refine w_cv (q := am_m92) (as := [_]) (rest := []) (st' := [_]) rfl rfl rfl rfl rfl rfl sp3 rfl rfl rfl rfl (d_blame (by omega)) rfl rfl ?_
    exact w_bret rfl (by decide) (by first | (rw [k_lwrl c16] <;> rfl) | (rw [k_lwrg c28] <;> rfl)) (by first | rw [k_lwrl c16] | rw [k_lwrg c28]) rfl rfl
  · refine w_aload_n rfl rfl rfl ?_
    refine w_gf (t := .ref (3)) (v := .ref (3)) rfl rfl rfl sp2 rfl rfl rfl ?_
    refine w_gf (t := .int 0) (v := .int _) rfl rfl rfl sp3 rfl (congrArg Value.int rfl) rfl ?_
    refine w_bipush (x := Int32.ofNat 20) rfl rfl (by decide) ?_
    refine w_ic_le (t := 40) (f := 31) rfl rfl rfl (fun c28 => ?_) (fun c28 => ?_)
    · rcases lwk3 c16 c28 with e | e | e
      · exact l_law18 hT v hB hr2 h4 h5 h6 hl e (by omega)
      · exact l_law19 hT v hB hr2 h4 h5 h6 hl e (by omega)
      · exact l_law20 hT v hB hr2 h4 h5 h6 hl e (by omega)
    · refine w_aload_n rfl rfl rfl ?_
      refine w_gf (t := .ref (3)) (v := .ref (3)) rfl rfl rfl sp2 rfl rfl rfl ?_
      refine w_iconst (x := Int32.ofNat 1) rfl rfl (by decide) ?_
      refine w_cv (q := am_m92) (as := [_]) (rest := []) (st' := [_]) rfl rfl rfl rfl rfl rfl sp3 rfl rfl rfl rfl (d_blame (by omega)) rfl rfl ?_
      exact w_bret rfl (by decide) (by first | (rw [k_lwrl c16] <;> rfl) | (rw [k_lwrg c28] <;> rfl)) (by first | rw [k_lwrl c16] | rw [k_lwrg c28]) rfl rfl
def tsz (I : hI) (T : Nat) (c : Nat → Nat) : Prop := (c 0 ≤ 6 ∧ c 1 ≤ 8 ∧ c 2 ≤ 5 ∧ c 3 ≤ 10 ∧ c 4 + c 5 + c 6 ≤ 64) ∧ I (T + 1) 1 = Int32.ofNat (c 0) ∧ I (T + 5) 1 = Int32.ofNat (c 1) ∧ I (T + 11) 1 = Int32.ofNat (c 2) ∧ I T 11 = Int32.ofNat (c 3) ∧ I (T + 18) 0 = Int32.ofNat (c 4) ∧ I (T + 21) 0 = Int32.ofNat (c 5) ∧ I (T + 24) 0 = Int32.ofNat (c 6)
def k_slc (I : hI) (T v m : Nat) : Int32 × hI := if v < 10 then k_sl I T v m else (0, u_bl I (Int32.ofNat 2))
theorem d_readSailC {k : Nat} {I : hI} {J : hJ} {R : hR} {T : Nat} (hT : T = 9 ∨ T = 36) {st : Nat} (v : tks I st) (hB : R 3 1 = 1) (hr2 : R 2 2 = T) {z m : Nat} (hz : z ≤ 10) (h1 : I T 11 = Int32.ofNat z) (hm : m ≤ 5) (h0 : I (T + 11) 1 = Int32.ofNat m) (hk : 5 ≤ k) : ct k 82 [.ref 2] I J R (some (.int (k_slc I T z m).1)) (k_slc I T z m).2 J R := by
  unfold k_slc
  by_cases g : z < 10
  · rw [if_pos g]; exact d_readSail hT v hB hr2 g h1 hm h0 hk
  · rw [if_neg g]
    obtain rfl : z = 10 := by omega
    exact d_readSail_no hT v hB hr2 h1 hk
theorem k_bd01 {p : Int32 × hI} {f : hI → Int32 × hI} (h : p.1 = 0 ∨ p.1 = 1) (g : ∀ I, (f I).1 = 0 ∨ (f I).1 = 1) : (k_bd p f).1 = 0 ∨ (k_bd p f).1 = 1 := by
  unfold k_bd; split
  · exact h
  · exact g _
theorem k_semi01 {I : hI} : (k_semi I).1 = 0 ∨ (k_semi I).1 = 1 := by
  unfold k_semi; split
  · exact Or.inr rfl
  · exact Or.inl rfl
theorem k_told01 {I : hI} {A n : Nat} : (k_told I A n).1 = 0 ∨ (k_told I A n).1 = 1 := by
  unfold k_told; repeat' split
  all_goals first | exact Or.inl rfl | exact Or.inr rfl
theorem k_new01 {I : hI} {A m n : Nat} : (k_new I A m n).1 = 0 ∨ (k_new I A m n).1 = 1 := by
  unfold k_new; repeat' split
  all_goals first | exact Or.inl rfl | exact Or.inr rfl
theorem k_mkr01 {I : hI} {T n : Nat} : (k_mkr I T n).1 = 0 ∨ (k_mkr I T n).1 = 1 := k_bd01 k_new01 fun _ => k_bd01 k_num01 fun _ => k_bd01 k_num01 fun _ => Or.inr rfl
theorem k_sp01 {I : hI} {T n : Nat} : (k_sp I T n).1 = 0 ∨ (k_sp I T n).1 = 1 := k_bd01 k_new01 fun _ => k_bd01 k_num01 fun _ => Or.inr rfl
theorem k_rp01 {I : hI} {T n m : Nat} : (k_rp I T n m).1 = 0 ∨ (k_rp I T n m).1 = 1 := k_bd01 k_new01 fun _ => k_bd01 k_told01 fun _ => k_bd01 k_num01 fun _ => k_bd01 k_num01 fun _ => Or.inr rfl
theorem k_rg01 {I : hI} {T n m : Nat} : (k_rg I T n m).1 = 0 ∨ (k_rg I T n m).1 = 1 := k_bd01 k_told01 fun I => by
  unfold k_rg1; split
  · exact k_bd01 k_told01 fun _ => Or.inr rfl
  · exact Or.inl rfl
theorem k_slc01 {I : hI} {T v m : Nat} : (k_slc I T v m).1 = 0 ∨ (k_slc I T v m).1 = 1 := by
  unfold k_slc; split
  · unfold k_sl
    exact k_bd01 k_told01 fun _ => k_bd01 k_num01 fun _ => k_bd01 k_num01 fun _ => Or.inr rfl
  · exact Or.inl rfl
theorem k_sto01 {I : hI} {T : Nat} : (k_sto I T).1 = 0 ∨ (k_sto I T).1 = 1 := by
  unfold k_sto; split
  · exact k_bd01 k_num01 fun _ => Or.inr rfl
  · exact Or.inl rfl
theorem k_see01 {I : hI} {T : Nat} : (k_see I T).1 = 0 ∨ (k_see I T).1 = 1 := by
  unfold k_see; split
  · exact k_bd01 k_num01 fun _ => Or.inr rfl
  · exact Or.inl rfl
theorem k_lwr101 {I : hI} {A c : Nat} : (k_lwr1 I A c).1 = 0 ∨ (k_lwr1 I A c).1 = 1 := by
  by_cases h : 0 < I A 0
  · rw [k_lwr11 h]; exact Or.inl rfl
  · rw [k_lwr10 h]; unfold k_rdI; exact k_ri01
theorem k_lwr01 {I : hI} {T c : Nat} : (k_lwr I T c).1 = 0 ∨ (k_lwr I T c).1 = 1 := by
  by_cases h : u_tok I 3 4 = Int32.ofNat 18
  · rw [k_lwr18 h]; exact k_lwr101
  · by_cases g : u_tok I 3 4 = Int32.ofNat 19
    · rw [k_lwr19 g]; exact k_lwr101
    · by_cases f : u_tok I 3 4 = Int32.ofNat 20
      · rw [k_lwr20 f]; exact k_lwr101
      · unfold k_lwr; rw [if_neg h, if_neg g, if_neg f]; exact Or.inl rfl
def k_line (I : hI) (T : Nat) (c : Nat → Nat) : Int32 × hI := if I 3 4 = Int32.ofNat 10 then k_mkr I T (c 0) else if I 3 4 = Int32.ofNat 11 then k_rp I T (c 1) (c 0) else if I 3 4 = Int32.ofNat 12 then k_sp I T (c 2) else if I 3 4 = Int32.ofNat 13 then k_rg I T (c 1) (c 2) else if I 3 4 = Int32.ofNat 14 then k_slc I T (c 3) (c 2) else if I 3 4 = Int32.ofNat 15 then k_sto I T else if I 3 4 = Int32.ofNat 16 then k_see I T else (0, u_bl I (Int32.ofNat 1))
theorem k_line01 {I : hI} {T : Nat} {c : Nat → Nat} : (k_line I T c).1 = 0 ∨ (k_line I T c).1 = 1 := by
  unfold k_line; repeat' split
  · exact k_mkr01
  · exact k_rp01
  · exact k_sp01
  · exact k_rg01
  · exact k_slc01
  · exact k_sto01
  · exact k_see01
  · exact Or.inl rfl
theorem d_readLine {k : Nat} {I : hI} {J : hJ} {R : hR} {T : Nat} (hT : T = 9 ∨ T = 36) {st : Nat} (v : tks I st) (hB : R 3 1 = 1) (hr2 : R 2 2 = T) {c : Nat → Nat} (z : tsz I T c) (hk : 6 ≤ k) : ct k 77 [.ref 2] I J R (some (.int (k_line I T c).1)) ((k_line I T c).2) J R := by
  obtain ⟨k, rfl⟩ : ∃ k', k = k' + 1 := ⟨k - 1, by omega⟩
  obtain ⟨⟨l0, l1, l2, l3, l4⟩, z0, z1, z2, z3, z4, z5, z6⟩ := z
  refine ct_of (q := am_m77) (o := 8) (rt := (some .boolean)) (co := am_c77) (L := [_]) rfl rfl rfl rfl rfl rfl ?_
  refine w_aload_n rfl rfl rfl ?_
  refine w_gf (t := .ref (3)) (v := .ref (3)) rfl rfl rfl sp2 rfl rfl rfl ?_
  refine w_gf (t := .int 0) (v := .int _) rfl rfl rfl sp3 rfl (congrArg Value.int rfl) rfl ?_
  refine w_ts (lo := 10) (hi := 16) (d := 83) rfl rfl (by decide) (fun sw => ?_) (fun n h1 h2 sw => ?_)
  · refine w_aload_n rfl rfl rfl ?_
    refine w_gf (t := .ref (3)) (v := .ref (3)) rfl rfl rfl sp2 rfl rfl rfl ?_
    refine w_iconst (x := Int32.ofNat 1) rfl rfl (by decide) ?_
    refine w_cv (q := am_m92) (as := [_]) (rest := []) (st' := [_]) rfl rfl rfl rfl rfl rfl sp3 rfl rfl rfl rfl (d_blame (by omega)) rfl rfl ?_
    exact w_bret rfl (by first | with_reducible exact k_mkr01 | with_reducible exact k_rp01 | with_reducible exact k_sp01 | with_reducible exact k_rg01 | with_reducible exact k_slc01 | with_reducible exact k_sto01 | with_reducible exact k_see01 | decide) (by unfold k_line; first | (simp +decide only [sw, if_true, if_false, ite_true, ite_false]) | (simp only [sw 10 (by decide) (by decide), sw 11 (by decide) (by decide), sw 12 (by decide) (by decide), sw 13 (by decide) (by decide), sw 14 (by decide) (by decide), sw 15 (by decide) (by decide), sw 16 (by decide) (by decide), if_false, ite_false] <;> rfl)) (by unfold k_line; first | (simp +decide only [sw, if_true, if_false, ite_true, ite_false]) | (simp only [sw 10 (by decide) (by decide), sw 11 (by decide) (by decide), sw 12 (by decide) (by decide), sw 13 (by decide) (by decide), sw 14 (by decide) (by decide), sw 15 (by decide) (by decide), sw 16 (by decide) (by decide), if_false, ite_false] <;> rfl)) rfl rfl
  · have h3 : n = 10 ∨ n = 11 ∨ n = 12 ∨ n = 13 ∨ n = 14 ∨ n = 15 ∨ n = 16 := by omega
    rcases h3 with rfl | rfl | rfl | rfl | rfl | rfl | rfl
    · refine ⟨48, rfl, ?_⟩
      refine w_aload_n rfl rfl rfl ?_
      refine w_cv (q := am_m78) (as := []) (rest := []) (st' := [_]) rfl rfl rfl rfl rfl rfl sp2 rfl rfl rfl rfl (d_readMaker hT v hB hr2 l0 z0 (by omega)) rfl rfl ?_
      exact w_bret rfl (by first | with_reducible exact k_mkr01 | with_reducible exact k_rp01 | with_reducible exact k_sp01 | with_reducible exact k_rg01 | with_reducible exact k_slc01 | with_reducible exact k_sto01 | with_reducible exact k_see01 | decide) (by unfold k_line; first | (simp +decide only [sw, if_true, if_false, ite_true, ite_false]) | (simp only [sw 10 (by decide) (by decide), sw 11 (by decide) (by decide), sw 12 (by decide) (by decide), sw 13 (by decide) (by decide), sw 14 (by decide) (by decide), sw 15 (by decide) (by decide), sw 16 (by decide) (by decide), if_false, ite_false] <;> rfl)) (by unfold k_line; first | (simp +decide only [sw, if_true, if_false, ite_true, ite_false]) | (simp only [sw 10 (by decide) (by decide), sw 11 (by decide) (by decide), sw 12 (by decide) (by decide), sw 13 (by decide) (by decide), sw 14 (by decide) (by decide), sw 15 (by decide) (by decide), sw 16 (by decide) (by decide), if_false, ite_false] <;> rfl)) rfl rfl
    · refine ⟨53, rfl, ?_⟩
      refine w_aload_n rfl rfl rfl ?_
      refine w_cv (q := am_m79) (as := []) (rest := []) (st' := [_]) rfl rfl rfl rfl rfl rfl sp2 rfl rfl rfl rfl (d_readRope hT v hB hr2 l1 z1 l0 z0 (by omega)) rfl rfl ?_
      exact w_bret rfl (by first | with_reducible exact k_mkr01 | with_reducible exact k_rp01 | with_reducible exact k_sp01 | with_reducible exact k_rg01 | with_reducible exact k_slc01 | with_reducible exact k_sto01 | with_reducible exact k_see01 | decide) (by unfold k_line; first | (simp +decide only [sw, if_true, if_false, ite_true, ite_false]) | (simp only [sw 10 (by decide) (by decide), sw 11 (by decide) (by decide), sw 12 (by decide) (by decide), sw 13 (by decide) (by decide), sw 14 (by decide) (by decide), sw 15 (by decide) (by decide), sw 16 (by decide) (by decide), if_false, ite_false] <;> rfl)) (by unfold k_line; first | (simp +decide only [sw, if_true, if_false, ite_true, ite_false]) | (simp only [sw 10 (by decide) (by decide), sw 11 (by decide) (by decide), sw 12 (by decide) (by decide), sw 13 (by decide) (by decide), sw 14 (by decide) (by decide), sw 15 (by decide) (by decide), sw 16 (by decide) (by decide), if_false, ite_false] <;> rfl)) rfl rfl
    · refine ⟨58, rfl, ?_⟩
      refine w_aload_n rfl rfl rfl ?_
      refine w_cv (q := am_m80) (as := []) (rest := []) (st' := [_]) rfl rfl rfl rfl rfl rfl sp2 rfl rfl rfl rfl (d_readShip hT v hB hr2 l2 z2 (by omega)) rfl rfl ?_
      exact w_bret rfl (by first | with_reducible exact k_mkr01 | with_reducible exact k_rp01 | with_reducible exact k_sp01 | with_reducible exact k_rg01 | with_reducible exact k_slc01 | with_reducible exact k_sto01 | with_reducible exact k_see01 | decide) (by unfold k_line; first | (simp +decide only [sw, if_true, if_false, ite_true, ite_false]) | (simp only [sw 10 (by decide) (by decide), sw 11 (by decide) (by decide), sw 12 (by decide) (by decide), sw 13 (by decide) (by decide), sw 14 (by decide) (by decide), sw 15 (by decide) (by decide), sw 16 (by decide) (by decide), if_false, ite_false] <;> rfl)) (by unfold k_line; first | (simp +decide only [sw, if_true, if_false, ite_true, ite_false]) | (simp only [sw 10 (by decide) (by decide), sw 11 (by decide) (by decide), sw 12 (by decide) (by decide), sw 13 (by decide) (by decide), sw 14 (by decide) (by decide), sw 15 (by decide) (by decide), sw 16 (by decide) (by decide), if_false, ite_false] <;> rfl)) rfl rfl
    · refine ⟨63, rfl, ?_⟩
      refine w_aload_n rfl rfl rfl ?_
      refine w_cv (q := am_m81) (as := []) (rest := []) (st' := [_]) rfl rfl rfl rfl rfl rfl sp2 rfl rfl rfl rfl (d_readRig hT v hB hr2 l1 z1 l2 z2 (by omega)) rfl rfl ?_
      exact w_bret rfl (by first | with_reducible exact k_mkr01 | with_reducible exact k_rp01 | with_reducible exact k_sp01 | with_reducible exact k_rg01 | with_reducible exact k_slc01 | with_reducible exact k_sto01 | with_reducible exact k_see01 | decide) (by unfold k_line; first | (simp +decide only [sw, if_true, if_false, ite_true, ite_false]) | (simp only [sw 10 (by decide) (by decide), sw 11 (by decide) (by decide), sw 12 (by decide) (by decide), sw 13 (by decide) (by decide), sw 14 (by decide) (by decide), sw 15 (by decide) (by decide), sw 16 (by decide) (by decide), if_false, ite_false] <;> rfl)) (by unfold k_line; first | (simp +decide only [sw, if_true, if_false, ite_true, ite_false]) | (simp only [sw 10 (by decide) (by decide), sw 11 (by decide) (by decide), sw 12 (by decide) (by decide), sw 13 (by decide) (by decide), sw 14 (by decide) (by decide), sw 15 (by decide) (by decide), sw 16 (by decide) (by decide), if_false, ite_false] <;> rfl)) rfl rfl
    · refine ⟨68, rfl, ?_⟩
      refine w_aload_n rfl rfl rfl ?_
      refine w_cv (q := am_m82) (as := []) (rest := []) (st' := [_]) rfl rfl rfl rfl rfl rfl sp2 rfl rfl rfl rfl (d_readSailC hT v hB hr2 l3 z3 l2 z2 (by omega)) rfl rfl ?_
      exact w_bret rfl (by first | with_reducible exact k_mkr01 | with_reducible exact k_rp01 | with_reducible exact k_sp01 | with_reducible exact k_rg01 | with_reducible exact k_slc01 | with_reducible exact k_sto01 | with_reducible exact k_see01 | decide) (by unfold k_line; first | (simp +decide only [sw, if_true, if_false, ite_true, ite_false]) | (simp only [sw 10 (by decide) (by decide), sw 11 (by decide) (by decide), sw 12 (by decide) (by decide), sw 13 (by decide) (by decide), sw 14 (by decide) (by decide), sw 15 (by decide) (by decide), sw 16 (by decide) (by decide), if_false, ite_false] <;> rfl)) (by unfold k_line; first | (simp +decide only [sw, if_true, if_false, ite_true, ite_false]) | (simp only [sw 10 (by decide) (by decide), sw 11 (by decide) (by decide), sw 12 (by decide) (by decide), sw 13 (by decide) (by decide), sw 14 (by decide) (by decide), sw 15 (by decide) (by decide), sw 16 (by decide) (by decide), if_false, ite_false] <;> rfl)) rfl rfl
    · refine ⟨73, rfl, ?_⟩
      refine w_aload_n rfl rfl rfl ?_
      refine w_cv (q := am_m83) (as := []) (rest := []) (st' := [_]) rfl rfl rfl rfl rfl rfl sp2 rfl rfl rfl rfl (d_readStorm hT v hB hr2 (by omega)) rfl rfl ?_
      exact w_bret rfl (by first | with_reducible exact k_mkr01 | with_reducible exact k_rp01 | with_reducible exact k_sp01 | with_reducible exact k_rg01 | with_reducible exact k_slc01 | with_reducible exact k_sto01 | with_reducible exact k_see01 | decide) (by unfold k_line; first | (simp +decide only [sw, if_true, if_false, ite_true, ite_false]) | (simp only [sw 10 (by decide) (by decide), sw 11 (by decide) (by decide), sw 12 (by decide) (by decide), sw 13 (by decide) (by decide), sw 14 (by decide) (by decide), sw 15 (by decide) (by decide), sw 16 (by decide) (by decide), if_false, ite_false] <;> rfl)) (by unfold k_line; first | (simp +decide only [sw, if_true, if_false, ite_true, ite_false]) | (simp only [sw 10 (by decide) (by decide), sw 11 (by decide) (by decide), sw 12 (by decide) (by decide), sw 13 (by decide) (by decide), sw 14 (by decide) (by decide), sw 15 (by decide) (by decide), sw 16 (by decide) (by decide), if_false, ite_false] <;> rfl)) rfl rfl
    · refine ⟨78, rfl, ?_⟩
      refine w_aload_n rfl rfl rfl ?_
      refine w_cv (q := am_m84) (as := []) (rest := []) (st' := [_]) rfl rfl rfl rfl rfl rfl sp2 rfl rfl rfl rfl (d_readSeed hT v hB hr2 (by omega)) rfl rfl ?_
      exact w_bret rfl (by first | with_reducible exact k_mkr01 | with_reducible exact k_rp01 | with_reducible exact k_sp01 | with_reducible exact k_rg01 | with_reducible exact k_slc01 | with_reducible exact k_sto01 | with_reducible exact k_see01 | decide) (by unfold k_line; first | (simp +decide only [sw, if_true, if_false, ite_true, ite_false]) | (simp only [sw 10 (by decide) (by decide), sw 11 (by decide) (by decide), sw 12 (by decide) (by decide), sw 13 (by decide) (by decide), sw 14 (by decide) (by decide), sw 15 (by decide) (by decide), sw 16 (by decide) (by decide), if_false, ite_false] <;> rfl)) (by unfold k_line; first | (simp +decide only [sw, if_true, if_false, ite_true, ite_false]) | (simp only [sw 10 (by decide) (by decide), sw 11 (by decide) (by decide), sw 12 (by decide) (by decide), sw 13 (by decide) (by decide), sw 14 (by decide) (by decide), sw 15 (by decide) (by decide), sw 16 (by decide) (by decide), if_false, ite_false] <;> rfl)) rfl rfl
theorem d_exchange {k : Nat} {I : hI} {J : hJ} {R : hR} {T O : Nat} (hT : T = 9 ∨ T = 36) (hO : O = 9 ∨ O = 36) (hr2 : R 2 2 = T) (hk : 1 ≤ k) : ct k 75 [.ref 2, .ref O] I J R (some (.ref T)) I J (am_u R 2 2 O) := by
  obtain ⟨k, rfl⟩ : ∃ k', k = k' + 1 := ⟨k - 1, by omega⟩
  refine ct_of (q := am_m75) (o := 8) (rt := (some (.object "RopeWalk$Told"))) (co := am_c75) (L := [_, _, _]) rfl rfl rfl rfl rfl rfl ?_
  refine w_aload_n rfl rfl rfl ?_
  refine w_gf (t := .retAddr 0) (v := .ref (T)) rfl rfl rfl sp2 rfl (congrArg Value.ref hr2) rfl ?_
  refine w_astore_n (L' := [_, _, _]) rfl rfl rfl ?_
  refine w_aload_n rfl rfl rfl ?_
  refine w_aload_n rfl rfl rfl ?_
  refine w_pfR rfl rfl rfl sp2 rfl rfl rfl ?_
  refine w_aload_n rfl rfl rfl ?_
  exact w_aret rfl rfl rfl rfl
