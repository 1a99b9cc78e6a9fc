/-! The class: whether a ship can sail; what calls have changed. -/
def k_csP (I : hI) (T S x : Nat) : Prop := ((I (S + 4) x = 0 ∧ ¬ I T 15 < I S 0) ∨ I (S + 4) x = Int32.ofNat 1) ∧ (I 84 8 = Int32.ofInt (-1) ∨ I 84 8 = Int32.ofNat x)
def k_csD (I : hI) (T S x : Nat) : Decidable (k_csP I T S x) := inferInstanceAs (Decidable (_ ∧ _))
def k_cs (I : hI) (T S : Nat) : Nat → Nat → Int32
  | 0, _ => 0
  | j + 1, x => @ite _ (k_csP I T S x) (k_csD I T S x) 1 (k_cs I T S j (x + 1))
theorem k_cs_s (I : hI) (T S j x : Nat) : k_cs I T S (j + 1) x = @ite _ (k_csP I T S x) (k_csD I T S x) 1 (k_cs I T S j (x + 1)) := rfl
theorem k_cs1 {I : hI} {T S x : Nat} (a : I (S + 4) x = 0) (b : ¬ I T 15 < I S 0) (c : I 84 8 = Int32.ofInt (-1) ∨ I 84 8 = Int32.ofNat x) : k_csP I T S x := ⟨Or.inl ⟨a, b⟩, c⟩
theorem k_cs2 {I : hI} {T S x : Nat} (a : I (S + 4) x = Int32.ofNat 1) (c : I 84 8 = Int32.ofInt (-1) ∨ I 84 8 = Int32.ofNat x) : k_csP I T S x := ⟨Or.inr a, c⟩
theorem k_cs3 {I : hI} {T S x : Nat} (c : ¬ (I 84 8 = Int32.ofInt (-1) ∨ I 84 8 = Int32.ofNat x)) : ¬ k_csP I T S x := fun z => c z.2
theorem k_cs4 {I : hI} {T S x : Nat} (a : ¬ I (S + 4) x = 0) (b : ¬ I (S + 4) x = Int32.ofNat 1) : ¬ k_csP I T S x := fun z => z.1.elim (fun z => a z.1) b
theorem k_cs5 {I : hI} {T S x : Nat} (a : I T 15 < I S 0) (b : ¬ I (S + 4) x = Int32.ofNat 1) : ¬ k_csP I T S x := fun z => z.1.elim (fun z => z.2 a) b
theorem l_canSail {k : Nat} {I : hI} {J : hJ} {R : hR} {T : Nat} (hT : T = 9 ∨ T = 36) (hD : R 84 3 = T) {S : Nat} (hS : S = 63 ∨ S = 70 ∨ S = 77) {n : Nat} (hn : n ≤ 5) (h11 : I (T + 11) 1 = Int32.ofNat n) (hk : 1 ≤ k) : ∀ (j r : Nat) (u : Value), r + j = n → wz k 2 (some .boolean) am_c16 2 [.ref 84, .ref S, .int (Int32.ofNat r), u] [] I J R (some (.int (k_cs I T S j r)), am_hp I J R) := by
  intro j
  induction j with
  | zero =>
    intro r u e
    obtain rfl : n = r := by omega
    refine w_iload_n rfl rfl rfl ?_
    refine w_aload_n rfl rfl rfl ?_
    refine w_gf (t := .retAddr 0) (v := .ref (T)) rfl rfl rfl sp84 rfl (congrArg Value.ref hD) rfl ?_
    refine w_gf (t := .ref (T + 11)) (v := .ref (T + 11)) rfl rfl rfl (shT_0 hT) rfl rfl rfl ?_
    refine w_gf (t := .int 0) (v := .int _) rfl rfl rfl (shT_11 hT) rfl (congrArg Value.int h11) rfl ?_
    refine w_ic_geN (t := 75) (f := 16) rfl rfl rfl (by omega) (by omega) (fun c13 => ?_) (fun c13 => absurd c13 (by omega))
    refine w_iconst (x := Int32.ofNat 0) rfl rfl (by decide) ?_
    exact w_bret rfl (by decide) rfl rfl rfl rfl
  | succ j ih =>
    intro r u e
    rw [k_cs_s]
    refine w_iload_n rfl rfl rfl ?_
    refine w_aload_n rfl rfl rfl ?_
    refine w_gf (t := .retAddr 0) (v := .ref (T)) rfl rfl rfl sp84 rfl (congrArg Value.ref hD) rfl ?_
    refine w_gf (t := .ref (T + 11)) (v := .ref (T + 11)) rfl rfl rfl (shT_0 hT) rfl rfl rfl ?_
    refine w_gf (t := .int 0) (v := .int _) rfl rfl rfl (shT_11 hT) rfl (congrArg Value.int h11) rfl ?_
    refine w_ic_geN (t := 75) (f := 16) rfl rfl rfl (by omega) (by omega) (fun c13 => absurd c13 (by omega)) (fun c13 => ?_)
    refine w_aload_n rfl rfl rfl ?_
    refine w_gf (t := .ref (S + 4)) (v := .ref (S + 4)) rfl rfl rfl (shS_0 hS) rfl rfl rfl ?_
    refine w_iload_n rfl rfl rfl ?_
    refine w_iaload rfl rfl (shS_4 hS) rfl ⟨by omega, by omega⟩ rfl ?_
    refine w_if_ne (t := 43) (f := 25) rfl rfl rfl (fun c22 => ?_) (fun c22 => ?_)
    · refine w_iconst (x := Int32.ofNat 0) rfl rfl (by decide) ?_
      refine w_istore_n (L' := [_, _, _, _]) rfl rfl rfl ?_
      refine w_iload_n rfl rfl rfl ?_
      refine w_if_ne (t := 59) (f := 49) rfl rfl rfl (fun c46 => absurd c46 (by decide)) (fun c46 => ?_)
      clear c46
      refine w_aload_n rfl rfl rfl ?_
      refine w_gf (t := .ref (S + 4)) (v := .ref (S + 4)) rfl rfl rfl (shS_0 hS) rfl rfl rfl ?_
      refine w_iload_n rfl rfl rfl ?_
      refine w_iaload rfl rfl (shS_4 hS) rfl ⟨by omega, by omega⟩ rfl ?_
      refine w_iconst (x := Int32.ofNat 1) rfl rfl (by decide) ?_
      refine w_ic_ne (t := 69) (f := 59) rfl rfl rfl (fun c56 => ?_) (fun c56 => ?_)
      · refine w_iinc (L' := [_, _, _, _]) rfl rfl rfl (am_incN 1) rfl ?_
        refine w_goto (pc' := 2) rfl rfl ?_
        first
          | rw [if_neg (k_cs3 c64)]
          | rw [if_neg (k_cs4 c22 c56)]
          | rw [if_neg (k_cs5 c36 c56)]
        exact ih (r + 1) _ (by omega)
      · refine w_aload_n rfl rfl rfl ?_
        refine w_iload_n rfl rfl rfl ?_
        refine w_cv (q := am_m17) (as := [_]) (rest := []) (st' := [_]) rfl rfl rfl rfl rfl rfl sp84 rfl rfl rfl rfl (d_isWanted hk) rfl rfl ?_
        refine w_if_eqB (t := 69) (f := 67) rfl rfl rfl (fun c64 => ?_) (fun c64 => ?_)
        · refine w_iinc (L' := [_, _, _, _]) rfl rfl rfl (am_incN 1) rfl ?_
          refine w_goto (pc' := 2) rfl rfl ?_
          first
            | rw [if_neg (k_cs3 c64)]
            | rw [if_neg (k_cs4 c22 c56)]
            | rw [if_neg (k_cs5 c36 c56)]
          exact ih (r + 1) _ (by omega)
        · refine w_iconst (x := Int32.ofNat 1) rfl rfl (by decide) ?_
          exact w_bret rfl (by decide) (by first | rw [if_pos (k_cs1 c22 c36 c64)] <;> rfl | rw [if_pos (k_cs2 c56 c64)] <;> rfl) rfl rfl rfl
    · refine w_aload_n rfl rfl rfl ?_
      refine w_gf (t := .int 0) (v := .int _) rfl rfl rfl (shS_0 hS) rfl (congrArg Value.int rfl) rfl ?_
      refine w_aload_n rfl rfl rfl ?_
      refine w_gf (t := .retAddr 0) (v := .ref (T)) rfl rfl rfl sp84 rfl (congrArg Value.ref hD) rfl ?_
      refine w_gf (t := .int 0) (v := .int _) rfl rfl rfl (shT_0 hT) rfl (congrArg Value.int rfl) rfl ?_
      refine w_ic_gt (t := 43) (f := 39) rfl rfl rfl (fun c36 => ?_) (fun c36 => ?_)
      · refine w_iconst (x := Int32.ofNat 0) rfl rfl (by decide) ?_
        refine w_istore_n (L' := [_, _, _, _]) rfl rfl rfl ?_
        refine w_iload_n rfl rfl rfl ?_
        refine w_if_ne (t := 59) (f := 49) rfl rfl rfl (fun c46 => absurd c46 (by decide)) (fun c46 => ?_)
        clear c46
        refine w_aload_n rfl rfl rfl ?_
        refine w_gf (t := .ref (S + 4)) (v := .ref (S + 4)) rfl rfl rfl (shS_0 hS) rfl rfl rfl ?_
        refine w_iload_n rfl rfl rfl ?_
        refine w_iaload rfl rfl (shS_4 hS) rfl ⟨by omega, by omega⟩ rfl ?_
        refine w_iconst (x := Int32.ofNat 1) rfl rfl (by decide) ?_
        refine w_ic_ne (t := 69) (f := 59) rfl rfl rfl (fun c56 => ?_) (fun c56 => ?_)
        · refine w_iinc (L' := [_, _, _, _]) rfl rfl rfl (am_incN 1) rfl ?_
          refine w_goto (pc' := 2) rfl rfl ?_
          first
            | rw [if_neg (k_cs3 c64)]
            | rw [if_neg (k_cs4 c22 c56)]
            | rw [if_neg (k_cs5 c36 c56)]
          exact ih (r + 1) _ (by omega)
        · refine w_aload_n rfl rfl rfl ?_
          refine w_iload_n rfl rfl rfl ?_
          refine w_cv (q := am_m17) (as := [_]) (rest := []) (st' := [_]) rfl rfl rfl rfl rfl rfl sp84 rfl rfl rfl rfl (d_isWanted hk) rfl rfl ?_
          refine w_if_eqB (t := 69) (f := 67) rfl rfl rfl (fun c64 => ?_) (fun c64 => ?_)
          · refine w_iinc (L' := [_, _, _, _]) rfl rfl rfl (am_incN 1) rfl ?_
            refine w_goto (pc' := 2) rfl rfl ?_
            first
              | rw [if_neg (k_cs3 c64)]
              | rw [if_neg (k_cs4 c22 c56)]
              | rw [if_neg (k_cs5 c36 c56)]
            exact ih (r + 1) _ (by omega)
          · refine w_iconst (x := Int32.ofNat 1) rfl rfl (by decide) ?_
            exact w_bret rfl (by decide) (by first | rw [if_pos (k_cs1 c22 c36 c64)] <;> rfl | rw [if_pos (k_cs2 c56 c64)] <;> rfl) rfl rfl rfl
      · refine w_iconst (x := Int32.ofNat 1) rfl rfl (by decide) ?_
        refine w_goto (pc' := 44) rfl rfl ?_
        refine w_istore_n (L' := [_, _, _, _]) rfl rfl rfl ?_
        refine w_iload_n rfl rfl rfl ?_
        refine w_if_ne (t := 59) (f := 49) rfl rfl rfl (fun c46 => ?_) (fun c46 => absurd c46 (by decide))
        clear c46
        refine w_aload_n rfl rfl rfl ?_
        refine w_iload_n rfl rfl rfl ?_
        refine w_cv (q := am_m17) (as := [_]) (rest := []) (st' := [_]) rfl rfl rfl rfl rfl rfl sp84 rfl rfl rfl rfl (d_isWanted hk) rfl rfl ?_
        refine w_if_eqB (t := 69) (f := 67) rfl rfl rfl (fun c64 => ?_) (fun c64 => ?_)
        · refine w_iinc (L' := [_, _, _, _]) rfl rfl rfl (am_incN 1) rfl ?_
          refine w_goto (pc' := 2) rfl rfl ?_
          first
            | rw [if_neg (k_cs3 c64)]
            | rw [if_neg (k_cs4 c22 c56)]
            | rw [if_neg (k_cs5 c36 c56)]
          exact ih (r + 1) _ (by omega)
        · refine w_iconst (x := Int32.ofNat 1) rfl rfl (by decide) ?_
          exact w_bret rfl (by decide) (by first | rw [if_pos (k_cs1 c22 c36 c64)] <;> rfl | rw [if_pos (k_cs2 c56 c64)] <;> rfl) rfl rfl rfl
theorem d_canSail {k : Nat} {I : hI} {J : hJ} {R : hR} {T : Nat} (hT : T = 9 ∨ T = 36) (hD : R 84 3 = T) {S : Nat} (hS : S = 63 ∨ S = 70 ∨ S = 77) {n : Nat} (hn : n ≤ 5) (h11 : I (T + 11) 1 = Int32.ofNat n) (hk : 2 ≤ k) : ct k 16 [.ref 84, .ref S] I J R (some (.int (k_cs I T S n 0))) I J R := by
  obtain ⟨k, rfl⟩ : ∃ k', k = k' + 1 := ⟨k - 1, by omega⟩
  refine ct_of (q := am_m16) (o := 2) (rt := (some .boolean)) (co := am_c16) (L := [_, _, _, _]) rfl rfl rfl rfl rfl rfl ?_
  refine w_iconst (x := Int32.ofNat 0) rfl rfl (by decide) ?_
  refine w_istore_n (L' := [_, _, _, _]) rfl rfl rfl ?_
  exact l_canSail hT hD hS hn h11 (by omega) n 0 _ (by omega)
theorem d_cforget {k : Nat} {I : hI} {J : hJ} {R : hR}  (hk : 1 ≤ k) : ct k 7 [.ref 96] I J R none (am_u I 96 0 (Int32.ofNat 0)) J R := by
  obtain ⟨k, rfl⟩ : ∃ k', k = k' + 1 := ⟨k - 1, by omega⟩
  refine ct_of (q := am_m7) (o := 1) (rt := none) (co := am_c7) (L := [_]) rfl rfl rfl rfl rfl rfl ?_
  refine w_aload_n rfl rfl rfl ?_
  refine w_iconst (x := Int32.ofNat 0) rfl rfl (by decide) ?_
  refine w_pf rfl rfl rfl sp96 rfl rfl rfl ?_
  exact w_ret rfl rfl rfl rfl
theorem am_cq_ne {I : hI} {a0 sp a dp n b : Nat} (h : b ≠ a) : am_cq I a0 sp a dp n b = I b := by
  funext j; unfold am_cq; exact if_neg (fun z => h z.1)
def k_room (I : hI) (u : Nat) : hI := if u < 20 then I else am_cq (am_cq (am_cq (am_cq (am_cq (am_u I 96 0 (Int32.ofNat 19)) 97 1 97 0 19) 98 1 98 0 19) 99 1 99 0 19) 100 1 100 0 19) 101 1 101 0 19
def k_rm (u : Nat) : Nat := if u < 20 then u else 19
theorem k_rm_le {u : Nat} : k_rm u ≤ 19 := by unfold k_rm; split <;> omega
theorem k_room0 {I : hI} {u : Nat} (h0 : I 96 0 = Int32.ofNat u) : k_room I u 96 0 = Int32.ofNat (k_rm u) := by
  unfold k_room k_rm; split
  · exact h0
  · rw [am_cq_ne (by decide), am_cq_ne (by decide), am_cq_ne (by decide), am_cq_ne (by decide), am_cq_ne (by decide)]; exact am_u_at
theorem k_room_ne {I : hI} {u b : Nat} (h : b < 96 ∨ 101 < b) : k_room I u b = I b := by
  unfold k_room; split
  · rfl
  · rw [am_cq_ne (by omega), am_cq_ne (by omega), am_cq_ne (by omega), am_cq_ne (by omega), am_cq_ne (by omega)]; exact am_u_ne (by omega)
theorem d_makeRoom {k : Nat} {I : hI} {J : hJ} {R : hR} {u : Nat} (hu : u ≤ 20) (h0 : I 96 0 = Int32.ofNat u) (hk : 1 ≤ k) : ct k 10 [.ref 96] I J R none (k_room I u) J R := by
  obtain ⟨k, rfl⟩ : ∃ k', k = k' + 1 := ⟨k - 1, by omega⟩
  refine ct_of (q := am_m10) (o := 1) (rt := none) (co := am_c10) (L := [_]) rfl rfl rfl rfl rfl rfl ?_
  refine w_aload_n rfl rfl rfl ?_
  refine w_gf (t := .int 0) (v := .int _) rfl rfl rfl sp96 rfl (congrArg Value.int h0) rfl ?_
  refine w_bipush (x := Int32.ofNat 20) rfl rfl (by decide) ?_
  refine w_ic_geN (t := 10) (f := 9) rfl rfl rfl (by omega) (by omega) (fun c6 => ?_) (fun c6 => ?_)
  · refine w_aload_n rfl rfl rfl ?_
    refine w_bipush (x := Int32.ofNat 19) rfl rfl (by decide) ?_
    refine w_pf rfl rfl rfl sp96 rfl rfl rfl ?_
    refine w_aload_n rfl rfl rfl ?_
    refine w_gf (t := .ref (97)) (v := .ref (97)) rfl rfl rfl sp96 rfl rfl rfl ?_
    refine w_iconst (x := Int32.ofNat 1) rfl rfl (by decide) ?_
    refine w_aload_n rfl rfl rfl ?_
    refine w_gf (t := .ref (97)) (v := .ref (97)) rfl rfl rfl sp96 rfl rfl rfl ?_
    refine w_iconst (x := Int32.ofNat 0) rfl rfl (by decide) ?_
    refine w_aload_n rfl rfl rfl ?_
    refine w_gf (t := .int 0) (v := .int _) rfl rfl rfl sp96 rfl (congrArg Value.int am_u_at) rfl ?_
    refine w_cpy rfl rfl rfl sp97 sp97 ⟨by omega, by omega⟩ ⟨by omega, by omega⟩ (Nat.le_of_ble_eq_true rfl) ?_
    refine w_aload_n rfl rfl rfl ?_
    refine w_gf (t := .ref (98)) (v := .ref (98)) rfl rfl rfl sp96 rfl rfl rfl ?_
    refine w_iconst (x := Int32.ofNat 1) rfl rfl (by decide) ?_
    refine w_aload_n rfl rfl rfl ?_
    refine w_gf (t := .ref (98)) (v := .ref (98)) rfl rfl rfl sp96 rfl rfl rfl ?_
    refine w_iconst (x := Int32.ofNat 0) rfl rfl (by decide) ?_
    refine w_aload_n rfl rfl rfl ?_
    refine w_gf (t := .int 0) (v := .int _) rfl rfl rfl sp96 rfl (congrArg Value.int ((congrFun (am_cq_ne (by decide)) _).trans am_u_at)) rfl ?_
    refine w_cpy rfl rfl rfl sp98 sp98 ⟨by omega, by omega⟩ ⟨by omega, by omega⟩ (Nat.le_of_ble_eq_true rfl) ?_
    refine w_aload_n rfl rfl rfl ?_
    refine w_gf (t := .ref (99)) (v := .ref (99)) rfl rfl rfl sp96 rfl rfl rfl ?_
    refine w_iconst (x := Int32.ofNat 1) rfl rfl (by decide) ?_
    refine w_aload_n rfl rfl rfl ?_
    refine w_gf (t := .ref (99)) (v := .ref (99)) rfl rfl rfl sp96 rfl rfl rfl ?_
    refine w_iconst (x := Int32.ofNat 0) rfl rfl (by decide) ?_
    refine w_aload_n rfl rfl rfl ?_
    refine w_gf (t := .int 0) (v := .int _) rfl rfl rfl sp96 rfl (congrArg Value.int ((congrFun (am_cq_ne (by decide)) _).trans ((congrFun (am_cq_ne (by decide)) _).trans am_u_at))) rfl ?_
    refine w_cpy rfl rfl rfl sp99 sp99 ⟨by omega, by omega⟩ ⟨by omega, by omega⟩ (Nat.le_of_ble_eq_true rfl) ?_
    refine w_aload_n rfl rfl rfl ?_
    refine w_gf (t := .ref (100)) (v := .ref (100)) rfl rfl rfl sp96 rfl rfl rfl ?_
    refine w_iconst (x := Int32.ofNat 1) rfl rfl (by decide) ?_
    refine w_aload_n rfl rfl rfl ?_
    refine w_gf (t := .ref (100)) (v := .ref (100)) rfl rfl rfl sp96 rfl rfl rfl ?_
    refine w_iconst (x := Int32.ofNat 0) rfl rfl (by decide) ?_
    refine w_aload_n rfl rfl rfl ?_
    refine w_gf (t := .int 0) (v := .int _) rfl rfl rfl sp96 rfl (congrArg Value.int ((congrFun (am_cq_ne (by decide)) _).trans ((congrFun (am_cq_ne (by decide)) _).trans ((congrFun (am_cq_ne (by decide)) _).trans am_u_at)))) rfl ?_
    refine w_cpy rfl rfl rfl sp100 sp100 ⟨by omega, by omega⟩ ⟨by omega, by omega⟩ (Nat.le_of_ble_eq_true rfl) ?_
    refine w_aload_n rfl rfl rfl ?_
    refine w_gf (t := .ref (101)) (v := .ref (101)) rfl rfl rfl sp96 rfl rfl rfl ?_
    refine w_iconst (x := Int32.ofNat 1) rfl rfl (by decide) ?_
    refine w_aload_n rfl rfl rfl ?_
    refine w_gf (t := .ref (101)) (v := .ref (101)) rfl rfl rfl sp96 rfl rfl rfl ?_
    refine w_iconst (x := Int32.ofNat 0) rfl rfl (by decide) ?_
    refine w_aload_n rfl rfl rfl ?_
    refine w_gf (t := .int 0) (v := .int _) rfl rfl rfl sp96 rfl (congrArg Value.int ((congrFun (am_cq_ne (by decide)) _).trans ((congrFun (am_cq_ne (by decide)) _).trans ((congrFun (am_cq_ne (by decide)) _).trans ((congrFun (am_cq_ne (by decide)) _).trans am_u_at))))) rfl ?_
    refine w_cpy rfl rfl rfl sp101 sp101 ⟨by omega, by omega⟩ ⟨by omega, by omega⟩ (Nat.le_of_ble_eq_true rfl) ?_
    exact w_ret rfl (by unfold k_room; first | rw [if_pos (show u < 20 by omega)] | rw [if_neg (show ¬ u < 20 by omega)]) rfl rfl
  · exact w_ret rfl (by unfold k_room; first | rw [if_pos (show u < 20 by omega)] | rw [if_neg (show ¬ u < 20 by omega)]) rfl rfl
def k_nr (I : hI) (S u r : Nat) : hI := am_u (am_u (am_u (am_u (am_u (k_room I u) 97 (k_rm u) (Int32.ofNat r)) 98 (k_rm u) (k_room I u (S + 1) r)) 99 (k_rm u) (k_room I u (S + 2) r)) 100 (k_rm u) (k_room I u (S + 3) r)) 96 0 (Int32.ofNat (k_rm u + 1))
def k_ns (I : hI) (u : Nat) (x : Int32) : hI := am_u (am_u (am_u (k_room I u) 97 (k_rm u) (Int32.ofInt (-1))) 101 (k_rm u) x) 96 0 (Int32.ofNat (k_rm u + 1))
theorem d_noteRope {k : Nat} {I : hI} {J : hJ} {R : hR} {S : Nat} (hS : S = 63 ∨ S = 70 ∨ S = 77) {u r : Nat} (hr8 : r < 8) (hu : u ≤ 20) (h0 : I 96 0 = Int32.ofNat u) (hk : 2 ≤ k) : ct k 8 [.ref 96, .ref S, .int (Int32.ofNat r)] I J R none (k_nr I S u r) J R := by
  obtain ⟨k, rfl⟩ : ∃ k', k = k' + 1 := ⟨k - 1, by omega⟩
  have hr := k_room0 (I := I) h0
  have hl := k_rm_le (u := u)
  refine ct_of (q := am_m8) (o := 1) (rt := none) (co := am_c8) (L := [_, _, _]) rfl rfl rfl rfl rfl rfl ?_
  refine w_aload_n rfl rfl rfl ?_
  refine w_cv (q := am_m10) (as := []) (rest := []) (st' := []) rfl rfl rfl rfl rfl rfl sp96 rfl rfl rfl rfl (d_makeRoom hu h0 (by omega)) rfl rfl ?_
  refine w_aload_n rfl rfl rfl ?_
  refine w_gf (t := .ref (97)) (v := .ref (97)) rfl rfl rfl sp96 rfl rfl rfl ?_
  refine w_aload_n rfl rfl rfl ?_
  refine w_gf (t := .int 0) (v := .int _) rfl rfl rfl sp96 rfl (congrArg Value.int hr) rfl ?_
  refine w_iload_n rfl rfl rfl ?_
  refine w_iastore rfl rfl sp97 rfl ⟨by omega, by omega⟩ ?_
  refine w_aload_n rfl rfl rfl ?_
  refine w_gf (t := .ref (98)) (v := .ref (98)) rfl rfl rfl sp96 rfl rfl rfl ?_
  refine w_aload_n rfl rfl rfl ?_
  refine w_gf (t := .int 0) (v := .int _) rfl rfl rfl sp96 rfl (congrArg Value.int ((congrFun (am_u_ne (by decide)) _).trans hr)) rfl ?_
  refine w_aload_n rfl rfl rfl ?_
  refine w_gf (t := .ref (S + 1)) (v := .ref (S + 1)) rfl rfl rfl (shS_0 hS) rfl rfl rfl ?_
  refine w_iload_n rfl rfl rfl ?_
  refine w_iaload rfl rfl (shS_1 hS) rfl ⟨by omega, by omega⟩ (congrFun (am_u_ne (by omega)) _) ?_
  refine w_iastore rfl rfl sp98 rfl ⟨by omega, by omega⟩ ?_
  refine w_aload_n rfl rfl rfl ?_
  refine w_gf (t := .ref (99)) (v := .ref (99)) rfl rfl rfl sp96 rfl rfl rfl ?_
  refine w_aload_n rfl rfl rfl ?_
  refine w_gf (t := .int 0) (v := .int _) rfl rfl rfl sp96 rfl (congrArg Value.int (((congrFun (am_u_ne (by decide)) _).trans (congrFun (am_u_ne (by decide)) _)).trans hr)) rfl ?_
  refine w_aload_n rfl rfl rfl ?_
  refine w_gf (t := .ref (S + 2)) (v := .ref (S + 2)) rfl rfl rfl (shS_0 hS) rfl rfl rfl ?_
  refine w_iload_n rfl rfl rfl ?_
  refine w_iaload rfl rfl (shS_2 hS) rfl ⟨by omega, by omega⟩ ((congrFun (am_u_ne (by omega)) _).trans (congrFun (am_u_ne (by omega)) _)) ?_
  refine w_iastore rfl rfl sp99 rfl ⟨by omega, by omega⟩ ?_
  refine w_aload_n rfl rfl rfl ?_
  refine w_gf (t := .ref (100)) (v := .ref (100)) rfl rfl rfl sp96 rfl rfl rfl ?_
  refine w_aload_n rfl rfl rfl ?_
  refine w_gf (t := .int 0) (v := .int _) rfl rfl rfl sp96 rfl (congrArg Value.int (((congrFun (am_u_ne (by decide)) _).trans ((congrFun (am_u_ne (by decide)) _).trans (congrFun (am_u_ne (by decide)) _))).trans hr)) rfl ?_
  refine w_aload_n rfl rfl rfl ?_
  refine w_gf (t := .ref (S + 3)) (v := .ref (S + 3)) rfl rfl rfl (shS_0 hS) rfl rfl rfl ?_
  refine w_iload_n rfl rfl rfl ?_
  refine w_iaload rfl rfl (shS_3 hS) rfl ⟨by omega, by omega⟩ ((congrFun (am_u_ne (by omega)) _).trans ((congrFun (am_u_ne (by omega)) _).trans (congrFun (am_u_ne (by omega)) _))) ?_
  refine w_iastore rfl rfl sp100 rfl ⟨by omega, by omega⟩ ?_
  refine w_aload_n rfl rfl rfl ?_
  refine w_dup rfl rfl rfl ?_
  refine w_gf (t := .int 0) (v := .int _) rfl rfl rfl sp96 rfl (congrArg Value.int (((congrFun (am_u_ne (by decide)) _).trans ((congrFun (am_u_ne (by decide)) _).trans ((congrFun (am_u_ne (by decide)) _).trans (congrFun (am_u_ne (by decide)) _)))).trans hr)) rfl ?_
  refine w_iconst (x := Int32.ofNat 1) rfl rfl (by decide) ?_
  refine w_iaddN rfl rfl ?_
  refine w_pf rfl rfl rfl sp96 rfl rfl rfl ?_
  exact w_ret rfl rfl rfl rfl
theorem d_noteShip {k : Nat} {I : hI} {J : hJ} {R : hR} {u : Nat} {x : Int32} (hu : u ≤ 20) (h0 : I 96 0 = Int32.ofNat u) (hk : 2 ≤ k) : ct k 9 [.ref 96, .int x] I J R none (k_ns I u x) J R := by
  obtain ⟨k, rfl⟩ : ∃ k', k = k' + 1 := ⟨k - 1, by omega⟩
  have hr := k_room0 (I := I) h0
  have hl := k_rm_le (u := u)
  refine ct_of (q := am_m9) (o := 1) (rt := none) (co := am_c9) (L := [_, _]) rfl rfl rfl rfl rfl rfl ?_
  refine w_aload_n rfl rfl rfl ?_
  refine w_cv (q := am_m10) (as := []) (rest := []) (st' := []) rfl rfl rfl rfl rfl rfl sp96 rfl rfl rfl rfl (d_makeRoom hu h0 (by omega)) rfl rfl ?_
  refine w_aload_n rfl rfl rfl ?_
  refine w_gf (t := .ref (97)) (v := .ref (97)) rfl rfl rfl sp96 rfl rfl rfl ?_
  refine w_aload_n rfl rfl rfl ?_
  refine w_gf (t := .int 0) (v := .int _) rfl rfl rfl sp96 rfl (congrArg Value.int hr) rfl ?_
  refine w_iconst (x := Int32.ofInt (-1)) rfl rfl (by decide) ?_
  refine w_iastore rfl rfl sp97 rfl ⟨by omega, by omega⟩ ?_
  refine w_aload_n rfl rfl rfl ?_
  refine w_gf (t := .ref (101)) (v := .ref (101)) rfl rfl rfl sp96 rfl rfl rfl ?_
  refine w_aload_n rfl rfl rfl ?_
  refine w_gf (t := .int 0) (v := .int _) rfl rfl rfl sp96 rfl (congrArg Value.int ((congrFun (am_u_ne (by decide)) _).trans hr)) rfl ?_
  refine w_iload_n rfl rfl rfl ?_
  refine w_iastore rfl rfl sp101 rfl ⟨by omega, by omega⟩ ?_
  refine w_aload_n rfl rfl rfl ?_
  refine w_dup rfl rfl rfl ?_
  refine w_gf (t := .int 0) (v := .int _) rfl rfl rfl sp96 rfl (congrArg Value.int (((congrFun (am_u_ne (by decide)) _).trans (congrFun (am_u_ne (by decide)) _)).trans hr)) rfl ?_
  refine w_iconst (x := Int32.ofNat 1) rfl rfl (by decide) ?_
  refine w_iaddN rfl rfl ?_
  refine w_pf rfl rfl rfl sp96 rfl rfl rfl ?_
  exact w_ret rfl rfl rfl rfl
