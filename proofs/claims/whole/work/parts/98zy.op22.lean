/-! Calls alike (twenty-three): rope, which may throw. -/
def k_rope (I : hI) (T r n : Nat) : Int32 := if n = 0 then I (T + 7) r else if n = 1 then I (T + 8) r else if n = 2 then I 64 r else if n = 3 then I 65 r else if I 66 r = Int32.ofInt (-1) then Int32.ofInt (-2) else I 66 r
theorem d_rope {k : Nat} {I : hI} {J : hJ} {R : hR} {T : Nat} (hT : T = 9 ∨ T = 36) (h0 : R 0 3 = T) {N : Nat → Nat} (t : ctk I T N) {r : Nat} (hr : r < N 1) {n : Nat} (hn : n ≤ 4) (hk : 2 ≤ k) : ct k 113 [.ref 0, .int (Int32.ofNat r), .int (Int32.ofNat n)] I J R (some (.int (k_rope I T r n))) I J R := by
  obtain ⟨k, rfl⟩ : ∃ k', k = k' + 1 := ⟨k - 1, by omega⟩
  obtain ⟨⟨l1, l2, l3⟩, ⟨e5, e11, e3⟩, rM, tH, sM, ⟨e18, l18⟩, ⟨e21, l21⟩, ⟨e24, l24⟩⟩ := id t
  refine ct_of (q := am_m113) (o := 11) (rt := (some .int)) (co := am_c113) (L := [_, _, _]) rfl rfl rfl rfl rfl rfl ?_
  refine w_aload_n rfl rfl rfl ?_
  refine w_iload_n rfl rfl rfl ?_
  refine w_cv (q := am_m161) (as := [_]) (rest := []) (st' := [_]) rfl rfl rfl rfl rfl rfl sp0 rfl rfl rfl rfl (d_isRope hT h0 (by omega)) rfl rfl ?_
  refine w_if_neB (t := 18) (f := 8) rfl rfl rfl (fun c5 => ?_) (fun c5 => absurd c5 (k_isok hr (by omega) e5))
  refine w_iload_n rfl rfl rfl ?_
  refine w_ts (lo := 0) (hi := 4) (d := 120) rfl rfl (by decide) (fun sw => absurd rfl (sw n (by omega) (by omega))) (fun m h1 h2 sw => ?_)
  have em : n = m := (am_eqN (by omega) (by omega)).mp sw
  subst em
  have h3 : n = 0 ∨ n = 1 ∨ n = 2 ∨ n = 3 ∨ n = 4 := by omega
  rcases h3 with rfl | rfl | rfl | rfl | rfl
  · refine ⟨52, rfl, ?_⟩
    refine w_aload_n rfl rfl rfl ?_
    refine w_gf (t := .retAddr 0) (v := .ref (T)) rfl rfl rfl sp0 rfl (congrArg Value.ref h0) rfl ?_
    refine w_gf (t := .ref (T + 7)) (v := .ref (T + 7)) rfl rfl rfl (shT_0 hT) rfl rfl rfl ?_
    refine w_iload_n rfl rfl rfl ?_
    refine w_iaload rfl rfl (shT_7 hT) rfl ⟨by omega, by omega⟩ rfl ?_
    exact w_iret rfl rfl rfl rfl rfl
  · refine ⟨62, rfl, ?_⟩
    refine w_aload_n rfl rfl rfl ?_
    refine w_gf (t := .retAddr 0) (v := .ref (T)) rfl rfl rfl sp0 rfl (congrArg Value.ref h0) rfl ?_
    refine w_gf (t := .ref (T + 8)) (v := .ref (T + 8)) rfl rfl rfl (shT_0 hT) rfl rfl rfl ?_
    refine w_iload_n rfl rfl rfl ?_
    refine w_iaload rfl rfl (shT_8 hT) rfl ⟨by omega, by omega⟩ rfl ?_
    exact w_iret rfl rfl rfl rfl rfl
  · refine ⟨72, rfl, ?_⟩
    refine w_aload_n rfl rfl rfl ?_
    refine w_gf (t := .ref (63)) (v := .ref (63)) rfl rfl rfl sp0 rfl rfl rfl ?_
    refine w_gf (t := .ref (64)) (v := .ref (64)) rfl rfl rfl sp63 rfl rfl rfl ?_
    refine w_iload_n rfl rfl rfl ?_
    refine w_iaload rfl rfl sp64 rfl ⟨by omega, by omega⟩ rfl ?_
    exact w_iret rfl rfl rfl rfl rfl
  · refine ⟨82, rfl, ?_⟩
    refine w_aload_n rfl rfl rfl ?_
    refine w_gf (t := .ref (63)) (v := .ref (63)) rfl rfl rfl sp0 rfl rfl rfl ?_
    refine w_gf (t := .ref (65)) (v := .ref (65)) rfl rfl rfl sp63 rfl rfl rfl ?_
    refine w_iload_n rfl rfl rfl ?_
    refine w_iaload rfl rfl sp65 rfl ⟨by omega, by omega⟩ rfl ?_
    exact w_iret rfl rfl rfl rfl rfl
  · refine ⟨92, rfl, ?_⟩
    have ek : k_rope I T r 4 = if I 66 r = Int32.ofInt (-1) then Int32.ofInt (-2) else I 66 r := rfl
    rw [ek]
    refine w_aload_n rfl rfl rfl ?_
    refine w_gf (t := .ref (63)) (v := .ref (63)) rfl rfl rfl sp0 rfl rfl rfl ?_
    refine w_gf (t := .ref (66)) (v := .ref (66)) rfl rfl rfl sp63 rfl rfl rfl ?_
    refine w_iload_n rfl rfl rfl ?_
    refine w_iaload rfl rfl sp66 rfl ⟨by omega, by omega⟩ rfl ?_
    refine w_iconst (x := Int32.ofInt (-1)) rfl rfl (by decide) ?_
    refine w_ic_ne (t := 110) (f := 105) rfl rfl rfl (fun c => ?_) (fun c => ?_)
    · refine w_aload_n rfl rfl rfl ?_
      refine w_gf (t := .ref (63)) (v := .ref (63)) rfl rfl rfl sp0 rfl rfl rfl ?_
      refine w_gf (t := .ref (66)) (v := .ref (66)) rfl rfl rfl sp63 rfl rfl rfl ?_
      refine w_iload_n rfl rfl rfl ?_
      refine w_iaload rfl rfl sp66 rfl ⟨by omega, by omega⟩ rfl ?_
      exact w_iret rfl (if_neg c).symm rfl rfl rfl
    · refine w_bipush (x := Int32.ofInt (-2)) rfl rfl (by decide) ?_
      refine w_goto (pc' := 119) rfl rfl ?_
      exact w_iret rfl (if_pos c).symm rfl rfl rfl
theorem d_rope2 {k : Nat} {I : hI} {J : hJ} {R : hR} {T : Nat} (hT : T = 9 ∨ T = 36) (h0 : R 0 3 = T) {N : Nat → Nat} (t : ctk I T N) {r : Nat} (hr : r < N 1) {w : Int32} (hw : ∀ n : Nat, n ≤ 4 → ¬ w = Int32.ofNat n) (hk : 2 ≤ k) : ct k 113 [.ref 0, .int (Int32.ofNat r), .int w] I J R (some (.double 2)) I J R := by
  obtain ⟨k, rfl⟩ : ∃ k', k = k' + 1 := ⟨k - 1, by omega⟩
  obtain ⟨⟨l1, l2, l3⟩, ⟨e5, e11, e3⟩, _⟩ := id t
  refine ct_of (q := am_m113) (o := 11) (rt := (some .int)) (co := am_c113) (L := [_, _, _]) rfl rfl rfl rfl rfl rfl ?_
  refine w_aload_n rfl rfl rfl ?_
  refine w_iload_n rfl rfl rfl ?_
  refine w_cv (q := am_m161) (as := [_]) (rest := []) (st' := [_]) rfl rfl rfl rfl rfl rfl sp0 rfl rfl rfl rfl (d_isRope hT h0 (by omega)) rfl rfl ?_
  refine w_if_neB (t := 18) (f := 8) rfl rfl rfl (fun c5 => ?_) (fun c5 => absurd c5 (k_isok hr (by omega) e5))
  refine w_iload_n rfl rfl rfl ?_
  refine w_ts (lo := 0) (hi := 4) (d := 120) rfl rfl (by decide) (fun sw => ?_) (fun m h1 h2 sw => absurd sw (hw m h2))
  exact wz_end (st_rt (i := .new 162) (w := 3) rfl rfl rfl rfl rfl rfl rfl) rfl rfl rfl
theorem d_rope1 {k : Nat} {I : hI} {J : hJ} {R : hR} {T : Nat} (hT : T = 9 ∨ T = 36) (h0 : R 0 3 = T) {x w : Int32} (hx : ¬ (¬ x < 0 ∧ x < I (T + 5) 1)) (hk : 2 ≤ k) : ct k 113 [.ref 0, .int x, .int w] I J R (some (.double 1)) I J R := by
  obtain ⟨k, rfl⟩ : ∃ k', k = k' + 1 := ⟨k - 1, by omega⟩
  refine ct_of (q := am_m113) (o := 11) (rt := (some .int)) (co := am_c113) (L := [_, _, _]) rfl rfl rfl rfl rfl rfl ?_
  refine w_aload_n rfl rfl rfl ?_
  refine w_iload_n rfl rfl rfl ?_
  refine w_cv (q := am_m161) (as := [_]) (rest := []) (st' := [_]) rfl rfl rfl rfl rfl rfl sp0 rfl rfl rfl rfl (d_isRope hT h0 (by omega)) rfl rfl ?_
  refine w_if_neB (t := 18) (f := 8) rfl rfl rfl (fun c5 => absurd c5 hx) (fun c5 => ?_)
  exact wz_end (st_rt (i := .new 140) (w := 3) rfl rfl rfl rfl rfl rfl rfl) rfl rfl rfl
