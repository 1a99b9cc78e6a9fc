/-! The law's frame: rope; the loop. -/
theorem rope_al {T O u q : Nat} {N : Nat → Nat} {I : hI} {J : hJ} (h : REL T O N u q I J I J) {r m : Nat} (hr : r < N 1) (hm : m ≤ 4) : k_rope I T r m = m_rope I r (Int32.ofNat m) := by
  have hn := h.1.2.1.1.2.1
  obtain ⟨y1, y2, y3, y4⟩ := rB_r h.2.1 (show r < 8 by omega)
  have y3 := y3.resolve_left (fun z => by have := z.1; omega)
  obtain ⟨t1, t2, t3, t4⟩ := h.1.2.2.2.2.2.1.2.1 r hr
  have h3 : m = 0 ∨ m = 1 ∨ m = 2 ∨ m = 3 ∨ m = 4 := by omega
  rcases h3 with rfl | rfl | rfl | rfl | rfl
  · exact t2
  · exact t3
  · exact y1
  · exact y2
  · show (if I 66 r = Int32.ofInt (-1) then Int32.ofInt (-2) else I 66 r) = (if I 140 r < 0 then Int32.ofInt (-2) else I 140 r)
    rw [← y3]
    by_cases c : I 66 r = Int32.ofInt (-1)
    · rw [if_pos c, if_pos ((am_neg1 y4).mpr c)]
    · rw [if_neg c, if_neg (fun z => c ((am_neg1 y4).mp z))]
theorem ropeT_0 {m : Nat} (hm : m ≤ 4) : m_ropeT (Int32.ofNat m) = 0 := by
  have h3 : m = 0 ∨ m = 1 ∨ m = 2 ∨ m = 3 ∨ m = 4 := by omega
  rcases h3 with rfl | rfl | rfl | rfl | rfl <;> rfl
theorem ropeT_2 {w : Int32} (hw : ∀ n : Nat, n ≤ 4 → ¬ w = Int32.ofNat n) : m_ropeT w = 2 := by
  unfold m_ropeT
  rw [if_neg]
  · rfl
  · intro z
    rcases z with z | z | z | z | z
    · exact hw 0 (by omega) z
    · exact hw 1 (by omega) z
    · exact hw 2 (by omega) z
    · exact hw 3 (by omega) z
    · exact hw 4 (by omega) z
/-- rope -/
theorem lc_4 {ys : List Int32} {n j : Nat} {u v : Value} {I : hI} {J : hJ} {R : hR} (hy : ys.length ≤ 3072) (hj : j + 6 ≤ ys.length) (G : ∀ I J R u v, INV I J R → lz ys n 1413 (am_L0 (Int32.ofNat j) u v) [] I J R) (h : INV I J R) : lz ys (n + 80) 360 (am_L0 (Int32.ofNat j) u v) [] I J R := by
  refine l_pu (pc' := 361) rfl rfl rfl rfl ?_
  refine l_ld (c := 1) (p6 := 367) rfl rfl rfl rfl rfl rfl hy (by omega) ?_
  refine l_ld (c := 2) (p6 := 373) rfl rfl rfl rfl rfl rfl hy (by omega) ?_
  refine l_pu (pc' := 374) rfl rfl rfl rfl ?_
  obtain ⟨T, O, N, u0, q, k, r0, r2⟩ := id h
  obtain ⟨hT, _⟩ := rA_hT k.1
  obtain ⟨t, m0, l0⟩ := rA_ctk k.1
  have tk := k.1.2.2.2.2.1
  have n1 := t.1.1
  have tail := fun (I2 : hI) (J2 : hJ) (e z : Int32) => lc_4t (u := u) (v := v) (I := I) (I2 := I2) (J := J2) (R := R) (e := e) (z := z) hy hj G
  generalize hx : ys.getD (j + 1) 0 = x at tail ⊢
  generalize hw : ys.getD (j + 2) 0 = w at tail ⊢
  by_cases c : ¬ x < 0 ∧ x < I (T + 5) 1
  · obtain ⟨r, hr, rfl⟩ := am_oneN t.2.1.1 (by omega) c
    by_cases cw : ∃ m : Nat, m ≤ 4 ∧ w = Int32.ofNat m
    · obtain ⟨m, hm, rfl⟩ := cw
      refine lz_le (l_x1 (d_rope hT r0 t hr hm (by omega)) (tail _ _ 0 (m_rope I r (Int32.ofNat m)) (c_rope tk hr (by omega)) ?_ ?_ ?_)) (show n + 40 + 1 ≤ n + 68 by omega)
      · rw [am_u_at]; exact ropeT_0 hm
      · intro _
        rw [am_u_at, rope_al k hr hm]
      · exact INV_2 (INV_J h)
    · refine lz_le (l_x3 (d_rope2 hT r0 t hr (fun m hm e => cw ⟨m, hm, e⟩) (by omega)) (tail _ _ 2 (m_rope I r w) (c_rope tk hr (by omega)) ?_ (fun z => absurd z (by decide)) (INV_2 h))) (show n + 40 + 1 ≤ n + 68 by omega)
      rw [am_u_at]; exact ropeT_2 (fun m hm e => cw ⟨m, hm, e⟩)
  · refine lz_le (l_x2 (d_rope1 hT r0 c (by omega)) (tail _ _ 1 0 (c_rope_no ?_ (by omega)) ?_ (fun z => absurd z (by decide)) (INV_2 h))) (show n + 40 + 1 ≤ n + 68 by omega)
    · rw [tk.2.1.2.1, ← t.2.1.1]; exact c
    · rw [am_u_at]; rfl
