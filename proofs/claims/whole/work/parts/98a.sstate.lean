/-! Class and reference: states changed alike. -/
theorem sR_c {S b : Nat} {x : Int32} {N : Nat → Nat} {I I1 K K1 : hI} (h1 : ∀ a i, S ≤ a → a ≤ S + 6 → I1 a i = I a i) (h2 : ∀ a i, 138 ≤ a → a ≤ 145 → K1 a i = K a i) (h : sR S b x N I K) : sR S b x N I1 K1 := by
  obtain ⟨s1, s2, s3, s4⟩ := h
  have f : ∀ j i, j ≤ 6 → I1 (S + j) i = I (S + j) i := fun j i hj => h1 _ _ (by omega) (by omega)
  have f0 : ∀ i, I1 S i = I S i := fun i => h1 _ _ (by omega) (by omega)
  refine ⟨by rw [f0, h2 145 _ (by omega) (by omega)]; exact s1, fun r hr => ?_, fun s hs w => ?_, fun e => by rw [f0, h2 144 _ (by omega) (by omega)]; exact s4 e⟩
  · rw [f 3 _ (by omega), f 1 _ (by omega), f 2 _ (by omega), h2 140 _ (by omega) (by omega), h2 138 _ (by omega) (by omega), h2 139 _ (by omega) (by omega)]; exact s2 r hr
  · rw [f 4 _ (by omega), f 5 _ (by omega), f 6 _ (by omega), h2 141 _ (by omega) (by omega), h2 142 _ (by omega) (by omega), h2 143 _ (by omega) (by omega)]; exact s3 s hs w
theorem sR_1 {S b r : Nat} {x v : Int32} {N : Nat → Nat} {I K : hI} (h : sR S b x N I K) (hr : r < N 1) : sR S b x N (am_u I (S + 1) r v) (am_u K 138 (8 * b + r) v) := by
  obtain ⟨s1, s2, s3, s4⟩ := h
  have e0 : am_u I (S + 1) r v S = I S := am_u_ne (by omega)
  have e2 : am_u I (S + 1) r v (S + 2) = I (S + 2) := am_u_ne (by omega)
  have e3 : am_u I (S + 1) r v (S + 3) = I (S + 3) := am_u_ne (by omega)
  have e4 : am_u I (S + 1) r v (S + 4) = I (S + 4) := am_u_ne (by omega)
  have e5 : am_u I (S + 1) r v (S + 5) = I (S + 5) := am_u_ne (by omega)
  have e6 : am_u I (S + 1) r v (S + 6) = I (S + 6) := am_u_ne (by omega)
  have k139 : am_u K 138 (8 * b + r) v 139 = K 139 := am_u_ne (by decide)
  have k140 : am_u K 138 (8 * b + r) v 140 = K 140 := am_u_ne (by decide)
  have k141 : am_u K 138 (8 * b + r) v 141 = K 141 := am_u_ne (by decide)
  have k142 : am_u K 138 (8 * b + r) v 142 = K 142 := am_u_ne (by decide)
  have k143 : am_u K 138 (8 * b + r) v 143 = K 143 := am_u_ne (by decide)
  have k144 : am_u K 138 (8 * b + r) v 144 = K 144 := am_u_ne (by decide)
  have k145 : am_u K 138 (8 * b + r) v 145 = K 145 := am_u_ne (by decide)
  unfold sR
  rw [e0, e3, e2, e4, e5, e6, k140, k139, k141, k142, k143, k144, k145]
  refine ⟨s1, fun q hq => ?_, s3, s4⟩
  obtain ⟨p1, p2, p3, p4⟩ := s2 q hq
  refine ⟨p1, p2, fun w => ?_, fun g => ?_⟩
  · by_cases e : q = r
    · subst e; rw [am_u_at, am_u_at]; exact ⟨rfl, (p3 w).2⟩
    · rw [am_u_nk e, am_u_nk (show 8 * b + q ≠ 8 * b + r by omega)]; exact p3 w
  · rw [am_u_nk (show q ≠ r by omega)]; exact p4 g
theorem sR_1K {S b r : Nat} {x v : Int32} {N : Nat → Nat} {I K : hI} (h : sR S b x N I K) (w0 : ¬ wt x (I (S + 3) r)) : sR S b x N I (am_u K 138 (8 * b + r) v) := by
  obtain ⟨s1, s2, s3, s4⟩ := h
  have k139 : am_u K 138 (8 * b + r) v 139 = K 139 := am_u_ne (by decide)
  have k140 : am_u K 138 (8 * b + r) v 140 = K 140 := am_u_ne (by decide)
  have k141 : am_u K 138 (8 * b + r) v 141 = K 141 := am_u_ne (by decide)
  have k142 : am_u K 138 (8 * b + r) v 142 = K 142 := am_u_ne (by decide)
  have k143 : am_u K 138 (8 * b + r) v 143 = K 143 := am_u_ne (by decide)
  have k144 : am_u K 138 (8 * b + r) v 144 = K 144 := am_u_ne (by decide)
  have k145 : am_u K 138 (8 * b + r) v 145 = K 145 := am_u_ne (by decide)
  unfold sR
  rw [k140, k139, k141, k142, k143, k144, k145]
  refine ⟨s1, fun q hq => ?_, s3, s4⟩
  obtain ⟨p1, p2, p3, p4⟩ := s2 q hq
  refine ⟨p1, p2, fun w => ?_, p4⟩
  by_cases e : q = r
  · subst e; exact absurd w w0
  · rw [am_u_nk (show 8 * b + q ≠ 8 * b + r by omega)]; exact p3 w
theorem sR_2 {S b r : Nat} {x v : Int32} {N : Nat → Nat} {I K : hI} (h : sR S b x N I K) (hr : r < N 1) : sR S b x N (am_u I (S + 2) r v) (am_u K 139 (8 * b + r) v) := by
  obtain ⟨s1, s2, s3, s4⟩ := h
  have e0 : am_u I (S + 2) r v S = I S := am_u_ne (by omega)
  have e1 : am_u I (S + 2) r v (S + 1) = I (S + 1) := am_u_ne (by omega)
  have e3 : am_u I (S + 2) r v (S + 3) = I (S + 3) := am_u_ne (by omega)
  have e4 : am_u I (S + 2) r v (S + 4) = I (S + 4) := am_u_ne (by omega)
  have e5 : am_u I (S + 2) r v (S + 5) = I (S + 5) := am_u_ne (by omega)
  have e6 : am_u I (S + 2) r v (S + 6) = I (S + 6) := am_u_ne (by omega)
  have k138 : am_u K 139 (8 * b + r) v 138 = K 138 := am_u_ne (by decide)
  have k140 : am_u K 139 (8 * b + r) v 140 = K 140 := am_u_ne (by decide)
  have k141 : am_u K 139 (8 * b + r) v 141 = K 141 := am_u_ne (by decide)
  have k142 : am_u K 139 (8 * b + r) v 142 = K 142 := am_u_ne (by decide)
  have k143 : am_u K 139 (8 * b + r) v 143 = K 143 := am_u_ne (by decide)
  have k144 : am_u K 139 (8 * b + r) v 144 = K 144 := am_u_ne (by decide)
  have k145 : am_u K 139 (8 * b + r) v 145 = K 145 := am_u_ne (by decide)
  unfold sR
  rw [e0, e3, e1, e4, e5, e6, k140, k138, k141, k142, k143, k144, k145]
  refine ⟨s1, fun q hq => ?_, s3, s4⟩
  obtain ⟨p1, p2, p3, p4⟩ := s2 q hq
  refine ⟨p1, p2, fun w => ?_, fun g => ?_⟩
  · by_cases e : q = r
    · subst e; rw [am_u_at, am_u_at]; exact ⟨(p3 w).1, rfl⟩
    · rw [am_u_nk e, am_u_nk (show 8 * b + q ≠ 8 * b + r by omega)]; exact p3 w
  · exact p4 g
theorem sR_2K {S b r : Nat} {x v : Int32} {N : Nat → Nat} {I K : hI} (h : sR S b x N I K) (w0 : ¬ wt x (I (S + 3) r)) : sR S b x N I (am_u K 139 (8 * b + r) v) := by
  obtain ⟨s1, s2, s3, s4⟩ := h
  have k138 : am_u K 139 (8 * b + r) v 138 = K 138 := am_u_ne (by decide)
  have k140 : am_u K 139 (8 * b + r) v 140 = K 140 := am_u_ne (by decide)
  have k141 : am_u K 139 (8 * b + r) v 141 = K 141 := am_u_ne (by decide)
  have k142 : am_u K 139 (8 * b + r) v 142 = K 142 := am_u_ne (by decide)
  have k143 : am_u K 139 (8 * b + r) v 143 = K 143 := am_u_ne (by decide)
  have k144 : am_u K 139 (8 * b + r) v 144 = K 144 := am_u_ne (by decide)
  have k145 : am_u K 139 (8 * b + r) v 145 = K 145 := am_u_ne (by decide)
  unfold sR
  rw [k140, k138, k141, k142, k143, k144, k145]
  refine ⟨s1, fun q hq => ?_, s3, s4⟩
  obtain ⟨p1, p2, p3, p4⟩ := s2 q hq
  refine ⟨p1, p2, fun w => ?_, p4⟩
  by_cases e : q = r
  · subst e; exact absurd w w0
  · rw [am_u_nk (show 8 * b + q ≠ 8 * b + r by omega)]; exact p3 w
theorem sR_4 {S b s : Nat} {x v : Int32} {N : Nat → Nat} {I K : hI} (h : sR S b x N I K) : sR S b x N (am_u I (S + 4) s v) (am_u K 141 (5 * b + s) v) := by
  obtain ⟨s1, s2, s3, s4⟩ := h
  have e0 : am_u I (S + 4) s v S = I S := am_u_ne (by omega)
  have e1 : am_u I (S + 4) s v (S + 1) = I (S + 1) := am_u_ne (by omega)
  have e2 : am_u I (S + 4) s v (S + 2) = I (S + 2) := am_u_ne (by omega)
  have e3 : am_u I (S + 4) s v (S + 3) = I (S + 3) := am_u_ne (by omega)
  have e5 : am_u I (S + 4) s v (S + 5) = I (S + 5) := am_u_ne (by omega)
  have e6 : am_u I (S + 4) s v (S + 6) = I (S + 6) := am_u_ne (by omega)
  have k138 : am_u K 141 (5 * b + s) v 138 = K 138 := am_u_ne (by decide)
  have k139 : am_u K 141 (5 * b + s) v 139 = K 139 := am_u_ne (by decide)
  have k140 : am_u K 141 (5 * b + s) v 140 = K 140 := am_u_ne (by decide)
  have k142 : am_u K 141 (5 * b + s) v 142 = K 142 := am_u_ne (by decide)
  have k143 : am_u K 141 (5 * b + s) v 143 = K 143 := am_u_ne (by decide)
  have k144 : am_u K 141 (5 * b + s) v 144 = K 144 := am_u_ne (by decide)
  have k145 : am_u K 141 (5 * b + s) v 145 = K 145 := am_u_ne (by decide)
  unfold sR
  rw [e0, e1, e2, e3, e5, e6, k138, k139, k140, k142, k143, k144, k145]
  refine ⟨s1, s2, fun q hq w => ?_, s4⟩
  by_cases e : q = s
  · subst e; rw [am_u_at, am_u_at]; exact ⟨rfl, (s3 q hq w).2⟩
  · rw [am_u_nk e, am_u_nk (show 5 * b + q ≠ 5 * b + s by omega)]; exact s3 q hq w
theorem sR_4K {S b s : Nat} {x v : Int32} {N : Nat → Nat} {I K : hI} (h : sR S b x N I K) (w0 : ¬ wt x (Int32.ofNat s)) : sR S b x N I (am_u K 141 (5 * b + s) v) := by
  obtain ⟨s1, s2, s3, s4⟩ := h
  have k138 : am_u K 141 (5 * b + s) v 138 = K 138 := am_u_ne (by decide)
  have k139 : am_u K 141 (5 * b + s) v 139 = K 139 := am_u_ne (by decide)
  have k140 : am_u K 141 (5 * b + s) v 140 = K 140 := am_u_ne (by decide)
  have k142 : am_u K 141 (5 * b + s) v 142 = K 142 := am_u_ne (by decide)
  have k143 : am_u K 141 (5 * b + s) v 143 = K 143 := am_u_ne (by decide)
  have k144 : am_u K 141 (5 * b + s) v 144 = K 144 := am_u_ne (by decide)
  have k145 : am_u K 141 (5 * b + s) v 145 = K 145 := am_u_ne (by decide)
  unfold sR
  rw [k138, k139, k140, k142, k143, k144, k145]
  refine ⟨s1, s2, fun q hq w => ?_, s4⟩
  by_cases e : q = s
  · subst e; exact absurd w w0
  · rw [am_u_nk (show 5 * b + q ≠ 5 * b + s by omega)]; exact s3 q hq w
theorem sR_5 {S b s : Nat} {x v : Int32} {N : Nat → Nat} {I K : hI} (h : sR S b x N I K) : sR S b x N (am_u I (S + 5) s v) (am_u K 142 (5 * b + s) v) := by
  obtain ⟨s1, s2, s3, s4⟩ := h
  have e0 : am_u I (S + 5) s v S = I S := am_u_ne (by omega)
  have e1 : am_u I (S + 5) s v (S + 1) = I (S + 1) := am_u_ne (by omega)
  have e2 : am_u I (S + 5) s v (S + 2) = I (S + 2) := am_u_ne (by omega)
  have e3 : am_u I (S + 5) s v (S + 3) = I (S + 3) := am_u_ne (by omega)
  have e4 : am_u I (S + 5) s v (S + 4) = I (S + 4) := am_u_ne (by omega)
  have e6 : am_u I (S + 5) s v (S + 6) = I (S + 6) := am_u_ne (by omega)
  have k138 : am_u K 142 (5 * b + s) v 138 = K 138 := am_u_ne (by decide)
  have k139 : am_u K 142 (5 * b + s) v 139 = K 139 := am_u_ne (by decide)
  have k140 : am_u K 142 (5 * b + s) v 140 = K 140 := am_u_ne (by decide)
  have k141 : am_u K 142 (5 * b + s) v 141 = K 141 := am_u_ne (by decide)
  have k143 : am_u K 142 (5 * b + s) v 143 = K 143 := am_u_ne (by decide)
  have k144 : am_u K 142 (5 * b + s) v 144 = K 144 := am_u_ne (by decide)
  have k145 : am_u K 142 (5 * b + s) v 145 = K 145 := am_u_ne (by decide)
  unfold sR
  rw [e0, e1, e2, e3, e4, e6, k138, k139, k140, k141, k143, k144, k145]
  refine ⟨s1, s2, fun q hq w => ?_, s4⟩
  by_cases e : q = s
  · subst e; rw [am_u_at, am_u_at]; exact ⟨(s3 q hq w).1, rfl, (s3 q hq w).2.2⟩
  · rw [am_u_nk e, am_u_nk (show 5 * b + q ≠ 5 * b + s by omega)]; exact s3 q hq w
theorem sR_5K {S b s : Nat} {x v : Int32} {N : Nat → Nat} {I K : hI} (h : sR S b x N I K) (w0 : ¬ wt x (Int32.ofNat s)) : sR S b x N I (am_u K 142 (5 * b + s) v) := by
  obtain ⟨s1, s2, s3, s4⟩ := h
  have k138 : am_u K 142 (5 * b + s) v 138 = K 138 := am_u_ne (by decide)
  have k139 : am_u K 142 (5 * b + s) v 139 = K 139 := am_u_ne (by decide)
  have k140 : am_u K 142 (5 * b + s) v 140 = K 140 := am_u_ne (by decide)
  have k141 : am_u K 142 (5 * b + s) v 141 = K 141 := am_u_ne (by decide)
  have k143 : am_u K 142 (5 * b + s) v 143 = K 143 := am_u_ne (by decide)
  have k144 : am_u K 142 (5 * b + s) v 144 = K 144 := am_u_ne (by decide)
  have k145 : am_u K 142 (5 * b + s) v 145 = K 145 := am_u_ne (by decide)
  unfold sR
  rw [k138, k139, k140, k141, k143, k144, k145]
  refine ⟨s1, s2, fun q hq w => ?_, s4⟩
  by_cases e : q = s
  · subst e; exact absurd w w0
  · rw [am_u_nk (show 5 * b + q ≠ 5 * b + s by omega)]; exact s3 q hq w
theorem sR_6 {S b s : Nat} {x v : Int32} {N : Nat → Nat} {I K : hI} (h : sR S b x N I K) : sR S b x N (am_u I (S + 6) s v) (am_u K 143 (5 * b + s) v) := by
  obtain ⟨s1, s2, s3, s4⟩ := h
  have e0 : am_u I (S + 6) s v S = I S := am_u_ne (by omega)
  have e1 : am_u I (S + 6) s v (S + 1) = I (S + 1) := am_u_ne (by omega)
  have e2 : am_u I (S + 6) s v (S + 2) = I (S + 2) := am_u_ne (by omega)
  have e3 : am_u I (S + 6) s v (S + 3) = I (S + 3) := am_u_ne (by omega)
  have e4 : am_u I (S + 6) s v (S + 4) = I (S + 4) := am_u_ne (by omega)
  have e5 : am_u I (S + 6) s v (S + 5) = I (S + 5) := am_u_ne (by omega)
  have k138 : am_u K 143 (5 * b + s) v 138 = K 138 := am_u_ne (by decide)
  have k139 : am_u K 143 (5 * b + s) v 139 = K 139 := am_u_ne (by decide)
  have k140 : am_u K 143 (5 * b + s) v 140 = K 140 := am_u_ne (by decide)
  have k141 : am_u K 143 (5 * b + s) v 141 = K 141 := am_u_ne (by decide)
  have k142 : am_u K 143 (5 * b + s) v 142 = K 142 := am_u_ne (by decide)
  have k144 : am_u K 143 (5 * b + s) v 144 = K 144 := am_u_ne (by decide)
  have k145 : am_u K 143 (5 * b + s) v 145 = K 145 := am_u_ne (by decide)
  unfold sR
  rw [e0, e1, e2, e3, e4, e5, k138, k139, k140, k141, k142, k144, k145]
  refine ⟨s1, s2, fun q hq w => ?_, s4⟩
  by_cases e : q = s
  · subst e; rw [am_u_at, am_u_at]; exact ⟨(s3 q hq w).1, (s3 q hq w).2.1, rfl⟩
  · rw [am_u_nk e, am_u_nk (show 5 * b + q ≠ 5 * b + s by omega)]; exact s3 q hq w
theorem sR_6K {S b s : Nat} {x v : Int32} {N : Nat → Nat} {I K : hI} (h : sR S b x N I K) (w0 : ¬ wt x (Int32.ofNat s)) : sR S b x N I (am_u K 143 (5 * b + s) v) := by
  obtain ⟨s1, s2, s3, s4⟩ := h
  have k138 : am_u K 143 (5 * b + s) v 138 = K 138 := am_u_ne (by decide)
  have k139 : am_u K 143 (5 * b + s) v 139 = K 139 := am_u_ne (by decide)
  have k140 : am_u K 143 (5 * b + s) v 140 = K 140 := am_u_ne (by decide)
  have k141 : am_u K 143 (5 * b + s) v 141 = K 141 := am_u_ne (by decide)
  have k142 : am_u K 143 (5 * b + s) v 142 = K 142 := am_u_ne (by decide)
  have k144 : am_u K 143 (5 * b + s) v 144 = K 144 := am_u_ne (by decide)
  have k145 : am_u K 143 (5 * b + s) v 145 = K 145 := am_u_ne (by decide)
  unfold sR
  rw [k138, k139, k140, k141, k142, k144, k145]
  refine ⟨s1, s2, fun q hq w => ?_, s4⟩
  by_cases e : q = s
  · subst e; exact absurd w w0
  · rw [am_u_nk (show 5 * b + q ≠ 5 * b + s by omega)]; exact s3 q hq w
theorem sR_ref {S b : Nat} {x v : Int32} {N : Nat → Nat} {I K : hI} (h : sR S b x N I K) : sR S b x N (am_u I S 2 v) (am_u K 144 b v) := by
  obtain ⟨s1, s2, s3, s4⟩ := h
  have e1 : am_u I S 2 v (S + 1) = I (S + 1) := am_u_ne (by omega)
  have e2 : am_u I S 2 v (S + 2) = I (S + 2) := am_u_ne (by omega)
  have e3 : am_u I S 2 v (S + 3) = I (S + 3) := am_u_ne (by omega)
  have e4 : am_u I S 2 v (S + 4) = I (S + 4) := am_u_ne (by omega)
  have e5 : am_u I S 2 v (S + 5) = I (S + 5) := am_u_ne (by omega)
  have e6 : am_u I S 2 v (S + 6) = I (S + 6) := am_u_ne (by omega)
  have k138 : am_u K 144 b v 138 = K 138 := am_u_ne (by decide)
  have k139 : am_u K 144 b v 139 = K 139 := am_u_ne (by decide)
  have k140 : am_u K 144 b v 140 = K 140 := am_u_ne (by decide)
  have k141 : am_u K 144 b v 141 = K 141 := am_u_ne (by decide)
  have k142 : am_u K 144 b v 142 = K 142 := am_u_ne (by decide)
  have k143 : am_u K 144 b v 143 = K 143 := am_u_ne (by decide)
  have k145 : am_u K 144 b v 145 = K 145 := am_u_ne (by decide)
  unfold sR
  rw [e1, e2, e3, e4, e5, e6, k138, k139, k140, k141, k142, k143, k145, am_u_nk (show 0 ≠ 2 by decide), am_u_at, am_u_at]
  exact ⟨s1, s2, s3, fun _ => rfl⟩
theorem sR_refK {S b : Nat} {x v : Int32} {N : Nat → Nat} {I K : hI} (h : sR S b x N I K) (w0 : ¬ x = Int32.ofInt (-1)) : sR S b x N I (am_u K 144 b v) := by
  obtain ⟨s1, s2, s3, s4⟩ := h
  have k138 : am_u K 144 b v 138 = K 138 := am_u_ne (by decide)
  have k139 : am_u K 144 b v 139 = K 139 := am_u_ne (by decide)
  have k140 : am_u K 144 b v 140 = K 140 := am_u_ne (by decide)
  have k141 : am_u K 144 b v 141 = K 141 := am_u_ne (by decide)
  have k142 : am_u K 144 b v 142 = K 142 := am_u_ne (by decide)
  have k143 : am_u K 144 b v 143 = K 143 := am_u_ne (by decide)
  have k145 : am_u K 144 b v 145 = K 145 := am_u_ne (by decide)
  unfold sR
  rw [k138, k139, k140, k141, k142, k143, k145]
  exact ⟨s1, s2, s3, fun e => absurd e w0⟩
theorem sR_refI {S b : Nat} {x v : Int32} {N : Nat → Nat} {I K : hI} (h : sR S b x N I K) (w0 : ¬ x = Int32.ofInt (-1)) : sR S b x N (am_u I S 2 v) K := by
  obtain ⟨s1, s2, s3, s4⟩ := h
  have e1 : am_u I S 2 v (S + 1) = I (S + 1) := am_u_ne (by omega)
  have e2 : am_u I S 2 v (S + 2) = I (S + 2) := am_u_ne (by omega)
  have e3 : am_u I S 2 v (S + 3) = I (S + 3) := am_u_ne (by omega)
  have e4 : am_u I S 2 v (S + 4) = I (S + 4) := am_u_ne (by omega)
  have e5 : am_u I S 2 v (S + 5) = I (S + 5) := am_u_ne (by omega)
  have e6 : am_u I S 2 v (S + 6) = I (S + 6) := am_u_ne (by omega)
  unfold sR
  rw [e1, e2, e3, e4, e5, e6, am_u_nk (show 0 ≠ 2 by decide)]
  exact ⟨s1, s2, s3, fun e => absurd e w0⟩
theorem sR_day {S b : Nat} {x : Int32} {N : Nat → Nat} {I K : hI} (h : sR S b x N I K) : sR S b x N (am_u I S 0 (I S 0 + Int32.ofNat 1)) (am_u K 145 b (K 145 b + Int32.ofNat 1)) := by
  obtain ⟨s1, s2, s3, s4⟩ := h
  rw [s1]
  generalize K 145 b + Int32.ofNat 1 = v
  have e1 : am_u I S 0 v (S + 1) = I (S + 1) := am_u_ne (by omega)
  have e2 : am_u I S 0 v (S + 2) = I (S + 2) := am_u_ne (by omega)
  have e3 : am_u I S 0 v (S + 3) = I (S + 3) := am_u_ne (by omega)
  have e4 : am_u I S 0 v (S + 4) = I (S + 4) := am_u_ne (by omega)
  have e5 : am_u I S 0 v (S + 5) = I (S + 5) := am_u_ne (by omega)
  have e6 : am_u I S 0 v (S + 6) = I (S + 6) := am_u_ne (by omega)
  have k138 : am_u K 145 b v 138 = K 138 := am_u_ne (by decide)
  have k139 : am_u K 145 b v 139 = K 139 := am_u_ne (by decide)
  have k140 : am_u K 145 b v 140 = K 140 := am_u_ne (by decide)
  have k141 : am_u K 145 b v 141 = K 141 := am_u_ne (by decide)
  have k142 : am_u K 145 b v 142 = K 142 := am_u_ne (by decide)
  have k143 : am_u K 145 b v 143 = K 143 := am_u_ne (by decide)
  have k144 : am_u K 145 b v 144 = K 144 := am_u_ne (by decide)
  unfold sR
  rw [e1, e2, e3, e4, e5, e6, k138, k139, k140, k141, k142, k143, k144, am_u_nk (show 2 ≠ 0 by decide), am_u_at, am_u_at]
  exact ⟨rfl, s2, s3, s4⟩
