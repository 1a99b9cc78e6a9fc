/-! The law's frame: its regular cases. -/
/-- feed -/
theorem lc_0 {ys : List Int32} {n j : Nat} {u v : Value} {I : hI} {J : hJ} {R : hR} (hy : ys.length ≤ 3072) (hj : j + 6 ≤ ys.length) (G : ∀ I J R u v, INV I J R → lz ys n 1413 (am_L0 (Int32.ofNat j) u v) [] I J R) (h : INV I J R) : lz ys (n + 80) 200 (am_L0 (Int32.ofNat j) u v) [] I J R := by
  obtain ⟨w, I1, J1, R1, I2, J2, c1, c2, h2⟩ := op_feed (ys.getD (j + 1) 0) (ys.getD (j + 2) 0) (ys.getD (j + 3) 0) (ys.getD (j + 4) 0) (ys.getD (j + 5) 0) I J R h
  obtain ⟨x, rfl⟩ : ∃ x, w = .int x := by
    obtain ⟨i, st', e⟩ := ct_rt (q := am_m167) (o := 12) (rt := some .int) rfl rfl rfl c2
    exact rt_int (by decide) e
  refine l_pu (pc' := 201) rfl rfl rfl rfl ?_
  refine l_ld (c := 1) (p6 := 207) rfl rfl rfl rfl rfl rfl hy (by omega) ?_
  refine l_ld (c := 2) (p6 := 213) rfl rfl rfl rfl rfl rfl hy (by omega) ?_
  refine l_ld (c := 3) (p6 := 219) rfl rfl rfl rfl rfl rfl hy (by omega) ?_
  refine l_ld (c := 4) (p6 := 225) rfl rfl rfl rfl rfl rfl hy (by omega) ?_
  refine l_ld (c := 5) (p6 := 231) rfl rfl rfl rfl rfl rfl hy (by omega) ?_
  refine l_cv (pc' := 234) (q := am_m107) (as := [_, _, _, _, _]) (rest := []) (st' := [_]) rfl rfl rfl rfl rfl rfl sp0 rfl rfl rfl rfl c1 rfl rfl ?_
  refine l_pu (pc' := 235) rfl rfl rfl rfl ?_
  refine l_ld (c := 1) (p6 := 241) rfl rfl rfl rfl rfl rfl hy (by omega) ?_
  refine l_ld (c := 2) (p6 := 247) rfl rfl rfl rfl rfl rfl hy (by omega) ?_
  refine l_ld (c := 3) (p6 := 253) rfl rfl rfl rfl rfl rfl hy (by omega) ?_
  refine l_ld (c := 4) (p6 := 259) rfl rfl rfl rfl rfl rfl hy (by omega) ?_
  refine l_ld (c := 5) (p6 := 265) rfl rfl rfl rfl rfl rfl hy (by omega) ?_
  refine l_cv (pc' := 268) (q := am_m167) (as := [_, _, _, _, _]) (rest := [_]) (st' := [_, _]) rfl rfl rfl rfl rfl rfl sp110 rfl rfl rfl rfl c2 rfl rfl ?_
  exact l_eq (t := 1413) rfl rfl (lz_le (G I2 J2 R1 u v h2) (by omega))
/-- text -/
theorem lc_1 {ys : List Int32} {n j : Nat} {u v : Value} {I : hI} {J : hJ} {R : hR} (hy : ys.length ≤ 3072) (hj : j + 6 ≤ ys.length) (G : ∀ I J R u v, INV I J R → lz ys n 1413 (am_L0 (Int32.ofNat j) u v) [] I J R) (h : INV I J R) : lz ys (n + 80) 273 (am_L0 (Int32.ofNat j) u v) [] I J R := by
  obtain ⟨w, I1, J1, R1, I2, J2, c1, c2, h2⟩ := op_text (ys.getD (j + 1) 0) I J R h
  obtain ⟨x, rfl⟩ : ∃ x, w = .int x := by
    obtain ⟨i, st', e⟩ := ct_rt (q := am_m193) (o := 12) (rt := some .int) rfl rfl rfl c2
    exact rt_int (by decide) e
  refine l_pu (pc' := 274) rfl rfl rfl rfl ?_
  refine l_ld (c := 1) (p6 := 280) rfl rfl rfl rfl rfl rfl hy (by omega) ?_
  refine l_cv (pc' := 283) (q := am_m109) (as := [_]) (rest := []) (st' := [_]) rfl rfl rfl rfl rfl rfl sp0 rfl rfl rfl rfl c1 rfl rfl ?_
  refine l_pu (pc' := 284) rfl rfl rfl rfl ?_
  refine l_ld (c := 1) (p6 := 290) rfl rfl rfl rfl rfl rfl hy (by omega) ?_
  refine l_cv (pc' := 293) (q := am_m193) (as := [_]) (rest := [_]) (st' := [_, _]) rfl rfl rfl rfl rfl rfl sp110 rfl rfl rfl rfl c2 rfl rfl ?_
  exact l_eq (t := 1413) rfl rfl (lz_le (G I2 J2 R1 u v h2) (by omega))
/-- fault -/
theorem lc_2 {ys : List Int32} {n j : Nat} {u v : Value} {I : hI} {J : hJ} {R : hR} (hy : ys.length ≤ 3072) (hj : j + 6 ≤ ys.length) (G : ∀ I J R u v, INV I J R → lz ys n 1413 (am_L0 (Int32.ofNat j) u v) [] I J R) (h : INV I J R) : lz ys (n + 80) 298 (am_L0 (Int32.ofNat j) u v) [] I J R := by
  obtain ⟨w, I1, J1, R1, I2, J2, c1, c2, h2⟩ := op_fault (ys.getD (j + 1) 0) I J R h
  obtain ⟨x, rfl⟩ : ∃ x, w = .int x := by
    obtain ⟨i, st', e⟩ := ct_rt (q := am_m194) (o := 12) (rt := some .int) rfl rfl rfl c2
    exact rt_int (by decide) e
  refine l_pu (pc' := 299) rfl rfl rfl rfl ?_
  refine l_ld (c := 1) (p6 := 305) rfl rfl rfl rfl rfl rfl hy (by omega) ?_
  refine l_cv (pc' := 308) (q := am_m111) (as := [_]) (rest := []) (st' := [_]) rfl rfl rfl rfl rfl rfl sp0 rfl rfl rfl rfl c1 rfl rfl ?_
  refine l_pu (pc' := 309) rfl rfl rfl rfl ?_
  refine l_ld (c := 1) (p6 := 315) rfl rfl rfl rfl rfl rfl hy (by omega) ?_
  refine l_cv (pc' := 318) (q := am_m194) (as := [_]) (rest := [_]) (st' := [_, _]) rfl rfl rfl rfl rfl rfl sp110 rfl rfl rfl rfl c2 rfl rfl ?_
  exact l_eq (t := 1413) rfl rfl (lz_le (G I2 J2 R1 u v h2) (by omega))
/-- named -/
theorem lc_3 {ys : List Int32} {n j : Nat} {u v : Value} {I : hI} {J : hJ} {R : hR} (hy : ys.length ≤ 3072) (hj : j + 6 ≤ ys.length) (G : ∀ I J R u v, INV I J R → lz ys n 1413 (am_L0 (Int32.ofNat j) u v) [] I J R) (h : INV I J R) : lz ys (n + 80) 323 (am_L0 (Int32.ofNat j) u v) [] I J R := by
  obtain ⟨w, I1, J1, R1, I2, J2, c1, c2, h2⟩ := op_named (ys.getD (j + 1) 0) (ys.getD (j + 2) 0) I J R h
  obtain ⟨x, rfl⟩ : ∃ x, w = .int x := by
    obtain ⟨i, st', e⟩ := ct_rt (q := am_m195) (o := 12) (rt := some .int) rfl rfl rfl c2
    exact rt_int (by decide) e
  refine l_pu (pc' := 324) rfl rfl rfl rfl ?_
  refine l_ld (c := 1) (p6 := 330) rfl rfl rfl rfl rfl rfl hy (by omega) ?_
  refine l_ld (c := 2) (p6 := 336) rfl rfl rfl rfl rfl rfl hy (by omega) ?_
  refine l_cv (pc' := 339) (q := am_m112) (as := [_, _]) (rest := []) (st' := [_]) rfl rfl rfl rfl rfl rfl sp0 rfl rfl rfl rfl c1 rfl rfl ?_
  refine l_pu (pc' := 340) rfl rfl rfl rfl ?_
  refine l_ld (c := 1) (p6 := 346) rfl rfl rfl rfl rfl rfl hy (by omega) ?_
  refine l_ld (c := 2) (p6 := 352) rfl rfl rfl rfl rfl rfl hy (by omega) ?_
  refine l_cv (pc' := 355) (q := am_m195) (as := [_, _]) (rest := [_]) (st' := [_, _]) rfl rfl rfl rfl rfl rfl sp110 rfl rfl rfl rfl c2 rfl rfl ?_
  exact l_eq (t := 1413) rfl rfl (lz_le (G I2 J2 R1 u v h2) (by omega))
/-- ship -/
theorem lc_5 {ys : List Int32} {n j : Nat} {u v : Value} {I : hI} {J : hJ} {R : hR} (hy : ys.length ≤ 3072) (hj : j + 6 ≤ ys.length) (G : ∀ I J R u v, INV I J R → lz ys n 1413 (am_L0 (Int32.ofNat j) u v) [] I J R) (h : INV I J R) : lz ys (n + 80) 428 (am_L0 (Int32.ofNat j) u v) [] I J R := by
  obtain ⟨w, I1, J1, R1, I2, J2, c1, c2, h2⟩ := op_ship (ys.getD (j + 1) 0) (ys.getD (j + 2) 0) I J R h
  obtain ⟨x, rfl⟩ : ∃ x, w = .int x := by
    obtain ⟨i, st', e⟩ := ct_rt (q := am_m238) (o := 12) (rt := some .int) rfl rfl rfl c2
    exact rt_int (by decide) e
  refine l_pu (pc' := 429) rfl rfl rfl rfl ?_
  refine l_ld (c := 1) (p6 := 435) rfl rfl rfl rfl rfl rfl hy (by omega) ?_
  refine l_ld (c := 2) (p6 := 441) rfl rfl rfl rfl rfl rfl hy (by omega) ?_
  refine l_cv (pc' := 444) (q := am_m114) (as := [_, _]) (rest := []) (st' := [_]) rfl rfl rfl rfl rfl rfl sp0 rfl rfl rfl rfl c1 rfl rfl ?_
  refine l_pu (pc' := 445) rfl rfl rfl rfl ?_
  refine l_ld (c := 1) (p6 := 451) rfl rfl rfl rfl rfl rfl hy (by omega) ?_
  refine l_ld (c := 2) (p6 := 457) rfl rfl rfl rfl rfl rfl hy (by omega) ?_
  refine l_cv (pc' := 460) (q := am_m238) (as := [_, _]) (rest := [_]) (st' := [_, _]) rfl rfl rfl rfl rfl rfl sp110 rfl rfl rfl rfl c2 rfl rfl ?_
  exact l_eq (t := 1413) rfl rfl (lz_le (G I2 J2 R1 u v h2) (by omega))
/-- maker -/
theorem lc_6 {ys : List Int32} {n j : Nat} {u v : Value} {I : hI} {J : hJ} {R : hR} (hy : ys.length ≤ 3072) (hj : j + 6 ≤ ys.length) (G : ∀ I J R u v, INV I J R → lz ys n 1413 (am_L0 (Int32.ofNat j) u v) [] I J R) (h : INV I J R) : lz ys (n + 80) 465 (am_L0 (Int32.ofNat j) u v) [] I J R := by
  obtain ⟨w, I1, J1, R1, I2, J2, c1, c2, h2⟩ := op_maker (ys.getD (j + 1) 0) (ys.getD (j + 2) 0) I J R h
  obtain ⟨x, rfl⟩ : ∃ x, w = .int x := by
    obtain ⟨i, st', e⟩ := ct_rt (q := am_m239) (o := 12) (rt := some .int) rfl rfl rfl c2
    exact rt_int (by decide) e
  refine l_pu (pc' := 466) rfl rfl rfl rfl ?_
  refine l_ld (c := 1) (p6 := 472) rfl rfl rfl rfl rfl rfl hy (by omega) ?_
  refine l_ld (c := 2) (p6 := 478) rfl rfl rfl rfl rfl rfl hy (by omega) ?_
  refine l_cv (pc' := 481) (q := am_m115) (as := [_, _]) (rest := []) (st' := [_]) rfl rfl rfl rfl rfl rfl sp0 rfl rfl rfl rfl c1 rfl rfl ?_
  refine l_pu (pc' := 482) rfl rfl rfl rfl ?_
  refine l_ld (c := 1) (p6 := 488) rfl rfl rfl rfl rfl rfl hy (by omega) ?_
  refine l_ld (c := 2) (p6 := 494) rfl rfl rfl rfl rfl rfl hy (by omega) ?_
  refine l_cv (pc' := 497) (q := am_m239) (as := [_, _]) (rest := [_]) (st' := [_, _]) rfl rfl rfl rfl rfl rfl sp110 rfl rfl rfl rfl c2 rfl rfl ?_
  exact l_eq (t := 1413) rfl rfl (lz_le (G I2 J2 R1 u v h2) (by omega))
/-- law -/
theorem lc_7 {ys : List Int32} {n j : Nat} {u v : Value} {I : hI} {J : hJ} {R : hR} (hy : ys.length ≤ 3072) (hj : j + 6 ≤ ys.length) (G : ∀ I J R u v, INV I J R → lz ys n 1413 (am_L0 (Int32.ofNat j) u v) [] I J R) (h : INV I J R) : lz ys (n + 80) 502 (am_L0 (Int32.ofNat j) u v) [] I J R := by
  obtain ⟨w, I1, J1, R1, I2, J2, c1, c2, h2⟩ := op_law (ys.getD (j + 1) 0) (ys.getD (j + 2) 0) I J R h
  obtain ⟨x, rfl⟩ : ∃ x, w = .long x := by
    obtain ⟨i, st', e⟩ := ct_rt (q := am_m240) (o := 12) (rt := some .long) rfl rfl rfl c2
    exact rt_long (by decide) e
  refine l_pu (pc' := 503) rfl rfl rfl rfl ?_
  refine l_ld (c := 1) (p6 := 509) rfl rfl rfl rfl rfl rfl hy (by omega) ?_
  refine l_ld (c := 2) (p6 := 515) rfl rfl rfl rfl rfl rfl hy (by omega) ?_
  refine l_cv (pc' := 518) (q := am_m116) (as := [_, _]) (rest := []) (st' := [_]) rfl rfl rfl rfl rfl rfl sp0 rfl rfl rfl rfl c1 rfl rfl ?_
  refine l_pu (pc' := 519) rfl rfl rfl rfl ?_
  refine l_ld (c := 1) (p6 := 525) rfl rfl rfl rfl rfl rfl hy (by omega) ?_
  refine l_ld (c := 2) (p6 := 531) rfl rfl rfl rfl rfl rfl hy (by omega) ?_
  refine l_cv (pc' := 534) (q := am_m240) (as := [_, _]) (rest := [_]) (st' := [_, _]) rfl rfl rfl rfl rfl rfl sp110 rfl rfl rfl rfl c2 rfl rfl ?_
  refine l_lcmp (pc' := 535) rfl rfl ?_
  exact l_ez (t := 1413) rfl rfl (lz_le (G I2 J2 R1 u v h2) (by omega))
/-- rig -/
theorem lc_8 {ys : List Int32} {n j : Nat} {u v : Value} {I : hI} {J : hJ} {R : hR} (hy : ys.length ≤ 3072) (hj : j + 6 ≤ ys.length) (G : ∀ I J R u v, INV I J R → lz ys n 1413 (am_L0 (Int32.ofNat j) u v) [] I J R) (h : INV I J R) : lz ys (n + 80) 540 (am_L0 (Int32.ofNat j) u v) [] I J R := by
  obtain ⟨w, I1, J1, R1, I2, J2, c1, c2, h2⟩ := op_rig (ys.getD (j + 1) 0) (ys.getD (j + 2) 0) I J R h
  obtain ⟨x, rfl⟩ : ∃ x, w = .int x := by
    obtain ⟨i, st', e⟩ := ct_rt (q := am_m241) (o := 12) (rt := some .int) rfl rfl rfl c2
    exact rt_int (by decide) e
  refine l_pu (pc' := 541) rfl rfl rfl rfl ?_
  refine l_ld (c := 1) (p6 := 547) rfl rfl rfl rfl rfl rfl hy (by omega) ?_
  refine l_ld (c := 2) (p6 := 553) rfl rfl rfl rfl rfl rfl hy (by omega) ?_
  refine l_cv (pc' := 556) (q := am_m117) (as := [_, _]) (rest := []) (st' := [_]) rfl rfl rfl rfl rfl rfl sp0 rfl rfl rfl rfl c1 rfl rfl ?_
  refine l_pu (pc' := 557) rfl rfl rfl rfl ?_
  refine l_ld (c := 1) (p6 := 563) rfl rfl rfl rfl rfl rfl hy (by omega) ?_
  refine l_ld (c := 2) (p6 := 569) rfl rfl rfl rfl rfl rfl hy (by omega) ?_
  refine l_cv (pc' := 572) (q := am_m241) (as := [_, _]) (rest := [_]) (st' := [_, _]) rfl rfl rfl rfl rfl rfl sp110 rfl rfl rfl rfl c2 rfl rfl ?_
  exact l_eq (t := 1413) rfl rfl (lz_le (G I2 J2 R1 u v h2) (by omega))
/-- takeOut -/
theorem lc_9 {ys : List Int32} {n j : Nat} {u v : Value} {I : hI} {J : hJ} {R : hR} (hy : ys.length ≤ 3072) (hj : j + 6 ≤ ys.length) (G : ∀ I J R u v, INV I J R → lz ys n 1413 (am_L0 (Int32.ofNat j) u v) [] I J R) (h : INV I J R) : lz ys (n + 80) 577 (am_L0 (Int32.ofNat j) u v) [] I J R := by
  obtain ⟨w, I1, J1, R1, I2, J2, c1, c2, h2⟩ := op_takeOut (ys.getD (j + 1) 0) I J R h
  obtain ⟨x, rfl⟩ : ∃ x, w = .int x := by
    obtain ⟨i, st', e⟩ := ct_rt (q := am_m242) (o := 12) (rt := some .boolean) rfl rfl rfl c2
    exact rt_bool (by decide) e
  refine l_pu (pc' := 578) rfl rfl rfl rfl ?_
  refine l_ld (c := 1) (p6 := 584) rfl rfl rfl rfl rfl rfl hy (by omega) ?_
  refine l_cv (pc' := 587) (q := am_m118) (as := [_]) (rest := []) (st' := [_]) rfl rfl rfl rfl rfl rfl sp0 rfl rfl rfl rfl c1 rfl rfl ?_
  refine l_pu (pc' := 588) rfl rfl rfl rfl ?_
  refine l_ld (c := 1) (p6 := 594) rfl rfl rfl rfl rfl rfl hy (by omega) ?_
  refine l_cv (pc' := 597) (q := am_m242) (as := [_]) (rest := [_]) (st' := [_, _]) rfl rfl rfl rfl rfl rfl sp110 rfl rfl rfl rfl c2 rfl rfl ?_
  exact l_eq (t := 1413) rfl rfl (lz_le (G I2 J2 R1 u v h2) (by omega))
/-- mend -/
theorem lc_10 {ys : List Int32} {n j : Nat} {u v : Value} {I : hI} {J : hJ} {R : hR} (hy : ys.length ≤ 3072) (hj : j + 6 ≤ ys.length) (G : ∀ I J R u v, INV I J R → lz ys n 1413 (am_L0 (Int32.ofNat j) u v) [] I J R) (h : INV I J R) : lz ys (n + 80) 602 (am_L0 (Int32.ofNat j) u v) [] I J R := by
  obtain ⟨w, I1, J1, R1, I2, J2, c1, c2, h2⟩ := op_mend (ys.getD (j + 1) 0) I J R h
  obtain ⟨x, rfl⟩ : ∃ x, w = .int x := by
    obtain ⟨i, st', e⟩ := ct_rt (q := am_m243) (o := 12) (rt := some .int) rfl rfl rfl c2
    exact rt_int (by decide) e
  refine l_pu (pc' := 603) rfl rfl rfl rfl ?_
  refine l_ld (c := 1) (p6 := 609) rfl rfl rfl rfl rfl rfl hy (by omega) ?_
  refine l_cv (pc' := 612) (q := am_m120) (as := [_]) (rest := []) (st' := [_]) rfl rfl rfl rfl rfl rfl sp0 rfl rfl rfl rfl c1 rfl rfl ?_
  refine l_pu (pc' := 613) rfl rfl rfl rfl ?_
  refine l_ld (c := 1) (p6 := 619) rfl rfl rfl rfl rfl rfl hy (by omega) ?_
  refine l_cv (pc' := 622) (q := am_m243) (as := [_]) (rest := [_]) (st' := [_, _]) rfl rfl rfl rfl rfl rfl sp110 rfl rfl rfl rfl c2 rfl rfl ?_
  exact l_eq (t := 1413) rfl rfl (lz_le (G I2 J2 R1 u v h2) (by omega))
/-- sail -/
theorem lc_11 {ys : List Int32} {n j : Nat} {u v : Value} {I : hI} {J : hJ} {R : hR} (hy : ys.length ≤ 3072) (hj : j + 6 ≤ ys.length) (G : ∀ I J R u v, INV I J R → lz ys n 1413 (am_L0 (Int32.ofNat j) u v) [] I J R) (h : INV I J R) : lz ys (n + 80) 627 (am_L0 (Int32.ofNat j) u v) [] I J R := by
  obtain ⟨w, I1, J1, R1, I2, J2, c1, c2, h2⟩ := op_sail (ys.getD (j + 1) 0) (ys.getD (j + 2) 0) I J R h
  obtain ⟨x, rfl⟩ : ∃ x, w = .int x := by
    obtain ⟨i, st', e⟩ := ct_rt (q := am_m244) (o := 12) (rt := some .int) rfl rfl rfl c2
    exact rt_int (by decide) e
  refine l_pu (pc' := 628) rfl rfl rfl rfl ?_
  refine l_ld (c := 1) (p6 := 634) rfl rfl rfl rfl rfl rfl hy (by omega) ?_
  refine l_ld (c := 2) (p6 := 640) rfl rfl rfl rfl rfl rfl hy (by omega) ?_
  refine l_cv (pc' := 643) (q := am_m121) (as := [_, _]) (rest := []) (st' := [_]) rfl rfl rfl rfl rfl rfl sp0 rfl rfl rfl rfl c1 rfl rfl ?_
  refine l_pu (pc' := 644) rfl rfl rfl rfl ?_
  refine l_ld (c := 1) (p6 := 650) rfl rfl rfl rfl rfl rfl hy (by omega) ?_
  refine l_ld (c := 2) (p6 := 656) rfl rfl rfl rfl rfl rfl hy (by omega) ?_
  refine l_cv (pc' := 659) (q := am_m244) (as := [_, _]) (rest := [_]) (st' := [_, _]) rfl rfl rfl rfl rfl rfl sp110 rfl rfl rfl rfl c2 rfl rfl ?_
  exact l_eq (t := 1413) rfl rfl (lz_le (G I2 J2 R1 u v h2) (by omega))
/-- go -/
theorem lc_12 {ys : List Int32} {n j : Nat} {u v : Value} {I : hI} {J : hJ} {R : hR} (hy : ys.length ≤ 3072) (hj : j + 6 ≤ ys.length) (G : ∀ I J R u v, INV I J R → lz ys n 1413 (am_L0 (Int32.ofNat j) u v) [] I J R) (h : INV I J R) : lz ys (n + 80) 664 (am_L0 (Int32.ofNat j) u v) [] I J R := by
  obtain ⟨w, I1, J1, R1, I2, J2, c1, c2, h2⟩ := op_go (ys.getD (j + 1) 0) I J R h
  obtain ⟨x, rfl⟩ : ∃ x, w = .int x := by
    obtain ⟨i, st', e⟩ := ct_rt (q := am_m245) (o := 12) (rt := some .int) rfl rfl rfl c2
    exact rt_int (by decide) e
  refine l_pu (pc' := 665) rfl rfl rfl rfl ?_
  refine l_ld (c := 1) (p6 := 671) rfl rfl rfl rfl rfl rfl hy (by omega) ?_
  refine l_cv (pc' := 674) (q := am_m122) (as := [_]) (rest := []) (st' := [_]) rfl rfl rfl rfl rfl rfl sp0 rfl rfl rfl rfl c1 rfl rfl ?_
  refine l_pu (pc' := 675) rfl rfl rfl rfl ?_
  refine l_ld (c := 1) (p6 := 681) rfl rfl rfl rfl rfl rfl hy (by omega) ?_
  refine l_cv (pc' := 684) (q := am_m245) (as := [_]) (rest := [_]) (st' := [_, _]) rfl rfl rfl rfl rfl rfl sp110 rfl rfl rfl rfl c2 rfl rfl ?_
  exact l_eq (t := 1413) rfl rfl (lz_le (G I2 J2 R1 u v h2) (by omega))
/-- ahead -/
theorem lc_13 {ys : List Int32} {n j : Nat} {u v : Value} {I : hI} {J : hJ} {R : hR} (hy : ys.length ≤ 3072) (hj : j + 6 ≤ ys.length) (G : ∀ I J R u v, INV I J R → lz ys n 1413 (am_L0 (Int32.ofNat j) u v) [] I J R) (h : INV I J R) : lz ys (n + 80) 689 (am_L0 (Int32.ofNat j) u v) [] I J R := by
  obtain ⟨w, I1, J1, R1, I2, J2, c1, c2, h2⟩ := op_ahead (ys.getD (j + 1) 0) (ys.getD (j + 2) 0) (ys.getD (j + 3) 0) I J R h
  obtain ⟨x, rfl⟩ : ∃ x, w = .int x := by
    obtain ⟨i, st', e⟩ := ct_rt (q := am_m246) (o := 12) (rt := some .int) rfl rfl rfl c2
    exact rt_int (by decide) e
  refine l_pu (pc' := 690) rfl rfl rfl rfl ?_
  refine l_ld (c := 1) (p6 := 696) rfl rfl rfl rfl rfl rfl hy (by omega) ?_
  refine l_ld (c := 2) (p6 := 702) rfl rfl rfl rfl rfl rfl hy (by omega) ?_
  refine l_ld (c := 3) (p6 := 708) rfl rfl rfl rfl rfl rfl hy (by omega) ?_
  refine l_cv (pc' := 711) (q := am_m123) (as := [_, _, _]) (rest := []) (st' := [_]) rfl rfl rfl rfl rfl rfl sp0 rfl rfl rfl rfl c1 rfl rfl ?_
  refine l_pu (pc' := 712) rfl rfl rfl rfl ?_
  refine l_ld (c := 1) (p6 := 718) rfl rfl rfl rfl rfl rfl hy (by omega) ?_
  refine l_ld (c := 2) (p6 := 724) rfl rfl rfl rfl rfl rfl hy (by omega) ?_
  refine l_ld (c := 3) (p6 := 730) rfl rfl rfl rfl rfl rfl hy (by omega) ?_
  refine l_cv (pc' := 733) (q := am_m246) (as := [_, _, _]) (rest := [_]) (st' := [_, _]) rfl rfl rfl rfl rfl rfl sp110 rfl rfl rfl rfl c2 rfl rfl ?_
  exact l_eq (t := 1413) rfl rfl (lz_le (G I2 J2 R1 u v h2) (by omega))
/-- loses -/
theorem lc_14 {ys : List Int32} {n j : Nat} {u v : Value} {I : hI} {J : hJ} {R : hR} (hy : ys.length ≤ 3072) (hj : j + 6 ≤ ys.length) (G : ∀ I J R u v, INV I J R → lz ys n 1413 (am_L0 (Int32.ofNat j) u v) [] I J R) (h : INV I J R) : lz ys (n + 80) 738 (am_L0 (Int32.ofNat j) u v) [] I J R := by
  obtain ⟨w, I1, J1, R1, I2, J2, c1, c2, h2⟩ := op_loses (ys.getD (j + 1) 0) I J R h
  obtain ⟨x, rfl⟩ : ∃ x, w = .int x := by
    obtain ⟨i, st', e⟩ := ct_rt (q := am_m247) (o := 12) (rt := some .int) rfl rfl rfl c2
    exact rt_int (by decide) e
  refine l_pu (pc' := 739) rfl rfl rfl rfl ?_
  refine l_ld (c := 1) (p6 := 745) rfl rfl rfl rfl rfl rfl hy (by omega) ?_
  refine l_cv (pc' := 748) (q := am_m125) (as := [_]) (rest := []) (st' := [_]) rfl rfl rfl rfl rfl rfl sp0 rfl rfl rfl rfl c1 rfl rfl ?_
  refine l_pu (pc' := 749) rfl rfl rfl rfl ?_
  refine l_ld (c := 1) (p6 := 755) rfl rfl rfl rfl rfl rfl hy (by omega) ?_
  refine l_cv (pc' := 758) (q := am_m247) (as := [_]) (rest := [_]) (st' := [_, _]) rfl rfl rfl rfl rfl rfl sp110 rfl rfl rfl rfl c2 rfl rfl ?_
  exact l_eq (t := 1413) rfl rfl (lz_le (G I2 J2 R1 u v h2) (by omega))
/-- homes -/
theorem lc_15 {ys : List Int32} {n j : Nat} {u v : Value} {I : hI} {J : hJ} {R : hR} (hy : ys.length ≤ 3072) (hj : j + 6 ≤ ys.length) (G : ∀ I J R u v, INV I J R → lz ys n 1413 (am_L0 (Int32.ofNat j) u v) [] I J R) (h : INV I J R) : lz ys (n + 80) 763 (am_L0 (Int32.ofNat j) u v) [] I J R := by
  obtain ⟨w, I1, J1, R1, I2, J2, c1, c2, h2⟩ := op_homes (ys.getD (j + 1) 0) I J R h
  obtain ⟨x, rfl⟩ : ∃ x, w = .int x := by
    obtain ⟨i, st', e⟩ := ct_rt (q := am_m248) (o := 12) (rt := some .int) rfl rfl rfl c2
    exact rt_int (by decide) e
  refine l_pu (pc' := 764) rfl rfl rfl rfl ?_
  refine l_ld (c := 1) (p6 := 770) rfl rfl rfl rfl rfl rfl hy (by omega) ?_
  refine l_cv (pc' := 773) (q := am_m126) (as := [_]) (rest := []) (st' := [_]) rfl rfl rfl rfl rfl rfl sp0 rfl rfl rfl rfl c1 rfl rfl ?_
  refine l_pu (pc' := 774) rfl rfl rfl rfl ?_
  refine l_ld (c := 1) (p6 := 780) rfl rfl rfl rfl rfl rfl hy (by omega) ?_
  refine l_cv (pc' := 783) (q := am_m248) (as := [_]) (rest := [_]) (st' := [_, _]) rfl rfl rfl rfl rfl rfl sp110 rfl rfl rfl rfl c2 rfl rfl ?_
  exact l_eq (t := 1413) rfl rfl (lz_le (G I2 J2 R1 u v h2) (by omega))
/-- weakest -/
theorem lc_16 {ys : List Int32} {n j : Nat} {u v : Value} {I : hI} {J : hJ} {R : hR} (hy : ys.length ≤ 3072) (hj : j + 6 ≤ ys.length) (G : ∀ I J R u v, INV I J R → lz ys n 1413 (am_L0 (Int32.ofNat j) u v) [] I J R) (h : INV I J R) : lz ys (n + 80) 788 (am_L0 (Int32.ofNat j) u v) [] I J R := by
  obtain ⟨w, I1, J1, R1, I2, J2, c1, c2, h2⟩ := op_weakest (ys.getD (j + 1) 0) I J R h
  obtain ⟨x, rfl⟩ : ∃ x, w = .int x := by
    obtain ⟨i, st', e⟩ := ct_rt (q := am_m249) (o := 12) (rt := some .int) rfl rfl rfl c2
    exact rt_int (by decide) e
  refine l_pu (pc' := 789) rfl rfl rfl rfl ?_
  refine l_ld (c := 1) (p6 := 795) rfl rfl rfl rfl rfl rfl hy (by omega) ?_
  refine l_cv (pc' := 798) (q := am_m127) (as := [_]) (rest := []) (st' := [_]) rfl rfl rfl rfl rfl rfl sp0 rfl rfl rfl rfl c1 rfl rfl ?_
  refine l_pu (pc' := 799) rfl rfl rfl rfl ?_
  refine l_ld (c := 1) (p6 := 805) rfl rfl rfl rfl rfl rfl hy (by omega) ?_
  refine l_cv (pc' := 808) (q := am_m249) (as := [_]) (rest := [_]) (st' := [_, _]) rfl rfl rfl rfl rfl rfl sp110 rfl rfl rfl rfl c2 rfl rfl ?_
  exact l_eq (t := 1413) rfl rfl (lz_le (G I2 J2 R1 u v h2) (by omega))
/-- splice -/
theorem lc_17 {ys : List Int32} {n j : Nat} {u v : Value} {I : hI} {J : hJ} {R : hR} (hy : ys.length ≤ 3072) (hj : j + 6 ≤ ys.length) (G : ∀ I J R u v, INV I J R → lz ys n 1413 (am_L0 (Int32.ofNat j) u v) [] I J R) (h : INV I J R) : lz ys (n + 80) 813 (am_L0 (Int32.ofNat j) u v) [] I J R := by
  obtain ⟨w, I1, J1, R1, I2, J2, c1, c2, h2⟩ := op_splice (ys.getD (j + 1) 0) (ys.getD (j + 2) 0) I J R h
  obtain ⟨x, rfl⟩ : ∃ x, w = .int x := by
    obtain ⟨i, st', e⟩ := ct_rt (q := am_m253) (o := 12) (rt := some .int) rfl rfl rfl c2
    exact rt_int (by decide) e
  refine l_pu (pc' := 814) rfl rfl rfl rfl ?_
  refine l_ld (c := 1) (p6 := 820) rfl rfl rfl rfl rfl rfl hy (by omega) ?_
  refine l_ld (c := 2) (p6 := 826) rfl rfl rfl rfl rfl rfl hy (by omega) ?_
  refine l_cv (pc' := 829) (q := am_m128) (as := [_, _]) (rest := []) (st' := [_]) rfl rfl rfl rfl rfl rfl sp0 rfl rfl rfl rfl c1 rfl rfl ?_
  refine l_pu (pc' := 830) rfl rfl rfl rfl ?_
  refine l_ld (c := 1) (p6 := 836) rfl rfl rfl rfl rfl rfl hy (by omega) ?_
  refine l_ld (c := 2) (p6 := 842) rfl rfl rfl rfl rfl rfl hy (by omega) ?_
  refine l_cv (pc' := 845) (q := am_m253) (as := [_, _]) (rest := [_]) (st' := [_, _]) rfl rfl rfl rfl rfl rfl sp110 rfl rfl rfl rfl c2 rfl rfl ?_
  exact l_eq (t := 1413) rfl rfl (lz_le (G I2 J2 R1 u v h2) (by omega))
/-- exact -/
theorem lc_18 {ys : List Int32} {n j : Nat} {u v : Value} {I : hI} {J : hJ} {R : hR} (hy : ys.length ≤ 3072) (hj : j + 6 ≤ ys.length) (G : ∀ I J R u v, INV I J R → lz ys n 1413 (am_L0 (Int32.ofNat j) u v) [] I J R) (h : INV I J R) : lz ys (n + 80) 850 (am_L0 (Int32.ofNat j) u v) [] I J R := by
  obtain ⟨w, I1, J1, R1, I2, J2, c1, c2, h2⟩ := op_exact (ys.getD (j + 1) 0) I J R h
  obtain ⟨x, rfl⟩ : ∃ x, w = .int x := by
    obtain ⟨i, st', e⟩ := ct_rt (q := am_m254) (o := 12) (rt := some .int) rfl rfl rfl c2
    exact rt_int (by decide) e
  refine l_pu (pc' := 851) rfl rfl rfl rfl ?_
  refine l_ld (c := 1) (p6 := 857) rfl rfl rfl rfl rfl rfl hy (by omega) ?_
  refine l_cv (pc' := 860) (q := am_m130) (as := [_]) (rest := []) (st' := [_]) rfl rfl rfl rfl rfl rfl sp0 rfl rfl rfl rfl c1 rfl rfl ?_
  refine l_pu (pc' := 861) rfl rfl rfl rfl ?_
  refine l_ld (c := 1) (p6 := 867) rfl rfl rfl rfl rfl rfl hy (by omega) ?_
  refine l_cv (pc' := 870) (q := am_m254) (as := [_]) (rest := [_]) (st' := [_, _]) rfl rfl rfl rfl rfl rfl sp110 rfl rfl rfl rfl c2 rfl rfl ?_
  exact l_eq (t := 1413) rfl rfl (lz_le (G I2 J2 R1 u v h2) (by omega))
/-- allot -/
theorem lc_19 {ys : List Int32} {n j : Nat} {u v : Value} {I : hI} {J : hJ} {R : hR} (hy : ys.length ≤ 3072) (hj : j + 6 ≤ ys.length) (G : ∀ I J R u v, INV I J R → lz ys n 1413 (am_L0 (Int32.ofNat j) u v) [] I J R) (h : INV I J R) : lz ys (n + 80) 875 (am_L0 (Int32.ofNat j) u v) [] I J R := by
  obtain ⟨w, I1, J1, R1, I2, J2, c1, c2, h2⟩ := op_allot (ys.getD (j + 1) 0) I J R h
  obtain ⟨x, rfl⟩ : ∃ x, w = .int x := by
    obtain ⟨i, st', e⟩ := ct_rt (q := am_m257) (o := 12) (rt := some .int) rfl rfl rfl c2
    exact rt_int (by decide) e
  refine l_pu (pc' := 876) rfl rfl rfl rfl ?_
  refine l_ld (c := 1) (p6 := 882) rfl rfl rfl rfl rfl rfl hy (by omega) ?_
  refine l_cv (pc' := 885) (q := am_m133) (as := [_]) (rest := []) (st' := [_]) rfl rfl rfl rfl rfl rfl sp0 rfl rfl rfl rfl c1 rfl rfl ?_
  refine l_pu (pc' := 886) rfl rfl rfl rfl ?_
  refine l_ld (c := 1) (p6 := 892) rfl rfl rfl rfl rfl rfl hy (by omega) ?_
  refine l_cv (pc' := 895) (q := am_m257) (as := [_]) (rest := [_]) (st' := [_, _]) rfl rfl rfl rfl rfl rfl sp110 rfl rfl rfl rfl c2 rfl rfl ?_
  exact l_eq (t := 1413) rfl rfl (lz_le (G I2 J2 R1 u v h2) (by omega))
/-- game -/
theorem lc_20 {ys : List Int32} {n j : Nat} {u v : Value} {I : hI} {J : hJ} {R : hR} (hy : ys.length ≤ 3072) (hj : j + 6 ≤ ys.length) (G : ∀ I J R u v, INV I J R → lz ys n 1413 (am_L0 (Int32.ofNat j) u v) [] I J R) (h : INV I J R) : lz ys (n + 80) 900 (am_L0 (Int32.ofNat j) u v) [] I J R := by
  obtain ⟨w, I1, J1, R1, I2, J2, c1, c2, h2⟩ := op_game (ys.getD (j + 1) 0) I J R h
  obtain ⟨x, rfl⟩ : ∃ x, w = .int x := by
    obtain ⟨i, st', e⟩ := ct_rt (q := am_m258) (o := 12) (rt := some .int) rfl rfl rfl c2
    exact rt_int (by decide) e
  refine l_pu (pc' := 901) rfl rfl rfl rfl ?_
  refine l_ld (c := 1) (p6 := 907) rfl rfl rfl rfl rfl rfl hy (by omega) ?_
  refine l_cv (pc' := 910) (q := am_m134) (as := [_]) (rest := []) (st' := [_]) rfl rfl rfl rfl rfl rfl sp0 rfl rfl rfl rfl c1 rfl rfl ?_
  refine l_pu (pc' := 911) rfl rfl rfl rfl ?_
  refine l_ld (c := 1) (p6 := 917) rfl rfl rfl rfl rfl rfl hy (by omega) ?_
  refine l_cv (pc' := 920) (q := am_m258) (as := [_]) (rest := [_]) (st' := [_, _]) rfl rfl rfl rfl rfl rfl sp110 rfl rfl rfl rfl c2 rfl rfl ?_
  exact l_eq (t := 1413) rfl rfl (lz_le (G I2 J2 R1 u v h2) (by omega))
/-- putOff -/
theorem lc_21 {ys : List Int32} {n j : Nat} {u v : Value} {I : hI} {J : hJ} {R : hR} (hy : ys.length ≤ 3072) (hj : j + 6 ≤ ys.length) (G : ∀ I J R u v, INV I J R → lz ys n 1413 (am_L0 (Int32.ofNat j) u v) [] I J R) (h : INV I J R) : lz ys (n + 80) 925 (am_L0 (Int32.ofNat j) u v) [] I J R := by
  obtain ⟨w, I1, J1, R1, I2, J2, c1, c2, h2⟩ := op_putOff  I J R h
  obtain ⟨x, rfl⟩ : ∃ x, w = .int x := by
    obtain ⟨i, st', e⟩ := ct_rt (q := am_m259) (o := 12) (rt := some .int) rfl rfl rfl c2
    exact rt_int (by decide) e
  refine l_pu (pc' := 926) rfl rfl rfl rfl ?_
  refine l_cv (pc' := 929) (q := am_m136) (as := []) (rest := []) (st' := [_]) rfl rfl rfl rfl rfl rfl sp0 rfl rfl rfl rfl c1 rfl rfl ?_
  refine l_pu (pc' := 930) rfl rfl rfl rfl ?_
  refine l_cv (pc' := 933) (q := am_m259) (as := []) (rest := [_]) (st' := [_, _]) rfl rfl rfl rfl rfl rfl sp110 rfl rfl rfl rfl c2 rfl rfl ?_
  exact l_eq (t := 1413) rfl rfl (lz_le (G I2 J2 R1 u v h2) (by omega))
/-- rests -/
theorem lc_22 {ys : List Int32} {n j : Nat} {u v : Value} {I : hI} {J : hJ} {R : hR} (hy : ys.length ≤ 3072) (hj : j + 6 ≤ ys.length) (G : ∀ I J R u v, INV I J R → lz ys n 1413 (am_L0 (Int32.ofNat j) u v) [] I J R) (h : INV I J R) : lz ys (n + 80) 938 (am_L0 (Int32.ofNat j) u v) [] I J R := by
  obtain ⟨w, I1, J1, R1, I2, J2, c1, c2, h2⟩ := op_rests (ys.getD (j + 1) 0) (ys.getD (j + 2) 0) I J R h
  obtain ⟨x, rfl⟩ : ∃ x, w = .int x := by
    obtain ⟨i, st', e⟩ := ct_rt (q := am_m263) (o := 12) (rt := some .int) rfl rfl rfl c2
    exact rt_int (by decide) e
  refine l_pu (pc' := 939) rfl rfl rfl rfl ?_
  refine l_ld (c := 1) (p6 := 945) rfl rfl rfl rfl rfl rfl hy (by omega) ?_
  refine l_ld (c := 2) (p6 := 951) rfl rfl rfl rfl rfl rfl hy (by omega) ?_
  refine l_cv (pc' := 954) (q := am_m141) (as := [_, _]) (rest := []) (st' := [_]) rfl rfl rfl rfl rfl rfl sp0 rfl rfl rfl rfl c1 rfl rfl ?_
  refine l_pu (pc' := 955) rfl rfl rfl rfl ?_
  refine l_ld (c := 1) (p6 := 961) rfl rfl rfl rfl rfl rfl hy (by omega) ?_
  refine l_ld (c := 2) (p6 := 967) rfl rfl rfl rfl rfl rfl hy (by omega) ?_
  refine l_cv (pc' := 970) (q := am_m263) (as := [_, _]) (rest := [_]) (st' := [_, _]) rfl rfl rfl rfl rfl rfl sp110 rfl rfl rfl rfl c2 rfl rfl ?_
  exact l_eq (t := 1413) rfl rfl (lz_le (G I2 J2 R1 u v h2) (by omega))
/-- rest -/
theorem lc_23 {ys : List Int32} {n j : Nat} {u v : Value} {I : hI} {J : hJ} {R : hR} (hy : ys.length ≤ 3072) (hj : j + 6 ≤ ys.length) (G : ∀ I J R u v, INV I J R → lz ys n 1413 (am_L0 (Int32.ofNat j) u v) [] I J R) (h : INV I J R) : lz ys (n + 80) 975 (am_L0 (Int32.ofNat j) u v) [] I J R := by
  obtain ⟨w, I1, J1, R1, I2, J2, c1, c2, h2⟩ := op_rest (ys.getD (j + 1) 0) (ys.getD (j + 2) 0) (ys.getD (j + 3) 0) I J R h
  obtain ⟨x, rfl⟩ : ∃ x, w = .int x := by
    obtain ⟨i, st', e⟩ := ct_rt (q := am_m264) (o := 12) (rt := some .int) rfl rfl rfl c2
    exact rt_int (by decide) e
  refine l_pu (pc' := 976) rfl rfl rfl rfl ?_
  refine l_ld (c := 1) (p6 := 982) rfl rfl rfl rfl rfl rfl hy (by omega) ?_
  refine l_ld (c := 2) (p6 := 988) rfl rfl rfl rfl rfl rfl hy (by omega) ?_
  refine l_ld (c := 3) (p6 := 994) rfl rfl rfl rfl rfl rfl hy (by omega) ?_
  refine l_cv (pc' := 997) (q := am_m142) (as := [_, _, _]) (rest := []) (st' := [_]) rfl rfl rfl rfl rfl rfl sp0 rfl rfl rfl rfl c1 rfl rfl ?_
  refine l_pu (pc' := 998) rfl rfl rfl rfl ?_
  refine l_ld (c := 1) (p6 := 1004) rfl rfl rfl rfl rfl rfl hy (by omega) ?_
  refine l_ld (c := 2) (p6 := 1010) rfl rfl rfl rfl rfl rfl hy (by omega) ?_
  refine l_ld (c := 3) (p6 := 1016) rfl rfl rfl rfl rfl rfl hy (by omega) ?_
  refine l_cv (pc' := 1019) (q := am_m264) (as := [_, _, _]) (rest := [_]) (st' := [_, _]) rfl rfl rfl rfl rfl rfl sp110 rfl rfl rfl rfl c2 rfl rfl ?_
  exact l_eq (t := 1413) rfl rfl (lz_le (G I2 J2 R1 u v h2) (by omega))
/-- calm -/
theorem lc_24 {ys : List Int32} {n j : Nat} {u v : Value} {I : hI} {J : hJ} {R : hR} (hy : ys.length ≤ 3072) (hj : j + 6 ≤ ys.length) (G : ∀ I J R u v, INV I J R → lz ys n 1413 (am_L0 (Int32.ofNat j) u v) [] I J R) (h : INV I J R) : lz ys (n + 80) 1024 (am_L0 (Int32.ofNat j) u v) [] I J R := by
  obtain ⟨w, I1, J1, R1, I2, J2, c1, c2, h2⟩ := op_calm (ys.getD (j + 1) 0) (ys.getD (j + 2) 0) I J R h
  obtain ⟨x, rfl⟩ : ∃ x, w = .long x := by
    obtain ⟨i, st', e⟩ := ct_rt (q := am_m265) (o := 12) (rt := some .long) rfl rfl rfl c2
    exact rt_long (by decide) e
  refine l_pu (pc' := 1025) rfl rfl rfl rfl ?_
  refine l_ld (c := 1) (p6 := 1031) rfl rfl rfl rfl rfl rfl hy (by omega) ?_
  refine l_ld (c := 2) (p6 := 1037) rfl rfl rfl rfl rfl rfl hy (by omega) ?_
  refine l_cv (pc' := 1040) (q := am_m145) (as := [_, _]) (rest := []) (st' := [_]) rfl rfl rfl rfl rfl rfl sp0 rfl rfl rfl rfl c1 rfl rfl ?_
  refine l_pu (pc' := 1041) rfl rfl rfl rfl ?_
  refine l_ld (c := 1) (p6 := 1047) rfl rfl rfl rfl rfl rfl hy (by omega) ?_
  refine l_ld (c := 2) (p6 := 1053) rfl rfl rfl rfl rfl rfl hy (by omega) ?_
  refine l_cv (pc' := 1056) (q := am_m265) (as := [_, _]) (rest := [_]) (st' := [_, _]) rfl rfl rfl rfl rfl rfl sp110 rfl rfl rfl rfl c2 rfl rfl ?_
  refine l_lcmp (pc' := 1057) rfl rfl ?_
  exact l_ez (t := 1413) rfl rfl (lz_le (G I2 J2 R1 u v h2) (by omega))
/-- strike -/
theorem lc_26 {ys : List Int32} {n j : Nat} {u v : Value} {I : hI} {J : hJ} {R : hR} (hy : ys.length ≤ 3072) (hj : j + 6 ≤ ys.length) (G : ∀ I J R u v, INV I J R → lz ys n 1413 (am_L0 (Int32.ofNat j) u v) [] I J R) (h : INV I J R) : lz ys (n + 80) 1127 (am_L0 (Int32.ofNat j) u v) [] I J R := by
  obtain ⟨w, I1, J1, R1, I2, J2, c1, c2, h2⟩ := op_strike (ys.getD (j + 1) 0) I J R h
  obtain ⟨x, rfl⟩ : ∃ x, w = .int x := by
    obtain ⟨i, st', e⟩ := ct_rt (q := am_m268) (o := 12) (rt := some .int) rfl rfl rfl c2
    exact rt_int (by decide) e
  refine l_pu (pc' := 1128) rfl rfl rfl rfl ?_
  refine l_ld (c := 1) (p6 := 1134) rfl rfl rfl rfl rfl rfl hy (by omega) ?_
  refine l_cv (pc' := 1137) (q := am_m148) (as := [_]) (rest := []) (st' := [_]) rfl rfl rfl rfl rfl rfl sp0 rfl rfl rfl rfl c1 rfl rfl ?_
  refine l_pu (pc' := 1138) rfl rfl rfl rfl ?_
  refine l_ld (c := 1) (p6 := 1144) rfl rfl rfl rfl rfl rfl hy (by omega) ?_
  refine l_cv (pc' := 1147) (q := am_m268) (as := [_]) (rest := [_]) (st' := [_, _]) rfl rfl rfl rfl rfl rfl sp110 rfl rfl rfl rfl c2 rfl rfl ?_
  exact l_eq (t := 1413) rfl rfl (lz_le (G I2 J2 R1 u v h2) (by omega))
/-- known -/
theorem lc_27 {ys : List Int32} {n j : Nat} {u v : Value} {I : hI} {J : hJ} {R : hR} (hy : ys.length ≤ 3072) (hj : j + 6 ≤ ys.length) (G : ∀ I J R u v, INV I J R → lz ys n 1413 (am_L0 (Int32.ofNat j) u v) [] I J R) (h : INV I J R) : lz ys (n + 80) 1152 (am_L0 (Int32.ofNat j) u v) [] I J R := by
  obtain ⟨w, I1, J1, R1, I2, J2, c1, c2, h2⟩ := op_known (ys.getD (j + 1) 0) I J R h
  obtain ⟨x, rfl⟩ : ∃ x, w = .int x := by
    obtain ⟨i, st', e⟩ := ct_rt (q := am_m269) (o := 12) (rt := some .boolean) rfl rfl rfl c2
    exact rt_bool (by decide) e
  refine l_pu (pc' := 1153) rfl rfl rfl rfl ?_
  refine l_ld (c := 1) (p6 := 1159) rfl rfl rfl rfl rfl rfl hy (by omega) ?_
  refine l_cv (pc' := 1162) (q := am_m149) (as := [_]) (rest := []) (st' := [_]) rfl rfl rfl rfl rfl rfl sp0 rfl rfl rfl rfl c1 rfl rfl ?_
  refine l_pu (pc' := 1163) rfl rfl rfl rfl ?_
  refine l_ld (c := 1) (p6 := 1169) rfl rfl rfl rfl rfl rfl hy (by omega) ?_
  refine l_cv (pc' := 1172) (q := am_m269) (as := [_]) (rest := [_]) (st' := [_, _]) rfl rfl rfl rfl rfl rfl sp110 rfl rfl rfl rfl c2 rfl rfl ?_
  exact l_eq (t := 1413) rfl rfl (lz_le (G I2 J2 R1 u v h2) (by omega))
/-- evens -/
theorem lc_28 {ys : List Int32} {n j : Nat} {u v : Value} {I : hI} {J : hJ} {R : hR} (hy : ys.length ≤ 3072) (hj : j + 6 ≤ ys.length) (G : ∀ I J R u v, INV I J R → lz ys n 1413 (am_L0 (Int32.ofNat j) u v) [] I J R) (h : INV I J R) : lz ys (n + 80) 1177 (am_L0 (Int32.ofNat j) u v) [] I J R := by
  obtain ⟨w, I1, J1, R1, I2, J2, c1, c2, h2⟩ := op_evens (ys.getD (j + 1) 0) I J R h
  obtain ⟨x, rfl⟩ : ∃ x, w = .int x := by
    obtain ⟨i, st', e⟩ := ct_rt (q := am_m275) (o := 12) (rt := some .int) rfl rfl rfl c2
    exact rt_int (by decide) e
  refine l_pu (pc' := 1178) rfl rfl rfl rfl ?_
  refine l_ld (c := 1) (p6 := 1184) rfl rfl rfl rfl rfl rfl hy (by omega) ?_
  refine l_cv (pc' := 1187) (q := am_m150) (as := [_]) (rest := []) (st' := [_]) rfl rfl rfl rfl rfl rfl sp0 rfl rfl rfl rfl c1 rfl rfl ?_
  refine l_pu (pc' := 1188) rfl rfl rfl rfl ?_
  refine l_ld (c := 1) (p6 := 1194) rfl rfl rfl rfl rfl rfl hy (by omega) ?_
  refine l_cv (pc' := 1197) (q := am_m275) (as := [_]) (rest := [_]) (st' := [_, _]) rfl rfl rfl rfl rfl rfl sp110 rfl rfl rfl rfl c2 rfl rfl ?_
  exact l_eq (t := 1413) rfl rfl (lz_le (G I2 J2 R1 u v h2) (by omega))
/-- ask -/
theorem lc_29 {ys : List Int32} {n j : Nat} {u v : Value} {I : hI} {J : hJ} {R : hR} (hy : ys.length ≤ 3072) (hj : j + 6 ≤ ys.length) (G : ∀ I J R u v, INV I J R → lz ys n 1413 (am_L0 (Int32.ofNat j) u v) [] I J R) (h : INV I J R) : lz ys (n + 80) 1202 (am_L0 (Int32.ofNat j) u v) [] I J R := by
  obtain ⟨w, I1, J1, R1, I2, J2, c1, c2, h2⟩ := op_ask (ys.getD (j + 1) 0) (ys.getD (j + 2) 0) (ys.getD (j + 3) 0) I J R h
  obtain ⟨x, rfl⟩ : ∃ x, w = .int x := by
    obtain ⟨i, st', e⟩ := ct_rt (q := am_m276) (o := 12) (rt := some .int) rfl rfl rfl c2
    exact rt_int (by decide) e
  refine l_pu (pc' := 1203) rfl rfl rfl rfl ?_
  refine l_ld (c := 1) (p6 := 1209) rfl rfl rfl rfl rfl rfl hy (by omega) ?_
  refine l_ld (c := 2) (p6 := 1215) rfl rfl rfl rfl rfl rfl hy (by omega) ?_
  refine l_ld (c := 3) (p6 := 1221) rfl rfl rfl rfl rfl rfl hy (by omega) ?_
  refine l_cv (pc' := 1224) (q := am_m151) (as := [_, _, _]) (rest := []) (st' := [_]) rfl rfl rfl rfl rfl rfl sp0 rfl rfl rfl rfl c1 rfl rfl ?_
  refine l_pu (pc' := 1225) rfl rfl rfl rfl ?_
  refine l_ld (c := 1) (p6 := 1231) rfl rfl rfl rfl rfl rfl hy (by omega) ?_
  refine l_ld (c := 2) (p6 := 1237) rfl rfl rfl rfl rfl rfl hy (by omega) ?_
  refine l_ld (c := 3) (p6 := 1243) rfl rfl rfl rfl rfl rfl hy (by omega) ?_
  refine l_cv (pc' := 1246) (q := am_m276) (as := [_, _, _]) (rest := [_]) (st' := [_, _]) rfl rfl rfl rfl rfl rfl sp110 rfl rfl rfl rfl c2 rfl rfl ?_
  exact l_eq (t := 1413) rfl rfl (lz_le (G I2 J2 R1 u v h2) (by omega))
/-- chance -/
theorem lc_30 {ys : List Int32} {n j : Nat} {u v : Value} {I : hI} {J : hJ} {R : hR} (hy : ys.length ≤ 3072) (hj : j + 6 ≤ ys.length) (G : ∀ I J R u v, INV I J R → lz ys n 1413 (am_L0 (Int32.ofNat j) u v) [] I J R) (h : INV I J R) : lz ys (n + 80) 1251 (am_L0 (Int32.ofNat j) u v) [] I J R := by
  obtain ⟨w, I1, J1, R1, I2, J2, c1, c2, h2⟩ := op_chance (ys.getD (j + 1) 0) (ys.getD (j + 2) 0) (ys.getD (j + 3) 0) I J R h
  obtain ⟨x, rfl⟩ : ∃ x, w = .int x := by
    obtain ⟨i, st', e⟩ := ct_rt (q := am_m277) (o := 12) (rt := some .int) rfl rfl rfl c2
    exact rt_int (by decide) e
  refine l_pu (pc' := 1252) rfl rfl rfl rfl ?_
  refine l_ld (c := 1) (p6 := 1258) rfl rfl rfl rfl rfl rfl hy (by omega) ?_
  refine l_ld (c := 2) (p6 := 1264) rfl rfl rfl rfl rfl rfl hy (by omega) ?_
  refine l_ld (c := 3) (p6 := 1270) rfl rfl rfl rfl rfl rfl hy (by omega) ?_
  refine l_cv (pc' := 1273) (q := am_m153) (as := [_, _, _]) (rest := []) (st' := [_]) rfl rfl rfl rfl rfl rfl sp0 rfl rfl rfl rfl c1 rfl rfl ?_
  refine l_pu (pc' := 1274) rfl rfl rfl rfl ?_
  refine l_ld (c := 1) (p6 := 1280) rfl rfl rfl rfl rfl rfl hy (by omega) ?_
  refine l_ld (c := 2) (p6 := 1286) rfl rfl rfl rfl rfl rfl hy (by omega) ?_
  refine l_ld (c := 3) (p6 := 1292) rfl rfl rfl rfl rfl rfl hy (by omega) ?_
  refine l_cv (pc' := 1295) (q := am_m277) (as := [_, _, _]) (rest := [_]) (st' := [_, _]) rfl rfl rfl rfl rfl rfl sp110 rfl rfl rfl rfl c2 rfl rfl ?_
  exact l_eq (t := 1413) rfl rfl (lz_le (G I2 J2 R1 u v h2) (by omega))
/-- tried -/
theorem lc_31 {ys : List Int32} {n j : Nat} {u v : Value} {I : hI} {J : hJ} {R : hR} (hy : ys.length ≤ 3072) (hj : j + 6 ≤ ys.length) (G : ∀ I J R u v, INV I J R → lz ys n 1413 (am_L0 (Int32.ofNat j) u v) [] I J R) (h : INV I J R) : lz ys (n + 80) 1300 (am_L0 (Int32.ofNat j) u v) [] I J R := by
  obtain ⟨w, I1, J1, R1, I2, J2, c1, c2, h2⟩ := op_tried (ys.getD (j + 1) 0) (ys.getD (j + 2) 0) (ys.getD (j + 3) 0) I J R h
  obtain ⟨x, rfl⟩ : ∃ x, w = .int x := by
    obtain ⟨i, st', e⟩ := ct_rt (q := am_m278) (o := 12) (rt := some .int) rfl rfl rfl c2
    exact rt_int (by decide) e
  refine l_pu (pc' := 1301) rfl rfl rfl rfl ?_
  refine l_ld (c := 1) (p6 := 1307) rfl rfl rfl rfl rfl rfl hy (by omega) ?_
  refine l_ld (c := 2) (p6 := 1313) rfl rfl rfl rfl rfl rfl hy (by omega) ?_
  refine l_ld (c := 3) (p6 := 1319) rfl rfl rfl rfl rfl rfl hy (by omega) ?_
  refine l_cv (pc' := 1322) (q := am_m154) (as := [_, _, _]) (rest := []) (st' := [_]) rfl rfl rfl rfl rfl rfl sp0 rfl rfl rfl rfl c1 rfl rfl ?_
  refine l_pu (pc' := 1323) rfl rfl rfl rfl ?_
  refine l_ld (c := 1) (p6 := 1329) rfl rfl rfl rfl rfl rfl hy (by omega) ?_
  refine l_ld (c := 2) (p6 := 1335) rfl rfl rfl rfl rfl rfl hy (by omega) ?_
  refine l_ld (c := 3) (p6 := 1341) rfl rfl rfl rfl rfl rfl hy (by omega) ?_
  refine l_cv (pc' := 1344) (q := am_m278) (as := [_, _, _]) (rest := [_]) (st' := [_, _]) rfl rfl rfl rfl rfl rfl sp110 rfl rfl rfl rfl c2 rfl rfl ?_
  exact l_eq (t := 1413) rfl rfl (lz_le (G I2 J2 R1 u v h2) (by omega))
/-- undo -/
theorem lc_32 {ys : List Int32} {n j : Nat} {u v : Value} {I : hI} {J : hJ} {R : hR} (hy : ys.length ≤ 3072) (hj : j + 6 ≤ ys.length) (G : ∀ I J R u v, INV I J R → lz ys n 1413 (am_L0 (Int32.ofNat j) u v) [] I J R) (h : INV I J R) : lz ys (n + 80) 1349 (am_L0 (Int32.ofNat j) u v) [] I J R := by
  obtain ⟨w, I1, J1, R1, I2, J2, c1, c2, h2⟩ := op_undo  I J R h
  obtain ⟨x, rfl⟩ : ∃ x, w = .int x := by
    obtain ⟨i, st', e⟩ := ct_rt (q := am_m282) (o := 12) (rt := some .int) rfl rfl rfl c2
    exact rt_int (by decide) e
  refine l_pu (pc' := 1350) rfl rfl rfl rfl ?_
  refine l_cv (pc' := 1353) (q := am_m155) (as := []) (rest := []) (st' := [_]) rfl rfl rfl rfl rfl rfl sp0 rfl rfl rfl rfl c1 rfl rfl ?_
  refine l_pu (pc' := 1354) rfl rfl rfl rfl ?_
  refine l_cv (pc' := 1357) (q := am_m282) (as := []) (rest := [_]) (st' := [_, _]) rfl rfl rfl rfl rfl rfl sp110 rfl rfl rfl rfl c2 rfl rfl ?_
  exact l_eq (t := 1413) rfl rfl (lz_le (G I2 J2 R1 u v h2) (by omega))
/-- keep -/
theorem lc_33 {ys : List Int32} {n j : Nat} {u v : Value} {I : hI} {J : hJ} {R : hR} (hy : ys.length ≤ 3072) (hj : j + 6 ≤ ys.length) (G : ∀ I J R u v, INV I J R → lz ys n 1413 (am_L0 (Int32.ofNat j) u v) [] I J R) (h : INV I J R) : lz ys (n + 80) 1362 (am_L0 (Int32.ofNat j) u v) [] I J R := by
  obtain ⟨w, I1, J1, R1, I2, J2, c1, c2, h2⟩ := op_keep  I J R h
  obtain ⟨x, rfl⟩ : ∃ x, w = .int x := by
    obtain ⟨i, st', e⟩ := ct_rt (q := am_m283) (o := 12) (rt := some .int) rfl rfl rfl c2
    exact rt_int (by decide) e
  refine l_pu (pc' := 1363) rfl rfl rfl rfl ?_
  refine l_cv (pc' := 1366) (q := am_m156) (as := []) (rest := []) (st' := [_]) rfl rfl rfl rfl rfl rfl sp0 rfl rfl rfl rfl c1 rfl rfl ?_
  refine l_pu (pc' := 1367) rfl rfl rfl rfl ?_
  refine l_cv (pc' := 1370) (q := am_m283) (as := []) (rest := [_]) (st' := [_, _]) rfl rfl rfl rfl rfl rfl sp110 rfl rfl rfl rfl c2 rfl rfl ?_
  exact l_eq (t := 1413) rfl rfl (lz_le (G I2 J2 R1 u v h2) (by omega))
/-- back -/
theorem lc_34 {ys : List Int32} {n j : Nat} {u v : Value} {I : hI} {J : hJ} {R : hR} (hy : ys.length ≤ 3072) (hj : j + 6 ≤ ys.length) (G : ∀ I J R u v, INV I J R → lz ys n 1413 (am_L0 (Int32.ofNat j) u v) [] I J R) (h : INV I J R) : lz ys (n + 80) 1375 (am_L0 (Int32.ofNat j) u v) [] I J R := by
  obtain ⟨w, I1, J1, R1, I2, J2, c1, c2, h2⟩ := op_back  I J R h
  obtain ⟨x, rfl⟩ : ∃ x, w = .int x := by
    obtain ⟨i, st', e⟩ := ct_rt (q := am_m284) (o := 12) (rt := some .int) rfl rfl rfl c2
    exact rt_int (by decide) e
  refine l_pu (pc' := 1376) rfl rfl rfl rfl ?_
  refine l_cv (pc' := 1379) (q := am_m157) (as := []) (rest := []) (st' := [_]) rfl rfl rfl rfl rfl rfl sp0 rfl rfl rfl rfl c1 rfl rfl ?_
  refine l_pu (pc' := 1380) rfl rfl rfl rfl ?_
  refine l_cv (pc' := 1383) (q := am_m284) (as := []) (rest := [_]) (st' := [_, _]) rfl rfl rfl rfl rfl rfl sp110 rfl rfl rfl rfl c2 rfl rfl ?_
  exact l_eq (t := 1413) rfl rfl (lz_le (G I2 J2 R1 u v h2) (by omega))
/-- count -/
theorem lc_35 {ys : List Int32} {n j : Nat} {u v : Value} {I : hI} {J : hJ} {R : hR} (hy : ys.length ≤ 3072) (hj : j + 6 ≤ ys.length) (G : ∀ I J R u v, INV I J R → lz ys n 1413 (am_L0 (Int32.ofNat j) u v) [] I J R) (h : INV I J R) : lz ys (n + 80) 1388 (am_L0 (Int32.ofNat j) u v) [] I J R := by
  obtain ⟨w, I1, J1, R1, I2, J2, c1, c2, h2⟩ := op_count (ys.getD (j + 1) 0) I J R h
  obtain ⟨x, rfl⟩ : ∃ x, w = .int x := by
    obtain ⟨i, st', e⟩ := ct_rt (q := am_m285) (o := 12) (rt := some .int) rfl rfl rfl c2
    exact rt_int (by decide) e
  refine l_pu (pc' := 1389) rfl rfl rfl rfl ?_
  refine l_ld (c := 1) (p6 := 1395) rfl rfl rfl rfl rfl rfl hy (by omega) ?_
  refine l_cv (pc' := 1398) (q := am_m158) (as := [_]) (rest := []) (st' := [_]) rfl rfl rfl rfl rfl rfl sp0 rfl rfl rfl rfl c1 rfl rfl ?_
  refine l_pu (pc' := 1399) rfl rfl rfl rfl ?_
  refine l_ld (c := 1) (p6 := 1405) rfl rfl rfl rfl rfl rfl hy (by omega) ?_
  refine l_cv (pc' := 1408) (q := am_m285) (as := [_]) (rest := [_]) (st' := [_, _]) rfl rfl rfl rfl rfl rfl sp110 rfl rfl rfl rfl c2 rfl rfl ?_
  exact l_eq (t := 1413) rfl rfl (lz_le (G I2 J2 R1 u v h2) (by omega))
