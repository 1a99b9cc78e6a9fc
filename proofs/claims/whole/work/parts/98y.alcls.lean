/-! Calls alike (sixteen): ropes allotted, the class's search. -/
theorem ld_106 {I : hI} {i : Nat} {x : Int32} : k_ld I i x 106 i = I 106 i + x := by
  unfold k_ld; rw [am_u_na (by decide), am_u_na (by decide), am_u_at]
theorem ld_106n {I : hI} {i j : Nat} {x : Int32} (h : j ≠ i) : k_ld I i x 106 j = I 106 j := by
  unfold k_ld; rw [am_u_na (by decide), am_u_na (by decide), am_u_nk h, am_u_na (by decide)]
theorem ld_8 {I : hI} {i : Nat} {x : Int32} : k_ld I i x 102 8 = I 102 8 - k_sg (I 106 i) + k_sg (I 106 i + x) := by
  unfold k_ld; rw [am_u_nk (by decide), am_u_at]
theorem ld_9 {I : hI} {i : Nat} {x : Int32} : k_ld I i x 102 9 = I 102 9 + x := by
  unfold k_ld; rw [am_u_at]
theorem i32_sub_add {a b c d : Nat} (h : a + b = c + d) : Int32.ofNat c - Int32.ofNat b + Int32.ofNat d = Int32.ofNat a := by
  have e : Int32.ofNat a + Int32.ofNat b = Int32.ofNat c + Int32.ofNat d := by rw [← Int32.ofNat_add, ← Int32.ofNat_add, h]
  have e2 : Int32.ofNat a = Int32.ofNat c + Int32.ofNat d - Int32.ofNat b := by rw [← e, Int32.add_sub_cancel]
  rw [e2, Int32.sub_eq_add_neg, Int32.sub_eq_add_neg, Int32.add_assoc, Int32.add_assoc, Int32.add_comm (-Int32.ofNat b)]
theorem sg_tm {ns : Nat} {so : Nat → Nat} {h : Nat → Bool} {be lo : Nat → Nat} {j c s : Nat} (hs : h s = true) (b1 : be s < 10000) (b2 : lo s < 1000) (b3 : al_sum ns so s j c ≤ 5000) : k_sg (Int32.ofInt (((be s + al_sum ns so s j c : Nat) : Int) - (lo s : Int))) = Int32.ofNat (al_tm ns so h be lo j c s) := by
  unfold k_sg al_tm
  have e : (Int32.ofInt (((be s + al_sum ns so s j c : Nat) : Int) - (lo s : Int))).toInt = ((be s + al_sum ns so s j c : Nat) : Int) - (lo s : Int) := Int32.toInt_ofInt_of_le (by omega) (by omega)
  have lt : Int32.ofInt (((be s + al_sum ns so s j c : Nat) : Int) - (lo s : Int)) < 0 ↔ be s + al_sum ns so s j c < lo s := by
    rw [Int32.lt_iff_toInt_lt, e, show (0 : Int32).toInt = 0 from rfl]; omega
  by_cases g : lo s ≤ be s + al_sum ns so s j c
  · rw [if_neg (fun z => by rw [lt] at z; omega), if_pos ⟨hs, g⟩]
  · rw [if_pos (by rw [lt]; omega), if_neg (fun z => g z.2)]
/-- the class's search, at a beginning of a row -/
def alC (ns F : Nat) (so : Nat → Nat) (h : Nat → Bool) (be lo : Nat → Nat) (A : Int32 × Int32 × Int32) (p c : Nat) (I : hI) : Prop :=
  (I 102 2 = Int32.ofNat F ∧ I 102 5 = Int32.ofNat (al_cnt h ns)) ∧ (∀ k, k < F → I 104 k = Int32.ofNat (so k)) ∧ (∀ s, s < ns → h s = true → I 105 (al_cnt h s) = Int32.ofNat s ∧ I 106 (al_cnt h s) = Int32.ofInt (((be s + al_sum ns so s p c : Nat) : Int) - (lo s : Int))) ∧ I 102 8 = Int32.ofNat (al_bor ns so h be lo p c ns) ∧ I 102 9 = Int32.ofNat (al_put ns so p c) ∧ (∀ k, k < p → I 107 k = al_ch ns p c k) ∧ al_ok ns h p c ∧ (I 102 10 = A.2.1 ∧ I 102 11 = A.2.2) ∧ ((A.1 = Int32.ofInt (-1) ∧ A.2.1 = Int32.ofInt (-1)) ∨ ∃ b, A.1 = Int32.ofNat b ∧ b < 10000 ∧ al_ok ns h F b ∧ ∀ k, k < F → I 108 k = al_ch ns F b k)
theorem al_md {ns c d : Nat} (hd : d < ns + 1) : (c * (ns + 1) + d) % (ns + 1) = d ∧ (c * (ns + 1) + d) / (ns + 1) = c := by
  constructor
  · rw [Nat.mul_comm, Nat.mul_add_mod, Nat.mod_eq_of_lt hd]
  · rw [Nat.mul_comm, Nat.mul_add_div (by omega), Nat.div_eq_of_lt hd, Nat.add_zero]
theorem al_ch_s {ns p c k : Nat} (h : k < p) : al_ch ns (p + 1) c k = al_ch ns p (c / (ns + 1)) k := by
  unfold al_ch
  rw [al_dg_s, if_neg (show ¬ k = p by omega)]
theorem alC_dn {ns F : Nat} {so : Nat → Nat} {h : Nat → Bool} {be lo : Nat → Nat} {A : Int32 × Int32 × Int32} {p c d : Nat} {I : hI} (bd : F ≤ 5 ∧ (∀ k, so k < 1000) ∧ (∀ s, be s < 10000) ∧ (∀ s, lo s < 1000)) (hp : p < F) (hd : d < ns) (hh : h d = true) (a : alC ns F so h be lo A p c I) : alC ns F so h be lo A (p + 1) (c * (ns + 1) + d) (k_ld (am_u I 107 p (I 105 (al_cnt h d))) (al_cnt h d) (I 104 p)) := by
  obtain ⟨⟨a1, a2⟩, a3, a4, a5, a6, a7, a8, ⟨a9, a10⟩, a11⟩ := a
  obtain ⟨m1, m2⟩ := al_md (ns := ns) (c := c) (d := d) (by omega)
  obtain ⟨x1, x2⟩ := a4 d hd hh
  have sm : ∀ s, al_sum ns so s (p + 1) (c * (ns + 1) + d) = al_sum ns so s p c + (if d = s then so p else 0) := fun s => by rw [al_sum_s, m1, m2]
  have sl : ∀ s j c, j ≤ F → al_sum ns so s j c ≤ 5000 := fun s j c hj => by have := al_sum_le (ns := ns) bd.2.1 (s := s) j c; have := bd.1; omega
  have nw : Int32.ofInt (((be d + al_sum ns so d p c : Nat) : Int) - (lo d : Int)) + Int32.ofNat (so p) = Int32.ofInt (((be d + al_sum ns so d (p + 1) (c * (ns + 1) + d) : Nat) : Int) - (lo d : Int)) := by
    rw [sm d, if_pos rfl, ← Int32.ofInt_eq_ofNat, ← Int32.ofInt_add]
    congr 1; omega
  refine ⟨⟨?_, ?_⟩, fun k hk => ?_, fun s hs hs2 => ⟨?_, ?_⟩, ?_, ?_, fun k hk => ?_, ?_, ⟨?_, ?_⟩, ?_⟩
  · rw [k_ld_nk (by decide), am_u_na (by decide)]; exact a1
  · rw [k_ld_nk (by decide), am_u_na (by decide)]; exact a2
  · rw [k_ld_ne (by decide), am_u_na (by decide)]; exact a3 k hk
  · rw [k_ld_ne (by decide), am_u_na (by decide)]; exact (a4 s hs hs2).1
  · by_cases e : d = s
    · subst e
      rw [ld_106, am_u_na (by decide), x2, a3 p hp]; exact nw
    · rw [ld_106n (al_cnt_ne hs2 hh (fun z => e z.symm)), am_u_na (by decide), (a4 s hs hs2).2, sm s, if_neg e]; rfl
  · rw [ld_8, am_u_na (by decide), am_u_na (by decide), a5, x2, a3 p hp, nw, sg_tm hh (bd.2.2.1 d) (bd.2.2.2 d) (sl d p c (by omega)), sg_tm hh (bd.2.2.1 d) (bd.2.2.2 d) (sl d (p + 1) _ (by omega))]
    have e := (al_bor_ch (ns := ns) (so := so) (h := h) (be := be) (lo := lo) (j := p) (c := c * (ns + 1) + d) ns).1 (by rw [m1]; exact hd)
    rw [m1, m2] at e
    exact i32_sub_add e
  · rw [ld_9, am_u_na (by decide), a6, a3 p hp, al_put_s, m1, m2, if_neg (by omega), Int32.ofNat_add]
  · rw [k_ld_ne (by decide)]
    unfold al_ch
    rw [al_dg_s, m1, m2]
    by_cases e : k = p
    · rw [if_pos e, e, am_u_at, x1, if_neg (by omega)]
    · rw [if_neg e, am_u_nk e]; exact a7 k (by omega)
  · rw [al_ok_s, m1, m2]; exact ⟨Or.inr hh, a8⟩
  · rw [k_ld_nk (by decide), am_u_na (by decide)]; exact a9
  · rw [k_ld_nk (by decide), am_u_na (by decide)]; exact a10
  · rw [k_ld_ne (by decide), am_u_ne (by decide)]; exact a11
theorem alC_up {ns F : Nat} {so : Nat → Nat} {h : Nat → Bool} {be lo : Nat → Nat} {A : Int32 × Int32 × Int32} {p c d : Nat} {I : hI} {x : Int32} (bd : F ≤ 5 ∧ (∀ k, so k < 1000) ∧ (∀ s, be s < 10000) ∧ (∀ s, lo s < 1000)) (hp : p < F) (hd : d < ns) (hh : h d = true) (ex : x = Int32.ofNat (so p)) (a : alC ns F so h be lo A (p + 1) (c * (ns + 1) + d) I) : alC ns F so h be lo A p c (k_ld I (al_cnt h d) (-x)) := by
  obtain ⟨⟨a1, a2⟩, a3, a4, a5, a6, a7, a8, ⟨a9, a10⟩, a11⟩ := a
  obtain ⟨m1, m2⟩ := al_md (ns := ns) (c := c) (d := d) (by omega)
  obtain ⟨x1, x2⟩ := a4 d hd hh
  have sm : ∀ s, al_sum ns so s (p + 1) (c * (ns + 1) + d) = al_sum ns so s p c + (if d = s then so p else 0) := fun s => by rw [al_sum_s, m1, m2]
  have sl : ∀ s j c, j ≤ F → al_sum ns so s j c ≤ 5000 := fun s j c hj => by have := al_sum_le (ns := ns) bd.2.1 (s := s) j c; have := bd.1; omega
  have nw : Int32.ofInt (((be d + al_sum ns so d (p + 1) (c * (ns + 1) + d) : Nat) : Int) - (lo d : Int)) + -Int32.ofNat (so p) = Int32.ofInt (((be d + al_sum ns so d p c : Nat) : Int) - (lo d : Int)) := by
    have e : Int32.ofInt (((be d + al_sum ns so d (p + 1) (c * (ns + 1) + d) : Nat) : Int) - (lo d : Int)) = Int32.ofInt (((be d + al_sum ns so d p c : Nat) : Int) - (lo d : Int)) + Int32.ofNat (so p) := by
      rw [sm d, if_pos rfl, ← Int32.ofInt_eq_ofNat, ← Int32.ofInt_add]
      congr 1; omega
    rw [e, ← Int32.sub_eq_add_neg, Int32.add_sub_cancel]
  subst ex
  refine ⟨⟨?_, ?_⟩, fun k hk => ?_, fun s hs hs2 => ⟨?_, ?_⟩, ?_, ?_, fun k hk => ?_, ?_, ⟨?_, ?_⟩, ?_⟩
  · rw [k_ld_nk (by decide)]; exact a1
  · rw [k_ld_nk (by decide)]; exact a2
  · rw [k_ld_ne (by decide)]; exact a3 k hk
  · rw [k_ld_ne (by decide)]; exact (a4 s hs hs2).1
  · by_cases e : d = s
    · subst e
      rw [ld_106, x2]; exact nw
    · have := (a4 s hs hs2).2
      rw [sm s, if_neg e] at this
      rw [ld_106n (al_cnt_ne hs2 hh (fun z => e z.symm)), this]; rfl
  · rw [ld_8, a5, x2, nw, sg_tm hh (bd.2.2.1 d) (bd.2.2.2 d) (sl d p c (by omega)), sg_tm hh (bd.2.2.1 d) (bd.2.2.2 d) (sl d (p + 1) _ (by omega))]
    have e := (al_bor_ch (ns := ns) (so := so) (h := h) (be := be) (lo := lo) (j := p) (c := c * (ns + 1) + d) ns).1 (by rw [m1]; exact hd)
    rw [m1, m2] at e
    exact i32_sub_add (by omega)
  · rw [ld_9, a6, al_put_s, m1, m2, if_neg (by omega), Int32.ofNat_add, ← Int32.sub_eq_add_neg, Int32.add_sub_cancel]
  · have := a7 k (by omega)
    rw [al_ch_s hk, m2] at this
    rw [k_ld_ne (by decide)]; exact this
  · rw [al_ok_s, m2] at a8; exact a8.2
  · rw [k_ld_nk (by decide)]; exact a9
  · rw [k_ld_nk (by decide)]; exact a10
  · rw [k_ld_ne (by decide)]; exact a11
theorem al_bor_n {ns : Nat} {so : Nat → Nat} {h : Nat → Bool} {be lo : Nat → Nat} {p c : Nat} : al_bor ns so h be lo (p + 1) (c * (ns + 1) + ns) ns = al_bor ns so h be lo p c ns := by
  obtain ⟨m1, m2⟩ := al_md (ns := ns) (c := c) (d := ns) (by omega)
  have e := (al_bor_ch (ns := ns) (so := so) (h := h) (be := be) (lo := lo) (j := p) (c := c * (ns + 1) + ns) ns).2 (by rw [m1]; exact Nat.le_refl _)
  rw [m2] at e; exact e
/-- a rope that's put into none -/
theorem alC_n {ns F : Nat} {so : Nat → Nat} {h : Nat → Bool} {be lo : Nat → Nat} {A : Int32 × Int32 × Int32} {p c : Nat} {I : hI} (a : alC ns F so h be lo A p c I) : alC ns F so h be lo A (p + 1) (c * (ns + 1) + ns) (am_u I 107 p (Int32.ofInt (-2))) := by
  obtain ⟨⟨a1, a2⟩, a3, a4, a5, a6, a7, a8, ⟨a9, a10⟩, a11⟩ := a
  obtain ⟨m1, m2⟩ := al_md (ns := ns) (c := c) (d := ns) (by omega)
  refine ⟨⟨?_, ?_⟩, fun k hk => ?_, fun s hs hs2 => ⟨?_, ?_⟩, ?_, ?_, fun k hk => ?_, ?_, ⟨?_, ?_⟩, ?_⟩
  · rw [am_u_na (by decide)]; exact a1
  · rw [am_u_na (by decide)]; exact a2
  · rw [am_u_na (by decide)]; exact a3 k hk
  · rw [am_u_na (by decide)]; exact (a4 s hs hs2).1
  · rw [am_u_na (by decide), (a4 s hs hs2).2, al_sum_s, m1, m2, if_neg (by omega)]; rfl
  · rw [am_u_na (by decide), a5, al_bor_n]
  · rw [am_u_na (by decide), a6, al_put_s, m1, m2, if_pos rfl]; rfl
  · unfold al_ch
    rw [al_dg_s, m1, m2]
    by_cases e : k = p
    · rw [if_pos e, e, am_u_at, if_pos rfl]
    · rw [if_neg e, am_u_nk e]; exact a7 k (by omega)
  · rw [al_ok_s, m1, m2]; exact ⟨Or.inl rfl, a8⟩
  · rw [am_u_na (by decide)]; exact a9
  · rw [am_u_na (by decide)]; exact a10
  · rw [am_u_ne (by decide)]; exact a11
theorem alC_nb {ns F : Nat} {so : Nat → Nat} {h : Nat → Bool} {be lo : Nat → Nat} {A : Int32 × Int32 × Int32} {p c : Nat} {I : hI} (a : alC ns F so h be lo A (p + 1) (c * (ns + 1) + ns) I) : alC ns F so h be lo A p c I := by
  obtain ⟨⟨a1, a2⟩, a3, a4, a5, a6, a7, a8, ⟨a9, a10⟩, a11⟩ := a
  obtain ⟨m1, m2⟩ := al_md (ns := ns) (c := c) (d := ns) (by omega)
  refine ⟨⟨a1, a2⟩, a3, fun s hs hs2 => ⟨(a4 s hs hs2).1, ?_⟩, ?_, ?_, fun k hk => ?_, ?_, ⟨a9, a10⟩, a11⟩
  · have := (a4 s hs hs2).2
    rw [al_sum_s, m1, m2, if_neg (by omega)] at this
    exact this
  · rw [a5, al_bor_n]
  · rw [a6, al_put_s, m1, m2, if_pos rfl]; rfl
  · have := a7 k (by omega)
    rw [al_ch_s hk, m2] at this
    exact this
  · rw [al_ok_s, m2] at a8; exact a8.2
/-- what can be borne at best -/
theorem cb_v {ns F : Nat} {so : Nat → Nat} {h : Nat → Bool} {be lo : Nat → Nat} {A : Int32 × Int32 × Int32} {p c : Nat} {I : hI} (hF : F ≤ 5) (hns : ns ≤ 5) (hp : p ≤ F) (a : alC ns F so h be lo A p c I) : k_cb I p = Int32.ofNat (min (al_bor ns so h be lo p c ns + (F - p)) (al_cnt h ns)) := by
  obtain ⟨⟨a1, a2⟩, a3, a4, a5, _⟩ := a
  have b1 := al_bor_cnt (ns := ns) (so := so) (h := h) (be := be) (lo := lo) (j := p) (c := c) ns
  have b2 := al_cnt_le (h := h) ns
  unfold k_cb
  rw [a1, a2, a5, ← Int32.ofNat_add, ← Int32.ofNat_sub _ _ (by omega)]
  have e : al_bor ns so h be lo p c ns + F - p = al_bor ns so h be lo p c ns + (F - p) := by omega
  rw [e]
  have lt := am_ltN (x := al_bor ns so h be lo p c ns + (F - p)) (y := al_cnt h ns) (by omega) (by omega)
  by_cases g : al_bor ns so h be lo p c ns + (F - p) < al_cnt h ns
  · rw [if_pos (lt.mpr g), Nat.min_eq_left (by omega)]
  · rw [if_neg (fun z => g (lt.mp z)), Nat.min_eq_right (by omega)]
theorem al_cutN {x x' y y' : Nat} {b : Int32 × Int32 × Int32} (h1 : x' ≤ x) (h2 : y ≤ y') (b1 : x < 100000) (b2 : y' < 100000) (k : Int32.ofNat x < b.2.1 ∨ (Int32.ofNat x = b.2.1 ∧ ¬ Int32.ofNat y < b.2.2)) : ¬ al_bt (Int32.ofNat x') (Int32.ofNat y') b := by
  refine fun z => z ?_
  have i : ∀ n, n < 100000 → (Int32.ofNat n).toInt = n := fun n hn => Int32.toInt_ofNat_of_lt (by omega)
  rw [Int32.lt_iff_toInt_lt, Int32.lt_iff_toInt_lt, ← Int32.toInt_inj, i _ b1, i y (by omega)] at k
  rw [Int32.lt_iff_toInt_lt, Int32.lt_iff_toInt_lt, ← Int32.toInt_inj, i x' (by omega), i y' b2]
  omega
theorem al_skip {N : Nat → Nat} {ns F : Nat} {so : Nat → Nat} {h : Nat → Bool} {be lo : Nat → Nat} {K : hI} (a : alK N ns F so h be lo K) {r0 m : Nat} (g : ∀ r, r0 ≤ r → r < m → al_ok ns h F r → ¬ al_bt (Int32.ofNat (al_bor ns so h be lo F r ns)) (Int32.ofNat (al_put ns so F r)) (m_al N r0 K).1) : ∀ i, r0 + i ≤ m → (m_al N (r0 + i) K).1 = (m_al N r0 K).1 := by
  intro i
  induction i with
  | zero => intro _; rfl
  | succ i ih =>
    intro hi
    have ih := ih (by omega)
    obtain ⟨s1, s2⟩ := al_st a (r0 + i)
    rw [← Nat.add_assoc]
    by_cases c : al_ok ns h F (r0 + i)
    · rw [(s2 c).1 (by rw [ih]; exact g _ (by omega) (by omega) c), ih]
    · rw [s1 c, ih]
theorem pl_ok {N : Nat → Nat} {ns F : Nat} {so : Nat → Nat} {h : Nat → Bool} {be lo : Nat → Nat} {K : hI} (a : alK N ns F so h be lo K) : ∀ f p c I, p + f = F → (c + 1) * (ns + 1) ^ f ≤ 10000 → alC ns F so h be lo (m_al N (c * (ns + 1) ^ f) K).1 p c I → alC ns F so h be lo (m_al N ((c + 1) * (ns + 1) ^ f) K).1 p c (k_pl (al_cnt h ns) f p I) := by
  obtain ⟨hns, hF, hN, bd1, bd2, bd3⟩ := a.1
  have cut : ∀ f p c I, p + f = F → k_ct I p → alC ns F so h be lo (m_al N (c * (ns + 1) ^ f) K).1 p c I → (m_al N ((c + 1) * (ns + 1) ^ f) K).1 = (m_al N (c * (ns + 1) ^ f) K).1 := by
    intro f p c I hp k q
    have cb := cb_v hF hns (by omega) q
    obtain ⟨_, _, _, _, q6, _, _, ⟨q9, q10⟩, _⟩ := q
    have e : (c + 1) * (ns + 1) ^ f = c * (ns + 1) ^ f + (ns + 1) ^ f := by rw [Nat.add_mul, Nat.one_mul]
    have := al_skip (m := c * (ns + 1) ^ f + (ns + 1) ^ f) a (r0 := c * (ns + 1) ^ f) (fun r g1 g2 g3 => ?_) ((ns + 1) ^ f) (Nat.le_refl _)
    · rw [e]; exact this
    · obtain ⟨u1, u2, _⟩ := al_under (ns := ns) (so := so) (h := h) (be := be) (lo := lo) (p := p) (c := c) (m := ns) f r g1 (by rw [e]; exact g2)
      rw [hp] at u1 u2
      have u3 := al_bor_cnt (ns := ns) (so := so) (h := h) (be := be) (lo := lo) (j := F) (c := r) ns
      have u4 := al_cnt_le (h := h) ns
      have u5 := al_put_le (ns := ns) bd1 F r
      refine al_cutN (x := min (al_bor ns so h be lo p c ns + (F - p)) (al_cnt h ns)) (y := al_put ns so p c) (by omega) u2 (by omega) (by omega) ?_
      have k' : k_cb I p < I 102 10 ∨ (k_cb I p = I 102 10 ∧ ¬ I 102 9 < I 102 11) := k
      rw [cb, q6, q9, q10] at k'
      exact k'
  intro f
  induction f with
  | zero =>
    intro p c I hp hb q
    rw [k_pl_0]
    by_cases k : k_ct I p
    · rw [if_pos k, cut 0 p c I hp k q]; exact q
    · rw [if_neg k]
      have cb := cb_v hF hns (by omega) q
      obtain ⟨⟨a1, a2⟩, a3, a4, a5, a6, a7, a8, ⟨a9, a10⟩, a11⟩ := q
      obtain rfl : p = F := by omega
      have u3 := al_bor_cnt (ns := ns) (so := so) (h := h) (be := be) (lo := lo) (j := p) (c := c) ns
      rw [show min (al_bor ns so h be lo p c ns + (p - p)) (al_cnt h ns) = al_bor ns so h be lo p c ns by omega] at cb
      have e0 : c * (ns + 1) ^ 0 = c := by rw [Nat.pow_zero, Nat.mul_one]
      have e1 : (c + 1) * (ns + 1) ^ 0 = c + 1 := by rw [Nat.pow_zero, Nat.mul_one]
      rw [e0] at a9 a10
      have k2 : ¬ (k_cb I p < I 102 10 ∨ (k_cb I p = I 102 10 ∧ ¬ I 102 9 < I 102 11)) := k
      rw [cb, a6, a9, a10] at k2
      rw [e1, ((al_st a c).2 a8).2 k2]
      have E10 : k_plE I 102 10 = I 102 8 := (congrFun (am_cq_ne (by decide)) _).trans ((am_u_nk (by decide)).trans am_u_at)
      have E11 : k_plE I 102 11 = I 102 9 := (congrFun (am_cq_ne (by decide)) _).trans am_u_at
      have En : ∀ x i, x ≠ 108 → ¬ (x = 102 ∧ (i = 10 ∨ i = 11)) → k_plE I x i = I x i := fun x i g1 g2 => (congrFun (am_cq_ne g1) i).trans (by unfold am_u; rw [if_neg (by omega), if_neg (by omega)])
      have E8 : ∀ k, k < 5 → k_plE I 108 k = I 107 k := fun k hk => by
        unfold k_plE am_cq
        rw [if_pos ⟨rfl, by omega, by omega⟩, show 0 + (k - 0) = k by omega, am_u_na (by decide), am_u_na (by decide)]
      refine ⟨⟨?_, ?_⟩, fun k hk => ?_, fun s hs hs2 => ⟨?_, ?_⟩, ?_, ?_, fun k hk => ?_, a8, ⟨?_, ?_⟩, Or.inr ⟨c, rfl, by omega, a8, fun k hk => ?_⟩⟩
      · rw [En _ _ (by decide) (by decide)]; exact a1
      · rw [En _ _ (by decide) (by decide)]; exact a2
      · rw [En _ _ (by decide) (by omega)]; exact a3 k hk
      · rw [En _ _ (by decide) (by omega)]; exact (a4 s hs hs2).1
      · rw [En _ _ (by decide) (by omega)]; exact (a4 s hs hs2).2
      · rw [En _ _ (by decide) (by decide)]; exact a5
      · rw [En _ _ (by decide) (by decide)]; exact a6
      · rw [En _ _ (by decide) (by omega)]; exact a7 k hk
      · rw [E10, a5]
      · rw [E11, a6]
      · rw [E8 k (by omega)]; exact a7 k hk
  | succ f ih =>
    intro p c I hp hb q
    rw [k_pl_s]
    by_cases k : k_ct I p
    · rw [if_pos k, cut (f + 1) p c I hp k q]; exact q
    · rw [if_neg k]
      have hB : (c + 1) * (ns + 1) ^ (f + 1) = (c * (ns + 1) + ns + 1) * (ns + 1) ^ f := by
        rw [Nat.pow_succ, Nat.mul_comm ((ns + 1) ^ f), ← Nat.mul_assoc, Nat.add_mul c 1, Nat.one_mul]; rfl
      have hb2 : ∀ d, d ≤ ns → (c * (ns + 1) + d + 1) * (ns + 1) ^ f ≤ 10000 := fun d hd => Nat.le_trans (Nat.mul_le_mul_right _ (show c * (ns + 1) + d + 1 ≤ c * (ns + 1) + ns + 1 by omega)) (by rw [← hB]; exact hb)
      have L : ∀ d, d ≤ ns → alC ns F so h be lo (m_al N ((c * (ns + 1) + d) * (ns + 1) ^ f) K).1 p c (k_plL (al_cnt h ns) f p (al_cnt h d) I) := by
        intro d
        induction d with
        | zero =>
          intro _
          rw [Nat.add_zero, Nat.mul_assoc, Nat.mul_comm (ns + 1), ← Nat.pow_succ]
          exact q
        | succ d ihd =>
          intro hd
          have qd := ihd (by omega)
          by_cases g : h d = true
          · rw [al_cnt1 g]
            show alC ns F so h be lo _ p c (k_plS (al_cnt h ns) f p (al_cnt h d) (k_plL (al_cnt h ns) f p (al_cnt h d) I))
            have d1 := alC_dn ⟨hF, bd1, bd2, bd3⟩ (by omega) (by omega) g qd
            have d2 := ih (p + 1) (c * (ns + 1) + d) _ (by omega) (hb2 d (by omega)) d1
            exact alC_up ⟨hF, bd1, bd2, bd3⟩ (by omega) (by omega) g (qd.2.1 p (by omega)) d2
          · rw [al_cnt0 g]
            have e : (c * (ns + 1) + d + 1) * (ns + 1) ^ f = (c * (ns + 1) + d) * (ns + 1) ^ f + (ns + 1) ^ f := by rw [Nat.add_mul, Nat.one_mul]
            have sk := al_skip (m := (c * (ns + 1) + d) * (ns + 1) ^ f + (ns + 1) ^ f) a (r0 := (c * (ns + 1) + d) * (ns + 1) ^ f) (fun r g1 g2 g3 => by
              obtain ⟨_, _, u⟩ := al_under (ns := ns) (so := so) (h := h) (be := be) (lo := lo) (p := p + 1) (c := c * (ns + 1) + d) (m := ns) f r g1 (by rw [e]; exact g2)
              rw [show p + 1 + f = F by omega] at u
              have u := u g3
              rw [al_ok_s, (al_md (ns := ns) (c := c) (d := d) (by omega)).1] at u
              rcases u.1 with z | z
              · exact absurd z (by omega)
              · exact absurd z g) ((ns + 1) ^ f) (Nat.le_refl _)
            rw [← e] at sk
            rw [← Nat.add_assoc, sk]; exact qd
      have q1 := L ns (Nat.le_refl _)
      have q2 := ih (p + 1) (c * (ns + 1) + ns) _ (by omega) (hb2 ns (Nat.le_refl _)) (alC_n q1)
      rw [hB]
      exact alC_nb q2
