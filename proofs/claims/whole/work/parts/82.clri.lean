/-! The class: a law read; what holds while it is. -/
theorem u_sg_le {f : Nat → Int32} {st p : Nat} (h : p < st) : p < (u_sg f st p).1 ∧ (u_sg f st p).1 ≤ st := by
  have k : ∀ n, sgT f st p = Int32.ofNat n → 0 < n → n < 1000 → p + 2 ≤ st := by
    intro n e h0 h1
    unfold sgT at e
    by_cases hc : st ≤ p + 1
    · rw [if_pos hc] at e
      have := (am_eqN (by omega) (by omega)).mp e
      omega
    · omega
  unfold u_sg
  split
  · rename_i e; have := k 61 e.2 (by omega) (by omega); exact ⟨by show p < p + 2; omega, this⟩
  · split
    · rename_i e; have := k 62 e.2 (by omega) (by omega); exact ⟨by show p < p + 2; omega, this⟩
    · split
      · rename_i e; have := k 61 e.2 (by omega) (by omega); exact ⟨by show p < p + 2; omega, this⟩
      · exact ⟨by show p < p + 1; omega, by show p + 1 ≤ st; omega⟩
theorem u_one_le {g f : Nat → Int32} {st a : Nat} (h : a ≤ st) : a ≤ (u_one g f st a).1 ∧ (u_one g f st a).1 ≤ st := by
  unfold u_one
  split
  · exact ⟨Nat.le_refl _, h⟩
  · rename_i hne
    split
    · have := u_w_le f (st - a) a (Int32.ofNat 0) 0
      show a ≤ (u_w f (st - a) a (Int32.ofNat 0) 0).1 ∧ (u_w f (st - a) a (Int32.ofNat 0) 0).1 ≤ st
      omega
    · split
      · have := u_d_le f (st - a) a (Int32.ofNat 0)
        show a ≤ (u_d f (st - a) a (Int32.ofNat 0)).1 ∧ (u_d f (st - a) a (Int32.ofNat 0)).1 ≤ st
        omega
      · have := u_sg_le (f := f) (st := st) (p := a) (by omega)
        show a ≤ (u_sg f st a).1 ∧ (u_sg f st a).1 ≤ st
        omega
theorem t_at_lC {f : Nat → Int32} {st p : Nat} (h : p ≤ st) : p ≤ t_at f st p ∧ t_at f st p ≤ st := by
  have := t_sk_le f (st - p) p
  show p ≤ t_sk f (st - p) p ∧ t_sk f (st - p) p ≤ st
  omega
def cn (g : Nat → Int32) : Nat → Nat
  | 0 => 0
  | h + 1 => cn g h + if g h < Int32.ofNat 1 then 1 else 0
theorem cn_s (g : Nat → Int32) (h : Nat) : cn g (h + 1) = cn g h + if g h < Int32.ofNat 1 then 1 else 0 := rfl
theorem cn_cg {g g' : Nat → Int32} : ∀ {h : Nat}, (∀ i, i < h → g' i = g i) → cn g' h = cn g h := by
  intro h
  induction h with
  | zero => intro _; rfl
  | succ h ih => intro e; rw [cn_s, cn_s, ih (fun i hi => e i (by omega)), e h (by omega)]
theorem i32_lt1 {a w : Int32} (h : ¬ a < w) (g : ¬ w < Int32.ofNat 1) : ¬ a < Int32.ofNat 1 := by
  rw [Int32.lt_iff_toInt_lt] at *
  omega
theorem cn_rh {w : Int32} (hw : ¬ w < Int32.ofNat 1) (g : Nat → Int32) (h : Nat) : cn g (k_rh w g h) = cn g h := by
  induction h with
  | zero => rfl
  | succ h ih =>
    rw [k_rh_s]
    split
    · rfl
    · rename_i e
      rw [ih, cn_s, if_neg (i32_lt1 e hw)]
      rfl
theorem k_rh_pos {g : Nat → Int32} {h : Nat} (p : 0 < cn g h) : 0 < k_rh (Int32.ofNat 1) g h := by
  induction h with
  | zero => exact absurd p (Nat.lt_irrefl 0)
  | succ h ih =>
    rw [k_rh_s]
    split
    · omega
    · rename_i e
      rw [cn_s, if_neg e] at p
      exact ih p
theorem k_rh_top {g : Nat → Int32} {h : Nat} (p : 0 < k_rh (Int32.ofNat 1) g h) : g (k_rh (Int32.ofNat 1) g h - 1) < Int32.ofNat 1 := by
  induction h with
  | zero => exact absurd p (Nat.lt_irrefl 0)
  | succ h ih =>
    rw [k_rh_s] at p ⊢
    by_cases e : g h < Int32.ofNat 1
    · rw [if_pos e]; exact e
    · rw [if_neg e] at p ⊢; exact ih p
/-- what holds while a law is read -/
def lri (I : hI) (A st z : Nat) (q : Nat × Nat × Nat × Nat × Nat) : Prop := (st ≤ 700 ∧ I 3 2 = Int32.ofNat st) ∧ (I 3 3 = Int32.ofNat q.1 ∧ q.1 ≤ st) ∧ (I 6 2 = Int32.ofNat q.2.1 ∧ q.2.1 ≤ 72) ∧ (I 6 3 = Int32.ofNat q.2.2.1 ∧ q.2.2.1 ≤ 8) ∧ (I 6 4 = Int32.ofNat q.2.2.2.1 ∧ q.2.2.2.1 ≤ 64) ∧ (I A 0 = Int32.ofNat q.2.2.2.2 ∧ q.2.2.2.2 ≤ 64) ∧ q.2.2.1 = cn (I 8) q.2.1 ∧ q.2.1 ≤ q.2.2.2.1 + q.2.2.1 ∧ q.2.2.2.2 + q.2.1 + z = q.2.2.2.1 + q.2.2.1
theorem okn_N {x : Int32} {n m : Nat} (e : x = Int32.ofNat n) (h : n < m) (hm : m ≤ 1024) : okn x m := by rw [e]; exact okn_of h hm
theorem okn_E {x : Int32} {m : Nat} (h : okn x (m + 1)) : ∃ n, x = Int32.ofNat n ∧ n ≤ m := ⟨nn x, h.1, by have := h.2; omega⟩
theorem nn_E {x : Int32} {n : Nat} (e : x = Int32.ofNat n) (h : n < 1024) : nn x = n := by rw [e]; exact nn_ofNat (by omega)
theorem k_ho_f {I : hI} {h : Nat} {x : Int32} (hh : h < 72) : k_ho I h x 6 2 = Int32.ofNat (h + 1) ∧ (∀ j, j ≠ 2 → k_ho I h x 6 j = I 6 j) ∧ (∀ b, b ≠ 6 → b ≠ 7 → b ≠ 8 → k_ho I h x b = I b) ∧ cn (k_ho I h x 8) (h + 1) = cn (I 8) h + if k_rk x < Int32.ofNat 1 then 1 else 0 := by
  have e : k_ho I h x = am_u (am_u (am_u I 7 h x) 8 h (k_rk x)) 6 2 (Int32.ofNat (h + 1)) := if_pos hh
  have e8 : am_u (am_u (am_u I 7 h x) 8 h (k_rk x)) 6 2 (Int32.ofNat (h + 1)) 8 = am_u (am_u I 7 h x) 8 h (k_rk x) 8 := am_u_ne (by decide)
  rw [e]
  refine ⟨am_u_at, fun j hj => (am_u_nk hj).trans ((am_u_na (by decide)).trans (am_u_na (by decide))), fun b h6 h7 h8 => (am_u_ne h6).trans ((am_u_ne h8).trans (am_u_ne h7)), ?_⟩
  rw [e8, cn_s, am_u_at]
  congr 1
  exact cn_cg fun i hi => (am_u_nk (by omega)).trans (am_u_na (by decide))
theorem lri_bl {I : hI} {A st z : Nat} {q : Nat × Nat × Nat × Nat × Nat} {x : Int32} (hA : lwA A) (v : lri I A st z q) : lri (u_bl I x) A st z q := by
  have g := lwA_g hA
  have e3 : ∀ j, j < 7 → u_bl I x 3 j = I 3 j := fun j hj => (am_u_nk (by omega)).trans (am_u_nk (by omega))
  have e : ∀ b, b ≠ 3 → u_bl I x b = I b := fun b hb => (am_u_ne hb).trans (am_u_ne hb)
  unfold lri
  rw [e3 2 (by omega), e3 3 (by omega), e 6 (by decide), e A (by omega), e 8 (by decide)]
  exact v
theorem lri_op {I : hI} {A st z p h o c n : Nat} (hA : lwA A) (v : lri I A st z (p, h, o, c, n)) : (k_op I h o).1 = 0 ∨ lri (k_op I h o).2 A st z (p, h + 1, o + 1, c, n) := by
  have g := lwA_g hA
  obtain ⟨⟨hs, a2⟩, ⟨a3, hp⟩, ⟨b2, hh⟩, ⟨b3, ho⟩, ⟨b4, hc⟩, ⟨d, hn⟩, e, f, f'⟩ := v
  dsimp only at *
  by_cases h8 : o < 8
  · right
    rw [k_op1 h8]
    obtain ⟨f1, f2, f3, f4⟩ := k_ho_f (I := am_u I 6 3 (Int32.ofNat (o + 1))) (x := Int32.ofNat 41) (show h < 72 by omega)
    have e3 : am_u (k_ho (am_u I 6 3 (Int32.ofNat (o + 1))) h (Int32.ofNat 41)) 6 6 (Int32.ofNat 1) 3 = I 3 := (am_u_ne (by decide)).trans ((f3 3 (by decide) (by decide) (by decide)).trans (am_u_ne (by decide)))
    have eA : am_u (k_ho (am_u I 6 3 (Int32.ofNat (o + 1))) h (Int32.ofNat 41)) 6 6 (Int32.ofNat 1) A = I A := (am_u_ne (by omega)).trans ((f3 A (by omega) (by omega) (by omega)).trans (am_u_ne (by omega)))
    have e8 : am_u (k_ho (am_u I 6 3 (Int32.ofNat (o + 1))) h (Int32.ofNat 41)) 6 6 (Int32.ofNat 1) 8 = k_ho (am_u I 6 3 (Int32.ofNat (o + 1))) h (Int32.ofNat 41) 8 := am_u_ne (by decide)
    show lri (am_u (k_ho (am_u I 6 3 (Int32.ofNat (o + 1))) h (Int32.ofNat 41)) 6 6 (Int32.ofNat 1)) A st z _
    refine ⟨⟨hs, (congrFun e3 2).trans a2⟩, ⟨(congrFun e3 3).trans a3, hp⟩, ⟨(am_u_nk (by decide)).trans f1, by show h + 1 ≤ 72; omega⟩, ⟨(am_u_nk (by decide)).trans ((f2 3 (by decide)).trans am_u_at), h8⟩, ⟨(am_u_nk (by decide)).trans ((f2 4 (by decide)).trans ((am_u_nk (by decide)).trans b4)), hc⟩, ⟨(congrFun eA 0).trans d, hn⟩, ?_, by show h + 1 ≤ c + (o + 1); omega, by show n + (h + 1) + z = c + (o + 1); omega⟩
    show o + 1 = cn (am_u (k_ho (am_u I 6 3 (Int32.ofNat (o + 1))) h (Int32.ofNat 41)) 6 6 (Int32.ofNat 1) 8) (h + 1)
    rw [e8, f4, am_u_ne (show (8 : Nat) ≠ 6 by decide), ← e]
    rfl
  · left; rw [k_op2 h8]
theorem lri_hk {I : hI} {A st z p h o c n : Nat} (hA : lwA A) (hr : ¬ k_rk (I 3 4) < Int32.ofNat 1) (v : lri I A st z (p, h, o, c, n)) : (k_hk I h c).1 = 0 ∨ lri (k_hk I h c).2 A st z (p, h + 1, o, c + 1, n) := by
  have g := lwA_g hA
  obtain ⟨⟨hs, a2⟩, ⟨a3, hp⟩, ⟨b2, hh⟩, ⟨b3, ho⟩, ⟨b4, hc⟩, ⟨d, hn⟩, e, f, f'⟩ := v
  dsimp only at *
  by_cases h8 : c < 64
  · right
    rw [k_hk1 h8]
    obtain ⟨f1, f2, f3, f4⟩ := k_ho_f (I := am_u I 6 4 (Int32.ofNat (c + 1))) (x := I 3 4) (show h < 72 by omega)
    have e3 : k_ho (am_u I 6 4 (Int32.ofNat (c + 1))) h (I 3 4) 3 = I 3 := (f3 3 (by decide) (by decide) (by decide)).trans (am_u_ne (by decide))
    have eA : k_ho (am_u I 6 4 (Int32.ofNat (c + 1))) h (I 3 4) A = I A := (f3 A (by omega) (by omega) (by omega)).trans (am_u_ne (by omega))
    refine ⟨⟨hs, (congrFun e3 2).trans a2⟩, ⟨(congrFun e3 3).trans a3, hp⟩, ⟨f1, by show h + 1 ≤ 72; omega⟩, ⟨(f2 3 (by decide)).trans ((am_u_nk (by decide)).trans b3), ho⟩, ⟨(f2 4 (by decide)).trans am_u_at, h8⟩, ⟨(congrFun eA 0).trans d, hn⟩, ?_, by show h + 1 ≤ c + 1 + o; omega, by show n + (h + 1) + z = c + 1 + o; omega⟩
    show o = cn (k_ho (am_u I 6 4 (Int32.ofNat (c + 1))) h (I 3 4) 8) (h + 1)
    rw [f4, if_neg hr, am_u_ne (show (8 : Nat) ≠ 6 by decide), ← e]
    rfl
  · left; rw [k_hk2 h8]
theorem k_ad_z {I : hI} {A n : Nat} {x y : Int32} (h : I A 0 = Int32.ofNat n) (hn : n < 64) : k_ad I A x y A 0 = Int32.ofNat (n + 1) := by
  unfold k_ad k_add
  rw [nn_E h (by omega), if_pos hn, am_u_at]
theorem cn_le (g : Nat → Int32) (h : Nat) : cn g h ≤ h := by
  induction h with
  | zero => exact Nat.le_refl _
  | succ h ih => rw [cn_s]; split <;> omega
theorem k_rel_n {A : Nat} (hA : lwA A) (w : Int32) : ∀ (h : Nat) (I : hI) (n : Nat), I A 0 = Int32.ofNat n → n + h ≤ 64 + k_rh w (I 8) h → k_rel A w h I A 0 = Int32.ofNat (n + (h - k_rh w (I 8) h)) := by
  have g := lwA_g hA
  intro h
  induction h with
  | zero => intro I n h0 _; exact h0
  | succ h ih =>
    intro I n h0 hl
    have e8 : k_ad (am_u I 6 2 (Int32.ofNat h)) A (I 7 h) (Int32.ofNat 0) 8 = I 8 := (k_ad_ne (by omega)).trans (am_u_ne (by decide))
    have hr := k_rh_le w (I 8) h
    rw [k_rh_s] at hl ⊢
    rw [k_rel_s]
    split
    · rw [h0]; congr 1; omega
    · rename_i z
      rw [if_neg z] at hl
      have := ih (k_ad (am_u I 6 2 (Int32.ofNat h)) A (I 7 h) (Int32.ofNat 0)) (n + 1) (k_ad_z ((am_u_na (by omega)).trans h0) (by omega)) (by rw [e8]; omega)
      rw [this, e8]
      congr 1
      omega
theorem k_rh_0 {g : Nat → Int32} {h : Nat} (p : cn g h = 0) : k_rh (Int32.ofNat 1) g h = 0 := by
  induction h with
  | zero => rfl
  | succ h ih =>
    rw [k_rh_s]
    by_cases e : g h < Int32.ofNat 1
    · rw [cn_s, if_pos e] at p; omega
    · rw [cn_s, if_neg e] at p; rw [if_neg e]; exact ih p
theorem lri_tv {I : hI} {A st z p h o c n : Nat} (hA : lwA A) (v : lri I A st z (p, h, o, c, n)) : (k_tv I A h o c).1 = 0 ∨ ∃ q, lri (k_tv I A h o c).2 A st z q := by
  have g := lwA_g hA
  have v0 := v
  unfold k_tv
  split
  · exact (lri_op hA v).imp id fun z => ⟨_, z⟩
  · split
    · rename_i e
      exact (lri_hk hA (by rw [e.1]; decide) v).imp id fun z => ⟨_, z⟩
    · unfold k_tv2
      split
      · unfold k_tv3
        split
        · rename_i e1
          right
          obtain ⟨⟨hs, a2⟩, ⟨a3, hp⟩, ⟨b2, hh⟩, ⟨b3, ho⟩, ⟨b4, hc⟩, ⟨d, hn⟩, e, f, f'⟩ := v
          dsimp only at *
          have ol := cn_le (I 8) h
          have d' := k_ad_z (I := am_u I 6 4 (Int32.ofNat (c + 1))) (x := I 3 4) (y := I 3 6) ((am_u_na (by omega)).trans d) (show n < 64 by have := e1.1; omega)
          have e0 : ∀ b, b < 27 → b ≠ 6 → am_u (k_ad (am_u I 6 4 (Int32.ofNat (c + 1))) A (I 3 4) (I 3 6)) 6 5 (Int32.ofNat 0) b = I b := fun b h1 h2 => (am_u_ne h2).trans ((k_ad_ne (by omega)).trans (am_u_ne h2))
          have e6 : ∀ j, j ≠ 5 → j ≠ 4 → am_u (k_ad (am_u I 6 4 (Int32.ofNat (c + 1))) A (I 3 4) (I 3 6)) 6 5 (Int32.ofNat 0) 6 j = I 6 j := fun j h1 h2 => (am_u_nk h1).trans ((congrFun (k_ad_ne (by omega)) j).trans (am_u_nk h2))
          refine ⟨(p, h, o, c + 1, n + 1), ⟨hs, (congrFun (e0 3 (by decide) (by decide)) 2).trans a2⟩, ⟨(congrFun (e0 3 (by decide) (by decide)) 3).trans a3, hp⟩, ⟨(e6 2 (by decide) (by decide)).trans b2, hh⟩, ⟨(e6 3 (by decide) (by decide)).trans b3, ho⟩, ⟨(am_u_nk (by decide)).trans ((congrFun (k_ad_ne (by omega)) 4).trans am_u_at), e1.1⟩, ⟨(am_u_na (by omega)).trans d', by show n + 1 ≤ 64; have := e1.1; omega⟩, ?_, by show h ≤ c + 1 + o; omega, by show n + 1 + h + z = c + 1 + o; omega⟩
          show o = cn (am_u (k_ad (am_u I 6 4 (Int32.ofNat (c + 1))) A (I 3 4) (I 3 6)) 6 5 (Int32.ofNat 0) 8) h
          rw [e0 8 (by decide) (by decide)]; exact e
        · left; rfl
      · left; rfl
theorem lri_rel {I : hI} {A st z p h o c n : Nat} {w : Int32} (hA : lwA A) (hw : ¬ w < Int32.ofNat 1) (v : lri I A st z (p, h, o, c, n)) : ∃ m, lri (k_rel A w h I) A st z (p, k_rh w (I 8) h, o, c, m) := by
  have g := lwA_g hA
  obtain ⟨⟨hs, a2⟩, ⟨a3, hp⟩, ⟨b2, hh⟩, ⟨b3, ho⟩, ⟨b4, hc⟩, ⟨d, hn⟩, e, f, f'⟩ := v
  dsimp only at *
  obtain ⟨r1, r2, r3, r4, r5⟩ := k_rel_h hA w h I (okn_N d (by omega) (by omega)) b2
  have hl := k_rh_le w (I 8) h
  have hl2 := cn_le (I 8) (k_rh w (I 8) h)
  rw [cn_rh hw, ← e] at hl2
  have d' := k_rel_n hA w h I n d (by omega)
  refine ⟨n + (h - k_rh w (I 8) h), ⟨hs, (congrFun (r3 3 (by omega) (by decide)) 2).trans a2⟩, ⟨(congrFun (r3 3 (by omega) (by decide)) 3).trans a3, hp⟩, ⟨r2, by show k_rh w (I 8) h ≤ 72; omega⟩, ⟨(r5 3 (by decide)).trans b3, ho⟩, ⟨(r5 4 (by decide)).trans b4, hc⟩, ⟨d', by show n + (h - k_rh w (I 8) h) ≤ 64; omega⟩, ?_, by show k_rh w (I 8) h ≤ c + o; omega, by show n + (h - k_rh w (I 8) h) + k_rh w (I 8) h + z = c + o; omega⟩
  show o = cn (k_rel A w h I 8) (k_rh w (I 8) h)
  rw [r3 8 (by omega) (by decide), cn_rh hw, ← e]
theorem lri_tc {I : hI} {A st z p h o c n : Nat} (hA : lwA A) (v : lri I A st z (p, h, o, c, n)) : (I 3 4 = Int32.ofNat 42 → ¬ I 6 3 = 0 → 0 < k_rh (Int32.ofNat 1) (I 8) h) ∧ ((k_tc I A h o).1 = 0 ∨ ∃ q, lri (k_tc I A h o).2 A st z q) := by
  have g := lwA_g hA
  obtain ⟨m, v1⟩ := lri_rel (w := Int32.ofNat 1) hA (by decide) v
  have e8 : k_rel A (Int32.ofNat 1) h I 8 = I 8 := by
    obtain ⟨_, _, ⟨b2, _⟩, _, _, ⟨d, hn⟩, _, _, _⟩ := v
    dsimp only at *
    exact (k_rel_h hA _ h I (okn_N d (by omega) (by omega)) b2).2.2.1 8 (by omega) (by decide)
  have ho : I 6 3 = Int32.ofNat o := v.2.2.2.1.1
  have e1 : ¬ I 6 3 = 0 → 0 < o := fun z => Nat.pos_of_ne_zero fun y => z (by rw [ho, y]; rfl)
  have e2 : 0 < o → 0 < k_rh (Int32.ofNat 1) (I 8) h := fun z => k_rh_pos (by have := v.2.2.2.2.2.2.1; dsimp only at this; omega)
  refine ⟨fun _ z => e2 (e1 z), ?_⟩
  unfold k_tc
  split
  · split
    · left; rfl
    · rename_i z'
      right
      have p0 := e1 z'
      have p1 := e2 p0
      obtain ⟨⟨hs, a2⟩, ⟨a3, hp⟩, ⟨b2, hh⟩, ⟨b3, ho⟩, ⟨b4, hc⟩, ⟨d, hn⟩, e, f, f'⟩ := v1
      dsimp only at *
      have e3 : am_u (am_u (k_rel A (Int32.ofNat 1) h I) 6 2 (Int32.ofNat (k_rh (Int32.ofNat 1) (I 8) h - 1))) 6 3 (Int32.ofNat (o - 1)) 3 = k_rel A (Int32.ofNat 1) h I 3 := (am_u_ne (by decide)).trans (am_u_ne (by decide))
      refine ⟨(p, k_rh (Int32.ofNat 1) (I 8) h - 1, o - 1, c, m), ⟨hs, (congrFun e3 2).trans a2⟩, ⟨(congrFun e3 3).trans a3, hp⟩, ⟨(am_u_nk (by decide)).trans am_u_at, by dsimp only; omega⟩, ⟨am_u_at, by dsimp only; omega⟩, ⟨(am_u_nk (by decide)).trans ((am_u_nk (by decide)).trans b4), hc⟩, ⟨(am_u_na (by omega)).trans ((am_u_na (by omega)).trans d), hn⟩, ?_, by dsimp only; omega, by dsimp only; omega⟩
      show o - 1 = cn (am_u (am_u (k_rel A (Int32.ofNat 1) h I) 6 2 (Int32.ofNat (k_rh (Int32.ofNat 1) (I 8) h - 1))) 6 3 (Int32.ofNat (o - 1)) 8) (k_rh (Int32.ofNat 1) (I 8) h - 1)
      have e4 : am_u (am_u (k_rel A (Int32.ofNat 1) h I) 6 2 (Int32.ofNat (k_rh (Int32.ofNat 1) (I 8) h - 1))) 6 3 (Int32.ofNat (o - 1)) 8 = I 8 := (am_u_ne (by decide)).trans ((am_u_ne (by decide)).trans e8)
      rw [e4]
      rw [e8] at e
      have e5 := cn_s (I 8) (k_rh (Int32.ofNat 1) (I 8) h - 1)
      rw [if_pos (k_rh_top p1), show k_rh (Int32.ofNat 1) (I 8) h - 1 + 1 = k_rh (Int32.ofNat 1) (I 8) h by omega] at e5
      omega
  · split
    · right; exact ⟨_, v1⟩
    · left; rfl
theorem k_rk_ge {x : Int32} (h : ¬ k_rk x = 0) : ¬ k_rk x < Int32.ofNat 1 := by
  unfold k_rk at h ⊢
  repeat' split
  all_goals first | decide | (exfalso; simp +decide only [*, ite_true, ite_false] at h; done) | skip
theorem k_tsW_ge {x : Int32} (h : ¬ k_rk x = 0) : ¬ k_tsW x < Int32.ofNat 1 := by
  unfold k_tsW; split; decide; exact k_rk_ge h
theorem lri_ts {I : hI} {A st z p h o c n : Nat} (hA : lwA A) (v : lri I A st z (p, h, o, c, n)) : (k_ts I A h c).1 = 0 ∨ ∃ q, lri (k_ts I A h c).2 A st z q := by
  have g := lwA_g hA
  unfold k_ts
  split
  · left; rfl
  · rename_i z'
    have z1 : ¬ k_rk (I 3 4) = 0 := fun y => z' (Or.inl y)
    have e34 : k_rel A (k_tsW (I 3 4)) h I 3 4 = I 3 4 := by
      obtain ⟨_, _, ⟨b2, _⟩, _, _, ⟨d, hn⟩, _, _, _⟩ := v
      dsimp only at *
      exact congrFun ((k_rel_h hA _ h I (okn_N d (by omega) (by omega)) b2).2.2.1 3 (by omega) (by decide)) 4
    obtain ⟨m, v1⟩ := lri_rel (w := k_tsW (I 3 4)) hA (k_tsW_ge z1) v
    unfold k_ts1
    split
    · left; rfl
    · unfold k_ts2
      refine (lri_hk hA ?_ (p := p) (o := o) (n := m) ?_).imp id fun z => ⟨_, z⟩
      · rw [am_u_na (by decide), am_u_na (by decide), e34]; exact k_rk_ge z1
      · obtain ⟨⟨hs, a2⟩, ⟨a3, hp⟩, ⟨b2, hh⟩, ⟨b3, ho⟩, ⟨b4, hc⟩, ⟨d, hn⟩, e, f, f'⟩ := v1
        refine ⟨⟨hs, (am_u_na (by decide)).trans ((am_u_na (by decide)).trans a2)⟩, ⟨(am_u_na (by decide)).trans ((am_u_na (by decide)).trans a3), hp⟩, ⟨(am_u_nk (by decide)).trans ((am_u_nk (by decide)).trans b2), hh⟩, ⟨(am_u_nk (by decide)).trans ((am_u_nk (by decide)).trans b3), ho⟩, ⟨(am_u_nk (by decide)).trans ((am_u_nk (by decide)).trans b4), hc⟩, ⟨(am_u_na (by omega)).trans ((am_u_na (by omega)).trans d), hn⟩, ?_, f, f'⟩
        rw [am_u_ne (show (8 : Nat) ≠ 6 by decide), am_u_ne (show (8 : Nat) ≠ 6 by decide)]; exact e
/-- at the end of a law nothing is held -/
theorem lri_end {I : hI} {A st z p h o c n : Nat} (hA : lwA A) (v : lri I A st z (p, h, o, c, n)) (hk : I 3 4 = Int32.ofNat 40) (h1 : ¬ (k_tc I A h o).1 = 0) : ∃ m, (k_tc I A h o).2 A 0 = Int32.ofNat m ∧ m + z ≤ 64 := by
  obtain ⟨m, v1⟩ := lri_rel (w := Int32.ofNat 1) hA (by decide) v
  have e0 : ¬ I 3 4 = Int32.ofNat 42 := by rw [hk]; decide
  unfold k_tc at h1 ⊢
  rw [if_neg e0] at h1 ⊢
  by_cases e1 : I 6 3 = 0
  · rw [if_pos e1]
    have ho : o = 0 := (am_eqN (y := 0) (by have := v.2.2.2.1.2; dsimp only at this; omega) (by omega)).mp (v.2.2.2.1.1.symm.trans e1)
    have e2 : k_rh (Int32.ofNat 1) (I 8) h = 0 := k_rh_0 (by have := v.2.2.2.2.2.2.1; dsimp only at this; omega)
    refine ⟨m, v1.2.2.2.2.2.1.1, ?_⟩
    have f := v1.2.2.2.2.2.2.2.2
    have hc := v.2.2.2.2.1.2
    dsimp only at f hc
    omega
  · rw [if_neg e1] at h1; exact absurd rfl h1
theorem k_tvk {I : hI} {A h o c : Nat} (hk : I 3 4 = Int32.ofNat 40) : (k_tv I A h o c).1 = 0 := by
  unfold k_tv
  rw [if_neg (by rw [hk]; decide), if_neg (fun y => absurd (hk.symm.trans y.1) (by decide))]
  unfold k_tv2
  rw [if_neg (by unfold k_tvP; rw [hk]; decide)]
def k_take (I : hI) (A : Nat) : Int32 × hI := if I 6 5 = 0 then (if I 3 4 = Int32.ofNat 42 ∨ I 3 4 = Int32.ofNat 40 then k_tc I A (nn (I 6 2)) (nn (I 6 3)) else k_ts I A (nn (I 6 2)) (nn (I 6 4))) else k_tv I A (nn (I 6 2)) (nn (I 6 3)) (nn (I 6 4))
theorem lri_take {I : hI} {A st z : Nat} {q : Nat × Nat × Nat × Nat × Nat} (hA : lwA A) (v : lri I A st z q) : (k_take I A).1 = 0 ∨ ∃ q, lri (k_take I A).2 A st z q := by
  obtain ⟨p, h, o, c, n⟩ := q
  have e2 := nn_E v.2.2.1.1 (by have := v.2.2.1.2; omega)
  have e3 := nn_E v.2.2.2.1.1 (by have := v.2.2.2.1.2; omega)
  have e4 := nn_E v.2.2.2.2.1.1 (by have := v.2.2.2.2.1.2; omega)
  unfold k_take
  rw [e2, e3, e4]
  split
  · split
    · exact (lri_tc hA v).2
    · exact lri_ts hA v
  · exact lri_tv hA v
def u_tok (I : hI) : hI := u_tk I (I 1) (nn (I 3 2)) (nn (I 3 3))
theorem u_tk_f {I : hI} {f : Nat → Int32} {st p : Nat} : u_tk I f st p 3 2 = I 3 2 ∧ u_tk I f st p 3 3 = Int32.ofNat (u_one (I 4) f st (t_at f st p)).1 ∧ u_tk I f st p 3 4 = (u_one (I 4) f st (t_at f st p)).2.1 ∧ u_tk I f st p 3 6 = (u_one (I 4) f st (t_at f st p)).2.2 ∧ u_tk I f st p 3 5 = Int32.ofNat (t_at f st p) ∧ (∀ b, b ≠ 3 → u_tk I f st p b = I b) ∧ (∀ j, j ≠ 3 → j ≠ 4 → j ≠ 5 → j ≠ 6 → u_tk I f st p 3 j = I 3 j) := by
  unfold u_tk u_3
  refine ⟨by simp +decide [am_u], by simp +decide, by simp +decide, by simp +decide, by simp +decide [am_u], fun b hb => ?_, fun j h1 h2 h3 h4 => ?_⟩
  · funext j; simp [hb, am_u]
  · simp [h1, h2, h3, h4, am_u]
theorem lri_tok {I : hI} {A st z p h o c n : Nat} (hA : lwA A) (v : lri I A st z (p, h, o, c, n)) : ∃ p', lri (u_tok I) A st z (p', h, o, c, n) := by
  have g := lwA_g hA
  obtain ⟨⟨hs, a2⟩, ⟨a3, hp⟩, b2, b3, b4, d, e, f, f'⟩ := v
  dsimp only at hp
  have e2 := nn_E a2 (by omega)
  have e3 := nn_E a3 (by dsimp only; omega)
  dsimp only at e3
  obtain ⟨f1, f2, f3, f4, f5, f6, f7⟩ := u_tk_f (I := I) (f := I 1) (st := st) (p := p)
  unfold u_tok
  rw [e2, e3]
  refine ⟨_, ⟨hs, f1.trans a2⟩, ⟨f2, (u_one_le (t_at_lC hp).2).2⟩, ?_, ?_, ?_, ?_, ?_, f, f'⟩
  · rw [f6 6 (by decide)]; exact b2
  · rw [f6 6 (by decide)]; exact b3
  · rw [f6 6 (by decide)]; exact b4
  · rw [f6 A (by omega)]; exact d
  · rw [f6 8 (by decide)]; exact e
theorem d_tok {k : Nat} {I : hI} {J : hJ} {R : hR} {A st z : Nat} {q : Nat × Nat × Nat × Nat × Nat} (v : lri I A st z q) (hB : R 3 1 = 1) (hk : 3 ≤ k) : ct k 93 [.ref 3] I J R none (u_tok I) J R := by
  have e2 := nn_E v.1.2 (by have := v.1.1; omega)
  have e3 := nn_E v.2.1.1 (by have := v.2.1.2; have := v.1.1; omega)
  unfold u_tok
  rw [e2, e3]
  exact d_step rfl v.1.2 v.2.1.1 v.2.1.2 v.1.1 hB hk
def k_ri (A : Nat) : Nat → hI → Int32 × hI
  | 0, I => (0, u_bl I (Int32.ofNat 1))
  | j + 1, I => if (k_take (u_tok I) A).1 = 0 ∨ (k_take (u_tok I) A).2 3 4 = Int32.ofNat 40 then k_take (u_tok I) A else k_ri A j (k_take (u_tok I) A).2
theorem k_ri_s (A j : Nat) (I : hI) : k_ri A (j + 1) I = if (k_take (u_tok I) A).1 = 0 ∨ (k_take (u_tok I) A).2 3 4 = Int32.ofNat 40 then k_take (u_tok I) A else k_ri A j (k_take (u_tok I) A).2 := rfl
theorem k_ri1 {A j : Nat} {I : hI} (a : (k_take (u_tok I) A).1 = 0) : k_ri A (j + 1) I = k_take (u_tok I) A := if_pos (Or.inl a)
theorem k_ri2 {A j : Nat} {I : hI} (a : (k_take (u_tok I) A).2 3 4 = Int32.ofNat 40) : k_ri A (j + 1) I = k_take (u_tok I) A := if_pos (Or.inr a)
theorem k_ri3 {A j : Nat} {I : hI} (a : ¬ (k_take (u_tok I) A).1 = 0) (b : ¬ (k_take (u_tok I) A).2 3 4 = Int32.ofNat 40) : k_ri A (j + 1) I = k_ri A j (k_take (u_tok I) A).2 := if_neg fun z => z.elim a b
