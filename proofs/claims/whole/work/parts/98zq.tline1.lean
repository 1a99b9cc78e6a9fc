/-! Texts alike: lines. -/
/-- what reading a text leaves as it is, in the reference -/
def kept (a i : Nat) : Prop := (a ≠ 114 ∨ i < 2) ∧ (a < 115 ∨ 117 < a ∨ i < 6) ∧ (a < 118 ∨ 122 < a ∨ i < 8) ∧ (a < 123 ∨ 124 < a ∨ i < 5) ∧ (a < 125 ∨ 127 < a ∨ i < 10) ∧ (a < 128 ∨ 130 < a ∨ i < 3) ∧ (a < 131 ∨ 133 < a ∨ i < 64) ∧ a ≠ 113 ∧ a ≠ 134 ∧ a ≠ 135 ∧ ¬ (a = 110 ∧ ((4 ≤ i ∧ i ≤ 11) ∨ (17 ≤ i ∧ i ≤ 21) ∨ (45 ≤ i ∧ i ≤ 50)))
def mF (K K1 : hI) : Prop := ∀ a i, kept a i → K1 a i = K a i
theorem mF_rf {K : hI} : mF K K := fun _ _ _ => rfl
theorem mF_tr {K K1 K2 : hI} (h : mF K K1) (g : mF K1 K2) : mF K K2 := fun a i k => (g a i k).trans (h a i k)
theorem mF_u {K : hI} {a k : Nat} {x : Int32} (h : ¬ kept a k) : mF K (am_u K a k x) := fun b i g => by
  unfold am_u
  rw [if_neg (fun z => h (by rw [← z.1, ← z.2]; exact g))]
theorem mF_e {K K1 : hI} (h : eT K1 K) : mF K K1 := fun a i g => h a i (by unfold kept at g; omega)
/-- class and reference at one point of a line; I0 and K0 are told so far -/
def PR (st : Nat) (I0 K0 X Y : hI) : Prop := nx st X Y ∧ e3 X I0 ∧ eT Y K0
/-- a fault on both sides -/
def Fvl (K0 : hI) (p r : Int32 × hI) : Prop := p.1 = 0 ∧ r.1 = 0 ∧ FL p.2 r.2 ∧ eT r.2 K0
theorem eT_wr {X : hI} {x : Int32} : eT (m_wr X x) X := fun a i h => by unfold m_wr am_u; rw [if_neg (by omega), if_neg (by omega)]
theorem nx_kw {st : Nat} {I K : hI} (b : bse st I K) (c : cur I K) : nx st I (m_tok K) := by
  obtain ⟨t1, t2⟩ := tok_al b c.1
  exact ⟨bse_c (fun _ _ _ => rfl) (fun a i u => m_tok_n (by omega)) b, t2, t1⟩
theorem PR_kw {st : Nat} {I K : hI} (b : bse st I K) (c : cur I K) : PR st I K I (m_tok K) := ⟨nx_kw b c, e3_rf, eT_tok⟩
theorem PR_w {st : Nat} {I0 K0 X Y : hI} {a k b j : Nat} {x y : Int32} (h : PR st I0 K0 X Y) (ha : a ≠ 1 ∧ a ≠ 3 ∧ a ≠ 4) (hb : b ≠ 111 ∧ (b ≠ 110 ∨ 11 < j)) : PR st (am_u I0 a k x) (am_u K0 b j y) (am_u X a k x) (am_u Y b j y) := ⟨nx_c h.1 (fun c i u => am_u_na (by omega)) (fun c i u => by unfold am_u; rw [if_neg (by omega)]), e3_u h.2.1, eT_u h.2.2⟩
theorem PR_w1 {st : Nat} {I0 K0 X Y : hI} {a k : Nat} {x : Int32} (h : PR st I0 K0 X Y) (ha : a ≠ 1 ∧ a ≠ 3 ∧ a ≠ 4) : PR st (am_u I0 a k x) K0 (am_u X a k x) Y := ⟨nx_c h.1 (fun c i u => am_u_na (by omega)) (fun c i u => rfl), e3_u h.2.1, h.2.2⟩
theorem PR_w2 {st : Nat} {I0 K0 X Y : hI} {b j : Nat} {y : Int32} (h : PR st I0 K0 X Y) (hb : b ≠ 111 ∧ (b ≠ 110 ∨ 11 < j)) : PR st I0 (am_u K0 b j y) X (am_u Y b j y) := ⟨nx_c h.1 (fun c i u => rfl) (fun c i u => by unfold am_u; rw [if_neg (by omega)]), h.2.1, eT_u h.2.2⟩
theorem num_st {st : Nat} {I0 K0 X Y : hI} {lo hi : Nat} (hl : lo ≤ 99999) (hh : hi ≤ 99999) (h : PR st I0 K0 X Y) : (Fvl K0 (k_num X (Int32.ofNat lo) (Int32.ofNat hi)) (m_num Y (Int32.ofNat lo) (Int32.ofNat hi))) ∨ (∃ X' Y' v, k_num X (Int32.ofNat lo) (Int32.ofNat hi) = (1, X') ∧ m_num Y (Int32.ofNat lo) (Int32.ofNat hi) = (1, Y') ∧ X' 3 6 = v ∧ Y' 110 11 = v ∧ PR st I0 K0 X' Y') := by
  rcases num_eq hl hh h.1 with ⟨x, e1, e2⟩ | ⟨e1, e2, e3'⟩
  · rw [e1, e2]
    exact Or.inl ⟨rfl, rfl, FL_nx h.1, eT_tr eT_wr h.2.2⟩
  · refine Or.inr ⟨_, _, Y 110 9, e1, e2, e3', ?_, ?_, e3_tr e3_tok h.2.1, eT_tr eT_tok (eT_tr eT_11 h.2.2)⟩
    · rw [m_tok_n (by omega)]; exact am_u_at
    · exact nx_go h.1 (fun b i u => u_tok_n (by omega)) (fun i => rfl) (fun a i u => by unfold am_u; rw [if_neg (by omega)])
theorem new_st {st : Nat} {I0 K0 X Y : hI} {A m n A' a : Nat} (hn : n < m) (hm : m ≤ 8) (hA : 4 < A) (hA' : A' ≠ 110 ∧ A' ≠ 111) (h : PR st I0 K0 X Y) (hr : ∀ i, i < n → I0 (A + 1) i = K0 A' (a + i)) : (Fvl K0 (k_new X A m n) (m_new Y A' a n)) ∨ (∃ X' Y' x, k_new X A m n = (1, X') ∧ m_new Y A' a n = (1, Y') ∧ PR st (am_u (am_u I0 (A + 1) n x) A 1 (Int32.ofNat (n + 1))) (am_u K0 A' (a + n) x) X' Y') := by
  rcases new_eq (A := A) (A' := A') (a := a) hn hm (by omega) h.1 (fun i hi => by rw [h.2.1 _ _ (by omega), h.2.2 _ _ (by omega)]; exact hr i hi) with ⟨x, e1, e2⟩ | ⟨e1, e2⟩
  · rw [e1, e2]
    exact Or.inl ⟨rfl, rfl, FL_nx h.1, eT_tr eT_wr h.2.2⟩
  · refine Or.inr ⟨_, _, Y 110 9, e1, e2, ?_, e3_u (e3_u (e3_tr e3_tok h.2.1)), eT_tr eT_tok (eT_u h.2.2)⟩
    refine nx_go h.1 (fun b i u => ?_) (fun i => ?_) (fun b i u => ?_)
    · unfold k_na; rw [am_u_na (by omega), am_u_na (by omega)]; exact u_tok_n (by omega)
    · unfold k_na; rw [am_u_na (by omega), am_u_na (by omega)]
    · unfold am_u; rw [if_neg (by omega)]
theorem the_st {st : Nat} {I0 K0 X Y : hI} {A n A' a : Nat} (hn : n ≤ 8) (hA : 4 < A) (hA' : A' ≠ 110 ∧ A' ≠ 111) (h : PR st I0 K0 X Y) (hr : ∀ i, i < n → I0 (A + 1) i = K0 A' (a + i)) : (Fvl K0 (k_told X A n) (m_the Y A' a n)) ∨ (∃ X' Y' j, j < n ∧ k_told X A n = (1, X') ∧ m_the Y A' a n = (1, Y') ∧ k_fn X' A n = Int32.ofNat j ∧ Y' 110 11 = Int32.ofNat j ∧ X' 3 5 = Y 110 10 ∧ PR st I0 K0 X' Y') := by
  rcases the_eq (A := A) (A' := A') (a := a) hn (by omega) h.1 (fun i hi => by rw [h.2.1 _ _ (by omega), h.2.2 _ _ (by omega)]; exact hr i hi) with ⟨x, e1, e2⟩ | ⟨j, hj, e1, e2, e3'⟩
  · rw [e1, e2]
    exact Or.inl ⟨rfl, rfl, FL_nx h.1, eT_tr eT_wr h.2.2⟩
  · refine Or.inr ⟨_, _, j, hj, e1, e3', e2, am_u_at, h.1.2.2.2.1, ?_, e3_tr e3_tok h.2.1, eT_tr eT_11 (eT_tr eT_tok h.2.2)⟩
    refine nx_c (nx_go h.1 (X := u_tok X) (Y := Y) (fun b i u => u_tok_n (by omega)) (fun i => rfl) (fun _ _ _ => rfl)) (fun _ _ _ => rfl) (fun a i u => ?_)
    unfold am_u; rw [if_neg (by omega)]
/-- what a line comes to -/
def LNR (T st : Nat) (K : hI) (p r : Int32 × hI) : Prop := (p.1 = 0 ∧ r.1 = 0 ∧ FL p.2 r.2 ∧ mF K r.2) ∨ (¬ p.1 = 0 ∧ ¬ r.1 = 0 ∧ nx st p.2 r.2 ∧ mF K r.2 ∧ ∃ e, DT T e p.2 r.2)
theorem LNR_f {T st : Nat} {K K0 : hI} {p r : Int32 × hI} (m : mF K K0) (f : Fvl K0 p r) : LNR T st K p (0, r.2) := Or.inl ⟨f.1, rfl, f.2.2.1, mF_tr m (mF_e f.2.2.2)⟩
theorem LNR_g {T st : Nat} {K K0 I0 X Y : hI} (h9 : 9 ≤ T) (m : mF K K0) (h : PR st I0 K0 X Y) {e : Nat → Nat} (d : DT T e I0 K0) : LNR T st K (1, X) (1, Y) := Or.inr ⟨fun z => absurd (show (1 : Int32) = 0 from z) (by decide), fun z => absurd (show (1 : Int32) = 0 from z) (by decide), h.1, mF_tr m (mF_e h.2.2), e, DT_e h9 h.2.1 h.2.2 d⟩
theorem i01 : ¬ (1 : Int32) = 0 := by decide
def mbd (p : Int32 × hI) (f : hI → Int32 × hI) : Int32 × hI := if p.1 = 0 then (0, p.2) else f p.2
theorem mbd0 {p : Int32 × hI} {f : hI → Int32 × hI} (h : p.1 = 0) : mbd p f = (0, p.2) := if_pos h
theorem mbd1 {X : hI} {f : hI → Int32 × hI} : mbd (1, X) f = f X := if_neg i01
theorem kbd1 {X : hI} {f : hI → Int32 × hI} : k_bd (1, X) f = f X := if_neg i01
/-- one more of a kind -/
def up (e : Nat → Nat) (j n : Nat) : Nat → Nat := fun i => if i = j then n else e i
theorem up_at (e : Nat → Nat) (j n : Nat) : up e j n j = n := if_pos rfl
theorem up_ne {e : Nat → Nat} {j n i : Nat} (h : i ≠ j) : up e j n i = e i := if_neg h
theorem m_mkL_b (K : hI) (a : Nat) : m_mkL K a = if a = 6 then (0, m_wr K (Int32.ofNat 2)) else mbd (ml1 K a) fun _ => mbd (ml2 K a) fun _ => mbd (ml4 K a) fun _ => (1, ml5 K a) := rfl
theorem mk_eq {T st : Nat} {e : Nat → Nat} {I K : hI} (h9 : T = 9 ∨ T = 36) (b : bse st I K) (c : cur I K) (d : DT T e I K) : LNR T st K (k_mkr I T (e 0)) (m_mkL K (e 0)) := by
  obtain ⟨d1, d2, d3, d4, d5, d6⟩ := d
  obtain ⟨a1, a2, a3, a4⟩ := d1
  have h0 := PR_kw b c
  rw [m_mkL_b]
  unfold k_mkr
  by_cases g : e 0 = 6
  · rw [if_pos g, k_new4 (by omega), k_bd0 rfl]
    exact Or.inl ⟨rfl, rfl, FL_bl c.2.1, mF_e eT_wr⟩
  · rw [if_neg g]
    rcases new_st (A := T + 1) (m := 6) (n := e 0) (A' := 115) (a := 6) (by omega) (by omega) (by omega) (by omega) h0 (fun i hi => (a4 i hi).1) with f | ⟨X1, Y1, x, e1, e2, h1⟩
    · rw [k_bd0 f.1, show ml1 K (e 0) = m_new (m_tok K) 115 6 (e 0) from rfl, mbd0 f.2.1]; exact LNR_f mF_rf f
    · have q1 : ml1 K (e 0) = (1, Y1) := e2
      rw [e1, q1, kbd1, mbd1]
      have q2 : ml2 K (e 0) = m_num Y1 (Int32.ofNat 0) (Int32.ofNat 9) := by unfold ml2; rw [q1]
      rw [q2]
      rcases num_st (lo := 0) (hi := 9) (by omega) (by omega) h1 with f | ⟨X2, Y2, v, e3, e4, v1, v2, h2⟩
      · rw [k_bd0 f.1, mbd0 f.2.1]; exact LNR_f (mF_u (by unfold kept; omega)) f
      · rw [e3, e4, kbd1, mbd1, v1]
        have h3 := PR_w (a := T + 3) (k := e 0) (b := 116) (j := 6 + e 0) (x := v) (y := v) h2 (by omega) (by omega)
        have q3 : ml4 K (e 0) = m_num (am_u Y2 116 (6 + e 0) v) (Int32.ofNat 0) (Int32.ofNat 9) := by unfold ml4 ml3; rw [q2, e4]; dsimp only; rw [v2]
        rw [q3]
        rcases num_st (lo := 0) (hi := 9) (by omega) (by omega) h3 with f | ⟨X4, Y4, w, e5, e6, w1, w2, h4⟩
        · rw [k_bd0 f.1, mbd0 f.2.1]; exact LNR_f (mF_tr (mF_u (by unfold kept; omega)) (mF_u (by unfold kept; omega))) f
        · have q4 : ml5 K (e 0) = am_u (am_u Y4 117 (6 + e 0) w) 110 17 (Int32.ofNat (e 0 + 1)) := by unfold ml5; rw [q3, e6]; dsimp only; rw [w2]
          rw [e5, e6, kbd1, mbd1, w1, q4]
          have h5 := PR_w2 (b := 110) (j := 17) (y := Int32.ofNat (e 0 + 1)) (PR_w (a := T + 4) (k := e 0) (b := 117) (j := 6 + e 0) (x := w) (y := w) h4 (by omega) (by omega)) (by omega)
          refine LNR_g (e := up e 0 (e 0 + 1)) (by omega) (mF_tr (mF_tr (mF_tr (mF_u (by unfold kept; omega)) (mF_u (by unfold kept; omega))) (mF_u (by unfold kept; omega))) (mF_u (by unfold kept; omega))) h5 ⟨?_, ?_, ?_, ?_, ?_, ?_⟩
          · rw [up_at]
            refine ⟨by omega, ?_, am_u_at, fun m hm => ?_⟩
            · rw [am_u_na (by omega), am_u_na (by omega), am_u_at]
            · by_cases z : m = e 0
              · subst z
                refine ⟨?_, ?_, ?_⟩
                · rw [am_u_na (by omega), am_u_na (by omega), am_u_na (by omega), am_u_at, am_u_na (by omega), am_u_na (by omega), am_u_na (by omega), am_u_at]
                · rw [am_u_na (by omega), am_u_at, am_u_na (by omega), am_u_na (by omega), am_u_at]
                · rw [am_u_at, am_u_na (by omega), am_u_at]
              · obtain ⟨q1, q2, q3⟩ := a4 m (by omega)
                refine ⟨?_, ?_, ?_⟩
                · rw [am_u_na (by omega), am_u_na (by omega), am_u_na (by omega), am_u_nk z, am_u_na (by omega), am_u_na (by omega), am_u_na (by omega), am_u_nk (by omega)]; exact q1
                · rw [am_u_na (by omega), am_u_nk z, am_u_na (by omega), am_u_na (by omega), am_u_na (by omega), am_u_na (by omega), am_u_nk (by omega), am_u_na (by omega)]; exact q2
                · rw [am_u_nk z, am_u_na (by omega), am_u_na (by omega), am_u_na (by omega), am_u_na (by omega), am_u_nk (by omega), am_u_na (by omega), am_u_na (by omega)]; exact q3
          · rw [up_ne (by decide)]; exact D2_c (fun b i u v => by rw [am_u_na (by omega), am_u_na (by omega), am_u_na (by omega), am_u_na (by omega)]) (fun b i u => by unfold am_u; rw [if_neg (by omega), if_neg (by omega), if_neg (by omega), if_neg (by omega)]) d2
          · rw [up_ne (by decide)]; exact D3_c (fun b i u v => by rw [am_u_na (by omega), am_u_na (by omega), am_u_na (by omega), am_u_na (by omega)]) (fun b i u => by unfold am_u; rw [if_neg (by omega), if_neg (by omega), if_neg (by omega), if_neg (by omega)]) d3
          · rw [up_ne (by decide)]; exact D4_c (fun b i u => by unfold am_u; rw [if_neg (by omega), if_neg (by omega), if_neg (by omega), if_neg (by omega)]) (fun b i u => by unfold am_u; rw [if_neg (by omega), if_neg (by omega), if_neg (by omega), if_neg (by omega)]) d4
          · exact D5_c (fun b i u => by unfold am_u; rw [if_neg (by omega), if_neg (by omega), if_neg (by omega), if_neg (by omega)]) (fun b i u => by unfold am_u; rw [if_neg (by omega), if_neg (by omega), if_neg (by omega), if_neg (by omega)]) d5
          · exact D6_e (up_ne (by decide)) (up_ne (by decide)) (up_ne (by decide)) (D6_c (fun b i u v => by rw [am_u_na (by omega), am_u_na (by omega), am_u_na (by omega), am_u_na (by omega)]) (fun b i u => by unfold am_u; rw [if_neg (by omega), if_neg (by omega), if_neg (by omega), if_neg (by omega)]) d6)
theorem m_shL_b (K : hI) (c : Nat) : m_shL K c = if c = 5 then (0, m_wr K (Int32.ofNat 2)) else mbd (sl1 K c) fun _ => mbd (sl2 K c) fun _ => (1, sl3 K c) := rfl
theorem sp_eq {T st : Nat} {e : Nat → Nat} {I K : hI} (h9 : T = 9 ∨ T = 36) (b : bse st I K) (c : cur I K) (d : DT T e I K) : LNR T st K (k_sp I T (e 2)) (m_shL K (e 2)) := by
  obtain ⟨d1, d2, d3, d4, d5, d6⟩ := d
  obtain ⟨a1, a2, a3, a4⟩ := d3
  have h0 := PR_kw b c
  rw [m_shL_b]
  unfold k_sp
  by_cases g : e 2 = 5
  · rw [if_pos g, k_new4 (by omega), k_bd0 rfl]
    exact Or.inl ⟨rfl, rfl, FL_bl c.2.1, mF_e eT_wr⟩
  · rw [if_neg g]
    rcases new_st (A := T + 11) (m := 5) (n := e 2) (A' := 123) (a := 5) (by omega) (by omega) (by omega) (by omega) h0 (fun i hi => (a4 i hi).1) with f | ⟨X1, Y1, x, e1, e2, h1⟩
    · rw [k_bd0 f.1, show sl1 K (e 2) = m_new (m_tok K) 123 5 (e 2) from rfl, mbd0 f.2.1]; exact LNR_f mF_rf f
    · have q1 : sl1 K (e 2) = (1, Y1) := e2
      rw [e1, q1, kbd1, mbd1]
      have q2 : sl2 K (e 2) = m_num Y1 (Int32.ofNat 0) (Int32.ofNat 999) := by unfold sl2; rw [q1]
      rw [q2]
      rcases num_st (lo := 0) (hi := 999) (by omega) (by omega) h1 with f | ⟨X2, Y2, v, e3, e4, v1, v2, h2⟩
      · rw [k_bd0 f.1, mbd0 f.2.1]; exact LNR_f (mF_u (by unfold kept; omega)) f
      · have q4 : sl3 K (e 2) = am_u (am_u Y2 124 (5 + e 2) v) 110 19 (Int32.ofNat (e 2 + 1)) := by unfold sl3; rw [q2, e4]; dsimp only; rw [v2]
        rw [e3, e4, kbd1, mbd1, v1, q4]
        have h5 := PR_w2 (b := 110) (j := 19) (y := Int32.ofNat (e 2 + 1)) (PR_w (a := T + 13) (k := e 2) (b := 124) (j := 5 + e 2) (x := v) (y := v) h2 (by omega) (by omega)) (by omega)
        refine LNR_g (e := up e 2 (e 2 + 1)) (by omega) (mF_tr (mF_tr (mF_u (by unfold kept; omega)) (mF_u (by unfold kept; omega))) (mF_u (by unfold kept; omega))) h5 ⟨?_, ?_, ?_, ?_, ?_, ?_⟩
        · rw [up_ne (by decide)]; exact D1_c (fun b i u v => by rw [am_u_na (by omega), am_u_na (by omega), am_u_na (by omega)]) (fun b i u => by unfold am_u; rw [if_neg (by omega), if_neg (by omega), if_neg (by omega)]) d1
        · rw [up_ne (by decide)]; exact D2_c (fun b i u v => by rw [am_u_na (by omega), am_u_na (by omega), am_u_na (by omega)]) (fun b i u => by unfold am_u; rw [if_neg (by omega), if_neg (by omega), if_neg (by omega)]) d2
        · rw [up_at]
          refine ⟨by omega, ?_, am_u_at, fun m hm => ?_⟩
          · rw [am_u_na (by omega), am_u_at]
          · by_cases z : m = e 2
            · subst z
              refine ⟨?_, ?_⟩
              · rw [am_u_na (by omega), am_u_na (by omega), am_u_at, am_u_na (by omega), am_u_na (by omega), am_u_at]
              · rw [am_u_at, am_u_na (by omega), am_u_at]
            · obtain ⟨q1, q2⟩ := a4 m (by omega)
              refine ⟨?_, ?_⟩
              · rw [am_u_na (by omega), am_u_na (by omega), am_u_nk z, am_u_na (by omega), am_u_na (by omega), am_u_nk (by omega)]; exact q1
              · rw [am_u_nk z, am_u_na (by omega), am_u_na (by omega), am_u_na (by omega), am_u_nk (by omega), am_u_na (by omega)]; exact q2
        · rw [up_ne (by decide)]; exact D4_c (fun b i u => by unfold am_u; rw [if_neg (by omega), if_neg (by omega), if_neg (by omega)]) (fun b i u => by unfold am_u; rw [if_neg (by omega), if_neg (by omega), if_neg (by omega)]) d4
        · exact D5_c (fun b i u => by unfold am_u; rw [if_neg (by omega), if_neg (by omega), if_neg (by omega)]) (fun b i u => by unfold am_u; rw [if_neg (by omega), if_neg (by omega), if_neg (by omega)]) d5
        · exact D6_e (up_ne (by decide)) (up_ne (by decide)) (up_ne (by decide)) (D6_c (fun b i u v => by rw [am_u_na (by omega), am_u_na (by omega), am_u_na (by omega)]) (fun b i u => by unfold am_u; rw [if_neg (by omega), if_neg (by omega), if_neg (by omega)]) d6)
