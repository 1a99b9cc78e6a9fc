/-! Put off (two): trials of one ship with other voyages put off. -/
theorem p1_n {T S m a i : Nat} {p : hI × hJ} (h1 : a ≠ S + 1) (h2 : a ≠ S + 2) : ∀ n, (k_p1 T S m n p).1 a i = p.1 a i := by
  intro n
  induction n with
  | zero => rfl
  | succ n ih =>
    refine Eq.trans ?_ ih
    show (k_p1S T S m n (k_p1 T S m n p)).1 a i = _
    unfold k_p1S
    split
    · exact (am_u_na h1).trans (am_u_na h2)
    · rfl
theorem p2_84 {T n i : Nat} {N : Nat → Nat} {z : Int32} {p : hI × hJ} : (k_p2 T 77 N z n p).1 84 i = p.1 84 i := by
  have ePu : ∀ (I : hI) (x n : Nat), k_puI I T 77 x n 84 i = I 84 i := fun I x n => by
    unfold k_puI
    split
    · exact congrFun (k_mI_ne (by decide)) i
    · rfl
  have eWr : ∀ (I : hI) (J : hJ) (x n n1 : Nat), (k_wr I J T 77 x n n1 z).1 84 i = I 84 i := fun I J x n n1 => by
    unfold k_wr
    split
    · rfl
    · exact congrFun (k_wrL_ne (p := (I, J)) (by omega)) i
  have eSp : ∀ (I : hI) (x : Nat), k_spend I 77 x 84 i = I 84 i := fun I x => by
    unfold k_spend
    split
    · exact (am_u_na (by decide)).trans ((am_u_na (by decide)).trans (am_u_na (by decide)))
    · exact am_u_na (by decide)
  have eLo : ∀ (I : hI) (x n : Nat), k_lose I 77 x n 84 i = I 84 i := fun I x n => (congrFun (k_loL_ne (by decide)) i).trans ((am_u_na (by decide)).trans (am_u_na (by decide)))
  induction n with
  | zero => rfl
  | succ n ih =>
    refine Eq.trans ?_ ih
    show (k_p2S T 77 N z n (k_p2 T 77 N z n p)).1 84 i = _
    unfold k_p2S
    (repeat' split) <;> try dsimp only
    · exact (eLo _ _ _).trans (ePu _ _ _)
    · exact (eSp _ _).trans ((eWr _ _ _ _ _).trans (ePu _ _ _))
theorem p2_81 {T s : Nat} {N : Nat → Nat} {z : Int32} {p : hI × hJ} (h : ¬ p.1 81 s = Int32.ofNat 1) : ∀ n, (k_p2 T 77 N z n p).1 81 s = p.1 81 s := by
  have ePu : ∀ (I : hI) (x n : Nat), k_puI I T 77 x n 81 s = I 81 s := fun I x n => by
    unfold k_puI
    split
    · exact congrFun (k_mI_ne (by decide)) s
    · rfl
  have eWr : ∀ (I : hI) (J : hJ) (x n n1 : Nat), (k_wr I J T 77 x n n1 z).1 81 s = I 81 s := fun I J x n n1 => by
    unfold k_wr
    split
    · rfl
    · exact congrFun (k_wrL_ne (p := (I, J)) (by omega)) s
  have eSp : ∀ (I : hI) (x : Nat), s ≠ x → k_spend I 77 x 81 s = I 81 s := fun I x e => by
    unfold k_spend
    split
    · exact (am_u_na (by decide)).trans ((am_u_nk e).trans (am_u_na (by decide)))
    · exact am_u_na (by decide)
  have eLo : ∀ (I : hI) (x n : Nat), s ≠ x → k_lose I 77 x n 81 s = I 81 s := fun I x n e => (congrFun (k_loL_ne (by decide)) s).trans ((am_u_na (by decide)).trans (am_u_nk e))
  intro n
  induction n with
  | zero => rfl
  | succ n ih =>
    refine Eq.trans ?_ ih
    show (k_p2S T 77 N z n (k_p2 T 77 N z n p)).1 81 s = _
    generalize k_p2 T 77 N z n p = q at ih
    by_cases e : s = n
    · subst e
      unfold k_p2S
      rw [if_neg (show ¬ q.1 (77 + 4) s = Int32.ofNat 1 from fun z => h (ih.symm.trans z))]
    · unfold k_p2S
      (repeat' split) <;> try dsimp only
      · exact (eLo _ _ _ e).trans (ePu _ _ _)
      · exact (eSp _ _ e).trans ((eWr _ _ _ _ _).trans (ePu _ _ _))
theorem k_svS_0 {T S v : Nat} {I : hI} (h : ¬ k_svP I T S v) : k_svS T S v I = I := if_neg h
theorem k_svS_w {T S v : Nat} {I : hI} (h : ¬ (I 84 8 = Int32.ofInt (-1) ∨ I 84 8 = Int32.ofNat (nn (I (T + 14) v)))) : k_svS T S v I = I := by
  by_cases c : k_svP I T S v
  · exact (if_pos c).trans (if_neg h)
  · exact if_neg c
theorem k_svS_s {T S v : Nat} {I : hI} (c : k_svP I T S v) (h : I 84 8 = Int32.ofInt (-1) ∨ I 84 8 = Int32.ofNat (nn (I (T + 14) v))) (g : I (S + 4) (nn (I (T + 14) v)) = 0) : k_svS T S v I = am_u (am_u (am_u I (S + 4) (nn (I (T + 14) v)) (Int32.ofNat 1)) (S + 5) (nn (I (T + 14) v)) (I (T + 16) v)) 84 7 (I 84 7 ||| Int32.ofNat (2 ^ v)) := (if_pos c).trans ((if_pos h).trans (if_pos g))
theorem k_svS_r {T S v : Nat} {I : hI} (c : k_svP I T S v) (h : I 84 8 = Int32.ofInt (-1) ∨ I 84 8 = Int32.ofNat (nn (I (T + 14) v))) (g : ¬ I (S + 4) (nn (I (T + 14) v)) = 0) : k_svS T S v I = am_u I S 2 (I S 2 + Int32.ofNat 1) := (if_pos c).trans ((if_pos h).trans (if_neg g))
theorem pU_77 {y w v : Int32} {I : hI} : am_u (pU y w I) 77 2 v = pU y v I := am_u_uu _ _ _ _ _
theorem pU_77b {y w v : Int32} {I : hI} : pU y w (am_u I 77 2 v) = pU y w I := by
  funext b j
  unfold pU am_u
  by_cases e : b = 77 ∧ j = 2
  · rw [if_pos e, if_pos e]
  · rw [if_neg e, if_neg e, if_neg e]
/-- a trial of one ship -/
def tS (T : Nat) (N : Nat → Nat) (s dd : Nat) (sh dy : Nat → Nat) (I : hI) : Prop := (I 84 8 = Int32.ofNat s ∧ I 77 0 = Int32.ofNat dd) ∧ (s < 5 ∧ dd < 100000 ∧ N 3 ≤ 10) ∧ ∀ v, v < N 3 → I (T + 14) v = Int32.ofNat (sh v) ∧ I (T + 15) v = Int32.ofNat (dy v) ∧ sh v < 5 ∧ dy v < 100
theorem tS_c {T : Nat} {N : Nat → Nat} {s dd : Nat} {sh dy : Nat → Nat} {I I1 : hI} (h : I1 84 8 = I 84 8 ∧ I1 77 0 = I 77 0 ∧ ∀ v, I1 (T + 14) v = I (T + 14) v ∧ I1 (T + 15) v = I (T + 15) v) (t : tS T N s dd sh dy I) : tS T N s dd sh dy I1 := by
  obtain ⟨⟨a, b⟩, c, d⟩ := t
  refine ⟨⟨h.1.trans a, h.2.1.trans b⟩, c, fun v hv => ?_⟩
  rw [(h.2.2 v).1, (h.2.2 v).2]; exact d v hv
theorem tS_p1 {T m n : Nat} {N : Nat → Nat} {s dd : Nat} {sh dy : Nat → Nat} {p : hI × hJ} (hT : T = 9 ∨ T = 36) (t : tS T N s dd sh dy p.1) : tS T N s dd sh dy (k_p1 T 77 m n p).1 := tS_c ⟨p1_n (by decide) (by decide) n, p1_n (by decide) (by decide) n, fun v => ⟨p1_n (by omega) (by omega) n, p1_n (by omega) (by omega) n⟩⟩ t
theorem tS_sv {T n : Nat} {N : Nat → Nat} {s dd : Nat} {sh dy : Nat → Nat} {I : hI} (hT : T = 9 ∨ T = 36) (t : tS T N s dd sh dy I) : tS T N s dd sh dy (k_svL T 77 n I) := tS_c ⟨k_svL_ne (by omega) (by omega) (by omega), k_svL_ne (by omega) (by omega) (by omega), fun v => ⟨k_svL_ne (by omega) (by omega) (by omega), k_svL_ne (by omega) (by omega) (by omega)⟩⟩ t
theorem tS_day {T : Nat} {N : Nat → Nat} {s dd : Nat} {sh dy : Nat → Nat} {p : hI × hJ} (hT : T = 9 ∨ T = 36) (hd : dd + 1 < 100000) (t : tS T N s dd sh dy p.1) : tS T N s (dd + 1) sh dy (k_day T 77 N p).1 := by
  obtain ⟨⟨a, b⟩, ⟨c1, c2, c3⟩, d⟩ := t
  refine ⟨⟨(sF_day 84 8 (by omega) (by omega) (by omega)).trans a, ?_⟩, ⟨c1, hd, c3⟩, fun v hv => ?_⟩
  · rw [k_day_0 (Or.inr (Or.inr rfl)), b, ← Int32.ofNat_add]
  · rw [sF_day (T + 14) v (by omega) (by omega) (by omega), sF_day (T + 15) v (by omega) (by omega) (by omega)]; exact d v hv
/-- what a voyage's turn comes to -/
theorem tS_svS {T t : Nat} {N : Nat → Nat} {s dd v : Nat} {sh dy : Nat → Nat} {I : hI} (e : tS T N s dd sh dy I) (h6 : I 84 6 = Int32.ofNat t) (ht : t < 1024) (hv : v < N 3) : (¬ (sh v = s ∧ dy v = dd ∧ t.testBit v = false) → k_svS T 77 v I = I) ∧ (sh v = s → dy v = dd → t.testBit v = false → (I 81 s = 0 → k_svS T 77 v I = am_u (am_u (am_u I 81 s (Int32.ofNat 1)) 82 s (I (T + 16) v)) 84 7 (I 84 7 ||| Int32.ofNat (2 ^ v))) ∧ (¬ I 81 s = 0 → k_svS T 77 v I = am_u I 77 2 (I 77 2 + Int32.ofNat 1))) := by
  obtain ⟨⟨a, b⟩, ⟨c1, c2, c3⟩, d⟩ := e
  obtain ⟨d1, d2, d3, d4⟩ := d v hv
  have en : nn (I (T + 14) v) = sh v := by rw [d1, nn_ofNat (by omega)]
  have bt := am_bit v (by omega) t (by omega)
  have P : k_svP I T 77 v ↔ (dy v = dd ∧ t.testBit v = false) := by
    unfold k_svP
    rw [d2, b, h6, bt, am_eqN (by omega) (by omega)]
  have W : (I 84 8 = Int32.ofInt (-1) ∨ I 84 8 = Int32.ofNat (nn (I (T + 14) v))) ↔ sh v = s := by
    rw [en, a, am_eqN (by omega) (by omega)]
    exact ⟨fun z => z.elim (fun z => absurd z (okn_n1 (okn_of (r := s) (m := 5) (by omega) (by omega)) (by omega))) (fun z => z.symm), fun z => Or.inr z.symm⟩
  refine ⟨fun h => ?_, fun h1 h2 h3 => ⟨fun g => ?_, fun g => ?_⟩⟩
  · by_cases w : sh v = s
    · exact k_svS_0 (fun z => h ⟨w, P.mp z⟩)
    · exact k_svS_w (fun z => w (W.mp z))
  · have e := k_svS_s (P.mpr ⟨h2, h3⟩) (W.mpr h1) (by rw [en, h1]; exact g)
    rw [en, h1] at e; exact e
  · have e := k_svS_r (P.mpr ⟨h2, h3⟩) (W.mpr h1) (by rw [en, h1]; exact g)
    exact e
theorem svU {T t b : Nat} {N : Nat → Nat} {s dd : Nat} {sh dy : Nat → Nat} {w : Int32} {X : hI} (hT : T = 9 ∨ T = 36) (e : tS T N s dd sh dy X) (h6 : X 84 6 = Int32.ofNat t) (ht : t < 1024) (hb : b < 1024) (cd : ∀ v, v < N 3 → sh v = s → dy v = dd → t.testBit v = b.testBit v ∨ ¬ k_svL T 77 v X 81 s = 0) : ∀ n, n ≤ N 3 → ∃ w', k_svL T 77 n (pU (Int32.ofNat b) w X) = pU (Int32.ofNat b) w' (k_svL T 77 n X) := by
  intro n
  induction n with
  | zero => intro _; exact ⟨w, rfl⟩
  | succ n ih =>
    intro hn
    obtain ⟨w1, e1⟩ := ih (by omega)
    show ∃ w', k_svS T 77 n (k_svL T 77 n (pU (Int32.ofNat b) w X)) = pU (Int32.ofNat b) w' (k_svS T 77 n (k_svL T 77 n X))
    rw [e1]
    have eY := tS_sv (n := n) hT e
    have y6 : k_svL T 77 n X 84 6 = Int32.ofNat t := (k_svL_ne (by omega) (by omega) (by omega)).trans h6
    have cn := cd n (by omega)
    generalize k_svL T 77 n X = Y at eY y6 cn
    have eU : tS T N s dd sh dy (pU (Int32.ofNat b) w1 Y) := tS_c ⟨pU_84 (by decide), pU_r (by decide) (by decide), fun v => ⟨pU_n (by omega) (by omega), pU_n (by omega) (by omega)⟩⟩ eY
    have u6 : pU (Int32.ofNat b) w1 Y 84 6 = Int32.ofNat b := by unfold pU; rw [am_u_na (by decide), am_u_at]
    obtain ⟨a1, a2⟩ := tS_svS eY y6 ht (v := n) (by omega)
    obtain ⟨b1, b2⟩ := tS_svS eU u6 hb (v := n) (by omega)
    have u81 : pU (Int32.ofNat b) w1 Y 81 s = Y 81 s := pU_n (by decide) (by decide)
    by_cases c1 : sh n = s ∧ dy n = dd
    · obtain ⟨c1, c2⟩ := c1
      by_cases c3 : t.testBit n = false
      · by_cases c4 : b.testBit n = false
        · by_cases g : Y 81 s = 0
          · rw [(a2 c1 c2 c3).1 g, (b2 c1 c2 c4).1 (u81.trans g)]
            refine ⟨w1, ?_⟩
            rw [pU_n (a := T + 16) (by omega) (by omega), pU_84 (by decide), pU_u (by omega) (by omega), pU_u (by omega) (by omega), pU_u (by omega) (by omega)]
          · rw [(a2 c1 c2 c3).2 g, (b2 c1 c2 c4).2 (fun z => g (u81.symm.trans z)), pU_77]
            exact ⟨_, by rw [pU_77b]⟩
        · have g : ¬ Y 81 s = 0 := (cn c1 c2).elim (fun z => absurd (z.symm.trans c3) c4) (fun z => z)
          rw [(a2 c1 c2 c3).2 g, b1 (fun z => c4 z.2.2)]
          exact ⟨w1, by rw [pU_77b]⟩
      · rw [a1 (fun z => c3 z.2.2)]
        by_cases c4 : b.testBit n = false
        · have g : ¬ Y 81 s = 0 := (cn c1 c2).elim (fun z => absurd (z.trans c4) c3) (fun z => z)
          rw [(b2 c1 c2 c4).2 (fun z => g (u81.symm.trans z)), pU_77]
          exact ⟨_, rfl⟩
        · rw [b1 (fun z => c4 z.2.2)]; exact ⟨w1, rfl⟩
    · rw [a1 (fun z => c1 ⟨z.1, z.2.1⟩), b1 (fun z => c1 ⟨z.1, z.2.1⟩)]; exact ⟨w1, rfl⟩
theorem dayU {T t b : Nat} {N : Nat → Nat} {s dd : Nat} {sh dy : Nat → Nat} {w : Int32} {p : hI × hJ} (hT : T = 9 ∨ T = 36) (e : tS T N s dd sh dy p.1) (h6 : p.1 84 6 = Int32.ofNat t) (ht : t < 1024) (hb : b < 1024) (cd : ∀ v, v < N 3 → sh v = s → dy v = dd → t.testBit v = b.testBit v ∨ ¬ k_svL T 77 v (k_p1 T 77 (N 4) (N 1) p).1 81 s = 0) : ∃ w', k_day T 77 N (pU (Int32.ofNat b) w p.1, p.2) = (pU (Int32.ofNat b) w' (k_day T 77 N p).1, (k_day T 77 N p).2) := by
  obtain ⟨w', sv⟩ := svU (w := w) hT (tS_p1 (m := N 4) (n := N 1) hT e) ((p1_n (by decide) (by decide) _).trans h6) ht hb cd (N 3) (Nat.le_refl _)
  exact ⟨w', pU_day hT sv⟩
theorem pU_cs {y w : Int32} {I : hI} {T : Nat} (hT : T = 9 ∨ T = 36) : ∀ j x, k_cs (pU y w I) T 77 j x = k_cs I T 77 j x := by
  have P : ∀ x, k_csP (pU y w I) T 77 x ↔ k_csP I T 77 x := fun x => by
    unfold k_csP
    rw [pU_f (a := 77 + 4) (by omega) (by omega), pU_f (a := T) (by omega) (by omega), pU_r (a := 77) (i := 0) (by decide) (by decide), pU_84 (by decide)]
  intro j
  induction j with
  | zero => intro x; rfl
  | succ j ih =>
    intro x
    rw [k_cs_s, k_cs_s]
    by_cases c : k_csP I T 77 x
    · exact (if_pos ((P x).mpr c)).trans (if_pos c).symm
    · exact ((if_neg (fun z => c ((P x).mp z))).trans (ih (x + 1))).trans (if_neg c).symm
theorem day_81 {T s : Nat} {N : Nat → Nat} {p : hI × hJ} (h : ¬ k_svL T 77 (N 3) (k_p1 T 77 (N 4) (N 1) p).1 81 s = Int32.ofNat 1) : (k_day T 77 N p).1 81 s = k_svL T 77 (N 3) (k_p1 T 77 (N 4) (N 1) p).1 81 s := by
  show am_u (k_d4 T 77 N p).1 77 0 ((k_d4 T 77 N p).1 77 0 + Int32.ofNat 1) 81 s = _
  rw [am_u_na (by decide)]
  exact p2_81 (p := k_d3 T 77 N p) h (N 2)
theorem day_84 {T i : Nat} {N : Nat → Nat} {p : hI × hJ} : (k_day T 77 N p).1 84 i = k_svL T 77 (N 3) (k_p1 T 77 (N 4) (N 1) p).1 84 i := by
  show am_u (k_d4 T 77 N p).1 77 0 ((k_d4 T 77 N p).1 77 0 + Int32.ofNat 1) 84 i = _
  rw [am_u_na (by decide)]
  exact p2_84 (p := k_d3 T 77 N p)
theorem day_846 {T : Nat} {N : Nat → Nat} {p : hI × hJ} : (k_day T 77 N p).1 84 6 = p.1 84 6 := sF_day 84 6 (by omega) (by omega) (by omega)
/-- alike as far as the days go -/
theorem su_W {T t b : Nat} {N : Nat → Nat} {s : Nat} {sh dy : Nat → Nat} (hT : T = 9 ∨ T = 36) (ht : t < 1024) (hb : b < 1024) : ∀ j dd (p : hI × hJ) w, dd + j < 90000 → tS T N s dd sh dy p.1 → p.1 84 6 = Int32.ofNat t → (∀ v, v < N 3 → sh v = s → dd ≤ dy v → dy v < dd + j → t.testBit v = b.testBit v) → ∃ w', k_suL T N j (pU (Int32.ofNat b) w p.1, p.2) = (pU (Int32.ofNat b) w' (k_suL T N j p).1, (k_suL T N j p).2) := by
  intro j
  induction j with
  | zero => intro dd p w _ _ _ _; exact ⟨w, rfl⟩
  | succ j ih =>
    intro dd p w hd e h6 hc
    rw [k_suL_s, k_suL_s]
    have ec : k_cs (pU (Int32.ofNat b) w p.1, p.2).1 T 77 (N 2) 0 = k_cs p.1 T 77 (N 2) 0 := pU_cs hT _ _
    rw [ec]
    by_cases c : k_cs p.1 T 77 (N 2) 0 = 0
    · rw [if_pos c, if_pos c]; exact ⟨w, rfl⟩
    · rw [if_neg c, if_neg c]
      obtain ⟨w1, e1⟩ := dayU (w := w) hT e h6 ht hb (fun v hv h1 h2 => Or.inl (hc v hv h1 (by omega) (by omega)))
      rw [e1]
      exact ih (dd + 1) (k_day T 77 N p) w1 (by omega) (tS_day hT (by omega) e) (day_846.trans h6) (fun v hv h1 h2 h3 => hc v hv h1 (by omega) (by omega))
theorem sv_no {T t : Nat} {N : Nat → Nat} {s dd : Nat} {sh dy : Nat → Nat} {X : hI} (hT : T = 9 ∨ T = 36) (e : tS T N s dd sh dy X) (h6 : X 84 6 = Int32.ofNat t) (ht : t < 1024) (h : ∀ v, v < N 3 → sh v = s → dy v = dd → t.testBit v = true) : ∀ n, n ≤ N 3 → k_svL T 77 n X = X := by
  intro n
  induction n with
  | zero => intro _; rfl
  | succ n ih =>
    intro hn
    show k_svS T 77 n (k_svL T 77 n X) = X
    rw [ih (by omega)]
    exact (tS_svS e h6 ht (by omega)).1 (fun z => by rw [h n (by omega) z.1 z.2.1] at z; exact absurd z.2.2 (by decide))
/-- all put off: one that's in harbour stays there -/
theorem su_H {T t : Nat} {N : Nat → Nat} {s : Nat} {sh dy : Nat → Nat} (hT : T = 9 ∨ T = 36) (ht : t < 1024) : ∀ j dd (p : hI × hJ), dd + j < 90000 → tS T N s dd sh dy p.1 → p.1 84 6 = Int32.ofNat t → (∀ v, v < N 3 → sh v = s → dd ≤ dy v → dy v < dd + j → t.testBit v = true) → p.1 81 s = 0 → (k_suL T N j p).1 81 s = 0 := by
  intro j
  induction j with
  | zero => intro dd p _ _ _ _ h; exact h
  | succ j ih =>
    intro dd p hd e h6 hc h
    rw [k_suL_s]
    split
    · exact h
    · have en := sv_no hT (tS_p1 (m := N 4) (n := N 1) hT e) ((p1_n (by decide) (by decide) _).trans h6) ht (fun v hv h1 h2 => hc v hv h1 (by omega) (by omega)) (N 3) (Nat.le_refl _)
      have e0 : k_svL T 77 (N 3) (k_p1 T 77 (N 4) (N 1) p).1 81 s = 0 := by rw [en, p1_n (by decide) (by decide)]; exact h
      refine ih (dd + 1) (k_day T 77 N p) (by omega) (tS_day hT (by omega) e) (day_846.trans h6) (fun v hv h1 h2 h3 => hc v hv h1 (by omega) (by omega)) ?_
      rw [day_81 (by rw [e0]; decide), e0]
/-- all put off and lost: lost whatever is put off -/
theorem su_R {T t b : Nat} {N : Nat → Nat} {s : Nat} {sh dy : Nat → Nat} (hT : T = 9 ∨ T = 36) (ht : t < 1024) (hb : b < 1024) : ∀ j dd (p : hI × hJ) w, dd + j < 90000 → tS T N s dd sh dy p.1 → p.1 84 6 = Int32.ofNat t → (∀ v, v < N 3 → sh v = s → dd ≤ dy v → dy v < dd + j → t.testBit v = true) → (k_suL T N j p).1 81 s = Int32.ofNat 2 → ∃ w', k_suL T N j (pU (Int32.ofNat b) w p.1, p.2) = (pU (Int32.ofNat b) w' (k_suL T N j p).1, (k_suL T N j p).2) := by
  intro j
  induction j with
  | zero => intro dd p w _ _ _ _ _; exact ⟨w, rfl⟩
  | succ j ih =>
    intro dd p w hd e h6 hc hl
    have nz : ¬ p.1 81 s = 0 := fun z => by
      rw [su_H hT ht (j + 1) dd p hd e h6 hc z] at hl; exact absurd hl (by decide)
    rw [k_suL_s] at hl
    rw [k_suL_s, k_suL_s]
    have ec : k_cs (pU (Int32.ofNat b) w p.1, p.2).1 T 77 (N 2) 0 = k_cs p.1 T 77 (N 2) 0 := pU_cs hT _ _
    rw [ec]
    by_cases c : k_cs p.1 T 77 (N 2) 0 = 0
    · rw [if_pos c, if_pos c]; exact ⟨w, rfl⟩
    · rw [if_neg c] at hl
      rw [if_neg c, if_neg c]
      have en := sv_no hT (tS_p1 (m := N 4) (n := N 1) hT e) ((p1_n (by decide) (by decide) _).trans h6) ht (fun v hv h1 h2 => hc v hv h1 (by omega) (by omega))
      obtain ⟨w1, e1⟩ := dayU (w := w) hT e h6 ht hb (fun v hv h1 h2 => Or.inr (by rw [en v (by omega), p1_n (by decide) (by decide)]; exact nz))
      rw [e1]
      exact ih (dd + 1) (k_day T 77 N p) w1 (by omega) (tS_day hT (by omega) e) (day_846.trans h6) (fun v hv h1 h2 h3 => hc v hv h1 (by omega) (by omega)) hl
/-- what has sailed -/
theorem sv_7 {T t m : Nat} {N : Nat → Nat} {s dd : Nat} {sh dy : Nat → Nat} {X : hI} (hT : T = 9 ∨ T = 36) (e : tS T N s dd sh dy X) (h6 : X 84 6 = Int32.ofNat t) (ht : t < 1024) (h7 : X 84 7 = Int32.ofNat m) (hm : m < 1024) : ∀ n, n ≤ N 3 → ∃ m', m' < 1024 ∧ k_svL T 77 n X 84 7 = Int32.ofNat m' ∧ (∀ v, m.testBit v = true → m'.testBit v = true) ∧ (∀ v, m'.testBit v = true → m.testBit v = true ∨ (v < N 3 ∧ sh v = s ∧ t.testBit v = false)) ∧ (∀ v, v < n → sh v = s → dy v = dd → t.testBit v = false → k_svL T 77 v X 81 s = 0 → m'.testBit v = true) := by
  intro n
  induction n with
  | zero => intro _; exact ⟨m, hm, h7, fun _ h => h, fun _ h => Or.inl h, fun v h => absurd h (Nat.not_lt_zero _)⟩
  | succ n ih =>
    intro hn
    obtain ⟨m', m1, m2, m3, m4, m5⟩ := ih (by omega)
    have eY := tS_sv (n := n) hT e
    have y6 : k_svL T 77 n X 84 6 = Int32.ofNat t := (k_svL_ne (by omega) (by omega) (by omega)).trans h6
    obtain ⟨a1, a2⟩ := tS_svS eY y6 ht (v := n) (by omega)
    have es : k_svL T 77 (n + 1) X = k_svS T 77 n (k_svL T 77 n X) := rfl
    have h10 := e.2.1.2.2
    by_cases c : sh n = s ∧ dy n = dd ∧ t.testBit n = false
    · by_cases g : k_svL T 77 n X 81 s = 0
      · refine ⟨m' ||| 2 ^ n, ?_, ?_, fun v h => ?_, fun v h => ?_, fun v hv h1 h2 h3 h4 => ?_⟩
        · exact Nat.or_lt_two_pow (n := 10) m1 (Nat.pow_lt_pow_right (by decide) (by omega))
        · rw [es, (a2 c.1 c.2.1 c.2.2).1 g, am_u_at, m2, am_orN]
        · rw [Nat.testBit_or, m3 v h]; rfl
        · rw [Nat.testBit_or, Bool.or_eq_true, Nat.testBit_two_pow, decide_eq_true_iff] at h
          rcases h with h | h
          · exact m4 v h
          · subst h; exact Or.inr ⟨by omega, c.1, c.2.2⟩
        · rw [Nat.testBit_or, Bool.or_eq_true, Nat.testBit_two_pow, decide_eq_true_iff]
          by_cases ev : v = n
          · exact Or.inr ev.symm
          · exact Or.inl (m5 v (by omega) h1 h2 h3 h4)
      · refine ⟨m', m1, ?_, m3, m4, fun v hv h1 h2 h3 h4 => ?_⟩
        · rw [es, (a2 c.1 c.2.1 c.2.2).2 g, am_u_na (by decide), m2]
        · by_cases ev : v = n
          · subst ev; exact absurd h4 g
          · exact m5 v (by omega) h1 h2 h3 h4
    · refine ⟨m', m1, ?_, m3, m4, fun v hv h1 h2 h3 h4 => ?_⟩
      · rw [es, a1 c, m2]
      · by_cases ev : v = n
        · subst ev; exact absurd ⟨h1, h2, h3⟩ c
        · exact m5 v (by omega) h1 h2 h3 h4
/-- none of those that sailed put off besides: as it was -/
theorem su_F {T t b : Nat} {N : Nat → Nat} {s : Nat} {sh dy : Nat → Nat} (hT : T = 9 ∨ T = 36) (ht : t < 1024) (hb : b < 1024) : ∀ j dd (p : hI × hJ) w m, dd + j < 90000 → tS T N s dd sh dy p.1 → p.1 84 6 = Int32.ofNat t → p.1 84 7 = Int32.ofNat m → m < 1024 → ∃ m', m' < 1024 ∧ (k_suL T N j p).1 84 7 = Int32.ofNat m' ∧ (∀ v, m.testBit v = true → m'.testBit v = true) ∧ (∀ v, m'.testBit v = true → m.testBit v = true ∨ (v < N 3 ∧ sh v = s ∧ t.testBit v = false)) ∧ ((∀ v, t.testBit v = true → b.testBit v = true) → (∀ v, m'.testBit v = true → b.testBit v = false) → ∃ w', k_suL T N j (pU (Int32.ofNat b) w p.1, p.2) = (pU (Int32.ofNat b) w' (k_suL T N j p).1, (k_suL T N j p).2)) := by
  intro j
  induction j with
  | zero => intro dd p w m _ _ _ h7 hm; exact ⟨m, hm, h7, fun _ h => h, fun _ h => Or.inl h, fun _ _ => ⟨w, rfl⟩⟩
  | succ j ih =>
    intro dd p w m hd e h6 h7 hm
    rw [k_suL_s, k_suL_s]
    have ec : k_cs (pU (Int32.ofNat b) w p.1, p.2).1 T 77 (N 2) 0 = k_cs p.1 T 77 (N 2) 0 := pU_cs hT _ _
    rw [ec]
    by_cases c : k_cs p.1 T 77 (N 2) 0 = 0
    · rw [if_pos c, if_pos c]; exact ⟨m, hm, h7, fun _ h => h, fun _ h => Or.inl h, fun _ _ => ⟨w, rfl⟩⟩
    · rw [if_neg c, if_neg c]
      obtain ⟨m1, a1, a2, a3, a4, a5⟩ := sv_7 hT (tS_p1 (m := N 4) (n := N 1) hT e) ((p1_n (by decide) (by decide) _).trans h6) ht ((p1_n (by decide) (by decide) _).trans h7) hm (N 3) (Nat.le_refl _)
      have st := fun w1 => ih (dd + 1) (k_day T 77 N p) w1 m1 (by omega) (tS_day hT (by omega) e) (day_846.trans h6) (day_84.trans a2) a1
      obtain ⟨m', b1, b2, b3, b4, _⟩ := st w
      refine ⟨m', b1, b2, fun v h => b3 v (a3 v h), fun v h => (b4 v h).elim (a4 v) Or.inr, fun g1 g2 => ?_⟩
      obtain ⟨w1, e1⟩ := dayU (w := w) hT e h6 ht hb (fun v hv h1 h2 => by
        by_cases q : t.testBit v = b.testBit v
        · exact Or.inl q
        · refine Or.inr (fun z => ?_)
          have tf : t.testBit v = false := by
            cases qt : t.testBit v with
            | false => rfl
            | true => exact absurd (qt.trans (g1 v qt).symm) q
          have := g2 v (b3 v (a5 v hv h1 h2 tf z))
          exact q (tf.trans this.symm))
      rw [e1]
      obtain ⟨m'', c1, c2, _, _, c5⟩ := st w1
      have em : m'' = m' := by
        have := b2.symm.trans c2
        exact ((am_eqN (by omega) (by omega)).mp this).symm
      subst em
      exact c5 g1 g2
