/-! Put off (four): trials of the class and of the reference. -/
theorem sim_po {x : Int32} {T b r : Nat} {N : Nat → Nat} {A K : hI} {J L : hJ} (hT : T = 9 ∨ T = 36) (h : sim x T 77 1 N (A, J) (K, L)) (a6 : A 84 6 = Int32.ofNat 0) (hb : b < 1024) (hr : r < 1024) (g : ∀ v, v < N 3 → wt x (A (T + 14) v) → b.testBit v = r.testBit v) : sim x T 77 1 N (am_u A 84 6 (Int32.ofNat b), J) (am_u K 110 72 (Int32.ofNat r), L) := by
  obtain ⟨⟨t, q, l, ⟨c1, c2, c3, c4, c5, c6, c7, c8⟩, n⟩, s, j⟩ := h
  refine ⟨⟨tR_c (fun a i _ _ => am_u_na (by omega)) (fun a i _ _ => am_u_na (by omega)) t, tqs_c (fun a i _ _ => am_u_na (by omega)) q, LQ_c (fun a i _ _ => am_u_na (by omega)) (fun a i _ _ => am_u_na (by omega)) l, ⟨?_, ?_, ?_, ?_, ?_, fun v hv w => ?_, ?_, ?_⟩, n⟩, sR_c (fun a i _ _ => am_u_na (by omega)) (fun a i _ _ => am_u_na (by omega)) s, fun g4 => j (by have e : am_u A 84 6 (Int32.ofNat b) 84 4 = A 84 4 := am_u_nk (by decide); exact e.symm.trans g4)⟩
  · show am_u A 84 6 (Int32.ofNat b) 84 8 = x
    rw [am_u_nk (by decide)]; exact c1
  · show am_u A 84 6 (Int32.ofNat b) 84 10 = 0 ↔ am_u K 110 72 (Int32.ofNat r) 110 68 = 0
    rw [am_u_nk (by decide), am_u_nk (by decide)]; exact c2
  · show am_u A 84 6 (Int32.ofNat b) 84 11 = am_u K 110 72 (Int32.ofNat r) 110 70
    rw [am_u_nk (by decide), am_u_nk (by decide)]; exact c3
  · show am_u A 84 6 (Int32.ofNat b) 84 12 = am_u K 110 72 (Int32.ofNat r) 110 71
    rw [am_u_nk (by decide), am_u_nk (by decide)]; exact c4
  · show am_u A 84 6 (Int32.ofNat b) 84 9 = 0 ↔ ¬ am_u K 110 72 (Int32.ofNat r) 110 67 = 0
    rw [am_u_nk (by decide), am_u_nk (by decide)]; exact c5
  · have w' : wt x (A (T + 14) v) := by
      have e : am_u A 84 6 (Int32.ofNat b) (T + 14) v = A (T + 14) v := am_u_na (by omega)
      dsimp only at w; rw [e] at w; exact w
    have h10 := n.2.2.2
    have o := c6 v hv w'
    have z : ¬ K 125 v = K 110 69 := (o.mp (by show (A 84 6 >>> _) &&& _ = 0; rw [a6]; exact (am_bit v (by omega) 0 (by omega)).mpr (Nat.zero_testBit _))).1
    show (am_u A 84 6 (Int32.ofNat b) 84 6 >>> (Int32.ofNat v &&& 31)) &&& Int32.ofNat 1 = 0 ↔ (¬ am_u K 110 72 (Int32.ofNat r) 125 v = am_u K 110 72 (Int32.ofNat r) 110 69 ∧ ¬ (am_u K 110 72 (Int32.ofNat r) 110 72 >>> (Int32.ofNat v &&& 31)) &&& Int32.ofNat 1 = Int32.ofNat 1)
    rw [am_u_at, am_u_at, am_u_na (by decide), am_u_nk (by decide), am_bit v (by omega) b hb, am_bit1 v (by omega) r hr, g v hv w']
    refine ⟨fun y => ⟨z, by rw [y]; decide⟩, fun y => ?_⟩
    cases e : r.testBit v with
    | false => rfl
    | true => exact absurd e y.2
  · show am_u A 84 6 (Int32.ofNat b) 84 5 = (if ¬ am_u K 110 72 (Int32.ofNat r) 110 66 = 0 ∨ (am_u K 110 72 (Int32.ofNat r) 110 65 = 0 ∧ ¬ am_u K 110 72 (Int32.ofNat r) 114 0 < Int32.ofNat 50) then Int32.ofNat 1 else Int32.ofNat 0)
    rw [am_u_nk (by decide), am_u_nk (by decide), am_u_nk (by decide), am_u_na (by decide)]; exact c7
  · show (am_u A 84 6 (Int32.ofNat b) 84 4 = 0 ∧ ¬ am_u K 110 72 (Int32.ofNat r) 110 64 = 0 ∧ am_u K 110 72 (Int32.ofNat r) 110 65 = 0 ∧ am_u K 110 72 (Int32.ofNat r) 110 66 = 0) ∨ (¬ am_u A 84 6 (Int32.ofNat b) 84 4 = 0 ∧ am_u K 110 72 (Int32.ofNat r) 110 64 = 0)
    rw [am_u_nk (by decide), am_u_nk (by decide), am_u_nk (by decide), am_u_nk (by decide)]; exact c8
theorem k_days_f {T S : Nat} {N : Nat → Nat} : ∀ n (p : hI × hJ), k_days T S N (n + 1) p = k_days T S N n (k_day T S N p) := by
  intro n
  induction n with
  | zero => intro p; rfl
  | succ n ih =>
    intro p
    have e : k_days T S N (n + 1 + 1) p = k_day T S N (k_days T S N (n + 1) p) := rfl
    rw [e, ih]; rfl
theorem nsl_days {T s : Nat} {N : Nat → Nat} (hT : T = 9 ∨ T = 36) (hn : N 1 ≤ 8) : ∀ j dd (p : hI × hJ), dd + j < 90000 → tqs p.1 T N → trk T dd N p → nsl T 77 N p.1 → (k_days T 77 N j p).1 81 s = p.1 81 s := by
  intro j
  induction j with
  | zero => intro dd p _ _ _ _; rfl
  | succ j ih =>
    intro dd p hd q k n
    obtain ⟨n1, n2⟩ := nsl_day hT (Or.inr (Or.inr rfl)) hn q k.1 (by omega) k.2 n
    rw [k_days_f, ih (dd + 1) (k_day T 77 N p) (by omega) (tqs_c (fun a i u v => sF_day a i (by omega) (by omega) (by omega)) q) (trk_day hT k) n1]
    exact (n2 s).1
theorem suL_days {T s : Nat} {N : Nat → Nat} (hT : T = 9 ∨ T = 36) (hn : N 1 ≤ 8) : ∀ j dd (p : hI × hJ), dd + j < 90000 → tqs p.1 T N → trk T dd N p → (k_suL T N j p).1 81 s = (k_days T 77 N j p).1 81 s := by
  intro j
  induction j with
  | zero => intro dd p _ _ _; rfl
  | succ j ih =>
    intro dd p hd q k
    rw [k_suL_s]
    by_cases c : k_cs p.1 T 77 (N 2) 0 = 0
    · rw [if_pos c, nsl_days hT hn (j + 1) dd p hd q k (nsl_of c)]
    · rw [if_neg c, k_days_f]
      exact ih (dd + 1) (k_day T 77 N p) (by omega) (tqs_c (fun a i u v => sF_day a i (by omega) (by omega) (by omega)) q) (trk_day hT k)
theorem m_z_id {K : hI} (h : K 110 2 = Int32.ofNat 0) : m_z K = K := by
  funext a i
  unfold m_z am_u
  by_cases e : a = 110 ∧ i = 2
  · rw [if_pos e, e.1, e.2]; exact h.symm
  · rw [if_neg e]
/-- a trial of one ship, in the class and in the reference -/
theorem po_TR {T O : Nat} {N : Nat → Nat} {u q : Nat} {I K : hI} {J L : hJ} {s b r : Nat} (h : REL T O N u q I J K L) (hz : K 110 2 = Int32.ofNat 0) (hs : s < N 2) (hb : b < 1024) (hr : r < 1024) (g : ∀ v, v < N 3 → I (T + 14) v = Int32.ofNat s → b.testBit v = r.testBit v) : (k_su T N s (Int32.ofNat b) (I, J)).1 81 s = (m_poT N r (K, L)).1 141 (5 + s) := by
  obtain ⟨hT, _⟩ := rA_hT h.1
  obtain ⟨t, _, _⟩ := rA_ctk h.1
  have n5 := t.1.2.1
  have sm := sim_trial (x := Int32.ofNat s) (y := 0) (Or.inr rfl) h.1 h.2.1.1 (K1 := m_lt K) (fun a i _ => by rw [m_z_id hz]) (by rw [m_lt_110, if_neg (by decide)]) (J := am_u J 77 1 (J 63 1)) (L := L) (by rw [am_u_at]; exact h.2.1.2.1)
  have a6 : k_stt I T (Int32.ofNat s) (Int32.ofNat 1) 84 6 = Int32.ofNat 0 := (am_u_nk (by decide)).trans (k_db84 (k_copy I 77 63) T (Int32.ofNat 1)).2.2.1
  have eT : ∀ v, k_stt I T (Int32.ofNat s) (Int32.ofNat 1) (T + 14) v = I (T + 14) v := fun v => cF_stt (T + 14) v (by omega) (by omega)
  have s2 := sim_po hT sm a6 hb hr (fun v hv w => g v hv (by
    rw [eT] at w
    rcases w with w | w
    · exact absurd w (okn_n1 (okn_of (r := s) (m := 5) (by omega) (by omega)) (by omega))
    · exact w.symm))
  have s3 := sim_days hT (Or.inr (Or.inr rfl)) s2 60
  have e := (s3.2.1.2.2.1 s (by omega) (Or.inr rfl)).1
  obtain ⟨dd, hdd, tr0⟩ := trk_0 (x := Int32.ofNat s) (b := Int32.ofNat 1) (J0 := am_u J 77 1 (J 63 1)) h
  have tr1 : trk T dd N (k_su0 T s (Int32.ofNat b) (I, J)) := by
    refine ⟨fun v hv => ?_, ?_⟩
    · show ¬ am_u _ 84 6 _ T 15 < am_u _ 84 6 _ (T + 15) v
      rw [am_u_na (by omega), am_u_na (by omega)]; exact tr0.1 v hv
    · show am_u (k_stt I T (Int32.ofNat s) (Int32.ofNat 1)) 84 6 (Int32.ofNat b) 77 0 = _
      rw [am_u_na (by decide)]; exact tr0.2
  show (k_suL T N 60 (k_su0 T s (Int32.ofNat b) (I, J))).1 81 s = _
  rw [suL_days (s := s) hT t.1.1 60 dd (k_su0 T s (Int32.ofNat b) (I, J)) (by omega) (s2.1.2.1) tr1]
  rw [show 5 * 1 + s = 5 + s by omega] at e
  exact e
theorem su_fr {T : Nat} {N : Nat → Nat} : ∀ (j : Nat) (p : hI × hJ), sF 77 p.1 (k_suL T N j p).1 ∧ (∀ a i, a ≠ 85 → a ≠ 86 → a ≠ 77 → (k_suL T N j p).2 a i = p.2 a i) := by
  intro j
  induction j with
  | zero => intro p; exact ⟨sF_rf _ _, fun _ _ _ _ _ => rfl⟩
  | succ j ih =>
    intro p
    rw [k_suL_s]
    split
    · exact ⟨sF_rf _ _, fun _ _ _ _ _ => rfl⟩
    · obtain ⟨g1, g2⟩ := ih (k_day T 77 N p)
      exact ⟨sF_tr sF_day g1, fun a i h1 h2 h3 => (g2 a i h1 h2 h3).trans (jD_day (Or.inr (Or.inr rfl)) a i h1 h2 (by omega))⟩
theorem su_n {T s : Nat} {N : Nat → Nat} {y : Int32} {p : hI × hJ} : (∀ a i, a < 77 ∨ 87 < a → (k_su T N s y p).1 a i = p.1 a i) ∧ (∀ a i, a ≠ 85 → a ≠ 86 → a ≠ 77 → (k_su T N s y p).2 a i = p.2 a i) := by
  obtain ⟨g1, g2⟩ := su_fr (T := T) (N := N) 60 (k_su0 T s y p)
  refine ⟨fun a i h => (g1 a i (by omega) (by omega) (by omega)).trans ?_, fun a i h1 h2 h3 => (g2 a i h1 h2 h3).trans (am_u_na h3)⟩
  show am_u (k_stt p.1 T (Int32.ofNat s) (Int32.ofNat 1)) 84 6 y a i = _
  rw [am_u_na (by omega)]; exact tC_stt a i h
theorem REL_x {T O : Nat} {N : Nat → Nat} {u q : Nat} {I I1 K : hI} {J J1 L : hJ} (h : REL T O N u q I J K L) (c : ∀ a i, a < 77 ∨ (87 < a ∧ a < 102) → I1 a i = I a i) (j1 : J1 63 1 = J 63 1) (j2 : J1 70 1 = J 70 1) : REL T O N u q I1 J1 K L := by
  obtain ⟨a, b, cc, d, e, g, f⟩ := h
  exact ⟨rA_c (fun a i x y => c a i (by omega)) (fun _ _ _ => rfl) a, rB_c (fun a i x y => c a i (by omega)) (fun _ _ _ _ => rfl) j1 rfl b, rC_c (fun a i x => c a i (by omega)) (fun _ _ _ => rfl) j2 rfl cc, rD_c (fun a i x y => c a i (by omega)) (fun _ _ _ => rfl) d, rE_c (fun a i x y => c a i (by omega)) (fun _ _ _ => rfl) e, rG_c (fun a i x => c a i (by omega)) (fun _ _ _ => rfl) g, rF_c a (fun a i x => c a i (by omega)) (fun _ _ _ => rfl) f⟩
/-- where a trial begins -/
theorem su0_tS {T O : Nat} {N : Nat → Nat} {u q : Nat} {I K : hI} {J L : hJ} {s : Nat} {y : Int32} (h : REL T O N u q I J K L) (hs : s < N 2) : tS T N s (nn (I 63 0)) (fun v => nn (I (T + 14) v)) (fun v => nn (I (T + 15) v)) (k_su0 T s y (I, J)).1 ∧ nn (I 63 0) ≤ 9000 := by
  obtain ⟨hT, _⟩ := rA_hT h.1
  obtain ⟨t, _, _⟩ := rA_ctk h.1
  have tq := h.1.2.2.1
  have o := h.2.1.2.2.1.2
  have e0 : k_stt I T (Int32.ofNat s) (Int32.ofNat 1) 77 0 = I 63 0 := by
    rw [show k_stt I T (Int32.ofNat s) (Int32.ofNat 1) 77 0 = k_copy I 77 63 77 0 from (am_u_na (by decide)).trans (congrFun (k_db_n 77 (by decide)) 0)]
    exact (k_copy_f I).1 0 (Or.inl rfl)
  refine ⟨⟨⟨?_, ?_⟩, ⟨by have := t.1.2.1; omega, by have := o.2; omega, t.1.2.2⟩, fun v hv => ?_⟩, by have := o.2; omega⟩
  · show am_u (k_stt I T (Int32.ofNat s) (Int32.ofNat 1)) 84 6 y 84 8 = _
    rw [am_u_nk (by decide)]; exact am_u_at
  · show am_u (k_stt I T (Int32.ofNat s) (Int32.ofNat 1)) 84 6 y 77 0 = _
    rw [am_u_na (by decide), e0]; exact o.1
  · obtain ⟨q1, q2, _⟩ := tq.2.2.2.2.1 v hv
    have e1 : (k_su0 T s y (I, J)).1 (T + 14) v = I (T + 14) v := (am_u_na (by omega)).trans (cF_stt (T + 14) v (by omega) (by omega))
    have e2 : (k_su0 T s y (I, J)).1 (T + 15) v = I (T + 15) v := (am_u_na (by omega)).trans (cF_stt (T + 15) v (by omega) (by omega))
    rw [e1, e2]
    exact ⟨q1.1, q2.1, by have := q1.2; have := t.1.2.1; dsimp only; omega, q2.2⟩
theorem su0_pU {T s : Nat} {y y' : Int32} {p : hI × hJ} : k_su0 T s y' p = (pU y' (k_stt p.1 T (Int32.ofNat s) (Int32.ofNat 1) 77 2) (k_su0 T s y p).1, (k_su0 T s y p).2) := by
  refine Prod.ext ?_ rfl
  funext a i
  show am_u (k_stt p.1 T (Int32.ofNat s) (Int32.ofNat 1)) 84 6 y' a i = am_u (am_u (am_u (k_stt p.1 T (Int32.ofNat s) (Int32.ofNat 1)) 84 6 y) 84 6 y') 77 2 _ a i
  rw [am_u_uu]
  generalize hX : am_u (k_stt p.1 T (Int32.ofNat s) (Int32.ofNat 1)) 84 6 y' = X
  have e : X 77 2 = k_stt p.1 T (Int32.ofNat s) (Int32.ofNat 1) 77 2 := by rw [← hX]; exact am_u_na (by decide)
  unfold am_u
  by_cases c : a = 77 ∧ i = 2
  · rw [if_pos c, c.1, c.2]; exact e
  · rw [if_neg c]
theorem fA_bit {T O : Nat} {N : Nat → Nat} {u q : Nat} {I K : hI} {J L : hJ} {s v : Nat} (h : REL T O N u q I J K L) (hs : s < N 2) : (k_fA T N s I).testBit v = true ↔ (v < N 3 ∧ nn (I (T + 14) v) = s ∧ nn (I 63 0) ≤ nn (I (T + 15) v) ∧ nn (I (T + 15) v) < nn (I 63 0) + 60) := by
  obtain ⟨t, _, _⟩ := rA_ctk h.1
  have tq := h.1.2.2.1
  have o := h.2.1.2.2.1.2
  have n5 := t.1.2.1
  by_cases hv : v < N 3
  · obtain ⟨q1, q2, _⟩ := tq.2.2.2.2.1 v hv
    unfold k_fA
    rw [voy_bit (N 3) v hv]
    have e1 : I (T + 14) v = Int32.ofNat s ↔ nn (I (T + 14) v) = s := by
      constructor
      · intro e; rw [e, nn_ofNat (by omega)]
      · intro e; rw [← e]; exact q1.1
    have o2 := o.2
    have q22 := q2.2
    have e2 : ¬ I (T + 15) v < I 63 0 ↔ nn (I 63 0) ≤ nn (I (T + 15) v) := by
      have : I (T + 15) v < I 63 0 ↔ nn (I (T + 15) v) < nn (I 63 0) := by
        have z := am_ltN (x := nn (I (T + 15) v)) (y := nn (I 63 0)) (by omega) (by omega)
        rw [← q2.1, ← o.1] at z; exact z
      rw [this]; omega
    have e3 : I (T + 15) v < I 63 0 + Int32.ofNat 60 ↔ nn (I (T + 15) v) < nn (I 63 0) + 60 := by
      have z := am_ltN (x := nn (I (T + 15) v)) (y := nn (I 63 0) + 60) (by omega) (by omega)
      rw [Int32.ofNat_add, ← q2.1, ← o.1] at z; exact z
    rw [e1, e2, e3]
    exact ⟨fun z => ⟨hv, z⟩, fun z => z.2⟩
  · refine ⟨fun z => ?_, fun z => absurd z.1 hv⟩
    have lt := (k_voyN_e I T (Int32.ofNat s) (I 63 0) (I 63 0 + Int32.ofNat 60) (N 3)).2
    have := Nat.ge_two_pow_of_testBit z
    have g := Nat.pow_le_pow_right (n := 2) (by decide) (show N 3 ≤ v by omega)
    unfold k_fA at this
    omega
/-- lost, if these are put off -/
def lst (T : Nat) (N : Nat → Nat) (s : Nat) (p : hI × hJ) (b : Nat) : Prop := (k_su T N s (Int32.ofNat b) p).1 81 s = Int32.ofNat 2
theorem su_6 {T s : Nat} {y : Int32} {p : hI × hJ} : (k_su0 T s y p).1 84 6 = y := by
  show am_u (k_stt p.1 T (Int32.ofNat s) (Int32.ofNat 1)) 84 6 y 84 6 = _
  exact am_u_at
theorem su_7 {T s : Nat} {y : Int32} {p : hI × hJ} : (k_su0 T s y p).1 84 7 = Int32.ofNat 0 := by
  show am_u (k_stt p.1 T (Int32.ofNat s) (Int32.ofNat 1)) 84 6 y 84 7 = _
  rw [am_u_nk (by decide)]
  show am_u (k_db (k_copy p.1 77 63) T (Int32.ofNat 1)) 84 8 (Int32.ofNat s) 84 7 = _
  rw [am_u_nk (by decide)]
  unfold k_db
  rw [am_u_nk (by decide), am_u_nk (by decide), am_u_nk (by decide), am_u_nk (by decide), am_u_nk (by decide), am_u_at]
theorem lst_W {T O : Nat} {N : Nat → Nat} {u q : Nat} {I K : hI} {J L : hJ} {s t b : Nat} (h : REL T O N u q I J K L) (hs : s < N 2) (ht : t < 1024) (hb : b < 1024) (g : ∀ v, (k_fA T N s I).testBit v = true → t.testBit v = b.testBit v) : lst T N s (I, J) b ↔ lst T N s (I, J) t := by
  obtain ⟨hT, _⟩ := rA_hT h.1
  obtain ⟨t0, hd⟩ := su0_tS (y := Int32.ofNat t) (J := J) h hs
  obtain ⟨w', e⟩ := su_W (t := t) (b := b) hT ht hb 60 _ (k_su0 T s (Int32.ofNat t) (I, J)) (k_stt I T (Int32.ofNat s) (Int32.ofNat 1) 77 2) (by omega) t0 su_6 (fun v hv h1 h2 h3 => g v ((fA_bit h hs).mpr ⟨hv, h1, h2, h3⟩))
  unfold lst k_su
  rw [su0_pU (y := Int32.ofNat t) (y' := Int32.ofNat b), e]
  dsimp only
  rw [pU_n (a := 81) (by decide) (by decide)]
theorem lst_R {T O : Nat} {N : Nat → Nat} {u q : Nat} {I K : hI} {J L : hJ} {s b : Nat} (h : REL T O N u q I J K L) (hs : s < N 2) (hb : b < 1024) (g : lst T N s (I, J) (k_fA T N s I)) : lst T N s (I, J) b := by
  obtain ⟨hT, _⟩ := rA_hT h.1
  obtain ⟨tt, _, _⟩ := rA_ctk h.1
  have ht : k_fA T N s I < 1024 := k_fA_lt tt.1.2.2
  obtain ⟨t0, hd⟩ := su0_tS (y := Int32.ofNat (k_fA T N s I)) (J := J) h hs
  obtain ⟨w', e⟩ := su_R (t := k_fA T N s I) (b := b) hT ht hb 60 _ (k_su0 T s (Int32.ofNat (k_fA T N s I)) (I, J)) (k_stt I T (Int32.ofNat s) (Int32.ofNat 1) 77 2) (by omega) t0 su_6 (fun v hv h1 h2 h3 => (fA_bit h hs).mpr ⟨hv, h1, h2, h3⟩) g
  unfold lst k_su at g ⊢
  rw [su0_pU (y := Int32.ofNat (k_fA T N s I)) (y' := Int32.ofNat b), e]
  dsimp only
  rw [pU_n (a := 81) (by decide) (by decide)]; exact g
theorem lst_F {T O : Nat} {N : Nat → Nat} {u q : Nat} {I K : hI} {J L : hJ} {s t : Nat} (h : REL T O N u q I J K L) (hs : s < N 2) (ht : t < 1024) : ∃ z, z < 1024 ∧ (k_su T N s (Int32.ofNat t) (I, J)).1 84 7 = Int32.ofNat z ∧ (∀ v, z.testBit v = true → v < N 3 ∧ t.testBit v = false) ∧ (lst T N s (I, J) t → ∀ b, b < 1024 → sbs t b → (∀ v, z.testBit v = true → b.testBit v = false) → lst T N s (I, J) b) := by
  obtain ⟨hT, _⟩ := rA_hT h.1
  obtain ⟨t0, hd⟩ := su0_tS (y := Int32.ofNat t) (J := J) h hs
  have st := fun b (hb : b < 1024) => su_F (t := t) (b := b) hT ht hb 60 _ (k_su0 T s (Int32.ofNat t) (I, J)) (k_stt I T (Int32.ofNat s) (Int32.ofNat 1) 77 2) 0 (by omega) t0 su_6 su_7 (by omega)
  obtain ⟨z, z1, z2, _, z4, _⟩ := st 0 (by omega)
  refine ⟨z, z1, z2, fun v hv => ?_, fun g b hb g1 g2 => ?_⟩
  · rcases z4 v hv with y | y
    · rw [Nat.zero_testBit] at y; exact absurd y (by decide)
    · exact ⟨y.1, y.2.2⟩
  · obtain ⟨z', y1, y2, _, _, y5⟩ := st b hb
    have ez : z' = z := (am_eqN (by omega) (by omega)).mp (y2.symm.trans z2)
    subst ez
    obtain ⟨w', e⟩ := y5 g1 g2
    unfold lst k_su at g ⊢
    rw [su0_pU (y := Int32.ofNat t) (y' := Int32.ofNat b), e]
    dsimp only
    rw [pU_n (a := 81) (by decide) (by decide)]; exact g
