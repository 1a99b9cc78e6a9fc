/-! Calls alike (five): go. -/
theorem k_day_3 {T S : Nat} {N : Nat → Nat} {p : hI × hJ} (hS : S = 63 ∨ S = 70 ∨ S = 77) : ∀ i, (k_day T S N p).1 (S + 3) i = p.1 (S + 3) i := by
  intro i
  have e1 : ∀ r, (k_p1 T S (N 4) r p).1 (S + 3) i = p.1 (S + 3) i := by
    intro r
    induction r with
    | zero => rfl
    | succ r ih =>
      refine Eq.trans ?_ ih
      show (k_p1S T S (N 4) r (k_p1 T S (N 4) r p)).1 (S + 3) i = _
      unfold k_p1S
      split
      · exact (am_u_na (by omega)).trans (am_u_na (by omega))
      · rfl
  have e2 : ∀ z s (p : hI × hJ), (k_p2 T S N z s p).1 (S + 3) i = p.1 (S + 3) i := by
    intro z s p
    induction s with
    | zero => rfl
    | succ s ih =>
      refine Eq.trans ?_ ih
      show (k_p2S T S N z s (k_p2 T S N z s p)).1 (S + 3) i = _
      generalize k_p2 T S N z s p = y
      have e1 : k_puI y.1 T S s (N 1) (S + 3) i = y.1 (S + 3) i := by
        unfold k_puI
        split
        · exact congrFun (k_mI_ne (by omega)) i
        · rfl
      unfold k_p2S
      repeat' split
      · show k_lose _ S s (N 1) (S + 3) i = _
        unfold k_lose
        rw [k_loL_ne (by omega), am_u_na (by omega), am_u_na (by omega)]; exact e1
      · have e3 : (k_shW y.1 y.2 T S s N z).1 (S + 3) i = y.1 (S + 3) i := by
          refine Eq.trans ?_ e1
          unfold k_shW k_wr
          split
          · rfl
          · exact congrFun (k_wrL_ne (p := (_, _)) (by omega)) i
        show k_spend (k_shW y.1 y.2 T S s N z).1 S s (S + 3) i = _
        unfold k_spend
        split
        · exact (am_u_na (by omega)).trans ((am_u_na (by omega)).trans ((am_u_na (by omega)).trans e3))
        · exact (am_u_na (by omega)).trans e3
      · rfl
      · rfl
  have e3 : k_svL T S (N 3) (k_p1 T S (N 4) (N 1) p).1 (S + 3) i = (k_p1 T S (N 4) (N 1) p).1 (S + 3) i := k_svL_ne (by omega) (by omega) (by omega)
  unfold k_day
  dsimp only
  rw [am_u_na (by omega)]
  exact (e2 _ _ _).trans (e3.trans (e1 (N 1)))
theorem days_num {T S : Nat} {N : Nat → Nat} {p : hI × hJ} (hT : T = 9 ∨ T = 36) (hS : S = 63 ∨ S = 70 ∨ S = 77) (q : hQ T N p.1) (h : hL0 S p.1) : ∀ n, hL0 S (k_days T S N n p).1 ∧ (k_days T S N n p).1 S 0 = p.1 S 0 + Int32.ofNat n ∧ (∀ i, (k_days T S N n p).1 (S + 3) i = p.1 (S + 3) i) := by
  intro n
  induction n with
  | zero => exact ⟨h, (am_a0 _).symm, fun _ => rfl⟩
  | succ n ih =>
    obtain ⟨i1, i2, i3⟩ := ih
    refine ⟨hL_day hT hS (hQ_s hT hS sF_days q) i1, ?_, fun i => (k_day_3 hS i).trans (i3 i)⟩
    show (k_day T S N (k_days T S N n p)).1 S 0 = _
    rw [k_day_0 hS, i2, Int32.ofNat_add, Int32.add_assoc]
theorem rA_hQ {T O : Nat} {N : Nat → Nat} {I A K : hI} (a : rA T O N I K) (h1 : ∀ a i, 9 ≤ a → a < 63 → A a i = I a i) (a10 : A 84 10 = Int32.ofNat 0) (a11 : A 84 11 = Int32.ofInt (-1)) : hQ T N A := by
  obtain ⟨hT, _⟩ := rA_hT a
  refine ⟨⟨a.2.1.1.1, a.2.1.1.2.1, a.2.1.1.2.2.1, a.2.1.1.2.2.2.1⟩, tqs_c (fun a i u v => h1 a i (by omega) (by omega)) a.2.2.1, fun m hm => ?_⟩
  unfold k_even
  rw [a10, if_pos (show (Int32.ofNat 0 : Int32) = 0 from rfl), a11, if_neg (okn_n1 (okn_of (r := m) (m := 6) (by have := a.2.1.1.1; omega) (by omega)) (by omega)), h1 (T + 4) m (by omega) (by omega)]
  exact a.2.2.1.2.2.1 m hm
theorem sim_go {T O : Nat} {N : Nat → Nat} {I A K : hI} {J L : hJ} (a : rA T O N I K) (s : sR 63 0 (Int32.ofInt (-1)) N I K) (hA : ∀ a i, a ≠ 84 → a ≠ 96 → A a i = I a i) (j : J 63 1 = L 110 62) : sim (Int32.ofInt (-1)) T 63 0 N (k_db A T (Int32.ofNat 0), J) (m_go0 K, L) := by
  obtain ⟨hT, _⟩ := rA_hT a
  obtain ⟨t4, t5, t6, t8, t9, t10, t11, t12⟩ := k_db84 A T (Int32.ofNat 0)
  obtain ⟨u4, u5, u6, u7, u8, u9, u10, u11, u12⟩ := m_pt110 (m_z K)
  have g0 : ∀ a i, a ≠ 84 → a ≠ 96 → k_db A T (Int32.ofNat 0) a i = I a i := fun a i h g => (congrFun (k_db_n a h) i).trans (hA a i h g)
  have kz : ∀ a i, a ≠ 110 → m_go0 K a i = K a i := fun a i h => (am_u_na h).trans ((congrFun (m_pt_n a h) i).trans (am_u_na h))
  have k1 : ∀ i, i ≠ 64 → m_go0 K 110 i = m_pt (m_z K) 110 i := fun i h => am_u_nk h
  have ck : cR (Int32.ofInt (-1)) T N (k_db A T (Int32.ofNat 0)) (m_go0 K) := by
    refine cR_pl (b := Int32.ofNat 0) (Or.inl rfl) ?_ ?_ ?_ t4 ?_ t6 t8 t9 t10 (by rw [t11, k1 70 (by decide)]; exact u10.symm) (by rw [t12, k1 71 (by decide)]; exact u11.symm) (by rw [if_pos rfl]; exact am_u_at) ((k1 65 (by decide)).trans u5) ((k1 66 (by decide)).trans u6) ((k1 67 (by decide)).trans u7) ((k1 68 (by decide)).trans u8) ((k1 69 (by decide)).trans u9) ((k1 72 (by decide)).trans u12)
    · rw [g0 T 16 (by omega) (by omega), kz 114 0 (by omega)]; exact a.2.2.2.2.2.1.2.2.2.2.2.1
    · rw [g0 T 16 (by omega) (by omega)]; exact a.2.2.1.2.2.2.2.2
    · intro v hv
      rw [kz 125 v (by omega), ← (a.2.2.2.2.2.1.2.2.2.2.1 v hv).1]
      exact okn_mono (a.2.2.1.2.2.2.2.1 v hv).1 a.2.1.1.2.2.1
    · rw [t5]
      unfold k_pst
      rw [congrFun (k_db_n (I := A) (T := T) (b := Int32.ofNat 0) T (by omega)) 16]
  exact ⟨dR_of a (fun a i u v => g0 a i (by omega) (by omega)) (fun a i u v => kz a i (by omega)) ck, sR_c (fun a i u v => g0 a i (by omega) (by omega)) (fun a i u v => kz a i (by omega)) s, fun _ => j⟩
theorem op_go (x : Int32) : OPok 122 245 [.int x] := by
  rintro I J R ⟨T, O, N, u, q, h, r0, r2⟩
  obtain ⟨hT, _⟩ := rA_hT h.1
  obtain ⟨t, m0, l0⟩ := rA_ctk h.1
  have tk := h.1.2.2.2.2.1
  have e0 : I 63 0 = I 145 0 := h.2.1.1.1
  by_cases c : (¬ x < Int32.ofNat 0 ∧ ¬ Int32.ofNat 200 < x) ∧ ¬ Int32.ofNat 9000 < I 63 0 + x
  · obtain ⟨ex, _, hn⟩ := am_btN (by omega) (by omega) c.1.1 c.1.2
    have hd := c.2
    generalize nn x = n at ex hn
    subst ex
    have cls := d_go (k := 20) (J := J) hT r0 t hn hd (by omega)
    have hA : ∀ a i, a ≠ 84 → a ≠ 96 → k_go0 I n a i = I a i := fun a i _ g => by
      unfold k_go0; split
      · rfl
      · exact am_u_na g
    have f0 : ∀ a i, a ≠ 84 → a ≠ 96 → k_db (k_go0 I n) T (Int32.ofNat 0) a i = I a i := fun a i g g2 => (congrFun (k_db_n a g) i).trans (hA a i g g2)
    have t84 := k_db84 (k_go0 I n) T (Int32.ofNat 0)
    have hq : hQ T N (k_db (k_go0 I n) T (Int32.ofNat 0)) := rA_hQ h.1 (fun a i u v => f0 a i (by omega) (by omega)) t84.2.2.2.2.2.1 t84.2.2.2.2.2.2.1
    have dn := days_num (p := (k_db (k_go0 I n) T (Int32.ofNat 0), J)) hT (Or.inl rfl) hq (hL0_c (fun a i u v => f0 a i (by omega) (by omega)) h.2.1.2.2.1.1) n
    have sf : sF 63 (k_db (k_go0 I n) T (Int32.ofNat 0)) (k_goP I J T N n).1 := sF_days
    have jj : ∀ a i, a ≠ 85 → a ≠ 86 → ¬ (a = 63 ∧ i = 1) → (k_goP I J T N n).2 a i = J a i := fun a i h1 h2 h3 => jD_days (Or.inl rfl) n a i h1 h2 h3
    have e96 : (k_goP I J T N n).1 96 0 = (if n = 0 then I 96 0 else Int32.ofNat 0) := by
      rw [sf 96 0 (by omega) (by omega) (by omega), congrFun (k_db_n (I := k_go0 I n) 96 (by decide)) 0]
      unfold k_go0
      split
      · rfl
      · exact am_u_at
    have ez : n = 0 → (k_goP I J T N n).1 = k_db I T (Int32.ofNat 0) := fun z => by subst z; rfl
    have eP : k_goP I J T N n = k_days T 63 N n (k_db (k_go0 I n) T (Int32.ofNat 0), J) := rfl
    rw [← eP] at dn
    have kc : kC I (k_goP I J T N n).1 := fun a i g => (sf a i (by omega) (by omega) (by omega)).trans (f0 a i (by omega) (by omega))
    have sd2 : ∀ K L, rA T O N I K → sR 63 0 (Int32.ofInt (-1)) N I K → J 63 1 = L 110 62 → sim (Int32.ofInt (-1)) T 63 0 N (k_goP I J T N n) (m_days N 0 n (m_go0 K, L)) := fun K L a s j => sim_days hT (Or.inl rfl) (sim_go a s hA j) n
    revert cls dn sf jj e96 ez kc sd2
    generalize k_goP I J T N n = Y
    intro cls dn sf jj e96 ez kc sd2
    have hk : REL T O N u q I J Y.1 Y.2 := REL_cc h (fun _ _ _ => rfl) (fun a i g => kc a i g) rfl rfl (jj _ _ (by decide) (by decide) (by decide)) (jj _ _ (by decide) (by decide) (by decide))
    have tk1 := hk.1.2.2.2.2.1
    have sm := sd2 Y.1 Y.2 hk.1 hk.2.1.1 hk.2.1.2.1
    have f2 : ∀ a i, ¬ (138 ≤ a ∧ a ≤ 145) → ¬ (a = 110 ∧ (i = 2 ∨ i = 53 ∨ (63 ≤ i ∧ i ≤ 72))) → (m_go1 N Y.1 Y.2 n).1 a i = Y.1 a i := fun a i g1 g2 => by
      refine (simF_days2 n a i g1 (by omega)).trans ?_
      show am_u (m_pt (m_z Y.1)) 110 64 (Int32.ofNat 1) a i = _
      have e1 : tM Y.1 (am_u (m_pt (m_z Y.1)) 110 64 (Int32.ofNat 1)) := tM_tr tM_z (tM_tr tM_pt (tM_u (by omega)))
      exact e1.2 a i (by omega) g2
    have f3 : ∀ a i, ¬ (138 ≤ a ∧ a ≤ 145) → ¬ (a = 110 ∧ (i = 2 ∨ i = 53 ∨ (63 ≤ i ∧ i ≤ 72) ∨ i = 84)) → m_goI N Y.1 Y.2 n a i = Y.1 a i := fun a i g1 g2 => by
      unfold m_goI
      have n1 : ¬ (a = 110 ∧ i = 84) := by omega
      have n2 : ¬ (a = 110 ∧ i = 64) := by omega
      unfold am_u
      rw [if_neg n1, if_neg n2]
      exact f2 a i g1 (by omega)
    have fs : ∀ a i, 138 ≤ a → a ≤ 145 → m_goI N Y.1 Y.2 n a i = (m_go1 N Y.1 Y.2 n).1 a i := fun a i g1 g2 => by
      unfold m_goI
      rw [am_u_na (by omega), am_u_na (by omega)]
    have e84 : m_goI N Y.1 Y.2 n 110 84 = (if n = 0 then Y.1 110 84 else Int32.ofNat 0) := by
      unfold m_goI
      rw [am_u_at]
      split
      · exact f2 110 84 (by omega) (by omega)
      · rfl
    have jm : ∀ a i, a ≠ 136 → a ≠ 137 → ¬ (a = 110 ∧ i = 62) → (m_go1 N Y.1 Y.2 n).2 a i = Y.2 a i := fun a i h1 h2 h3 => jM_days n a i h1 h2 (Or.inl h3)
    have hd2 : ¬ Int32.ofNat 9000 < Y.1 145 0 + Int32.ofNat n := by rw [kc 145 0 (by omega), ← e0]; exact hd
    have o := h.2.1.2.2.1.2
    refine op_mk (T := T) (O := O) (N := N) (u := if n = 0 then u else 0) (q := q) cls (c_go tk1 hn hd2 (by omega)) ?_ (fun a i g => f3 a i (by omega) (by omega)) ⟨jm _ _ (by decide) (by decide) (by decide), jm _ _ (by decide) (by decide) (by decide)⟩ ?_ ((am_u_na (by decide)).trans r0) ((am_u_na (by decide)).trans r2)
    · have e := sm.2.1.1
      have e' : Y.1 63 0 = (m_go1 N Y.1 Y.2 n).1 145 0 := e
      rw [e', fs 145 0 (by omega) (by omega)]
    · have rs : sR 63 0 (Int32.ofInt (-1)) N Y.1 (m_goI N Y.1 Y.2 n) := sR_c (fun _ _ _ _ => rfl) fs sm.2.1
      have fC : ∀ a i, (a < 63 ∨ 69 < a) → a ≠ 84 → a ≠ 87 → a ≠ 96 → Y.1 a i = I a i := fun a i g1 g2 g3 g4 => (sf a i (by omega) g3 (by omega)).trans (f0 a i g2 g4)
      have fC6 : ∀ a i, 97 ≤ a → a ≤ 101 → Y.1 a i = I a i := fun a i g1 g2 => fC a i (by omega) (by omega) (by omega) (by omega)
      have e2 := dn.2.1
      have e3 : Y.1 63 0 = I 63 0 + Int32.ofNat n := e2.trans (by rw [show (k_db (k_go0 I n) T (Int32.ofNat 0), J).1 63 0 = k_db (k_go0 I n) T (Int32.ofNat 0) 63 0 from rfl, f0 63 0 (by omega) (by omega)])
      have o9 : okn (Y.1 63 0) 9001 := by
        have o2 := o.2
        rw [e3]
        rw [o.1] at hd ⊢
        rw [← Int32.ofNat_add] at hd ⊢
        have hl : nn (I 63 0) + n ≤ 9000 := Decidable.byContradiction fun z => hd ((am_ltN (by omega) (by omega)).mpr (by omega))
        exact ⟨by rw [nn_ofNat (by omega)], by rw [nn_ofNat (by omega)]; omega⟩
      obtain ⟨a, b, cc, d, e, g, f⟩ := hk
      refine ⟨rA_c (fun a i x y => fC a i (by omega) (by omega) (by omega) (by omega)) (fun a i x => f3 a i (by omega) (by omega)) a, ⟨rs, sm.2.2 ((sf 84 4 (by omega) (by omega) (by omega)).trans t84.1), ⟨dn.1, o9⟩, h.2.1.2.2.2.imp id (fun g r h1 h2 => (dn.2.2 r).trans ((f0 66 r (by omega) (by omega)).trans (g r h1 h2)))⟩, rC_c (fun a i x => fC a i (by omega) (by omega) (by omega) (by omega)) (fun a i x => f3 a i (by omega) (by omega)) (jj _ _ (by decide) (by decide) (by decide)) (jm _ _ (by decide) (by decide) (by decide)) cc, ?_, rE_c (fun a i x y => fC a i (by omega) (by omega) (by omega) (by omega)) (fun a i x => f3 a i (by omega) (by omega)) e, rG_c (fun a i x => fC a i (by omega) (by omega) (by omega) (by omega)) (fun a i x => f3 a i (by omega) (by omega)) g, rF_c a (fun a i x => fC a i (by omega) (by omega) (by omega) (by omega)) (fun a i x => f3 a i (by omega) (by omega)) f⟩
      · by_cases z : n = 0
        · rw [if_pos z] at e96 e84 ⊢
          have ez1 := ez z
          have fk : ∀ a i, 138 ≤ a → a ≤ 145 → m_goI N Y.1 Y.2 n a i = Y.1 a i := fun a i g1 g2 => by
            rw [fs a i g1 g2]
            subst z
            show am_u (m_pt (m_z Y.1)) 110 64 (Int32.ofNat 1) a i = _
            rw [am_u_na (by omega), m_pt_n a (by omega)]; exact m_z_n (by omega)
          exact rD_c (fun a i x y => by
            by_cases g6 : a = 96
            · subst g6; rw [ez1]; exact congrFun (k_db_n 96 (by decide)) i
            · exact fC a i (by omega) (by omega) (by omega) g6) (fun a i x => by
            rcases x with x | x | x
            · exact fk a i (by omega) (by omega)
            · exact f3 a i (by omega) (by omega)
            · obtain ⟨rfl, rfl⟩ := x; exact e84) d
        · rw [if_neg z] at e96 e84 ⊢
          exact ⟨by omega, e96, e84, fun i hi => absurd hi (Nat.not_lt_zero i)⟩
  · exact op_same h r0 r2 (d_go_no c (by omega)) (c_go_no (by rw [← e0]; exact c) (by omega)) rfl kM_z tM_z
