/-! Calls alike (ten): rig, takeOut, sail. -/
/-- after a change of one rope's ship -/
theorem REL_rope {T O u q r : Nat} {N : Nat → Nat} {I K : hI} {J L : hJ} {v : Int32} (h : REL T O N u q I J K L) (hr : r < N 1) (hv : v = Int32.ofInt (-1) ∨ okn v 5) : REL T O N (k_rm u + 1) q (am_u (k_nr I 63 u r) 66 r v) J (am_u (m_rem (m_z K) u) 140 r v) L := by
  obtain ⟨a, b, cc, d, e, gg, f⟩ := h
  have hn := a.2.1.1.2.1
  have hu := d.1
  have kz84 : m_z K 110 84 = Int32.ofNat u := (m_z_n (by omega)).trans d.2.2.1
  obtain ⟨n1, n2, n3, n4, n5, n6, n7⟩ := nr_f (I := I) (r := r) hu
  obtain ⟨m1, m2, m3, m4⟩ := rem_f (K := m_z K) hu kz84
  obtain ⟨y1, y2, y3, y4⟩ := rB_r b (show r < 8 by omega)
  have y3 := y3.resolve_left (fun z => by have := z.1; omega)
  have fC : ∀ a i, (a < 96 ∨ 101 < a) → a ≠ 66 → am_u (k_nr I 63 u r) 66 r v a i = I a i := fun a i g1 g2 => (am_u_na g2).trans (n7 a i g1)
  have fE : ∀ a i, 96 ≤ a → a ≤ 101 → am_u (k_nr I 63 u r) 66 r v a i = k_nr I 63 u r a i := fun a i g1 g2 => am_u_na (by omega)
  have fM : ∀ a j, a ≠ 152 → a ≠ 140 → ¬ (a = 110 ∧ (j = 84 ∨ j = 2)) → am_u (m_rem (m_z K) u) 140 r v a j = K a j := fun a j g1 g2 g3 => (am_u_na g2).trans ((m4 a j g1 (by omega)).trans (m_z_n (by omega)))
  refine ⟨rA_c (fun a i x y => fC a i (by omega) (by omega)) (fun a i x => fM a i (by omega) (by omega) (by omega)) a, ⟨?_, b.2.1, ?_, ?_⟩, rC_c (fun a i x => fC a i (by omega) (by omega)) (fun a i x => fM a i (by omega) (by omega) (by omega)) rfl rfl cc, ?_, rE_c (fun a i x y => fC a i (by omega) (by omega)) (fun a i x => fM a i (by omega) (by omega) (by omega)) e, rG_c (fun a i x => fC a i (by omega) (by omega)) (fun a i x => fM a i (by omega) (by omega) (by omega)) gg, rF_c a (fun a i x => fC a i (by omega) (by omega)) (fun a i x => fM a i (by omega) (by omega) (by omega)) f⟩
  · refine sR_3 (sR_c (fun a i g1 g2 => n7 a i (by omega)) (fun a i g1 g2 => (m4 a i (by omega) (by omega)).trans (m_z_n (by omega))) b.1) hv
  · refine ⟨?_, ?_⟩
    · refine hL_n (S := 63) ?_ (by omega)
      exact hL0_c (fun a i g1 g2 => n7 a i (by omega)) b.2.2.1.1
    · rw [fC 63 0 (by omega) (by omega)]; exact b.2.2.1.2
  · refine b.2.2.2.imp id (fun g q h1 h2 => ?_)
    show am_u (k_nr I 63 u r) 66 r v 66 q = _
    rw [am_u_nk (by omega), n7 66 q (by omega)]; exact g q h1 h2
  · refine rD_push (rD_c (fun _ _ _ _ => rfl) (fun a i x => m_z_n (K := K) (by omega)) d) (fun a g1 g2 i hi => (fE a i (by omega) g2).trans (n1 a g1 g2 i hi)) ((fE 96 0 (by omega) (by omega)).trans n2) (fun i hi j hj => (am_u_na (by decide)).trans (m1 i hi j hj)) (fun j hj => (am_u_na (by decide)).trans (m2 j hj)) ((am_u_na (by decide)).trans m3) (Or.inr ?_) ?_
    · rw [fE 97 _ (by omega) (by omega), fE 98 _ (by omega) (by omega), fE 99 _ (by omega) (by omega), fE 100 _ (by omega) (by omega), n3, n4, n5, n6]
      exact ⟨okn_of (by omega) (by omega), by rw [nn_ofNat (by omega)]; exact hr, y4, b.2.2.1.1.1 r (by omega)⟩
    · refine uE_r (show r < 8 by omega) ((fE 97 _ (by omega) (by omega)).trans n3) ?_ ?_ ?_ (fun a i g1 g2 g3 => ?_)
      · rw [fE 98 _ (by omega) (by omega), n4, m_z_n (by omega)]; exact y1
      · rw [fE 99 _ (by omega) (by omega), n5, m_z_n (by omega)]; exact y2
      · rw [fE 100 _ (by omega) (by omega), n6, m_z_n (by omega)]; exact y3
      · have e1 : am_u (m_rem (m_z K) u) 140 r v a i = m_rem (m_z K) u a i := by
          unfold am_u; rw [if_neg (by omega)]
        rw [e1]; exact m4 a i (by omega) (by omega)
theorem kC_rope {I : hI} {u r : Nat} {v : Int32} (hu : u ≤ 20) : kC I (am_u (k_nr I 63 u r) 66 r v) := fun a i g => (am_u_na (by omega)).trans ((nr_f hu).2.2.2.2.2.2 a i (by omega))
theorem kM_rope {K : hI} {u r c : Nat} {v : Int32} (hu : u ≤ 20) (e : K 110 84 = Int32.ofNat u) (hc : 110 ≤ c) : kM K (am_u (m_rem (m_z K) u) c r v) := fun a i g => (am_u_na (by omega)).trans (((rem_f hu ((m_z_n (by omega)).trans e)).2.2.2 a i (by omega) (by omega)).trans (m_z_n (by omega)))
theorem op_rig (x y : Int32) : OPok 117 241 [.int x, .int y] := by
  rintro I J R ⟨T, O, N, u, q, h, r0, r2⟩
  obtain ⟨hT, _⟩ := rA_hT h.1
  obtain ⟨t, m0, l0⟩ := rA_ctk h.1
  have tk := h.1.2.2.2.2.1
  have n1 := t.1.1
  have n5 := t.1.2.1
  have b := h.2.1
  have d := h.2.2.2.1
  by_cases c : (¬ x < 0 ∧ x < I (T + 5) 1) ∧ (¬ y < 0 ∧ y < I (T + 11) 1)
  · obtain ⟨r, hr, rfl⟩ := am_oneN t.2.1.1 (by omega) c.1
    obtain ⟨s, hs, rfl⟩ := am_oneN t.2.1.2.1 (by omega) c.2
    obtain ⟨y1, y2, y3, y4⟩ := rB_r b (show r < 8 by omega)
    have y3 := y3.resolve_left (fun z => by have := z.1; omega)
    obtain ⟨z1, z2, z3⟩ := rB_s b (show s < 5 by omega)
    have o := (b.2.2.1.1.1 r (by omega)).1
    have st : ¬ Int32.ofNat 1 < I 138 r ↔ (I 64 r = 0 ∨ I 64 r = Int32.ofNat 1) := by
      rw [← y1]
      have o2 := o.2
      have lt : Int32.ofNat 1 < I 64 r ↔ 1 < nn (I 64 r) := by
        conv => lhs; rw [o.1]
        exact am_ltN (by omega) (by omega)
      rw [lt]
      constructor
      · intro g
        have : nn (I 64 r) = 0 ∨ nn (I 64 r) = 1 := by omega
        rcases this with g | g
        · left; rw [o.1, g]; rfl
        · right; rw [o.1, g]
      · intro g
        rcases g with g | g
        · rw [g]; decide
        · rw [g]; decide
    have cond : k_rgOK I r s ↔ ¬ m_rgP I r s := by
      unfold m_rgP
      constructor
      · intro g z
        rcases z with z | z | z
        · exact st.mpr g.1 z
        · exact z (by rw [← y3]; exact (am_neg1 y4).mpr g.2.1)
        · exact z (by rw [← z1]; exact g.2.2)
      · intro g
        refine ⟨st.mp (fun z => g (Or.inl z)), ?_, ?_⟩
        · exact (am_neg1 y4).mp (Decidable.byContradiction fun z => g (Or.inr (Or.inl (by rw [← y3]; exact z))))
        · exact Decidable.byContradiction fun z => g (Or.inr (Or.inr (by rw [← z1]; exact z)))
    by_cases g : k_rgOK I r s
    · have kc := kC_rope (I := I) (u := u) (r := r) (v := Int32.ofNat s) d.1
      have hk : REL T O N u q I J (k_rig I u r s) J := REL_cc h (fun _ _ _ => rfl) (fun a i g => kc a i g) rfl rfl rfl rfl
      have g2 : ¬ m_rgP (k_rig I u r s) r s := by
        have := cond.mp g
        unfold m_rgP at *
        rw [show k_rig I u r s 138 r = I 138 r from kc 138 r (by omega), show k_rig I u r s 140 r = I 140 r from kc 140 r (by omega), show k_rig I u r s 141 s = I 141 s from kc 141 s (by omega)]; exact this
      have hk2 := REL_rope hk hr (v := Int32.ofNat s) (Or.inr (okn_of (by omega) (by omega)))
      refine op_mk (T := T) (O := O) (N := N) (u := k_rm u + 1) (q := q) (d_rig hT r0 t hr hs d.1 d.2.1 g (by omega)) (c_rig hk.1.2.2.2.2.1 hr d.1 hk.2.2.2.1.2.2.1 hs g2 (by omega)) ?_ (kM_rope d.1 hk.2.2.2.1.2.2.1 (by omega)) ⟨rfl, rfl⟩ hk2 r0 r2
      have e : k_bear (k_rig I u r s) 63 (Int32.ofNat s) 8 = m_bear (m_rg (k_rig I u r s) u r s) 0 (N 1) (Int32.ofNat s) := sR_bear n1 hk2.2.1.1 (Or.inl rfl)
      rw [e]
    · have g2 : m_rgP I r s := by
        unfold m_rgP
        by_cases z1' : Int32.ofNat 1 < I 138 r
        · exact Or.inl z1'
        · by_cases z2' : I 140 r < 0
          · refine Or.inr (Or.inr fun z => g ⟨st.mp z1', (am_neg1 y4).mp (by rw [y3]; exact z2'), by rw [z1]; exact z⟩)
          · exact Or.inr (Or.inl z2')
      exact op_same h r0 r2 (d_rig_can hT r0 t hr hs g (by omega)) (c_rig_can tk hr hs g2 (by omega)) rfl kM_z tM_z
  · exact op_same h r0 r2 (d_rig_no hT r0 c (by omega)) (c_rig_no (by rw [tk.2.1.2.1, tk.2.1.2.2.1, ← t.2.1.1, ← t.2.1.2.1]; exact c) (by omega)) rfl kM_z tM_z
theorem op_takeOut (x : Int32) : OPok 118 242 [.int x] := by
  rintro I J R ⟨T, O, N, u, q, h, r0, r2⟩
  obtain ⟨hT, _⟩ := rA_hT h.1
  obtain ⟨t, m0, l0⟩ := rA_ctk h.1
  have tk := h.1.2.2.2.2.1
  have n1 := t.1.1
  have n5 := t.1.2.1
  have b := h.2.1
  have d := h.2.2.2.1
  by_cases c : ¬ x < 0 ∧ x < I (T + 5) 1
  · obtain ⟨r, hr, rfl⟩ := am_oneN t.2.1.1 (by omega) c
    obtain ⟨y1, y2, y3, y4⟩ := rB_r b (show r < 8 by omega)
    have y3 := y3.resolve_left (fun z => by have := z.1; omega)
    have hw : ¬ I 66 r = Int32.ofInt (-1) → okn (I 66 r) 5 := fun z => y4.resolve_left z
    have hw2 : ∀ K : hI, K 140 r = I 140 r → ¬ K 140 r < 0 → okn (K 140 r) 5 := fun K e z => by
      rw [e, ← y3] at z ⊢
      exact hw (fun y => z ((am_neg1 y4).mpr y))
    have cond : (¬ I 66 r = Int32.ofInt (-1) ∧ k_ah I r) ↔ ¬ m_toP I r := by
      unfold m_toP
      constructor
      · intro g z
        rcases z with z | z
        · exact g.1 ((am_neg1 y4).mp (by rw [y3]; exact z))
        · rcases g.2 with w | w
          · exact g.1 w
          · rw [← y3] at z
            exact z (by rw [← (rB_s b (hw g.1).2).1]; exact w)
      · intro g
        have g1 : ¬ I 66 r = Int32.ofInt (-1) := fun z => g (Or.inl (by rw [← y3]; exact (am_neg1 y4).mpr z))
        refine ⟨g1, Or.inr ?_⟩
        exact Decidable.byContradiction fun z => g (Or.inr (by rw [← y3, ← (rB_s b (hw g1).2).1]; exact z))
    by_cases g : ¬ I 66 r = Int32.ofInt (-1) ∧ k_ah I r
    · have kc := kC_rope (I := I) (u := u) (r := r) (v := Int32.ofInt (-1)) d.1
      have hk : REL T O N u q I J (k_tko I u r) J := REL_cc h (fun _ _ _ => rfl) (fun a i g => kc a i g) rfl rfl rfl rfl
      have g2 : ¬ m_toP (k_tko I u r) r := by
        have := cond.mp g
        unfold m_toP at *
        have e141 : ∀ i, k_tko I u r 141 i = I 141 i := fun i => kc 141 i (by omega)
        rw [show k_tko I u r 140 r = I 140 r from kc 140 r (by omega), e141]; exact this
      exact op_mk (T := T) (O := O) (N := N) (u := k_rm u + 1) (q := q) (d_takeOut hT r0 t hr d.1 d.2.1 hw g (by omega)) (c_takeOut hk.1.2.2.2.2.1 hr d.1 hk.2.2.2.1.2.2.1 (hw2 _ (kc 140 r (by omega))) g2 (by omega)) rfl (kM_rope d.1 hk.2.2.2.1.2.2.1 (by omega)) ⟨rfl, rfl⟩ (REL_rope hk hr (v := Int32.ofInt (-1)) (Or.inl rfl)) r0 r2
    · have g2 : m_toP I r := by
        unfold m_toP
        by_cases z : I 140 r < 0
        · exact Or.inl z
        · refine Or.inr fun w => g ⟨fun v => z (by rw [← y3]; exact (am_neg1 y4).mpr v), Or.inr ?_⟩
          have hv := hw (fun v => z (by rw [← y3]; exact (am_neg1 y4).mpr v))
          rw [(rB_s b hv.2).1, y3]; exact w
      exact op_same h r0 r2 (d_takeOut_can hT r0 t hr hw g (by omega)) (c_takeOut_can tk hr (hw2 I rfl) g2 (by omega)) rfl kM_z tM_z
  · exact op_same h r0 r2 (d_takeOut_no hT r0 c (by omega)) (c_takeOut_no (by rw [tk.2.1.2.1, ← t.2.1.1]; exact c) (by omega)) rfl kM_z tM_z
theorem op_sail (x y : Int32) : OPok 121 244 [.int x, .int y] := by
  rintro I J R ⟨T, O, N, u, q, h, r0, r2⟩
  obtain ⟨hT, _⟩ := rA_hT h.1
  obtain ⟨t, m0, l0⟩ := rA_ctk h.1
  have tk := h.1.2.2.2.2.1
  have n1 := t.1.1
  have n5 := t.1.2.1
  have b := h.2.1
  have d := h.2.2.2.1
  by_cases c : (¬ x < 0 ∧ x < I (T + 11) 1) ∧ ¬ y < Int32.ofNat 1 ∧ ¬ Int32.ofNat 30 < y
  · obtain ⟨s, hs, rfl⟩ := am_oneN t.2.1.2.1 (by omega) c.1
    obtain ⟨ey, h1, h2⟩ := am_btN (by omega) (by omega) c.2.1 c.2.2
    generalize nn y = n at ey h1 h2
    subst ey
    obtain ⟨z1, z2, z3⟩ := rB_s b (show s < 5 by omega)
    by_cases g : I 67 s = 0
    · obtain ⟨n1', n2', n3', n4', n7⟩ := ns_f (I := I) (x := Int32.ofNat s) d.1
      have fC : ∀ a i, (a < 96 ∨ 101 < a) → a ≠ 67 → a ≠ 68 → k_sail I u s n a i = I a i := fun a i g1 g2 g3 => (am_u_na g3).trans ((am_u_na g2).trans (n7 a i g1))
      have fE : ∀ a i, 96 ≤ a → a ≤ 101 → k_sail I u s n a i = k_ns I u (Int32.ofNat s) a i := fun a i g1 g2 => (am_u_na (by omega)).trans (am_u_na (by omega))
      have hk : REL T O N u q I J (k_sail I u s n) J := REL_cc h (fun _ _ _ => rfl) (fun a i g => fC a i (by omega) (by omega) (by omega)) rfl rfl rfl rfl
      have fK : ∀ a i, 110 ≤ a → k_sail I u s n a i = I a i := fun a i g => fC a i (by omega) (by omega) (by omega)
      have g141 : k_sail I u s n 141 s = 0 := by rw [fK 141 s (by omega), ← z1]; exact g
      have cls := d_sail (k := 20) (J := J) hT r0 t hs h1 h2 d.1 d.2.1 g (by omega)
      have hBd : k_sail I u s n = am_u (am_u (k_ns I u (Int32.ofNat s)) 67 s (Int32.ofNat 1)) 68 s (Int32.ofNat n) := rfl
      have dd := hk.2.2.2.1
      have e84 := dd.2.2.1
      obtain ⟨m1, m2, m3, m4⟩ := rem_f (K := m_z (k_sail I u s n)) dd.1 ((m_z_n (by omega)).trans e84)
      have fM : ∀ a j, a ≠ 152 → a ≠ 141 → a ≠ 142 → ¬ (a = 110 ∧ (j = 84 ∨ j = 2)) → m_sa (k_sail I u s n) u s n a j = k_sail I u s n a j := fun a j g1 g2 g3 g4 => (am_u_na g3).trans ((am_u_na g2).trans ((m4 a j g1 (by omega)).trans (m_z_n (by omega))))
      have km : kM (k_sail I u s n) (m_sa (k_sail I u s n) u s n) := fun a i g => fM a i (by omega) (by omega) (by omega) (by omega)
      have rel : REL T O N (k_rm u + 1) q (k_sail I u s n) J (m_sa (k_sail I u s n) u s n) J := by
        obtain ⟨a, b2, cc, _, e, gg, f⟩ := hk
        have rs : sR 63 0 (Int32.ofInt (-1)) N (k_sail I u s n) (m_sa (k_sail I u s n) u s n) := by
          have s0 : sR 63 0 (Int32.ofInt (-1)) N (k_ns I u (Int32.ofNat s)) (m_rem (m_z (k_sail I u s n)) u) := sR_c (fun a i g1 g2 => n7 a i (by omega)) (fun a i g1 g2 => (m4 a i (by omega) (by omega)).trans (m_z_n (by omega))) b2.1
          have s1 := sR_5 (s := s) (v := Int32.ofNat n) (sR_4 (s := s) (v := Int32.ofNat 1) s0)
          rw [show 5 * 0 + s = s by omega] at s1
          exact s1
        refine ⟨rA_c (fun a i x y => fC a i (by omega) (by omega) (by omega)) (fun a i x => fM a i (by omega) (by omega) (by omega) (by omega)) a, ⟨rs, b2.2.1, ⟨?_, ?_⟩, ?_⟩, rC_c (fun a i x => fC a i (by omega) (by omega) (by omega)) (fun a i x => fM a i (by omega) (by omega) (by omega) (by omega)) rfl rfl cc, ?_, rE_c (fun a i x y => fC a i (by omega) (by omega) (by omega)) (fun a i x => fM a i (by omega) (by omega) (by omega) (by omega)) e, rG_c (fun a i x => fC a i (by omega) (by omega) (by omega)) (fun a i x => fM a i (by omega) (by omega) (by omega) (by omega)) gg, rF_c a (fun a i x => fC a i (by omega) (by omega) (by omega)) (fun a i x => fM a i (by omega) (by omega) (by omega) (by omega)) f⟩
        · exact hL_45 (S := 63) (hL0_c (fun a i g1 g2 => n7 a i (by omega)) b.2.2.1.1) (okn_of (by omega) (by omega)) (fun z => absurd rfl z)
        · rw [fC 63 0 (by omega) (by omega) (by omega)]; exact b.2.2.1.2
        · refine b.2.2.2.imp id (fun g r h1 h2 => ?_)
          rw [show k_sail I u s n (63 + 3) r = I 66 r from fC 66 r (by omega) (by omega) (by omega)]; exact g r h1 h2
        · have dz : rD N u I (m_z (k_sail I u s n)) := rD_c (fun _ _ _ _ => rfl) (fun a i x => m_z_n (by omega)) dd
          refine rD_push dz (fun a g1 g2 i hi => (fE a i (by omega) g2).trans (n1' a g1 g2 i hi)) ((fE 96 0 (by omega) (by omega)).trans n2') (fun i hi j hj => (am_u_na (by decide)).trans ((am_u_na (by decide)).trans (m1 i hi j hj))) (fun j hj => (am_u_na (by decide)).trans ((am_u_na (by decide)).trans (m2 j hj))) ((am_u_na (by decide)).trans ((am_u_na (by decide)).trans m3)) (Or.inl ?_) ?_
          · rw [fE 97 _ (by omega) (by omega), fE 101 _ (by omega) (by omega), n3', n4']
            exact ⟨rfl, okn_of (by omega) (by omega)⟩
          · refine uE_s (show s < 5 by omega) ((fE 97 _ (by omega) (by omega)).trans n3') ((fE 101 _ (by omega) (by omega)).trans n4') ((m_z_n (by omega)).trans g141) ?_ (fun a i g1 g2 g3 => ?_)
            · rw [m_z_n (by omega), fK 142 s (by omega), ← z2]
              exact (b.2.2.1.1.2 s (by omega)).2 (by rw [show I (63 + 4) s = I 67 s from rfl, g]; decide)
            · have e1 : m_sa (k_sail I u s n) u s n a i = m_rem (m_z (k_sail I u s n)) u a i := by
                unfold m_sa am_u; rw [if_neg (by omega), if_neg (by omega)]
              rw [e1]; exact m4 a i (by omega) (by omega)
      refine op_mk (T := T) (O := O) (N := N) (u := k_rm u + 1) (q := q) cls (c_sail hk.1.2.2.2.2.1 hs h1 h2 d.1 e84 g141 (by omega)) ?_ km ⟨rfl, rfl⟩ rel r0 r2
      have e : k_bear (k_sail I u s n) 63 (Int32.ofNat s) 8 = m_bear (m_sa (k_sail I u s n) u s n) 0 (N 1) (Int32.ofNat s) := sR_bear n1 rel.2.1.1 (Or.inl rfl)
      rw [e]
    · exact op_same h r0 r2 (d_sail_can hT r0 t hs h1 h2 g (by omega)) (c_sail_can tk hs h1 h2 (by rw [← z1]; exact g) (by omega)) rfl kM_z tM_z
  · exact op_same h r0 r2 (d_sail_no hT r0 c (by omega)) (c_sail_no (by rw [tk.2.1.2.2.1, ← t.2.1.2.1]; exact c) (by omega)) rfl kM_z tM_z
