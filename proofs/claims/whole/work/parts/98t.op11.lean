/-! Calls alike (eleven): mend, undo, feed. -/
theorem op_mend (x : Int32) : OPok 120 243 [.int x] := by
  rintro I J R ⟨T, O, N, u, q, h, r0, r2⟩
  obtain ⟨hT, _⟩ := rA_hT h.1
  obtain ⟨t, m0, l0⟩ := rA_ctk h.1
  have tk := h.1.2.2.2.2.1
  have n1 := t.1.1
  have n5 := t.1.2.1
  have b := h.2.1
  have d := h.2.2.2.1
  by_cases c : ¬ x < 0 ∧ x < I (T + 5) 1
  · obtain ⟨r, hr, rfl⟩ := am_oneN t.2.1.1 (by omega) c
    obtain ⟨y1, y2, y3, y4⟩ := rB_r b (show r < 8 by omega)
    have y3 := y3.resolve_left (fun z => by have := z.1; omega)
    have o : okn (I 64 r) 4 := (b.2.2.1.1.1 r (by omega)).1
    have hw : ¬ I 66 r = Int32.ofInt (-1) → okn (I 66 r) 5 := fun z => y4.resolve_left z
    have hw2 : ∀ K : hI, K 140 r = I 140 r → ¬ K 140 r < 0 → okn (K 140 r) 5 := fun K e z => by
      rw [e, ← y3] at z ⊢
      exact hw (fun y => z ((am_neg1 y4).mpr y))
    have st : (I 64 r = Int32.ofNat 1 ∨ I 64 r = Int32.ofNat 2) ↔ ¬ (I 138 r = 0 ∨ I 138 r = Int32.ofNat 3) := by
      rw [← y1]
      have o2 := o.2
      constructor
      · intro g
        rcases g with g | g <;> (rw [g]; decide)
      · intro g
        have : nn (I 64 r) = 0 ∨ nn (I 64 r) = 1 ∨ nn (I 64 r) = 2 ∨ nn (I 64 r) = 3 := by omega
        rcases this with z | z | z | z
        · exact absurd (Or.inl (by rw [o.1, z]; rfl)) g
        · left; rw [o.1, z]
        · right; rw [o.1, z]
        · exact absurd (Or.inr (by rw [o.1, z])) g
    have ah : k_ah I r ↔ ¬ (¬ I 140 r < 0 ∧ ¬ I 141 (nn (I 140 r)) = 0) := by
      constructor
      · intro g z
        rcases g with g | g
        · exact z.1 (by rw [← y3]; exact (am_neg1 y4).mpr g)
        · have g1 : ¬ I 66 r = Int32.ofInt (-1) := fun w => z.1 (by rw [← y3]; exact (am_neg1 y4).mpr w)
          exact z.2 (by rw [← y3, ← (rB_s b (hw g1).2).1]; exact g)
      · intro g
        by_cases z : I 66 r = Int32.ofInt (-1)
        · exact Or.inl z
        · refine Or.inr (Decidable.byContradiction fun w => g ⟨fun v => z ((am_neg1 y4).mp (by rw [y3]; exact v)), fun v => w ?_⟩)
          rw [(rB_s b (hw z).2).1, y3]; exact v
    by_cases g : k_meOK I r
    · obtain ⟨nf1, nf2, nf3, nf4, nf5, nf6, nf7⟩ := nr_f (I := I) (r := r) d.1
      have gA : ∀ a i, a ≠ 84 → k_me0 I T u r a i = k_nr I 63 u r a i := fun a i g => congrFun (k_db_n a g) i
      have fA : ∀ a i, (a < 96 ∨ 101 < a) → a ≠ 84 → k_me0 I T u r a i = I a i := fun a i g1 g2 => (gA a i g2).trans (nf7 a i g1)
      have t84 := k_db84 (k_nr I 63 u r) T (Int32.ofNat 1)
      have fB : ∀ a i, (a < 96 ∨ 101 < a) → a ≠ 84 → a ≠ 64 → a ≠ 65 → k_meI I J T u r (N 4) a i = I a i := fun a i g1 g2 g3 g4 => (am_u_na g3).trans ((am_u_na g4).trans (fA a i g1 g2))
      have fE : ∀ a i, 96 ≤ a → a ≤ 101 → k_meI I J T u r (N 4) a i = k_nr I 63 u r a i := fun a i g1 g2 => (am_u_na (by omega)).trans ((am_u_na (by omega)).trans (gA a i (by omega)))
      have jj : ∀ a i, a ≠ 85 → a ≠ 86 → (k_tw (k_me0 I T u r) J T 63 r (N 4)).2 a i = J a i := fun a i g1 g2 => jF_tw a i g1 g2
      have cls := d_mend (k := 20) (J := J) hT r0 t hr d.1 d.2.1 hw g (by omega)
      have hk : REL T O N u q I J (k_meI I J T u r (N 4)) (k_tw (k_me0 I T u r) J T 63 r (N 4)).2 := REL_cc h (fun _ _ _ => rfl) (fun a i g => fB a i (by omega) (by omega) (by omega) (by omega)) rfl rfl (jj _ _ (by decide) (by decide)) (jj _ _ (by decide) (by decide))
      have kmeI : k_meI I J T u r (N 4) = am_u (am_u (k_me0 I T u r) 65 r (k_cut (k_tw (k_me0 I T u r) J T 63 r (N 4)).1 (Int32.ofNat 999) (k_mkP (k_me0 I T u r) T r))) 64 r (Int32.ofNat 1) := rfl
      have fK : ∀ a i, 110 ≤ a → k_meI I J T u r (N 4) a i = I a i := fun a i g => fB a i (by omega) (by omega) (by omega) (by omega)
      have hq : hQ T N (k_me0 I T u r) := rA_hQ h.1 (fun a i g1 g2 => fA a i (by omega) (by omega)) t84.2.2.2.2.2.1 t84.2.2.2.2.2.2.1
      revert cls hk kmeI fK fB fE
      generalize hB : k_meI I J T u r (N 4) = B
      generalize hLJ : (k_tw (k_me0 I T u r) J T 63 r (N 4)).2 = L at *
      intro fB fE cls hk kmeI fK
      have dd := hk.2.2.2.1
      have e84 := dd.2.2.1
      have zt : ∀ a i, a ≠ 110 → m_pt (m_z B) a i = B a i := fun a i g => (congrFun (m_pt_n a g) i).trans (am_u_na g)
      have z84 : m_pt (m_z B) 110 84 = B 110 84 := (tM_pt.2 110 84 (by omega) (by omega)).trans (m_z_n (by omega))
      obtain ⟨m1, m2, m3, m4⟩ := rem_f (K := m_pt (m_z B)) dd.1 (z84.trans e84)
      have gM : ∀ a j, a ≠ 152 → a ≠ 110 → m_me0 B u a j = B a j := fun a j g1 g2 => (m4 a j g1 (by omega)).trans (zt a j g2)
      obtain ⟨u4, u5, u6, u7, u8, u9, u10, u11, u12⟩ := m_pt110 (m_z B)
      have k110 : ∀ j, j ≠ 84 → m_me0 B u 110 j = m_pt (m_z B) 110 j := fun j g => m4 110 j (by decide) (by omega)
      have a := hk.1
      have ck : cR (Int32.ofInt (-1)) T N (k_me0 I T u r) (m_me0 B u) := by
        refine cR_pl (b := Int32.ofNat 1) (Or.inr rfl) ?_ ?_ ?_ t84.1 ?_ t84.2.2.1 t84.2.2.2.1 t84.2.2.2.2.1 t84.2.2.2.2.2.1 (by rw [show k_me0 I T u r 84 11 = _ from t84.2.2.2.2.2.2.1, k110 70 (by decide)]; exact u10.symm) (by rw [show k_me0 I T u r 84 12 = _ from t84.2.2.2.2.2.2.2, k110 71 (by decide)]; exact u11.symm) (by rw [if_neg (by decide), k110 64 (by decide)]; exact u4) ((k110 65 (by decide)).trans u5) ((k110 66 (by decide)).trans u6) ((k110 67 (by decide)).trans u7) ((k110 68 (by decide)).trans u8) ((k110 69 (by decide)).trans u9) ((k110 72 (by decide)).trans u12)
        · rw [fA T 16 (by omega) (by omega), gM 114 0 (by decide) (by decide)]; exact a.2.2.2.2.2.1.2.2.2.2.2.1
        · rw [fA T 16 (by omega) (by omega)]; exact a.2.2.1.2.2.2.2.2
        · intro v hv
          rw [gM 125 v (by decide) (by decide), ← (a.2.2.2.2.2.1.2.2.2.2.1 v hv).1]
          exact okn_mono (a.2.2.1.2.2.2.2.1 v hv).1 a.2.1.1.2.2.1
        · refine t84.2.1.trans ?_
          unfold k_pst
          rw [fA T 16 (by omega) (by omega), nf7 T 16 (by omega)]
      have dA : dR (Int32.ofInt (-1)) T N (k_me0 I T u r) (m_me0 B u) := dR_of a (fun a i g1 g2 => fA a i (by omega) (by omega)) (fun a i g1 g2 => gM a i (by omega) (by omega)) ck
      have sA : sR 63 0 (Int32.ofInt (-1)) N (k_me0 I T u r) (m_me0 B u) := sR_c (fun a i g1 g2 => fA a i (by omega) (by omega)) (fun a i g1 g2 => gM a i (by omega) (by omega)) hk.2.1.1
      have tw := tw_eq (J := J) (L := L) hT (Or.inl rfl) dA sA hr (Or.inl rfl)
      have ov : okn (m_tw (m_me0 B u) L 0 (N 1) r) 1000 := by
        rw [← tw]
        refine cut_ok (by omega) ?_
        obtain ⟨w1, w2, w3, w4⟩ := hq.2.1.1 r hr
        have oe := hq.2.2 _ w1.2
        have h2 := w2.1.2
        have h3 := oe.2
        unfold k_mkP
        rw [oe.1, w2.1.1, ← Int32.ofNat_mul, ← Int32.ofNat_add]
        exact okn_of (by omega) (by omega)
      rw [tw] at kmeI
      have e8 : 8 * 0 + r = r := by omega
      have hM : m_meI B L u (N 1) r = am_u (am_u (m_twI (m_me0 B u) L 0 (N 1) r) 139 (8 * 0 + r) (m_tw (m_me0 B u) L 0 (N 1) r)) 138 (8 * 0 + r) (Int32.ofNat 1) := rfl
      rw [e8] at hM
      generalize m_tw (m_me0 B u) L 0 (N 1) r = V at kmeI ov hM
      have ft : ∀ a i, a ≠ 110 → m_twI (m_me0 B u) L 0 (N 1) r a i = m_me0 B u a i := fun a i g => by
        refine (am_u_na g).trans ?_
        unfold m_blI
        split
        · exact am_u_na g
        · exact (am_u_na g).trans (am_u_na g)
      have fM : ∀ a j, a ≠ 152 → a ≠ 138 → a ≠ 139 → ¬ (a = 110 ∧ (j = 2 ∨ j = 53 ∨ (63 ≤ j ∧ j ≤ 72) ∨ j = 84)) → m_meI B L u (N 1) r a j = B a j := fun a j g1 g2 g3 g4 => by
        by_cases ga : a = 110
        · subst ga
          have e1 : m_meI B L u (N 1) r 110 j = m_me0 B u 110 j := simF_mk 110 j (by omega) (by omega)
          rw [e1, k110 j (by omega), tM_pt.2 110 j (by omega) (by omega)]; exact m_z_n (by omega)
        · rw [hM, am_u_na g2, am_u_na g3, ft a j ga]; exact gM a j g1 ga
      have f152 : ∀ j, m_meI B L u (N 1) r 152 j = m_rem (m_pt (m_z B)) u 152 j := fun j => by
        rw [hM, am_u_na (by decide), am_u_na (by decide), ft 152 j (by decide)]; rfl
      have f84 : m_meI B L u (N 1) r 110 84 = m_rem (m_pt (m_z B)) u 110 84 := simF_mk 110 84 (by omega) (by omega)
      have jm : ∀ a i, a ≠ 136 → a ≠ 137 → m_twJ (m_me0 B u) L 0 (N 1) r a i = L a i := fun a i g1 g2 => jG_tr jG_lay jG_blJ a i g1 g2
      have g2 : ¬ m_meP B r := by
        unfold m_meP
        rw [fK 138 r (by omega), fK 140 r (by omega), fK 141 _ (by omega)]
        intro z
        rcases z with z | z | z
        · exact st.mp g.1 (Or.inl z)
        · exact st.mp g.1 (Or.inr z)
        · exact ah.mp g.2 z
      have jL : ∀ a i, a ≠ 85 → a ≠ 86 → L a i = J a i := jj
      refine op_mk (T := T) (O := O) (N := N) (u := k_rm u + 1) (q := q) cls (c_mend hk.1.2.2.2.2.1 hr d.1 e84 (hw2 B (fK 140 r (by omega))) g2 (by omega)) ?_ (fun a i g => fM a i (by omega) (by omega) (by omega) (by omega)) ⟨jm _ _ (by decide) (by decide), jm _ _ (by decide) (by decide)⟩ ?_ ((am_u_na (by decide)).trans r0) ((am_u_na (by decide)).trans r2)
      · have e1 : B 65 r = V := by rw [kmeI, am_u_na (by decide), am_u_at]
        have e2 : m_meI B L u (N 1) r 139 r = V := by rw [hM, am_u_na (by decide), am_u_at]
        rw [e1, e2]
      · obtain ⟨_, b2, cc, _, e, gg, f⟩ := hk
        refine ⟨rA_c (fun a i x y => fB a i (by omega) (by omega) (by omega) (by omega)) (fun a i x => fM a i (by omega) (by omega) (by omega) (by omega)) a, ⟨?_, ?_, ⟨?_, ?_⟩, ?_⟩, rC_c (fun a i x => fB a i (by omega) (by omega) (by omega) (by omega)) (fun a i x => fM a i (by omega) (by omega) (by omega) (by omega)) (jL _ _ (by decide) (by decide)) (jm _ _ (by decide) (by decide)) cc, ?_, rE_c (fun a i x y => fB a i (by omega) (by omega) (by omega) (by omega)) (fun a i x => fM a i (by omega) (by omega) (by omega) (by omega)) e, rG_c (fun a i x => fB a i (by omega) (by omega) (by omega) (by omega)) (fun a i x => fM a i (by omega) (by omega) (by omega) (by omega)) gg, rF_c a (fun a i x => fB a i (by omega) (by omega) (by omega) (by omega)) (fun a i x => fM a i (by omega) (by omega) (by omega) (by omega)) f⟩
        · have s1 : sR 63 0 (Int32.ofInt (-1)) N (k_me0 I T u r) (m_twI (m_me0 B u) L 0 (N 1) r) := sR_c (fun _ _ _ _ => rfl) (fun a i g1 g2 => ft a i (by omega)) sA
          have s2 := sR_1 (v := Int32.ofNat 1) (sR_2 (v := V) s1 hr) hr
          rw [e8] at s2
          rw [hM]
          exact sR_c (fun a i _ _ => by rw [kmeI]) (fun _ _ _ _ => rfl) s2
        · rw [jL 63 1 (by decide) (by decide), jm 110 62 (by decide) (by decide)]; exact b2.2.1
        · rw [kmeI]
          refine hL_1 (S := 63) (hL_2 (S := 63) ?_ ov) (okn_of (by omega) (by omega))
          exact hL0_c (fun a i g1 g2 => fA a i (by omega) (by omega)) b.2.2.1.1
        · rw [fB 63 0 (by omega) (by omega) (by omega) (by omega)]; exact b.2.2.1.2
        · refine b.2.2.2.imp id (fun g r' h1 h2 => ?_)
          rw [show B (63 + 3) r' = I 66 r' from fB 66 r' (by omega) (by omega) (by omega) (by omega)]; exact g r' h1 h2
        · have dz : rD N u I (m_pt (m_z B)) := rD_c (fun _ _ _ _ => rfl) (fun a i x => by
            rcases x with x | x | x
            · exact zt a i (by omega)
            · exact zt a i (by omega)
            · obtain ⟨rfl, rfl⟩ := x; exact z84) dd
          refine rD_push dz (fun a g1 g2 i hi => (fE a i (by omega) g2).trans (nf1 a g1 g2 i hi)) ((fE 96 0 (by omega) (by omega)).trans nf2) (fun i hi j hj => (f152 _).trans (m1 i hi j hj)) (fun j hj => (f152 _).trans (m2 j hj)) (f84.trans m3) (Or.inr ?_) ?_
          · rw [fE 97 _ (by omega) (by omega), fE 98 _ (by omega) (by omega), fE 99 _ (by omega) (by omega), fE 100 _ (by omega) (by omega), nf3, nf4, nf5, nf6]
            exact ⟨okn_of (by omega) (by omega), by rw [nn_ofNat (by omega)]; exact hr, y4, b.2.2.1.1.1 r (by omega)⟩
          · refine uE_r (show r < 8 by omega) ((fE 97 _ (by omega) (by omega)).trans nf3) ?_ ?_ ?_ (fun a i g1 g2 g3 => ?_)
            · rw [fE 98 _ (by omega) (by omega), nf4, zt 138 r (by decide), fK 138 r (by omega)]; exact y1
            · rw [fE 99 _ (by omega) (by omega), nf5, zt 139 r (by decide), fK 139 r (by omega)]; exact y2
            · rw [fE 100 _ (by omega) (by omega), nf6, zt 140 r (by decide), fK 140 r (by omega)]; exact y3
            · have e1 : m_meI B L u (N 1) r a i = m_me0 B u a i := by
                rw [hM]
                unfold am_u
                rw [if_neg (by omega), if_neg (by omega)]; exact ft a i (by omega)
              rw [e1]; exact m4 a i (by omega) (by omega)
    · have g2 : m_meP I r := by
        unfold m_meP
        by_cases z : I 138 r = 0 ∨ I 138 r = Int32.ofNat 3
        · rcases z with z | z
          · exact Or.inl z
          · exact Or.inr (Or.inl z)
        · by_cases w : ¬ I 140 r < 0 ∧ ¬ I 141 (nn (I 140 r)) = 0
          · exact Or.inr (Or.inr w)
          · exact absurd ⟨st.mpr z, ah.mpr w⟩ g
      exact op_same h r0 r2 (d_mend_can hT r0 t hr hw g (by omega)) (c_mend_can tk hr (hw2 I rfl) g2 (by omega)) rfl kM_z tM_z
  · exact op_same h r0 r2 (d_mend_no hT r0 c (by omega)) (c_mend_no (by rw [tk.2.1.2.1, ← t.2.1.1]; exact c) (by omega)) rfl kM_z tM_z
/-- one change undone: what the class brings back is what the reference remembers -/
theorem op_undo : OPok 155 282 [] := by
  rintro I J R ⟨T, O, N, u, q, h, r0, r2⟩
  have b := h.2.1
  obtain ⟨d1, d2, d3, d4⟩ := h.2.2.2.1
  by_cases c : u = 0
  · subst c
    exact op_same h r0 r2 (d_undo_no d2 (by omega)) (c_undo_no d3 (by omega)) rfl kM_z tM_z
  · obtain ⟨w, rfl⟩ : ∃ w, u = w + 1 := ⟨u - 1, by omega⟩
    obtain ⟨ev, eu⟩ := d4 w (by omega)
    have hn := h.1.2.1.1.2.1
    -- the reference's heap behind the class's call
    have go : ∀ (I1 : hI), (∀ a i, (a < 63 ∨ 69 < a) → a ≠ 96 → I1 a i = I a i) → I1 63 = I 63 → I1 69 = I 69 → I1 96 0 = Int32.ofNat w → (∀ r, r < 8 → I1 64 r = uE I w r (I 64 r) ∧ I1 65 r = uE I w (8 + r) (I 65 r) ∧ I1 66 r = uE I w (16 + r) (I 66 r)) → (∀ s, s < 5 → I1 67 s = uE I w (24 + s) (I 67 s) ∧ I1 68 s = uE I w (29 + s) (I 68 s)) → hL0 63 I1 → (∀ r, r < 8 → (I1 66 r = Int32.ofInt (-1) ∨ okn (I1 66 r) 5) ∧ (N 1 ≤ r → I1 64 r = I 64 r ∧ I1 66 r = I 66 r)) → ct 20 155 [.ref 0] I J R (some (.int (Int32.ofNat w))) I1 J R → ∃ v I1 J1 R1 I2 J2, ct 20 155 (.ref 0 :: []) I J R (some v) I1 J1 R1 ∧ ct 20 282 (.ref 110 :: []) I1 J1 R1 (some v) I2 J2 R1 ∧ INV I2 J2 R1 := by
      intro I1 fC f63 f69 f96 fr fs fl fw cls
      have hk : REL T O N (w + 1) q I J I1 J := REL_cc h (fun _ _ _ => rfl) (fun a i g => fC a i (by omega) (by omega)) rfl rfl rfl rfl
      have dd := hk.2.2.2.1
      obtain ⟨p1, p2, p3⟩ := m_bb_f (A := 152) (i := 34 * w) (by omega) (am_u (m_z I1) 110 84 (Int32.ofNat w))
      have hM : m_un I1 (w + 1) = m_bb 152 (34 * w) (am_u (m_z I1) 110 84 (Int32.ofNat w)) := rfl
      have z : ∀ a j, ¬ (a = 110 ∧ (j = 84 ∨ j = 2)) → am_u (m_z I1) 110 84 (Int32.ofNat w) a j = I1 a j := fun a j g => by
        unfold m_z am_u; rw [if_neg (by omega), if_neg (by omega)]
      have fM : ∀ a j, (a < 138 ∨ 142 < a) → ¬ (a = 110 ∧ (j = 84 ∨ j = 2)) → m_un I1 (w + 1) a j = I1 a j := fun a j g1 g2 => by
        rw [hM, p3 a j g1]; exact z a j g2
      have f84 : m_un I1 (w + 1) 110 84 = Int32.ofNat w := by rw [hM, p3 110 84 (by omega)]; exact am_u_at
      have K152 : ∀ j, j < 34 → I1 152 (34 * w + j) = uE I w j (cu I1 j) := fun j hj => by
        have e := (dd.2.2.2 w (by omega)).2 j hj
        unfold sq at e
        rw [if_pos (by omega), if_neg (by omega)] at e
        exact e
      have cI : ∀ j, j < 34 → cu I1 j = cu I j := fun j hj => cu_c (fun a i g1 g2 => fC a i (by omega) (by omega)) j
      have nr : ∀ r, r < 8 → m_un I1 (w + 1) 138 r = I1 64 r ∧ m_un I1 (w + 1) 139 r = I1 65 r ∧ (n0 N ∨ m_un I1 (w + 1) 140 r = I1 66 r) := fun r hr => by
        obtain ⟨y1, y2, y3, _⟩ := rB_r b hr
        rw [hM, (p1 r hr).1, (p1 r hr).2.1, (p1 r hr).2.2, z 152 _ (by omega), z 152 _ (by omega), z 152 _ (by omega), Nat.add_assoc, Nat.add_assoc, K152 r (by omega), K152 (8 + r) (by omega), K152 (16 + r) (by omega), cI r (by omega), cI (8 + r) (by omega), cI (16 + r) (by omega), (fr r hr).1, (fr r hr).2.1, (fr r hr).2.2]
        unfold cu
        rw [if_pos hr, if_neg (show ¬ 8 + r < 8 by omega), if_pos (show 8 + r < 16 by omega), if_neg (show ¬ 16 + r < 8 by omega), if_neg (show ¬ 16 + r < 16 by omega), if_pos (show 16 + r < 24 by omega), show 8 + r - 8 = r by omega, show 16 + r - 16 = r by omega, y1, y2]
        exact ⟨rfl, rfl, y3.imp id (fun y3 => by rw [y3])⟩
      have ns : ∀ s, s < 5 → m_un I1 (w + 1) 141 s = I1 67 s ∧ m_un I1 (w + 1) 142 s = I1 68 s := fun s hs => by
        obtain ⟨y1, y2, y3⟩ := rB_s b hs
        rw [hM, (p2 s hs).1, (p2 s hs).2, z 152 _ (by omega), z 152 _ (by omega), Nat.add_assoc, Nat.add_assoc, K152 (24 + s) (by omega), K152 (29 + s) (by omega), cI (24 + s) (by omega), cI (29 + s) (by omega), (fs s hs).1, (fs s hs).2]
        unfold cu
        rw [if_neg (show ¬ 24 + s < 8 by omega), if_neg (show ¬ 24 + s < 16 by omega), if_neg (show ¬ 24 + s < 24 by omega), if_pos (show 24 + s < 29 by omega), if_neg (show ¬ 29 + s < 8 by omega), if_neg (show ¬ 29 + s < 16 by omega), if_neg (show ¬ 29 + s < 24 by omega), if_neg (show ¬ 29 + s < 29 by omega), show 24 + s - 24 = s by omega, show 29 + s - 29 = s by omega, y1, y2]
        exact ⟨rfl, rfl⟩
      have cu1 : ∀ j, j < 34 → cu (m_un I1 (w + 1)) j = I1 152 (34 * w + j) := fun j hj => by
        unfold cu
        by_cases c1 : j < 8
        · rw [if_pos c1, hM, (p1 j c1).1]; exact z _ _ (by omega)
        · rw [if_neg c1]
          by_cases c2 : j < 16
          · rw [if_pos c2, hM, (p1 (j - 8) (by omega)).2.1, show 34 * w + 8 + (j - 8) = 34 * w + j by omega]; exact z _ _ (by omega)
          · rw [if_neg c2]
            by_cases c3 : j < 24
            · rw [if_pos c3, hM, (p1 (j - 16) (by omega)).2.2, show 34 * w + 16 + (j - 16) = 34 * w + j by omega]; exact z _ _ (by omega)
            · rw [if_neg c3]
              by_cases c4 : j < 29
              · rw [if_pos c4, hM, (p2 (j - 24) (by omega)).1, show 34 * w + 24 + (j - 24) = 34 * w + j by omega]; exact z _ _ (by omega)
              · rw [if_neg c4, hM, (p2 (j - 29) (by omega)).2, show 34 * w + 29 + (j - 29) = 34 * w + j by omega]; exact z _ _ (by omega)
      refine op_mk (T := T) (O := O) (N := N) (u := w) (q := q) cls (c_undo (u := w + 1) (by omega) d1 dd.2.2.1 (by omega)) (by rw [f84]) (fun a i g => fM a i (by omega) (by omega)) ⟨rfl, rfl⟩ ?_ r0 r2
      obtain ⟨a, b2, cc, _, e, gg, f⟩ := hk
      refine ⟨rA_c (fun a i x y => fC a i (by omega) (by omega)) (fun a i x => fM a i (by omega) (by omega)) a, ⟨⟨?_, fun r hr => ?_, fun s hs _ => ?_, fun _ => ?_⟩, b2.2.1, ⟨fl, ?_⟩, b.2.2.2.imp id (fun g r h1 h2 => ?_)⟩, rC_c (fun a i x => fC a i (by omega) (by omega)) (fun a i x => fM a i (by omega) (by omega)) rfl rfl cc, ⟨by omega, f96, f84, fun i hi => ?_⟩, rE_c (fun a i x y => fC a i (by omega) (by omega)) (fun a i x => fM a i (by omega) (by omega)) e, rG_c (fun a i x => fC a i (by omega) (by omega)) (fun a i x => fM a i (by omega) (by omega)) gg, rF_c a (fun a i x => fC a i (by omega) (by omega)) (fun a i x => fM a i (by omega) (by omega)) f⟩
      · rw [f63, fM 145 0 (by omega) (by omega)]; exact b2.1.1
      · rw [show 8 * 0 + r = r by omega, (nr r hr).1, (nr r hr).2.1]
        refine ⟨(nr r hr).2.2.imp id Eq.symm, (fw r hr).1, fun _ => ⟨rfl, rfl⟩, fun z => ?_⟩
        exact ((fw r hr).2 z).1.trans ((b.1.2.1 r hr).2.2.2 z)
      · rw [show 5 * 0 + s = s by omega, (ns s hs).1, (ns s hs).2, fM 143 s (by omega) (by omega)]
        refine ⟨rfl, rfl, ?_⟩
        rw [show I1 (63 + 6) s = I 69 s from congrFun f69 s]
        exact (rB_s b2 hs).2.2
      · rw [f63, fM 144 0 (by omega) (by omega)]; exact b2.1.2.2.2 rfl
      · rw [f63]; exact b.2.2.1.2
      · exact ((fw r h2).2 h1).2.trans (g r h1 h2)
      · have h0 := dd.2.2.2 i (by omega)
        have ent : ∀ a, 97 ≤ a → a ≤ 101 → I1 a i = I a i := fun a g1 g2 => fC a i (by omega) (by omega)
        have e1 : ∀ j, j < 34 → sq (m_un I1 (w + 1)) w i j = sq I1 (w + 1) i j := fun j hj => by
          unfold sq
          rw [if_pos hi, if_pos (by omega)]; exact fM 152 _ (by omega) (by omega)
        have e2 : ∀ j, j < 34 → sq (m_un I1 (w + 1)) w (i + 1) j = sq I1 (w + 1) (i + 1) j := fun j hj => by
          unfold sq
          rw [if_pos (show i + 1 < w + 1 by omega)]
          by_cases g : i + 1 < w
          · rw [if_pos g]; exact fM 152 _ (by omega) (by omega)
          · rw [if_neg g, show i + 1 = w by omega]; exact cu1 j hj
        have e3 : ∀ j x, uE I1 i j x = uE I i j x := fun j x => by
          unfold uE
          rw [ent 97 (by omega) (by omega), ent 98 (by omega) (by omega), ent 99 (by omega) (by omega), ent 100 (by omega) (by omega), ent 101 (by omega) (by omega)]
        rw [ent 97 (by omega) (by omega), ent 98 (by omega) (by omega), ent 99 (by omega) (by omega), ent 100 (by omega) (by omega), ent 101 (by omega) (by omega)]
        exact ⟨h0.1, fun j hj => by rw [e1 j hj, e2 j hj, e3]; exact h0.2 j hj⟩
    rcases ev with ⟨e97, e101⟩ | ⟨e97, hrN, e100, e98, e99⟩
    · have e1 := e101.1
      have e2 := e101.2
      generalize hs : nn (I 101 w) = s at e1 e2
      have cl := d_undo_S (k := 20) (J := J) (R := R) (by omega) e2 d2 e97 e1 (by omega)
      have uES : ∀ j x, uE I w j x = if j = 24 + s ∨ j = 29 + s then 0 else x := fun j x => by
        unfold uE; rw [if_pos e97, hs]
      have fC : ∀ a i, a ≠ 96 → a ≠ 67 → a ≠ 68 → k_unS I 63 w s a i = I a i := fun a i g1 g2 g3 => (am_u_na g3).trans ((am_u_na g2).trans (am_u_na g1))
      refine go (k_unS I 63 w s) (fun a i g1 g2 => fC a i g2 (by omega) (by omega)) (funext fun i => fC 63 i (by decide) (by decide) (by decide)) (funext fun i => fC 69 i (by decide) (by decide) (by decide)) ?_ (fun r hr => ?_) (fun s' hs' => ?_) ?_ (fun r hr => ?_) cl
      · unfold k_unS
        rw [am_u_na (by decide), am_u_na (by decide), am_u_at]
      · rw [fC 64 r (by decide) (by decide) (by decide), fC 65 r (by decide) (by decide) (by decide), fC 66 r (by decide) (by decide) (by decide), uES, uES, uES, if_neg (by omega), if_neg (by omega), if_neg (by omega)]
        exact ⟨rfl, rfl, rfl⟩
      · rw [uES, uES]
        by_cases g : s' = s
        · subst g
          rw [if_pos (Or.inl rfl), if_pos (Or.inr rfl)]
          unfold k_unS
          refine ⟨?_, ?_⟩
          · rw [am_u_na (by decide), am_u_at]; rfl
          · exact am_u_at
        · rw [if_neg (by omega), if_neg (by omega)]
          unfold k_unS
          rw [am_u_nk g, am_u_nk g, am_u_na (by decide), am_u_nk g, am_u_nk g, am_u_na (by decide)]
          exact ⟨rfl, rfl⟩
      · exact hL_45 (S := 63) (hL_n (S := 63) b.2.2.1.1 (by omega)) (okn_of (by omega) (by omega)) (fun _ => rfl)
      · rw [fC 66 r (by decide) (by decide) (by decide), fC 64 r (by decide) (by decide) (by decide)]
        exact ⟨(rB_r b hr).2.2.2, fun _ => ⟨rfl, rfl⟩⟩
    · have e1 := e97.1
      have e2 := e97.2
      generalize hs : nn (I 97 w) = r0' at e1 e2 hrN
      have cl := d_undo_R (k := 20) (J := J) (R := R) (by omega) e2 d2 e1 (by omega)
      have nm1 : ¬ I 97 w = Int32.ofInt (-1) := okn_n1 e97 (by omega)
      have uER : ∀ j x, uE I w j x = if j = r0' then I 98 w else if j = 8 + r0' then I 99 w else if j = 16 + r0' then I 100 w else x := fun j x => by
        unfold uE; rw [if_neg nm1, hs]
      have fC : ∀ a i, a ≠ 96 → a ≠ 64 → a ≠ 65 → a ≠ 66 → k_unR I 63 w r0' a i = I a i := fun a i g1 g2 g3 g4 => (am_u_na g4).trans ((am_u_na g3).trans ((am_u_na g2).trans (am_u_na g1)))
      have v64 : ∀ r, k_unR I 63 w r0' 64 r = if r = r0' then I 98 w else I 64 r := fun r => by
        unfold k_unR
        rw [am_u_na (by decide), am_u_na (by decide)]
        by_cases g : r = r0'
        · rw [if_pos g, g]; exact am_u_at
        · rw [if_neg g, am_u_nk g, am_u_na (by decide)]
      have v65 : ∀ r, k_unR I 63 w r0' 65 r = if r = r0' then I 99 w else I 65 r := fun r => by
        unfold k_unR
        rw [am_u_na (by decide)]
        by_cases g : r = r0'
        · rw [if_pos g, g]; exact am_u_at
        · rw [if_neg g, am_u_nk g, am_u_nk g, am_u_na (by decide)]
      have v66 : ∀ r, k_unR I 63 w r0' 66 r = if r = r0' then I 100 w else I 66 r := fun r => by
        unfold k_unR
        by_cases g : r = r0'
        · rw [if_pos g, g]; exact am_u_at
        · rw [if_neg g, am_u_nk g, am_u_nk g, am_u_nk g, am_u_na (by decide)]
      refine go (k_unR I 63 w r0') (fun a i g1 g2 => fC a i g2 (by omega) (by omega) (by omega)) (funext fun i => fC 63 i (by decide) (by decide) (by decide) (by decide)) (funext fun i => fC 69 i (by decide) (by decide) (by decide) (by decide)) ?_ (fun r hr => ?_) (fun s' hs' => ?_) ?_ (fun r hr => ?_) cl
      · unfold k_unR
        rw [am_u_na (by decide), am_u_na (by decide), am_u_na (by decide), am_u_at]
      · rw [v64, v65, v66, uER, uER, uER]
        by_cases g : r = r0'
        · subst g
          rw [if_pos rfl, if_pos rfl, if_pos rfl, if_pos rfl, if_neg (show ¬ 8 + r = r by omega), if_pos rfl, if_neg (show ¬ 16 + r = r by omega), if_neg (show ¬ 16 + r = 8 + r by omega), if_pos rfl]
          exact ⟨rfl, rfl, rfl⟩
        · rw [if_neg g, if_neg g, if_neg g, if_neg g, if_neg (by omega), if_neg (by omega), if_neg (by omega), if_neg (by omega), if_neg (by omega), if_neg (by omega), if_neg (by omega), if_neg (by omega)]
          exact ⟨rfl, rfl, rfl⟩
      · rw [fC 67 s' (by decide) (by decide) (by decide) (by decide), fC 68 s' (by decide) (by decide) (by decide) (by decide), uER, uER, if_neg (by omega), if_neg (by omega), if_neg (by omega), if_neg (by omega), if_neg (by omega), if_neg (by omega)]
        exact ⟨rfl, rfl⟩
      · exact hL_n (S := 63) (hL_2 (S := 63) (hL_1 (S := 63) (hL_n (S := 63) b.2.2.1.1 (by omega)) e98) e99) (by omega)
      · rw [v66, v64]
        refine ⟨?_, fun z => ?_⟩
        · split
          · exact e100
          · exact (rB_r b hr).2.2.2
        · rw [if_neg (by omega), if_neg (by omega)]; exact ⟨rfl, rfl⟩
