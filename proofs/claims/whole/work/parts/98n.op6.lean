/-! Calls alike (six): law, see, strike, known. -/
/-- settings as it goes, on the state itself -/
theorem dR_law {T O : Nat} {N : Nat → Nat} {I K : hI} (a : rA T O N I K) (s : sR 63 0 (Int32.ofInt (-1)) N I K) : dR (Int32.ofInt (-1)) T N (k_db I T (Int32.ofNat 1)) (m_laI K) ∧ sR 63 0 (Int32.ofInt (-1)) N (k_db I T (Int32.ofNat 1)) (m_laI K) ∧ (k_db I T (Int32.ofNat 1) 84 5).toInt64 = (if m_laI K 110 63 = 0 then 0 else 1) ∧ (∀ a i, a ≠ 110 → m_laI K a i = K a i) := by
  obtain ⟨hT, _⟩ := rA_hT a
  obtain ⟨t4, t5, t6, t8, t9, t10, t11, t12⟩ := k_db84 I T (Int32.ofNat 1)
  obtain ⟨u4, u5, u6, u7, u8, u9, u10, u11, u12⟩ := m_pt110 (m_z K)
  have g0 : ∀ a i, a ≠ 84 → k_db I T (Int32.ofNat 1) a i = I a i := fun a i h => congrFun (k_db_n a h) i
  have kz : ∀ a i, a ≠ 110 → m_laI K a i = K a i := fun a i h => (congrFun (m_pt_n a h) i).trans (am_u_na h)
  have e16 : I T 16 = K 114 0 := a.2.2.2.2.2.1.2.2.2.2.2.1
  have o16 := a.2.2.1.2.2.2.2.2
  have ck : cR (Int32.ofInt (-1)) T N (k_db I T (Int32.ofNat 1)) (m_laI K) := by
    refine cR_pl (b := Int32.ofNat 1) (Or.inr rfl) ?_ ?_ ?_ t4 ?_ t6 t8 t9 t10 (by rw [t11]; exact u10.symm) (by rw [t12]; exact u11.symm) (by rw [if_neg (by decide)]; exact u4) u5 u6 u7 u8 u9 u12
    · rw [g0 T 16 (by omega), kz 114 0 (by omega)]; exact e16
    · rw [g0 T 16 (by omega)]; exact o16
    · intro v hv
      rw [kz 125 v (by omega), ← (a.2.2.2.2.2.1.2.2.2.2.1 v hv).1]
      exact okn_mono (a.2.2.1.2.2.2.2.1 v hv).1 a.2.1.1.2.2.1
    · rw [t5]
      unfold k_pst
      rw [g0 T 16 (by omega)]
  refine ⟨dR_of a (fun a i u v => g0 a i (by omega)) (fun a i u v => kz a i (by omega)) ck, sR_c (fun a i u v => g0 a i (by omega)) (fun a i u v => kz a i (by omega)) s, ?_, kz⟩
  rw [t5, pst_eq e16 o16 (Or.inr rfl)]
  have e63 : m_laI K 110 63 = (if K 114 0 < Int32.ofNat 50 then Int32.ofNat 0 else Int32.ofNat 1) := by
    unfold m_laI m_pt
    rw [am_u_at, m_z_n (by omega)]
  rw [e63]
  by_cases g : K 114 0 < Int32.ofNat 50
  · rw [if_neg (not_not_intro g), if_pos g]; rfl
  · rw [if_pos g, if_neg g]; rfl
/-- a law's value, asked for -/
theorem law_v {T O w : Nat} {N : Nat → Nat} {I K : hI} (a : rA T O N I K) (hw : w < 3) {I2 : hI} {J L : hJ} (h1 : ∀ a i, T + 18 ≤ a → a ≤ T + 26 → I2 a i = I a i) (n : ¬ K 128 w = 0 → ∀ i, i < 7 → J 85 i = L 136 i ∧ sm6 (L 136 i)) : (K 128 w = 0 → (k_val I2 (T + 18 + 3 * w) (N (4 + w)) 0 0 J).1 = -9223372036854775808) ∧ (¬ K 128 w = 0 → (k_val I2 (T + 18 + 3 * w) (N (4 + w)) 0 0 J).1 = (if (m_ls (m_laI K) L w).1 = 0 then m_law (m_laI K) L w else -9223372036854775808)) := by
  obtain ⟨q1, q2, q3⟩ := a.2.2.2.2.2.2.1 w hw
  refine ⟨fun z => by rw [q2 z]; rfl, fun z => ?_⟩
  exact (q3 z I2 (m_laI K) J L h1 (fun a i u v => (congrFun (m_pt_n a (by omega)) i).trans (am_u_na (by omega))) (n z)).1
theorem tM_laI {K : hI} : tM K (m_laI K) := tM_tr tM_z tM_pt
theorem op_law (x y : Int32) : OPok 116 240 [.int x, .int y] := by
  rintro I J R ⟨T, O, N, u, q, h, r0, r2⟩
  obtain ⟨hT, _⟩ := rA_hT h.1
  obtain ⟨t, m0, l0⟩ := rA_ctk h.1
  have n1 := t.1.1
  have n5 := t.1.2.1
  have t5 : I (T + 5) 1 = I 110 13 := t.2.1.1.trans h.1.2.2.2.2.1.2.1.2.1.symm
  have t11 : I (T + 11) 1 = I 110 14 := t.2.1.2.1.trans h.1.2.2.2.2.1.2.1.2.2.1.symm
  have r0' : (am_u R 84 3 T) 0 3 = T := (am_u_na (by decide)).trans r0
  have r2' : (am_u R 84 3 T) 2 2 = O := (am_u_na (by decide)).trans r2
  have tD : tC I (k_db I T (Int32.ofNat 1)) := fun a i g => congrFun (k_db_n a (by omega)) i
  by_cases c : ((x = Int32.ofNat 0 ∨ x = Int32.ofNat 1) ∧ (¬ y < 0 ∧ y < I (T + 5) 1)) ∨ (x = Int32.ofNat 2 ∧ (¬ y < 0 ∧ y < I (T + 11) 1))
  · -- one law, by its contracts
    have go : ∀ (w i : Nat) (V : Int64) (I1 : hI) (J1 : hJ), w < 3 → x = Int32.ofNat w → y = Int32.ofNat i → (w = 2 → i < N 2) → (¬ w = 2 → i < N 1) → ct 20 116 [.ref 0, .int (Int32.ofNat w), .int (Int32.ofNat i)] I J R (some (.long V)) I1 J1 (am_u R 84 3 T) → tC I I1 → (∀ a i, a ≠ 85 → a ≠ 86 → J1 a i = J a i) → (I1 128 w = 0 → V = -9223372036854775808) → (¬ I1 128 w = 0 → rA T O N I I1 → sR 63 0 (Int32.ofInt (-1)) N I I1 → V = m_la I1 J1 (N 1) w i) → ∃ v I1 J1 R1 I2 J2, ct 20 116 (.ref 0 :: [.int x, .int y]) I J R (some v) I1 J1 R1 ∧ ct 20 240 (.ref 110 :: [.int x, .int y]) I1 J1 R1 (some v) I2 J2 R1 ∧ INV I2 J2 R1 := by
      intro w i V I1 J1 hw ex ey h2 h1 cls tc jj v0 v1
      subst ex ey
      have hk := REL_k h tc (jj _ _ (by decide) (by decide)) (jj _ _ (by decide) (by decide))
      have tk1 := hk.1.2.2.2.2.1
      by_cases z : I1 128 w = 0
      · refine op_mk cls (c_law_no (fun y => y.2.1 (by rw [nn_ofNat (by omega)]; exact z)) (by omega)) (by rw [v0 z]) kM_z ⟨rfl, rfl⟩ (REL_t hk tc tM_z (jj _ _ (by decide) (by decide)) (jj _ _ (by decide) (by decide)) rfl rfl) r0' r2'
      · have tm : tM I1 (am_u (m_laI I1) 110 53 (m_ls (m_laI I1) (m_laJ I1 J1 (N 1) w i) w).1) := tM_tr tM_laI (tM_u (by omega))
        have jm : ∀ a i', a ≠ 136 → a ≠ 137 → (m_ls (m_laI I1) (m_laJ I1 J1 (N 1) w i) w).2 a i' = J1 a i' := fun a i' g1 g2 => by
          refine (jG_lw a i' g1 g2).trans ?_
          unfold m_laJ
          split
          · exact jG_lay a i' g1 g2
          · exact jG_lay a i' g1 g2
        exact op_mk cls (c_law tk1 hw z h2 h1 (by omega)) (by rw [v1 z hk.1 hk.2.1.1]) (kM_tM tm) ⟨jm _ _ (by decide) (by decide), jm _ _ (by decide) (by decide)⟩ (REL_t hk tc tm (jj _ _ (by decide) (by decide)) (jj _ _ (by decide) (by decide)) (jm _ _ (by decide) (by decide)) (jm _ _ (by decide) (by decide))) r0' r2'
    have lT : ∀ a i, T + 18 ≤ a → a ≤ T + 26 → k_db I T (Int32.ofNat 1) a i = I a i := fun a i g1 g2 => congrFun (k_db_n a (by omega)) i
    rcases c with ⟨cx | cx, cy⟩ | ⟨cx, cy⟩
    · obtain ⟨r, hr, ey⟩ := am_oneN t.2.1.1 (by omega) cy
      refine go 0 r _ _ _ (by omega) cx ey (fun z => absurd z (by decide)) (fun _ => hr) (d_law0 hT r0 t hr (by omega)) tD (fun a i g1 g2 => jF_tw a i g1 g2) (fun z => ?_) (fun z a s => ?_)
      · have z' : I 128 0 = 0 := by rw [← z]; exact (congrFun (k_db_n 128 (by decide)) 0).symm
        exact (law_v (w := 0) h.1 (by omega) (L := J) lT (fun g => absurd z' g)).1 z'
      · obtain ⟨d, s1, hz, _⟩ := dR_law a s
        refine (law_v (w := 0) a (by omega) lT (fun g i hi => ?_)).2 z
        have h0 : 0 < k_db I T (Int32.ofNat 1) (T + 18) 0 := ((d.2.2.1 0 (by omega)).1).mpr (by rw [show m_laI (k_db I T (Int32.ofNat 1)) 128 0 = k_db I T (Int32.ofNat 1) 128 0 from (congrFun (m_pt_n 128 (by decide)) 0).trans (am_u_na (by decide))]; exact g)
        have hj : k_twJ (k_db I T (Int32.ofNat 1)) J T 63 r = am_u (k_layR (k_db I T (Int32.ofNat 1)) J T 63 r (k_db I T (Int32.ofNat 1) 84 5)) 85 3 0 := if_pos h0
        rw [hj]
        exact nameT (J := J) (L := _) d s1 hr (Or.inl rfl) hz i hi
    · obtain ⟨r, hr, ey⟩ := am_oneN t.2.1.1 (by omega) cy
      refine go 1 r _ _ _ (by omega) cx ey (fun z => absurd z (by decide)) (fun _ => hr) (d_law1 hT r0 t hr (by omega)) tD (fun a i g1 g2 => jF_we a i g1 g2) (fun z => ?_) (fun z a s => ?_)
      · have z' : I 128 1 = 0 := by rw [← z]; exact (congrFun (k_db_n 128 (by decide)) 1).symm
        exact (law_v (w := 1) h.1 (by omega) (L := J) lT (fun g => absurd z' g)).1 z'
      · obtain ⟨d, s1, hz, kz⟩ := dR_law a s
        refine (law_v (w := 1) a (by omega) lT (fun g i hi => ?_)).2 z
        have h0 : 0 < k_db I T (Int32.ofNat 1) (T + 21) 0 := ((d.2.2.1 1 (by omega)).1).mpr (by rw [show m_laI (k_db I T (Int32.ofNat 1)) 128 1 = k_db I T (Int32.ofNat 1) 128 1 from (congrFun (m_pt_n 128 (by decide)) 1).trans (am_u_na (by decide))]; exact g)
        have hj : k_weJ (k_db I T (Int32.ofNat 1)) J T 63 r (k_db I T (Int32.ofNat 1) 84 5) = k_layR (k_db I T (Int32.ofNat 1)) J T 63 r (k_db I T (Int32.ofNat 1) 84 5) := if_pos h0
        rw [hj]
        have hu : k_db I T (Int32.ofNat 1) (63 + 2) r = m_laI (k_db I T (Int32.ofNat 1)) 139 r := by
          have e := ((s1.2.1 r (by omega)).2.2.1 (Or.inl rfl)).2
          rw [show 8 * 0 + r = r by omega] at e
          exact e
        exact nameR (J := J) (L := _) d s1 hr (Or.inl rfl) hz hu i hi
    · obtain ⟨s, hs, ey⟩ := am_oneN t.2.1.2.1 (by omega) cy
      have pI : tC I (k_puI (k_db I T (Int32.ofNat 1)) T 63 s (N 1)) := tC_tr tD (fun a i g => by
        unfold k_puI
        split
        · exact congrFun (k_mI_ne (by omega)) i
        · rfl)
      refine go 2 s _ _ _ (by omega) cx ey (fun _ => hs) (fun z => absurd rfl z) (d_law2 hT r0 t hs (by omega)) pI (fun a i g1 g2 => jF_pu a i g1 g2) (fun z => ?_) (fun z a ss => ?_)
      · have z' : I 128 2 = 0 := by rw [← z]; exact (pI 128 2 (by omega)).symm
        have ht : ¬ 0 < k_db I T (Int32.ofNat 1) (T + 24) 0 := fun y => ((h.1.2.2.2.2.2.2.1 2 (by omega)).1).mp (by rw [← lT (T + 24) 0 (by omega) (by omega)]; exact y) z'
        unfold k_pu
        rw [if_neg ht]
        exact (law_v (w := 2) h.1 (by omega) (L := J) lT (fun g => absurd z' g)).1 z'
      · obtain ⟨d, s1, hz, kz⟩ := dR_law a ss
        have z' : ¬ I 128 2 = 0 := by rw [← pI 128 2 (by omega)]; exact z
        have ht : 0 < k_db I T (Int32.ofNat 1) (T + 24) 0 := by rw [lT (T + 24) 0 (by omega) (by omega)]; exact ((h.1.2.2.2.2.2.2.1 2 (by omega)).1).mpr z'
        have f : ∀ a, a ≠ 87 → k_mI (k_db I T (Int32.ofNat 1)) T 63 (Int32.ofNat s) (N 1) a = k_db I T (Int32.ofNat 1) a := fun a ha => k_mI_ne ha
        have hp : k_puI (k_db I T (Int32.ofNat 1)) T 63 s (N 1) = k_mI (k_db I T (Int32.ofNat 1)) T 63 (Int32.ofNat s) (N 1) := if_pos ht
        unfold k_pu
        rw [if_pos ht]
        refine (law_v (w := 2) a (by omega) (fun a i g1 g2 => (congrFun (f a (by omega)) i).trans (lT a i g1 g2)) (fun g i hi => ?_)).2 z
        unfold k_puJ m_laJ m_layS
        rw [if_pos rfl, f (T + 13) (by omega), f 63 (by omega)]
        have hb : k_bear (k_mI (k_db I T (Int32.ofNat 1)) T 63 (Int32.ofNat s) (N 1)) 63 (Int32.ofNat s) 8 = m_bear (m_laI (k_puI (k_db I T (Int32.ofNat 1)) T 63 s (N 1))) 0 (N 1) (Int32.ofNat s) := sR_bear n1 (sR_c (fun a i u v => congrFun (f a (by omega)) i) (fun _ _ _ _ => rfl) s1) (Or.inl rfl)
        have hm : k_mood (k_db I T (Int32.ofNat 1)) T 63 (Int32.ofNat s) (N 1) = m_mood (m_laI (k_puI (k_db I T (Int32.ofNat 1)) T 63 s (N 1))) 0 (N 1) (Int32.ofNat s) := by
          refine mood_eq hT (Or.inl rfl) n1 (fun r hr => (s1.2.1 r hr).1.imp_left (fun z => z.1)) (fun r hr e => (s1.2.1 r hr).2.2.1 (Or.inl rfl)) (fun r hr => ?_)
          obtain ⟨e1, e2, e3, e4⟩ := d.1.2.1 r hr
          obtain ⟨y1, y2, y3, y4⟩ := d.2.1.1 r hr
          exact ⟨by rw [(d.1.1 _ y1.2).2.1, e2], e3, d.2.1.2.1 _ (by have := y1.2; omega), y2.1⟩
        exact lay_eq rfl rfl (by rw [hm]) (by rw [(d.1.2.2.2.1 s hs).2]) (by rw [hb]) hz (by rw [s1.1]) ⟨0, rfl⟩ ⟨0, rfl⟩ ⟨_, rfl⟩ ⟨_, rfl⟩ ⟨_, rfl⟩ sm6_01 ⟨_, rfl⟩ i hi
  · refine op_mk (d_law_no hT r0 c (by omega)) (c_law_no (I := k_db I T (Int32.ofNat 1)) (fun z => c ?_) (by omega)) rfl kM_z ⟨rfl, rfl⟩ (REL_t (REL_k h tD rfl rfl) tD tM_z rfl rfl rfl rfl) r0' r2'
    obtain ⟨z1, z2, z3, z4⟩ := z
    obtain ⟨e, f1, f2⟩ := am_btN (by omega) (by omega) z1.1 z1.2
    rw [congrFun (k_db_n 110 (by decide)) 13, ← t5] at z4
    rw [congrFun (k_db_n 110 (by decide)) 14, ← t11] at z3
    by_cases w2 : x = Int32.ofNat 2
    · exact Or.inr ⟨w2, z3 w2⟩
    · refine Or.inl ⟨?_, z4 w2⟩
      have : nn x = 0 ∨ nn x = 1 ∨ nn x = 2 := by omega
      rcases this with g | g | g
      · rw [g] at e; exact Or.inl e
      · rw [g] at e; exact Or.inr e
      · rw [g] at e; exact absurd e w2
