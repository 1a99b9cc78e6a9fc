/-! The law's own rope: calls RopeWalk.rope, answers what it threw. Before it: a heap's shape only grows at its end. -/
def am_gw (h h1 : am_H) : Prop := ∃ t, h1.map am_se = h.map am_se ++ t
theorem am_gw_rf (h : am_H) : am_gw h h := ⟨[], (List.append_nil _).symm⟩
theorem am_gw_tr {h h1 h2 : am_H} (a : am_gw h h1) (b : am_gw h1 h2) : am_gw h h2 := by
  obtain ⟨t, e⟩ := a
  obtain ⟨u, f⟩ := b
  exact ⟨t ++ u, by rw [f, e, List.append_assoc]⟩
theorem am_gw_of {h h1 : am_H} (e : h1.map am_se = h.map am_se) : am_gw h h1 := ⟨[], by rw [e, List.append_nil]⟩
theorem am_gw_eq {h h1 : am_H} (a : am_gw h h1) (e : h1.length = h.length) : h1.map am_se = h.map am_se := by
  obtain ⟨t, z⟩ := a
  have := congrArg List.length z
  rw [List.length_append, List.length_map, List.length_map] at this
  have ht : t = [] := List.eq_nil_of_length_eq_zero (by omega)
  rw [z, ht, List.append_nil]
theorem am_xt_gw {call : am_C} (hm : ∀ mn a h v h1, call mn a h = some (v, h1) → am_gw h h1) {o : Nat} {i : Instr} {st st1 : List Value} {h h1 : am_H} (e : am_xt call o i st h = some (st1, h1)) : am_gw h h1 := by
  rcases am_xt_inv e with rfl | ⟨j, x, y, q, a, v, h2, l, -, -, hc, rfl | ⟨hq, z, rfl⟩⟩
  · exact am_gw_rf _
  · exact hm _ _ _ _ _ hc
  · exact am_gw_tr (hm _ _ _ _ _ hc) (am_gw_of (am_se_set hq (by show (l.set 0 z).length = l.length; rw [List.length_set])))
theorem am_iv_gw {call : am_C} (hm : ∀ mn a h v h1, call mn a h = some (v, h1) → am_gw h h1) {o : Nat} {i : Instr} {st st1 : List Value} {h h1 : am_H} (e : am_iv call o i st h = some (st1, h1)) : am_gw h h1 := by
  rcases am_iv_inv e with ⟨j, a, x, y, -, -, -, -, rfl⟩ | ⟨j, mn, ns, pl, q, a, As, r, v, fs, -, -, -, -, -, -, -, -, -, hc, -, -⟩ | ⟨j, mn, ns, pl, q, a, As, r, v, -, -, -, -, -, -, -, -, hc, -, -⟩ | ⟨j, mn, ns, pl, q, As, r, v, -, -, -, -, -, -, -, -, hc, -, -⟩
  · exact am_gw_rf _
  · exact hm _ _ _ _ _ hc
  · exact hm _ _ _ _ _ hc
  · exact hm _ _ _ _ _ hc
theorem am_step_gw {call : am_C} (hm : ∀ mn a h v h1, call mn a h = some (v, h1) → am_gw h h1) {sc : Option (List Int32)} {o : Nat} {ini : Bool} {rt : Option FieldType} {co : List (List (Nat × Instr × Nat))} {pc pc1 : Nat} {L L1 st st1 : List Value} {h h1 : am_H} (e : am_step call sc o ini rt co pc L st h = some (.inl (pc1, L1, st1, h1))) : am_gw h h1 := by
  obtain ⟨i, w, -, -, hz⟩ := am_step_inv e
  rcases hz with ⟨s1, -, hz⟩ | ⟨a1, s1, -, hz⟩ | ⟨t, s1, -, hz⟩ | ⟨s1, g1, hg, hz⟩ | ⟨v, -, hz⟩ | ⟨s1, g1, hg, hz⟩ | ⟨s1, g1, hg, hz⟩ | ⟨s1, g1, hg, hz⟩ | ⟨s1, -, hz⟩
  · cases hz; exact am_gw_rf _
  · cases hz; exact am_gw_rf _
  · cases hz; exact am_gw_rf _
  · cases hz; exact am_gw_of (am_hw_map hg)
  · cases hz
  · cases hz; exact am_iv_gw hm hg
  · cases hz
    obtain ⟨e0, rfl⟩ := am_mk_app hg
    exact ⟨[am_se e0], by rw [List.map_append]; rfl⟩
  · cases hz; exact am_xt_gw hm hg
  · cases hz; exact am_gw_rf _
theorem am_loop_gw {call : am_C} (hm : ∀ mn a h v h1, call mn a h = some (v, h1) → am_gw h h1) {sc : Option (List Int32)} {o : Nat} {ini : Bool} {rt : Option FieldType} {co : List (List (Nat × Instr × Nat))} : ∀ (n pc : Nat) (L st : List Value) (h : am_H) (v : Option Value) (h1 : am_H), am_loop call sc o ini rt co n pc L st h = some (v, h1) → am_gw h h1 := by
  intro n
  induction n with
  | zero => intro pc L st h v h1 e; cases e
  | succ n ih =>
    intro pc L st h v h1 e
    rcases am_loop_inv e with e | ⟨pc1, L1, st1, h2, e1, e2⟩
    · rw [am_step_end e]; exact am_gw_rf _
    · exact am_gw_tr (am_step_gw hm e1) (ih _ _ _ _ _ _ e2)
theorem am_run_gw : ∀ (d n mn : Nat) (a : List Value) (h : am_H) (v : Option Value) (h1 : am_H), am_run d n mn a h = some (v, h1) → am_gw h h1 := by
  intro d
  induction d with
  | zero => intro n mn a h v h1 e; cases e
  | succ d ih =>
    intro n mn a h v h1 e
    unfold am_run at e
    split at e
    · cases e
    · split at e
      · exact am_loop_gw (fun mn a h v h1 z => ih n mn a h v h1 z) _ _ _ _ _ _ _ e
      · cases e
/-! -/
def am_lrN : MethodName := ⟨"RopeWalkLaw", "rope", "(LRopeWalk;II[J)I"⟩
def am_lrH : List (Nat × Nat × Nat × Nat) := [(0, 10, 13, 13), (0, 10, 17, 15)]
def am_lrC : Cond := Cond.codeWith am_lrN method_3_code 5 (some .int) am_lrH
def am_lrW : List Cond := am_lrC :: am_gd
theorem am_w_lr : am_lrC ∈ am_gd := am_wd_in (p := 1392) (by decide +kernel)
theorem am_w_lrs : Cond.static am_lrN ∈ am_gd := am_wd_in (p := 1391) (by decide +kernel)
theorem am_w_lrl : Cond.methodLink "RopeWalkLaw" 39 am_lrN ∈ am_gd := am_wd_in (p := 1390) (by decide +kernel)
theorem am_w_lri : Cond.initialized "RopeWalkLaw" ∈ am_gd := am_wd_in (p := 134) (by decide +kernel)
theorem am_w_lk1 : Cond.classLink "RopeWalkLaw" 13 am_ioN ∈ am_gd := am_wd_in (p := 1393) (by decide +kernel)
theorem am_w_lk2 : Cond.classLink "RopeWalkLaw" 15 am_nsN ∈ am_gd := am_wd_in (p := 1394) (by decide +kernel)
theorem am_w_lrp : Cond.methodLink "RopeWalkLaw" 7 am_m113.1 ∈ am_gd := am_wd_in (p := 1395) (by decide +kernel)
theorem am_w_ci : Cond.castable am_ioN am_ioN ∈ am_bw := by decide +kernel
theorem am_w_cn : Cond.castable am_nsN am_nsN ∈ am_bw := by decide +kernel
theorem lr_0 : decode method_3_code 0 = .ok (.aload_n 3, 1) := by decide +kernel
theorem lr_1 : decode method_3_code 1 = .ok (.iconst 0, 1) := by decide +kernel
theorem lr_2 : decode method_3_code 2 = .ok (.aload_n 0, 1) := by decide +kernel
theorem lr_3 : decode method_3_code 3 = .ok (.iload_n 1, 1) := by decide +kernel
theorem lr_4 : decode method_3_code 4 = .ok (.iload_n 2, 1) := by decide +kernel
theorem lr_5 : decode method_3_code 5 = .ok (.invokevirtual 7, 3) := by decide +kernel
theorem lr_8 : decode method_3_code 8 = .ok (.i2l, 1) := by decide +kernel
theorem lr_9 : decode method_3_code 9 = .ok (.lastore, 1) := by decide +kernel
theorem lr_10 : decode method_3_code 10 = .ok (.goto 11, 3) := by decide +kernel
theorem lr_13 : decode method_3_code 13 = .ok (.astore 4, 2) := by decide +kernel
theorem lr_15 : decode method_3_code 15 = .ok (.iconst 1, 1) := by decide +kernel
theorem lr_16 : decode method_3_code 16 = .ok (.ireturn, 1) := by decide +kernel
theorem lr_17 : decode method_3_code 17 = .ok (.astore 4, 2) := by decide +kernel
theorem lr_19 : decode method_3_code 19 = .ok (.iconst 2, 1) := by decide +kernel
theorem lr_20 : decode method_3_code 20 = .ok (.ireturn, 1) := by decide +kernel
theorem lr_21 : decode method_3_code 21 = .ok (.iconst 0, 1) := by decide +kernel
theorem lr_22 : decode method_3_code 22 = .ok (.ireturn, 1) := by decide +kernel
/-- what the law's rope answers, and the heap after it -/
def am_lrA (q : Nat) (v : Option Value) (h1 : am_H) (r : Int32) (h2 : am_H) : Prop :=
  (∃ z lo, v = some (.int z) ∧ h1[q]? = some (.inl (.long, .inr (.inl lo))) ∧ 0 < lo.length ∧ r = 0 ∧ h2 = h1.set q (.inl (.long, .inr (.inl (lo.set 0 z.toInt64))))) ∨ (v = some (.double 1) ∧ r = 1 ∧ h2 = h1) ∨ (v = some (.double 2) ∧ r = 2 ∧ h2 = h1)
set_option maxHeartbeats 4000000 in
theorem am_lr_ok (l : Launch) (hlt : l.stackTraces = false) (D : va_G) (κ : FieldType → ClassId) (B d n a q : Nat) (x y : Int32) (h : am_H) (fs : List Value) (ha : h[a]? = some (.inr (11, fs))) (v : Option Value) (h1 : am_H) (e : am_run (d + 2) n am_rope [.ref a, .int x, .int y] h = some (v, h1)) (hlen : h1.length = h.length) (r : Int32) (h2 : am_H) (hq : am_lrA q v h1 r h2) (sz : Nat) :
    Met l am_lrN am_lrW (am_R (d + 3) 1 6) (am_Pc (am_O2 B) D κ B [.ref a, .int x, .int y, .ref q] h h sz) (am_Qc D κ B (some (.int r)) h2 (va_A (am_ws B κ h) sz)) 1 6 (va_A (am_ws B κ h) sz) := by
  have hse := am_gw_eq (am_run_gw _ _ _ _ _ _ _ e) hlen
  have hM := am_rope_ok l hlt D κ B d n [.ref a, .int x, .int y] h v h1 e rfl
  have z1 : h1.length - h.length + 1 = 1 := by omega
  have z2 : am_sl h1 - am_sl h + 6 = 6 := by rw [(am_eqs hse).2]; omega
  rw [z1, z2] at hM
  refine va_MetW (cc := method_3_code) (maxL := 5) (ret := some .int) (hh := am_lrH) (by decide +kernel) rfl ?_
  intro p ev s m args below meth c s₁ Bd hml hv
  obtain ⟨rfl, hsz, hP, hD0, hK, hgr, hO2⟩ := hv
  have hx := Bd.exec
  have hb := Bd.bytes
  have hr := Bd.returns
  have hts := atoms_spec (ws := am_lrW) Bd.pre
  have hgd : ∀ w ∈ am_gd, w.before _ s = true := fun w hw => hts w (List.mem_cons_of_mem _ hw)
  have hown : s.vm.findClass "RopeWalkLaw" = some m.cls := findClass_of_methodNamed Bd.named
  have htab : c.exceptionTable.toList = tableOf am_lrH := vx_table (x := am_lrN) Bd (hts am_lrC List.mem_cons_self)
  subst hsz
  have hM := hM s.heap.size
  have hD := hD0.self (sz := s.heap.size)
  have hBs := hO2.1.1
  have hAB := am_AB (κ := κ) (h := h) hBs
  have hl0 := lv_entry ([Value.ref a, .int x, .int y, .ref q].map (am_tv B am_z0)) (n := 5) (by rw [am_en_len]; show 4 ≤ 5; decide)
  rw [lg_entry_eq]
  generalize (lg_sl ([Value.ref a, .int x, .int y, .ref q].map (am_tv B am_z0)) ++ List.replicate (5 - (lg_sl ([Value.ref a, .int x, .int y, .ref q].map (am_tv B am_z0))).length) Slot.unset).toArray = ls at hl0 ⊢
  have hlh : am_lh B am_z0 5 [.ref a, .int x, .int y, .ref q, am_un] ls := am_entry B am_z0 [.ref a, .int x, .int y, .ref q] (n := 5) (by show 4 ≤ 5; decide) hl0
  have hlz : ls.size = 5 := hlh.2.1
  have X : am_X p s m ([Value.ref a, .int x, .int y, .ref q].map (am_tv B am_z0)).toArray meth c method_3_code 5 13 false am_lrW := ⟨hx, hb, hml, hown, hts, fun w hw => List.mem_cons_of_mem _ hw, fun z => by cases z⟩
  have hsc : am_sc none am_z0 (va_A (am_ws B κ h) s.heap.size) s := fun xs z => by cases z
  refine am_pu_ok (β := am_z0) (st := []) X hK hP (A := va_A (am_ws B κ h) s.heap.size) (va_S.rf) hsc hlh lr_0 rfl rfl ?_
  refine am_pu_ok (β := am_z0) X hK hP (A := va_A (am_ws B κ h) s.heap.size) (va_S.rf) hsc hlh lr_1 rfl rfl ?_
  refine am_pu_ok (β := am_z0) X hK hP (A := va_A (am_ws B κ h) s.heap.size) (va_S.rf) hsc hlh lr_2 rfl rfl ?_
  refine am_pu_ok (β := am_z0) X hK hP (A := va_A (am_ws B κ h) s.heap.size) (va_S.rf) hsc hlh lr_3 rfl rfl ?_
  refine am_pu_ok (β := am_z0) X hK hP (A := va_A (am_ws B κ h) s.heap.size) (va_S.rf) hsc hlh lr_4 rfl rfl ?_
  obtain ⟨f1, f2, f3, f4, f5, f6, f7, f8, f9, f10, f11⟩ := am_fact am_rope_me
  obtain ⟨cz, hz, -⟩ := hP a _ (am_ws_get ha)
  have hzn : cz.1 = am_m113.1.cls := by rw [f3]; exact (am_lay hz).2.2.2.2.symm
  have hPV : PreV s s.heap am_m113.1.cls (B + a) (am_Pc (am_O2 B) D κ B [.ref a, .int x, .int y] h h1 s.heap.size) ([Value.int x, .int y].map (am_tv B am_z0)) := ⟨am_blind2, by rw [← hzn]; exact va_recv hK.1 hP hz (am_ws_get ha), fun U hU hW => ⟨rfl, by rw [hU], by rw [hU]; exact hP, hD0, hK.warm hW, Or.inl hlen, hO2.to (by rw [hU]; exact Nat.le_refl _) hW (fun _ _ => by rw [hU])⟩⟩
  have hwsm : ∀ w ∈ am_wsm am_m113, w ∈ am_gd := fun w hw => by
    rcases List.mem_cons.mp hw with rfl | hw
    · exact f1
    · exact hw
  have hrun := vx_runV (n := 2) (R := (headSpec am_lrW (am_R (d + 3) 1 6)).room) (l := l) (e := ev) (below := below) (meth := meth) (locs := []) (cells := 0) (slots := 0) (g := F0 m 5 ls ([Value.int y, .int x, .ref a, .int 0, .ref q].map (am_tv B am_z0))) (rest := [Value.int 0, .ref q].map (am_tv B am_z0)) ⟨hx, hb, hml, hown, hts⟩ hM (cwV (C := am_m113.1.cls) 2 hts (am_gin (fun w hw => List.mem_cons_of_mem _ hw) (by
    intro w hw
    rcases List.mem_append.mp hw with hw | hw
    · simp only [List.mem_cons, List.not_mem_nil, or_false] at hw
      rcases hw with rfl | rfl | rfl | rfl
      · exact am_w_lrp
      · exact f9 (by decide)
      · exact f11 rfl
      · exact f2
    · exact hwsm w hw)) rfl rfl rfl ⟨rfl, f6.1, f6.2, f4⟩ (by
      have : am_m113.2.2.1 ≤ 20 := f5
      show (d + 2 + 4) + 1 ≤ d + 3 + 4 ∧ 8 + (am_m113.2.2.1 + 11) + 64 * (d + 2 + 4) ≤ 64 * (d + 3 + 4)
      omega)) hPV rfl rfl hlz rfl (by
      show 2 * 0 + (1 + (1 + 0)) ≤ 8
      decide) lr_5 ⟨by show 0 + 1 ≤ 1; decide, by show 0 + 6 ≤ 6; decide⟩
  have fin : ∀ {pc : Nat} {H1 : Heap} {locs1 : List Loc} {ls1 : Array Slot}, va_P D am_cl (am_ws B κ h2) H1 → va_D (va_A (am_ws B κ h) s.heap.size) (am_ws B κ h2) → va_S (va_A (am_ws B κ h) s.heap.size) s.heap H1 locs1 → decode method_3_code pc = .ok (.ireturn, 1) → W p l ev (headSpec am_lrW (am_R (d + 3) 1 6)).room s m ([Value.ref a, .int x, .int y, .ref q].map (am_tv B am_z0)).toArray below meth c H1 locs1 1 6 (MQ below (am_Qc D κ B (some (.int r)) h2 (va_A (am_ws B κ h) s.heap.size)) ([Value.ref a, .int x, .int y, .ref q].map (am_tv B am_z0)).toArray s 1 6 (va_A (am_ws B κ h) s.heap.size)) (F0 m pc ls1 [.int r]) := fun a1 a2 a3 hdg =>
    W.iret hx hb hr (fun t ht hW => ⟨rfl, by rw [ht]; exact a1, a2, a3.F ht⟩) a3.2.2 hdg
  intro T hT X0
  rcases hrun T hT X0 with ⟨v', st₀, t, T', L, h0, X', hL, e1, e2, ⟨hnd, hv, hp, hd, hzz, hk⟩, st⟩ | ⟨q9, st₀, t, T', L, E, ce, h0, X', hL, e1, e2, ⟨hE, hp, hd, hzz, hk⟩, hce, hcv, hcl, st⟩
  · rw [h0] at hzz hk
    have hS' : va_S (va_A (am_ws B κ h) s.heap.size) s.heap T'.heap ([] ++ L) := ⟨by rw [e1]; exact hzz, fun z w1 w2 => by rw [e1]; exact hk z w1 w2, fun z w1 => hL z w1⟩
    rcases hq with ⟨z, lo, rfl, hq1, hq2, rfl, rfl⟩ | ⟨rfl, -, -⟩ | ⟨rfl, -, -⟩
    · cases hv
      have kk : W p l ev (headSpec am_lrW (am_R (d + 3) 1 6)).room s m ([Value.ref a, .int x, .int y, .ref q].map (am_tv B am_z0)).toArray below meth c T'.heap ([] ++ L) 1 6 (MQ below (am_Qc D κ B (some (.int 0)) (h1.set q (.inl (.long, .inr (.inl (lo.set 0 z.toInt64))))) (va_A (am_ws B κ h) s.heap.size)) ([Value.ref a, .int x, .int y, .ref q].map (am_tv B am_z0)).toArray s 1 6 (va_A (am_ws B κ h) s.heap.size)) (F0 m 8 ls ([Value.int z, .int 0, .ref q].map (am_tv B am_z0))) := by
        have hP1 : va_P D am_cl (am_ws B κ h1) T'.heap := by rw [e1]; exact hp
        refine am_pu_ok (β := am_z0) X hK hP1 hS' hsc hlh lr_8 rfl rfl ?_
        refine am_hw_ok (β := am_z0) (st1 := []) X hK hP1 hd hS' hlz (by show 1 ≤ d + 3 + 4; omega) (by show 64 ≤ 64 * (d + 3 + 4); omega) lr_9 rfl (h1 := h1.set q (.inl (.long, .inr (.inl (lo.set 0 z.toInt64))))) ?_ (fun H1 locs1 a1 a2 a3 => ?_)
        · show am_las [.long z.toInt64, .int 0, .ref q] h1 = _
          unfold am_las
          dsimp only
          rw [hq1]
          dsimp only
          rw [if_pos]
          · rfl
          · intro w
            rcases w with w | w
            · exact absurd w (by decide)
            · have : (0 : Int32).toNatClampNeg = 0 := by decide
              omega
        · refine am_br_ok (β := am_z0) (st := []) X lr_10 rfl rfl ?_
          refine am_pu_ok (β := am_z0) (st := []) X hK a1 a3 hsc hlh lr_21 rfl rfl ?_
          exact fin a1 a2 a3 lr_22
      obtain ⟨t2, b1, b2⟩ := kk T' rfl X'
      exact ⟨t2, st t2 b1, b2⟩
    · cases hnd
    · cases hnd
  · rw [h0] at hzz hk
    have hS' : va_S (va_A (am_ws B κ h) s.heap.size) s.heap T'.heap ([] ++ L) := ⟨by rw [e1]; exact hzz, fun z w1 w2 => by rw [e1]; exact hk z w1 w2, fun z w1 => hL z w1⟩
    have hce' : T'.heap[q9]? = some ce := by rw [e1]; exact hce
    have hP1 : va_P D am_cl (am_ws B κ h1) T'.heap := by rw [e1]; exact hp
    obtain ⟨o1, o2, o3, o4, -, -, o7⟩ := hO2
    have kk : vx_W p l ev (headSpec am_lrW (am_R (d + 3) 1 6)).room s m ([Value.ref a, .int x, .int y, .ref q].map (am_tv B am_z0)).toArray below meth c T'.heap ([] ++ L) 1 6 (MQ below (am_Qc D κ B (some (.int r)) h2 (va_A (am_ws B κ h) s.heap.size)) ([Value.ref a, .int x, .int y, .ref q].map (am_tv B am_z0)).toArray s 1 6 (va_A (am_ws B κ h) s.heap.size)) (F0 m 5 ls ([Value.int 0, .ref q].map (am_tv B am_z0))) q9 := by
      rcases hE with ⟨rfl, rfl⟩ | ⟨rfl, rfl⟩
      · rcases hq with ⟨z, lo, hv, -, -, -, -⟩ | ⟨-, rfl, rfl⟩ | ⟨hv, -, -⟩
        · cases hv
        · refine vx_catch (name := am_ioN) (E := am_ioN) hown [] ⟨0, 10, 13, 13⟩ [⟨0, 10, 17, 15⟩] htab (fun z hz => by cases hz) rfl (by decide) (hgd _ am_w_lk1) (va_Nw.use rfl (o2 _ am_w_ci)) hce' hcv hcl ?_
          refine lv_astore hx hb lr_13 hlh.2 (by decide) rfl (fun ls1 _ => ?_)
          refine lv_iconst hx hb lr_15 rfl ?_
          exact fin hP1 hd hS' lr_16
        · exact absurd hv (by decide)
      · rcases hq with ⟨z, lo, hv, -, -, -, -⟩ | ⟨hv, -, -⟩ | ⟨-, rfl, rfl⟩
        · cases hv
        · exact absurd hv (by decide)
        · refine vx_catch (name := am_nsN) (E := am_nsN) hown [⟨0, 10, 13, 13⟩] ⟨0, 10, 17, 15⟩ [] htab (fun z hz => ?_) rfl (by decide) (hgd _ am_w_lk2) (va_Nw.use rfl (o2 _ am_w_cn)) hce' hcv hcl ?_
          · rw [List.mem_singleton.mp hz]
            exact Or.inr ⟨by decide, am_ioN, hgd _ am_w_lk1, o7⟩
          · refine lv_astore hx hb lr_17 hlh.2 (by decide) rfl (fun ls1 _ => ?_)
            refine lv_iconst hx hb lr_19 rfl ?_
            exact fin hP1 hd hS' lr_20
    obtain ⟨t2, b1, b2⟩ := kk T' rfl X'
    exact ⟨t2, st.trans b1, b2⟩
