/-! RopeWalk.rope, which may throw; what is outside for it. -/
def am_xI : List Cond := vx_atS "RopeWalk" 144 am_ioN [am_rtN, am_exN]
def am_xN : List Cond := am_oaX.filter vx_no
def am_isC : Cond → Bool
  | .castable _ _ => true
  | .declares _ => true
  | _ => false
def am_bw : List Cond := (am_xI ++ am_xN).filter (fun w => !goodWord w)
theorem am_bw_C : am_bw.all am_isC = true := by decide +kernel
theorem am_xI_gd : ∀ w ∈ am_xI.filter goodWord, w ∈ lw_tbl := by decide +kernel
theorem am_xN_gd : ∀ w ∈ am_xN.filter goodWord, w ∈ lw_tbl := by decide +kernel
theorem am_xI_ot : (Cond.classLink "RopeWalk" 140 am_ioN :: Cond.initialized am_ioN :: am_xI).all vx_ot = true := by decide +kernel
theorem am_xN_ot : (Cond.classLink "RopeWalk" 162 am_nsN :: Cond.initialized am_nsN :: am_xN).all vx_ot = true := by decide +kernel
theorem am_w_k1 : Cond.classLink "RopeWalk" 140 am_ioN ∈ am_gd := am_wd_in (p := 1399) (by decide +kernel)
theorem am_w_k2 : Cond.classLink "RopeWalk" 162 am_nsN ∈ am_gd := am_wd_in (p := 1465) (by decide +kernel)
theorem am_w_i1 : Cond.initialized am_ioN ∈ am_gd := am_wd_in (p := 156) (by decide +kernel)
theorem am_w_i2 : Cond.initialized am_nsN ∈ am_gd := am_wd_in (p := 157) (by decide +kernel)
theorem am_bw_warm {w : Cond} (h : w ∈ am_bw) {s U : State} (hW : s.WarmedH U.vm) (hz : va_Nw w s) : va_Nw w U := by
  have h1 := List.all_eq_true.mp am_bw_C w h
  cases w <;> first | exact va_Nw.warmC hW hz | exact va_Nw.warmD hW hz | (simp [am_isC] at h1)
theorem am_bw_tab {w : Cond} (h : w ∈ am_bw) : w.onTables = true := by
  have h1 := List.all_eq_true.mp am_bw_C w h
  cases w <;> first | rfl | (simp [am_isC] at h1)
/-- what is outside, with what throwing asks -/
def am_O2 (B : Nat) (U : State) : Prop := am_O B U ∧ (∀ w ∈ am_bw, va_Nw w U) ∧ vx_Zq Bundle.tN "UNASSIGNED_STACK" Bundle.steD (fun q => B ≤ q) U U.heap ∧ vx_Zq Bundle.tN "SUPPRESSED_SENTINEL" Bundle.listD (fun q => B ≤ q) U U.heap ∧ (∃ a, vk_R "RopeWalk" 142 "no such rope" a U) ∧ (∃ a, vk_R "RopeWalk" 164 "no such what" a U) ∧ va_Nc am_nsN am_ioN U
theorem am_O2.to {B : Nat} {s U : State} (h : am_O2 B s) (hz : s.heap.size ≤ U.heap.size) (hW : s.WarmedH U.vm) (hq : ∀ q, q < B → U.heap[q]? = s.heap[q]?) : am_O2 B U := by
  obtain ⟨h1, h2, h3, h4, ⟨a1, h5⟩, ⟨a2, h6⟩, h7⟩ := h
  have hq2 : ∀ a : Nat, a < s.heap.size → ¬ (fun q => B ≤ q) a → U.heap[a]? = s.heap[a]? := fun a _ h2 => hq a (Nat.not_le.mp h2)
  exact ⟨h1.to s U hz hW hq, fun w hw => am_bw_warm hw hW (h2 w hw), (h3.kept hq2).moved hW.alike, (h4.kept hq2).moved hW.alike, ⟨a1, h5.warm hW⟩, ⟨a2, h6.warm hW⟩, va_Nc.moved hW.alike h7⟩
theorem am_O2.call {B : Nat} {U : State} {g : JFrame} {mk : MethodId} {a : Array Value} (h : am_O2 B U) : am_O2 B (U.calling g mk a) := by
  obtain ⟨h1, h2, h3, h4, ⟨a1, h5⟩, ⟨a2, h6⟩, h7⟩ := h
  exact ⟨h1.call U g mk a, fun w hw => va_Nw.same (u := U) (U := U.calling g mk a) (am_bw_tab hw) rfl (h2 w hw), vx_Zq.moved (u := U) (U := U.calling g mk a) (Vm.Alike.refl U.vm) h3, vx_Zq.moved (u := U) (U := U.calling g mk a) (Vm.Alike.refl U.vm) h4, ⟨a1, vk_R.same (u := U) (U := U.calling g mk a) rfl h5⟩, ⟨a2, vk_R.same (u := U) (U := U.calling g mk a) rfl h6⟩, va_Nc.moved (u := U) (U := U.calling g mk a) (Vm.Alike.refl U.vm) h7⟩
def am_XC (D : va_G) (κ : FieldType → ClassId) (B : Nat) (v : Option Value) (h1 : am_H) (A1 : Nat → Prop) : String → State → State → Prop := fun E st t => ((v = some (.double 1) ∧ E = am_ioN) ∨ (v = some (.double 2) ∧ E = am_nsN)) ∧ va_P D am_cl (am_ws B κ h1) t.heap ∧ va_D A1 (am_ws B κ h1) ∧ va_F A1 st t
theorem am_rope_me : am_me[am_rope]? = some am_m113 := rfl
theorem am_rope_c : am_co.getD am_rope [] = am_c113 := by decide +kernel
def am_q113 : Bool := am_c113.all fun ch => ch.all fun e => (!(decide (e.2.1 = .new 140)) || decide (e.1 = 8)) && (!(decide (e.2.1 = .new 162)) || decide (e.1 = 120))
theorem am_q113_ok : am_q113 = true := by decide +kernel
theorem am_at113 {pc w : Nat} {i : Instr} (h : am_ins am_c113 pc = some (i, w)) : (i = .new 140 → pc = 8) ∧ (i = .new 162 → pc = 120) := by
  have h1 := am_lk h
  have hc : (am_c113.getD (pc / 32) []) ∈ am_c113 ∨ (am_c113.getD (pc / 32) []) = [] := by
    rw [List.getD_eq_getElem?_getD]
    cases e : am_c113[pc / 32]? with
    | none => exact Or.inr rfl
    | some x => exact Or.inl (List.mem_of_getElem? e)
  rcases hc with hc | hc
  · have h2 := List.all_eq_true.mp (List.all_eq_true.mp am_q113_ok _ hc) _ h1
    simp only [Bool.and_eq_true, Bool.or_eq_true, Bool.not_eq_true', decide_eq_false_iff_not, decide_eq_true_eq] at h2
    exact ⟨fun z => h2.1.elim (fun y => absurd z y) id, fun z => h2.2.elim (fun y => absurd z y) id⟩
  · rw [hc] at h1; cases h1
theorem rd_11 : decode (am_wb am_m113.2.1) 11 = .ok (.dup, 1) := by decide +kernel
theorem rd_12 : decode (am_wb am_m113.2.1) 12 = .ok (.ldc 142, 2) := by decide +kernel
theorem rd_14 : decode (am_wb am_m113.2.1) 14 = .ok (.invokespecial 144, 3) := by decide +kernel
theorem rd_17 : decode (am_wb am_m113.2.1) 17 = .ok (.athrow, 1) := by decide +kernel
theorem rd_123 : decode (am_wb am_m113.2.1) 123 = .ok (.dup, 1) := by decide +kernel
theorem rd_124 : decode (am_wb am_m113.2.1) 124 = .ok (.ldc 164, 2) := by decide +kernel
theorem rd_126 : decode (am_wb am_m113.2.1) 126 = .ok (.invokespecial 166, 3) := by decide +kernel
theorem rd_129 : decode (am_wb am_m113.2.1) 129 = .ok (.athrow, 1) := by decide +kernel
theorem am_nfI : ∀ n ∈ [am_rtN, am_exN], Bundle.fit n = true := by decide +kernel
theorem am_fiI : Bundle.fit am_ioN = true := by decide +kernel
theorem am_blind2 {D : va_G} {κ : FieldType → ClassId} {B : Nat} {args : List Value} {h h1 : am_H} {sz : Nat} : FrameBlind (am_Pc (am_O2 B) D κ B args h h1 sz) := am_blind (fun _ _ _ _ z => z.call)
set_option maxHeartbeats 4000000 in
theorem am_rope_ok (l : Launch) (hl : l.stackTraces = false) (D : va_G) (κ : FieldType → ClassId) (B d n : Nat) (a : List Value) (h : am_H) (v : Option Value) (h1 : am_H) (e : am_run (d + 2) n am_rope a h = some (v, h1)) (hpl : a.all am_pl = true) (sz : Nat) :
    vx_Met l am_m113.1 (am_wsm am_m113) (am_R (d + 2) (h1.length - h.length + 1) (am_sl h1 - am_sl h + 6)) (am_Pc (am_O2 B) D κ B a h h1 sz) (fun x st o t => am_nd v = true ∧ am_Qc D κ B v h1 (va_A (am_ws B κ h) sz) x st o t) (am_XC D κ B v h1 (va_A (am_ws B κ h) sz)) (h1.length - h.length + 1) (am_sl h1 - am_sl h + 6) (va_A (am_ws B κ h) sz) := by
  have e0 := e
  unfold am_run at e
  rw [am_rope_me] at e
  dsimp only at e
  by_cases hlen : (am_en a).length ≤ am_m113.2.2.1
  · rw [if_pos hlen, am_rope_c] at e
    obtain ⟨f1, f2, f3, f4, f5, f6, f7, f8, f9, f10, f11⟩ := am_fact am_rope_me
    refine vx_ofW (cc := am_wb am_m113.2.1) (maxL := am_m113.2.2.1) (ret := am_m113.2.2.2.1) f7 rfl ?_
    intro p ev s m args below meth c s₁ Bd hml hno hv
    obtain ⟨rfl, hsz, hP, hD0, hK, hgr, hO2⟩ := hv
    have hO := hO2.1
    have hx := Bd.exec
    have hb := Bd.bytes
    have hr := Bd.returns
    have hts := atoms_spec (ws := am_wsm am_m113) Bd.pre
    have hgd : ∀ w ∈ am_gd, w.before (a.map (am_tv B am_z0)).toArray s = true := fun w hw => hts w (List.mem_cons_of_mem _ hw)
    have hown : s.vm.findClass am_m113.1.cls = some m.cls := findClass_of_methodNamed Bd.named
    have hlocks := Bd.notSynchronized
    have hin : meth.name = am_m113.1.name := (name_of_methodNamed Bd.named Bd.method).1
    subst hsz
    have hD := hD0.self (sz := s.heap.size)
    have hBs := hO.1
    have hA : ∀ z : Nat, s.heap.size ≤ z → va_A (am_ws B κ h) s.heap.size z := fun z hz => Or.inr hz
    have hAB := am_AB (κ := κ) (h := h) hBs
    have hle := am_run_le (d + 2) n am_rope a h v h1 e0
    have hl0 := lv_entry (a.map (am_tv B am_z0)) (n := am_m113.2.2.1) (by rw [am_en_len]; exact hlen)
    rw [lg_entry_eq]
    generalize (lg_sl (a.map (am_tv B am_z0)) ++ List.replicate (am_m113.2.2.1 - (lg_sl (a.map (am_tv B am_z0))).length) Slot.unset).toArray = ls at hl0 ⊢
    have hlh : am_lh B am_z0 am_m113.2.2.1 (am_en a ++ List.replicate (am_m113.2.2.1 - (am_en a).length) am_un) ls := am_entry B am_z0 a hlen hl0
    have X : am_X p s m (a.map (am_tv B am_z0)).toArray meth c (am_wb am_m113.2.1) am_m113.2.2.1 am_m113.2.2.2.2.1 (am_m113.1.name == "<init>") (am_wsm am_m113) := ⟨hx, hb, hml, by rw [← f3]; exact hown, hts, fun w hw => List.mem_cons_of_mem _ hw, fun z => by rw [hin]; exact eq_of_beq z⟩
    have hfrm : ∀ {H : Heap} {locs : List Loc}, va_P D am_cl (am_ws B κ h1) H → va_D (va_A (am_ws B κ h) s.heap.size) (am_ws B κ h1) → va_S (va_A (am_ws B κ h) s.heap.size) s.heap H locs → ∀ E, ((v = some (.double 1) ∧ E = am_ioN) ∨ (v = some (.double 2) ∧ E = am_nsN)) → ∀ t : State, H.size ≤ t.heap.size → (∀ q : Nat, q < H.size → t.heap[q]? = H[q]?) → am_XC D κ B v h1 (va_A (am_ws B κ h) s.heap.size) E s t := by
      intro H locs hP2 hD2 hS2 E hE t ht1 ht2
      exact ⟨hE, hP2.kept (fun k x hx => ht2 _ ((hP2 k x hx).lt)), hD2, Nat.le_trans hS2.1 ht1, fun q hq1 hq2 => (ht2 q (Nat.lt_of_lt_of_le hq1 hS2.1)).trans (hS2.2.1 q hq1 hq2)⟩
    have hS0 : ∀ {H : Heap} {locs : List Loc}, va_S (va_A (am_ws B κ h) s.heap.size) s.heap H locs → va_S (va_A (am_ws B κ h) s.heap.size) s.heap H locs := fun z => z
    obtain ⟨o1, o2, o3, o4, ⟨ta, o5⟩, ⟨tb, o6⟩, o7⟩ := hO2
    have o3' : vx_Zq Bundle.tN "UNASSIGNED_STACK" Bundle.steD (va_A (am_ws B κ h) s.heap.size) s s.heap := o3.narrow (fun q hq => Nat.not_lt.mp (fun z => hAB q z hq))
    have o4' : vx_Zq Bundle.tN "SUPPRESSED_SENTINEL" Bundle.listD (va_A (am_ws B κ h) s.heap.size) s s.heap := o4.narrow (fun q hq => Nat.not_lt.mp (fun z => hAB q z hq))
    refine am_loop_ok (XA := 0) (XS := 0) (N0 := h.length) (S0 := am_sl h) (d := d + 1) (β := am_z0) (sc := none) (rt := am_m113.2.2.2.1) (h9 := h1) (v := v) (Ω := am_O B) (co := am_c113) X hK hA (fun xs z => by cases z) (by rw [← am_rope_c]; exact am_code_ok am_rope am_m113 am_rope_me) (by show d + 1 + 5 ≤ d + 2 + 4; omega) (by show 64 * (d + 1 + 5) ≤ 64 * (d + 2 + 4); omega) (fun mn a h v h1 z z1 z2 => am_runs l D κ B (d + 1) n mn a h v h1 z z1 z2) am_O.call ?_ (fun mn a h v h1 z => am_run_le (d + 1) n mn a h v h1 z) hgr (Or.inl ⟨rfl, rfl⟩) ?_ ?_ n 0 _ [] h s.heap [] 0 0 0 0 ls e hP hD va_S.rf hlh (by omega) (by omega) (Nat.le_refl _) (Or.inl rfl) (fun _ => rfl) (fun _ => rfl) ?_ ?_
    · intro H locs hS U hU hW
      refine am_O.to s U hO (by rw [hU]; exact hS.1) hW fun z hz => ?_
      rw [hU]
      exact hS.2.1 z (Nat.lt_of_lt_of_le hz hBs) (hAB z hz)
    · intro pc i w st st1 h2 h3 H locs cells slots ls2 hdg hw hxt
      rcases am_xt_o hxt with ho | ho
      · exact absurd ho (by decide)
      · exact absurd ho (by decide)
    · intro pc i st H locs cells slots ls2 hdw hrt hP2 hD2 hS2 hsz2 hc2 hs2 hcc hss
      obtain ⟨w, hins, hdg, hw⟩ := hdw
      have hc3 : cells ≤ h1.length - h.length := by have := hcc rfl; omega
      have hs3 : slots ≤ am_sl h1 - am_sl h := by have := hss rfl; omega
      have hc4 : cells + 1 ≤ h1.length - h.length + 1 := by omega
      have hs4 : slots + 6 ≤ am_sl h1 - am_sl h + 6 := by omega
      obtain ⟨p1, p2⟩ := am_at113 hins
      rcases am_rt_inv hrt with ⟨x, rfl, hrq, rfl, rfl⟩ | ⟨x, rfl, hrq, rfl, hx01, rfl⟩ | ⟨x, rfl, hrq, rfl, rfl⟩ | ⟨C, x, rfl, hrq, rfl, rfl⟩ | ⟨rfl, hrq, rfl, rfl⟩ | ⟨j, x, rfl, ho, rfl, hj, rfl⟩
      · (obtain rfl : w = 1 := by simpa [am_len] using hw)
        refine vx_ret (W.widen (k := h1.length - h.length + 1) (n := am_sl h1 - am_sl h + 6) (by omega) (by omega) ?_)
        exact W.iret hx hb (hr.trans hrq) (fun t ht hW => ⟨rfl, rfl, by rw [ht]; exact hP2, hD2, hS2.F ht⟩) hS2.2.2 hdg
      · cases hrq
      · cases hrq
      · cases hrq
      · cases hrq
      · (obtain rfl : w = 3 := by simpa [am_len] using hw)
        rcases hj with ⟨rfl, rfl⟩ | ⟨rfl, rfl⟩
        · (obtain rfl : pc = 8 := p1 rfl)
          refine vx_throwS (own := "RopeWalk") (cls := am_ioN) (text := "no such rope") (names := [am_rtN, am_exN]) (ik := 140) (is := 142) (ic := 144) (sa := ta) (A := va_A (am_ws B κ h) s.heap.size) hx hb hl hown am_fiI am_nfI (hgd _ am_w_k1) (hgd _ am_w_i1) o5 ?_ (List.all_eq_true.mp am_xI_ot) o3' o4' hS2 (by rw [hml]; exact hsz2) hdg rd_11 rd_12 rd_14 rd_17 (fun x hx => (hno x hx).elim) (by show 2 + 3 < d + 2 + 4; omega) (by show 0 + (13 * (2 + 1) + 43) ≤ 64 * (d + 2 + 4); omega) hc4 hs4 hlocks (fun t hvm ht1 ht2 => hfrm hP2 hD2 hS2 _ (Or.inl ⟨rfl, rfl⟩) t ht1 ht2) hS2.2.2 hc4 hs4
          exact vx_hat (B := am_bw) (fun w hw => hgd w (List.mem_filter.mpr ⟨am_xI_gd w hw, (List.mem_filter.mp hw).2⟩)) (fun w hw => List.mem_filter.mpr ⟨List.mem_append_left _ (List.mem_filter.mp hw).1, (List.mem_filter.mp hw).2⟩) (fun w hw => va_Nw.use (am_bw_tab hw) (o2 w hw))
        · (obtain rfl : pc = 120 := p2 rfl)
          refine am_makeN (A := va_A (am_ws B κ h) s.heap.size) (text := "no such what") (sa := tb) hx hb hl hown (hgd _ am_w_k2) (hgd _ am_w_i2) o6 ?_ (List.all_eq_true.mp am_xN_ot) o3' o4' hS2 (by rw [hml]; exact hsz2) hdg rd_123 rd_124 rd_126 (by show 5 < d + 2 + 4; omega) (by show 0 + 82 ≤ 64 * (d + 2 + 4); omega) hc4 hs4 (fun q H1 ce g1 g2 g3 g4 g5 => ?_)
          · exact vx_hat (B := am_bw) (fun w hw => hgd w (List.mem_filter.mpr ⟨am_xN_gd w hw, (List.mem_filter.mp hw).2⟩)) (fun w hw => List.mem_filter.mpr ⟨List.mem_append_right _ (List.mem_filter.mp hw).1, (List.mem_filter.mp hw).2⟩) (fun w hw => va_Nw.use (am_bw_tab hw) (o2 w hw))
          · refine vx_athrow hx hb rd_129 ?_
            exact vx_out (E := am_nsN) (ce := ce) (fun x hx => (hno x hx).elim) hlocks g1 g2 g3 (fun t ht hvm => hfrm hP2 hD2 hS2 _ (Or.inr ⟨rfl, rfl⟩) t (by rw [ht]; exact g4) (fun q hq => by rw [ht]; exact g5 q hq)) hS2.2.2 (by omega) (by omega)
    · show h1.length + 0 + 0 * n ≤ h.length + (h1.length - h.length + 1)
      have := hle.1
      omega
    · show am_sl h1 + 0 + 0 * n ≤ am_sl h + (am_sl h1 - am_sl h + 6)
      have := hle.2
      omega
  · rw [if_neg hlen] at e
    cases e
