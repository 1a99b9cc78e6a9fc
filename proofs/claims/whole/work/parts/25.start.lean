/-! THE CLAIM OUT OF ONE WALK OF THE LAW'S BODY. Your part is whole_start (and what it stands on); all else here is the same for every law, but numbers. -/
def R_law : String := "RopeWalkLaw"
def lw_P (b : Addr) (xs : List Int32) (args : Array Value) (s : State) : Prop := args = #[.ref b] ∧ s.IntsAt b xs ∧ xs.length ≤ 3072 ∧ (Jvm.Cond.and given_1 narrow_1).before args s = true
def lw_Q (_ : Array Value) (s : State) (o : Outcome) (t : State) : Prop := o = .returned (some (.int 1)) ∧ Framed s o t [] 601024 7293034
def lw_Z (below : List Frame) (a : Array Value) (s : State) : State → Prop := fun t => ∃ o, t.status = .running ∧ Ended t below o ∧ lw_Q a s o t
/-- the law's own end, with 1 on the stack, nothing written that was there before, its room as the claim has it -/
theorem lw_ret {p : Program} {l : Launch} {e : Env} {s : State} {m : MethodId} {below : List Frame} {meth : Method} {c : Code} {b : Nat} (hx : p.tables.exec = Jvm.exec) (hb : c.code = code) (hr : meth.sig.returnType = ret) (hlocks : meth.locks = false) {pc : Nat} {H : Heap} {ls : Array Slot} (hdg : decode code pc = .ok (.ireturn, 1)) : W p l e room_1 s m #[Value.ref b] below meth c H [] 601024 7293034 (lw_Z below #[Value.ref b] s) (F0 m pc ls [.int 1]) := by
  intro T hT X
  obtain ⟨fs, hret, hrun, hended, hW, hframe⟩ := X.leave (v := some (.int 1)) (hlocks := hlocks) (fun h => by rw [hr] at h; cases h)
  have hmeth' : T.vm.method? m = some meth := X.method'
  refine ⟨T.setFrames fs, ?_, .returned (some (.int 1)), hrun, hended, rfl, ⟨_, rfl⟩, hW, hframe⟩
  jvm_step X.here [X.here.top, hx, hb, hdg, hmeth', hr, ret, narrow_b1]
  (try refine ⟨rfl, ?_⟩); (try refine ⟨rfl, ?_⟩)
  first | (intro acts; rw [hret _ acts rfl rfl rfl]) | rw [hret _ _ rfl rfl rfl]
  exact Steps.refl _
/-- what holds at the law's entry: the machine, the code, the tables' words (any of lw_tbl by 'hts w (by decide +kernel)'), the script of L ints xs at the cell b, what the Statement gives of the start (any of its parts by flat_of_before) -/
def lw_At (p : Program) (s : State) (m : MethodId) (meth : Method) (c : Code) (b L : Nat) (xs : Nat → Int32) : Prop :=
  p.tables.exec = Jvm.exec ∧ c.code = code ∧ meth.sig.returnType = ret ∧ c.maxLocals = 7 ∧ s.vm.findClass R_law = some m.cls ∧ (∀ w ∈ lw_tbl, w.before #[Value.ref b] s = true) ∧ va_X b L xs s s.heap ∧ b < s.heap.size ∧ meth.locks = false ∧ (Jvm.Cond.and given_1 narrow_1).before #[Value.ref b] s = true
/-! The law's start: what holds there, out of the tables' words and what the Statement gives. -/
theorem am_gd_tbl {w : Cond} (h : w ∈ am_gd) : w ∈ lw_tbl := (List.mem_filter.mp h).1
theorem am_st_lt (l : Launch) (h : l.flags = flags0) : l.stackTraces = false := by
  unfold Launch.stackTraces
  rw [h]
  decide +kernel
theorem am_ins_all : am_cl.all (fun q => decide (Cond.instantiable q.1 q.2.2 ∈ lw_tbl)) = true := by decide +kernel
theorem am_w_aq : Cond.arrayOver (.object "RopeWalk$Law") ∈ lw_tbl := List.mem_of_getElem? (i := 326) (by decide +kernel)
theorem am_K0 {s : State} {args : Array Value} (hts : ∀ w ∈ lw_tbl, w.before args s = true) : ∃ (D : va_G) (κ : FieldType → ClassId), am_K D κ s := by
  have h0 : ∀ c : Nat, ∃ r : ClassId × (Nat → Nat), ∀ q, am_cl[c]? = some q → u_Kn s q.1 q.2.1 q.2.2 r.1 r.2 := by
    intro c
    cases hc : am_cl[c]? with
    | none => exact ⟨(0, fun _ => 0), fun q hq => by cases hq⟩
    | some q =>
      have hi := of_decide_eq_true (List.all_eq_true.mp am_ins_all q (List.mem_of_getElem? hc))
      obtain ⟨cC, iS, h⟩ := u_known hts (fun w hw => am_gd_tbl ((am_lay hc).1 w hw)) (hts _ hi)
      exact ⟨(cC, iS), fun q' hq' => by cases hq'; exact h⟩
  obtain ⟨D, hD⟩ := Classical.axiomOfChoice h0
  have hp : ∀ {ty : FieldType}, Cond.arrayClass ty ∈ am_gd → (∀ c : ClassId, s.vm.findClass ("[" ++ ty.toString) = some c → va_RA s c ty) → ∃ cA : ClassId, ArrOfT s cA ty ∧ va_RA s cA ty := by
    intro ty hw hr
    obtain ⟨c, k, comp, h1, h2, h3⟩ := Cond.arrayClass_spec (args := args) (first := s) (o := none) (s := s) (idx := []) (hts _ (am_gd_tbl hw))
    exact ⟨c, fun n z => ⟨fun k h => (by cases h), k, h2, comp, h3⟩, hr c h1⟩
  have h1 : ∀ ty : FieldType, ∃ cA : ClassId, ty ∈ am_tys → ArrOfT s cA ty ∧ va_RA s cA ty := by
    intro ty
    by_cases ht : ty ∈ am_tys
    · have hx : ∃ cA : ClassId, ArrOfT s cA ty ∧ va_RA s cA ty := by
        simp only [am_tys, List.mem_cons, List.not_mem_nil, or_false] at ht
        rcases ht with rfl | rfl | rfl | rfl
        · exact hp am_w_ai (fun c z => z)
        · exact hp am_w_al (fun c z => z)
        · exact hp am_w_az (fun c z => z)
        · obtain ⟨comp, c, k, h1, h2, h3, h4, h5⟩ := Cond.arrayOver_spec (args := args) (first := s) (o := none) (s := s) (idx := []) (hts _ am_w_aq)
          exact ⟨c, fun n z => ⟨fun k h => (by cases h), k, h3, comp, h4⟩, k, comp, h3, h4, h1, h5⟩
      obtain ⟨cA, h⟩ := hx
      exact ⟨cA, fun _ => h⟩
    · exact ⟨0, fun z => absurd z ht⟩
  obtain ⟨κ, hκ⟩ := Classical.axiomOfChoice h1
  exact ⟨(fun c => (D c).1, fun c => (D c).2), κ, ⟨fun c q hq => hD c q hq, fun k q hk => by cases hk⟩, hκ, fun w hw => va_Nw.of (am_ns_tab hw) (hts w (List.mem_filter.mp hw).1), va_AO.of (hts _ am_w_aq)⟩
def am_fl : List Cond := flatC (Jvm.Cond.and given_1 narrow_1)
def am_tk : Term := .string "RopeWalk$Tokens" 40
def am_tkv : Term := .field am_tk "java/lang/String" "value" "[B"
theorem am_f1 : Cond.exactly am_tk "java/lang/String" ∈ am_fl := by decide +kernel
theorem am_f2 : Cond.eq (.field am_tk "java/lang/String" "coder" "B") (.int 0) ∈ am_fl := by decide +kernel
theorem am_f3 : Cond.arrayOf am_tkv .byte ∈ am_fl := by decide +kernel
theorem am_f4 : Cond.eq (.length am_tkv) (.int (Int32.ofNat 106)) ∈ am_fl := by decide +kernel
theorem am_f5 : ∀ j, j < 106 → Cond.eq (.elem am_tkv (.int (Int32.ofNat j))) (.int (am_str.getD j 0)) ∈ am_fl := by decide +kernel
theorem am_f6 : Cond.eq (.static "java/lang/String" "COMPACT_STRINGS" "Z") (.int 1) ∈ am_fl := by decide +kernel
theorem am_f7 : Cond.isRef (.static "jdk/internal/util/Preconditions" "SIOOBE_FORMATTER" "Ljava/util/function/BiFunction;") ∈ am_fl := by decide +kernel
theorem am_f8 : Cond.isRef (.static Bundle.tN "UNASSIGNED_STACK" Bundle.steD) ∈ am_fl := by decide +kernel
theorem am_f9 : Cond.isRef (.static Bundle.tN "SUPPRESSED_SENTINEL" Bundle.listD) ∈ am_fl := by decide +kernel
theorem am_f10 : Cond.exactly (.string "RopeWalk" 142) "java/lang/String" ∈ am_fl := by decide +kernel
theorem am_f11 : Cond.exactly (.string "RopeWalk" 164) "java/lang/String" ∈ am_fl := by decide +kernel
theorem am_f12 : Cond.not (.castable am_nsN am_ioN) ∈ am_fl := by decide +kernel
theorem am_t1 : Cond.laysStatic "java/lang/String" "COMPACT_STRINGS" "Z" ∈ lw_tbl := List.mem_of_getElem? (i := 190) (by decide +kernel)
theorem am_t2 : Cond.initialized "java/lang/String" ∈ lw_tbl := List.mem_of_getElem? (i := 138) (by decide +kernel)
theorem am_t3 : Cond.laysStatic "jdk/internal/util/Preconditions" "SIOOBE_FORMATTER" "Ljava/util/function/BiFunction;" ∈ lw_tbl := List.mem_of_getElem? (i := 206) (by decide +kernel)
theorem am_t4 : Cond.initialized "jdk/internal/util/Preconditions" ∈ lw_tbl := List.mem_of_getElem? (i := 140) (by decide +kernel)
theorem am_t5 : Cond.laysStatic Bundle.tN "UNASSIGNED_STACK" Bundle.steD ∈ lw_tbl := List.mem_of_getElem? (i := 1426) (by decide +kernel)
theorem am_t6 : Cond.laysStatic Bundle.tN "SUPPRESSED_SENTINEL" Bundle.listD ∈ lw_tbl := List.mem_of_getElem? (i := 1428) (by decide +kernel)
theorem am_t7 : Cond.initialized Bundle.tN ∈ lw_tbl := List.mem_of_getElem? (i := 153) (by decide +kernel)
theorem am_t8 : Cond.stringRef "RopeWalk" 142 "no such rope" ∈ lw_tbl := List.mem_of_getElem? (i := 1439) (by decide +kernel)
theorem am_t9 : Cond.stringRef "RopeWalk" 164 "no such what" ∈ lw_tbl := List.mem_of_getElem? (i := 1474) (by decide +kernel)
theorem am_t10 : Cond.stringRef "RopeWalk$Tokens" 40 am_txt ∈ lw_tbl := List.mem_of_getElem? (i := 180) (by decide +kernel)
theorem am_bw_tbl : ∀ w ∈ am_bw, w ∈ lw_tbl := by decide +kernel
theorem am_O20 {s : State} {args : Array Value} (hts : ∀ w ∈ lw_tbl, w.before args s = true) (hg : (Jvm.Cond.and given_1 narrow_1).before args s = true) : am_O2 s.heap.size s := by
  have hs : ∀ w ∈ am_fl, w.before args s = true := flat_of_before _ hg
  have hA : ∀ a : Nat, a < s.heap.size → ¬ (fun q : Nat => s.heap.size ≤ q) a := fun a h1 h2 => absurd h1 (Nat.not_lt.mpr h2)
  obtain ⟨adK, adV, hS, hev⟩ := vk_Sof (args := args) (s := s) (N := 1) (tm := fun _ => am_tk) (len := [106]) (byt := [am_str]) (A := fun q => s.heap.size ≤ q) (fun i hi => by (obtain rfl : i = 0 := by omega); decide) (fun _ _ => hs _ am_f1) (fun _ _ => hs _ am_f2) (fun _ _ => hs _ am_f3) (fun i hi => by (obtain rfl : i = 0 := by omega); exact hs _ am_f4) (fun i hi j hj => by (obtain rfl : i = 0 := by omega); exact hs _ (am_f5 j hj)) (fun i j hi hj hij => absurd (show i = j by omega) hij) hA
  obtain ⟨a1, _, _, _, q1, -⟩ := Cond.exactly_spec (args := args) (first := s) (o := none) (s := s) (idx := []) (t := .string "RopeWalk" 142) (cls := "java/lang/String") (hs _ am_f10)
  obtain ⟨a2, _, _, _, q2, -⟩ := Cond.exactly_spec (args := args) (first := s) (o := none) (s := s) (idx := []) (t := .string "RopeWalk" 164) (cls := "java/lang/String") (hs _ am_f11)
  obtain ⟨g1, g2, g3, g4⟩ := hS.1 0 (by decide)
  refine ⟨⟨Nat.le_refl _, adK 0, adV 0, vk_R.of (hts _ am_t10) (hev 0 (by decide)), g1, g2, g3, g4, va_Zof (hts _ am_t1) (hts _ am_t2) (va_eqt (hs _ am_f6)) hA, va_Zqof (hts _ am_t3) (hts _ am_t4) (hs _ am_f7) hA⟩, fun w hw => va_Nw.of (am_bw_tab hw) (hts w (am_bw_tbl w hw)), vx_Zqof (hts _ am_t5) (hts _ am_t7) (hs _ am_f8) hA, vx_Zqof (hts _ am_t6) (hts _ am_t7) (hs _ am_f9) hA, ⟨a1, vk_R.of (hts _ am_t8) q1⟩, ⟨a2, vk_R.of (hts _ am_t9) q2⟩, va_Nc.of (hs _ am_f12)⟩
/-- the law's run by the abstract machine, over a script: from its entry -/
abbrev am_law (d N n : Nat) (ys : List Int32) : Option (Option Value × am_H) := am_loop (fun mn a h => am_run (d + 2) N mn a h) (some ys) 13 false (some .boolean) am_c288 n 0 (.retAddr 0 :: List.replicate 6 am_un) [] []
set_option maxHeartbeats 4000000 in
theorem am_start {p : Program} {e : Env} {s : State} {m : MethodId} {below : List Frame} {meth : Method} {c : Code} (l : Launch) (hflags : l.flags = flags0) {b L : Nat} {xs : Nat → Int32} (C0 : lw_At p s m meth c b L xs) (ys : List Int32) (hy : ys.length = L) (hyx : ∀ j, j < L → ys.getD j 0 = xs j) (d N n : Nat) (h9 : am_H) (hd : d ≤ 1300) (er : am_law d N n ys = some (some (.int 1), h9)) (h9l : h9.length = am_full) (hn1 : h9.length + n ≤ 601024) (hn2 : am_sl h9 + 6 * n ≤ 7293034) :
    W p l e room_1 s m #[Value.ref b] below meth c s.heap [] 0 0 (lw_Z below #[Value.ref b] s) (entryFrame m ([Value.ref b] : List Value).toArray 7) := by
  obtain ⟨hx, hb, hr, hml, hown, hts, hX, hbl, hlocks, hgv⟩ := C0
  have hlt := am_st_lt l hflags
  obtain ⟨D, κ, hK⟩ := am_K0 hts
  have hO2 := am_O20 hts hgv
  have hA : ∀ q : Nat, s.heap.size ≤ q → (fun q : Nat => s.heap.size ≤ q) q := fun q hq => hq
  have X : am_X p s m #[Value.ref b] meth c code 7 13 false lw_tbl := ⟨hx, hb, hml, hown, hts, fun w hw => am_gd_tbl hw, fun z => by cases z⟩
  have hsc : am_sc (some ys) (fun _ => b) (fun q : Nat => s.heap.size ≤ q) s := by
    intro xs1 hz
    cases hz
    obtain ⟨scr, h1, h2, h3, h4, h5⟩ := hX
    exact ⟨⟨scr, h1, h2, h3, by rw [h4, hy], fun j hj => (h5 j (by omega)).trans (congrArg (fun z => some (Value.int z)) (hyx j (by omega)).symm)⟩, hbl, Nat.not_le.mpr hbl⟩
  have hto : ∀ (H : Heap) (locs : List Loc), va_S (fun q : Nat => s.heap.size ≤ q) s.heap H locs → ∀ U : State, U.heap = H → s.WarmedH U.vm → am_O2 s.heap.size U := by
    intro H locs hS U hU hW
    refine hO2.to (by rw [hU]; exact hS.1) hW fun q hq => ?_
    rw [hU]
    exact hS.2.1 q hq (Nat.not_le.mpr hq)
  have hl0 := lv_entry ([Value.ref b]) (n := 7) (by show 1 ≤ 7; decide)
  rw [lg_entry_eq]
  generalize (lg_sl ([Value.ref b]) ++ List.replicate (7 - (lg_sl ([Value.ref b])).length) Slot.unset).toArray = ls at hl0 ⊢
  have hlh : am_lh s.heap.size (fun _ => b) 7 (.retAddr 0 :: List.replicate 6 am_un) ls := am_entry s.heap.size (fun _ => b) [.retAddr 0] (n := 7) (by decide) hl0
  refine am_loop_ok (XA := 1) (XS := 6) (N0 := 0) (S0 := 0) (d := d + 2) (β := fun _ => b) (sc := some ys) (rt := some .boolean) (h9 := h9) (v := some (.int 1)) (Ω := am_O s.heap.size) (co := am_c288) (B := s.heap.size) (A := fun q : Nat => s.heap.size ≤ q) X hK hA hsc am_e288 (by show d + 2 + 5 ≤ 2048; omega) (by show 64 * (d + 2 + 5) ≤ 84000; omega) (fun mn a h v h1 z z1 z2 => am_runs l D κ s.heap.size (d + 2) N mn a h v h1 z z1 z2) am_O.call (fun H locs hS U hU hW => (hto H locs hS U hU hW).1) (fun mn a h v h1 z => am_run_le (d + 2) N mn a h v h1 z) (Or.inr rfl) (Or.inr fun i st h st1 h1 z => ?_) ?_ ?_ n 0 (.retAddr 0 :: List.replicate 6 am_un) [] [] s.heap [] 0 0 0 0 ls er (fun k q hk => by cases hk) ⟨(fun i j p q hi => by cases hi), (fun k q hk => by cases hk)⟩ va_S.rf hlh rfl rfl (Nat.le_refl _) (Or.inl rfl) (fun z => by cases z) (fun z => by cases z) (by show h9.length + 0 + 1 * n ≤ 0 + 601024; omega) (by show am_sl h9 + 0 + 6 * n ≤ 0 + 7293034; omega)
  · obtain ⟨_, _, _, _, _, _, _, _, _, _, _, _, hf, _⟩ := am_xt_13 z
    rw [hf, h9l]
  · intro pc i w st st1 h h1 H locs cells slots ls1 hdg hw hxt hP hD hS hsz hc hs hle kk
    exact am_lawx hlt X hK hA (by show d + 8 ≤ 2048; omega) (by show 64 * (d + 8) ≤ 84000; omega) hto h9l hdg hw hxt hP hD hS hsz hc hs hle kk
  · intro pc i st H locs cells slots ls1 hdw hrt hP hD hS hsz hc hs _ _
    obtain ⟨w, -, hdg, hw⟩ := hdw
    rcases am_rt_inv hrt with ⟨x, rfl, hrq, rfl, hv⟩ | ⟨x, rfl, hrq, rfl, hx01, hv⟩ | ⟨x, rfl, hrq, rfl, hv⟩ | ⟨C, x, rfl, hrq, rfl, hv⟩ | ⟨rfl, hrq, rfl, hv⟩ | ⟨j, x, rfl, ho, rfl, hj, hv⟩
    · cases hrq
    · cases hv
      (obtain rfl : w = 1 := by simpa [am_len] using hw)
      refine W.widen (k := 601024) (n := 7293034) hc hs ?_
      exact va_forget hS.2.2 (lw_ret hx hb hr hlocks hdg)
    · cases hrq
    · cases hrq
    · cases hrq
    · cases hv
