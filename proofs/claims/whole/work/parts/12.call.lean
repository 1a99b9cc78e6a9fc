/-! Sizes only grow; calls: sound over the callee's contract. -/
def am_sl (h : am_H) : Nat := (h.map am_se).sum
def am_le (h h1 : am_H) : Prop := h.length ≤ h1.length ∧ am_sl h ≤ am_sl h1
theorem am_le_rf (h : am_H) : am_le h h := ⟨Nat.le_refl _, Nat.le_refl _⟩
theorem am_le_tr {h h1 h2 : am_H} (a : am_le h h1) (b : am_le h1 h2) : am_le h h2 := ⟨Nat.le_trans a.1 b.1, Nat.le_trans a.2 b.2⟩
theorem am_se_set {h : am_H} {a : Nat} {e e1 : am_E} (he : h[a]? = some e) (hs : am_se e1 = am_se e) : (h.set a e1).map am_se = h.map am_se := by
  rw [List.map_set, hs]
  apply List.ext_getElem?
  intro j
  rw [List.getElem?_set]
  by_cases hj : a = j
  · subst hj
    rw [if_pos rfl, List.getElem?_map, he, List.length_map, if_pos (List.getElem?_eq_some_iff.mp he).1]
    rfl
  · rw [if_neg hj]
theorem am_eqs {h h1 : am_H} (hm : h1.map am_se = h.map am_se) : h1.length = h.length ∧ am_sl h1 = am_sl h := by
  refine ⟨?_, by unfold am_sl; rw [hm]⟩
  have := congrArg List.length hm
  simpa using this
theorem am_hw_map {o : Nat} {ini : Bool} {i : Instr} {st st1 : List Value} {h h1 : am_H} (hp : am_hw o ini i st h = some (st1, h1)) : h1.map am_se = h.map am_se := by
  cases i
  case putfield j =>
    obtain ⟨ci, k, ns, pl, a, fs, v, hf, rfl, hh, hkl, hfit, hfin, rfl⟩ := am_pf_inv hp
    exact am_se_set hh (by show (fs.set k v).length = fs.length; rw [List.length_set])
  case iastore =>
    obtain ⟨x, i, a, l, rfl, hh, hi, rfl⟩ := am_ias_inv hp
    exact am_se_set hh (by show (l.set _ x).length = l.length; rw [List.length_set])
  case bastore =>
    obtain ⟨x, i, a, l, rfl, hh, hx01, hi, rfl⟩ := am_bas_inv hp
    exact am_se_set hh (by show (l.set _ x).length = l.length; rw [List.length_set])
  case lastore =>
    obtain ⟨x, i, a, l, rfl, hh, hi, rfl⟩ := am_las_inv hp
    exact am_se_set hh (by show (l.set _ x).length = l.length; rw [List.length_set])
  case aastore =>
    obtain ⟨q, i, a, l, fs, rfl, hh, hq, hi, rfl⟩ := am_aas_inv hp
    exact am_se_set hh (by show (l.set _ (some q)).length = l.length; rw [List.length_set])
  case invokestatic j =>
    unfold am_hw at hp
    dsimp only at hp
    split at hp
    · obtain ⟨n, dp, a, sp, a0, f, g, rfl, hf, hg, q1, q2, q3, q4, q5, q6, rfl⟩ := am_cpy_inv hp
      refine am_se_set hg ?_
      show (g.take dp.toNatClampNeg ++ (f.drop sp.toNatClampNeg).take n.toNatClampNeg ++ g.drop (dp.toNatClampNeg + n.toNatClampNeg)).length = g.length
      simp
      omega
    · cases hp
  all_goals cases hp
theorem am_mk_app {o : Nat} {i : Instr} {st st1 : List Value} {h h1 : am_H} (hp : am_mk o i st h = some (st1, h1)) : ∃ e0, h1 = h ++ [e0] := by
  unfold am_mk at hp
  repeat' split at hp
  all_goals first
    | (cases hp; exact ⟨_, rfl⟩)
    | cases hp
theorem am_sl_app (h : am_H) (e0 : am_E) : am_sl (h ++ [e0]) = am_sl h + am_se e0 := by
  unfold am_sl
  simp
/-- a call, read backwards -/
theorem am_iv_inv {call : am_C} {o : Nat} {i : Instr} {st st1 : List Value} {h h1 : am_H} (e : am_iv call o i st h = some (st1, h1)) :
    (∃ j a x y, i = .invokespecial j ∧ am_mr o j = some (2000, x, y) ∧ st = .ref a :: st1 ∧ am_rm st1 = true ∧ h1 = h) ∨
    (∃ j mn ns pl q a As r v fs, i = .invokevirtual j ∧ am_mr o j = some (mn, ns, pl) ∧ am_me[mn]? = some q ∧ q.2.2.2.2.2.2.1 = 0 ∧ As.length = q.2.2.2.2.2.1 ∧ st = As.reverse ++ .ref a :: r ∧ h[a]? = some (.inr (q.2.2.2.2.1, fs)) ∧ am_rm r = true ∧ As.all am_pl = true ∧ call mn (.ref a :: As) h = some (v, h1) ∧ am_nd v = true ∧ st1 = v.toList ++ r) ∨
    (∃ j mn ns pl q a As r v, i = .invokespecial j ∧ am_mr o j = some (mn, ns, pl) ∧ am_me[mn]? = some q ∧ q.2.2.2.2.2.2.1 = 2 ∧ As.length = q.2.2.2.2.2.1 ∧ st = As.reverse ++ .ref a :: r ∧ am_rm r = true ∧ As.all am_pl = true ∧ call mn (.ref a :: As) h = some (v, h1) ∧ am_nd v = true ∧ st1 = v.toList ++ r) ∨
    (∃ j mn ns pl q As r v, i = .invokestatic j ∧ am_mr o j = some (mn, ns, pl) ∧ am_me[mn]? = some q ∧ q.2.2.2.2.2.2.1 = 1 ∧ As.length = q.2.2.2.2.2.1 ∧ st = As.reverse ++ r ∧ am_rm r = true ∧ As.all am_pl = true ∧ call mn As h = some (v, h1) ∧ am_nd v = true ∧ st1 = v.toList ++ r) := by
  have tk : ∀ {n : Nat} {v : Value} {r : List Value}, st.drop n = v :: r → (st.take n).reverse.length = n ∧ st = (st.take n).reverse.reverse ++ v :: r := by
    intro n v r hd
    have hl : n < st.length := by
      rcases Nat.lt_or_ge n st.length with z | z
      · exact z
      · rw [List.drop_eq_nil_of_le z] at hd; cases hd
    refine ⟨by rw [List.length_reverse, List.length_take]; omega, ?_⟩
    rw [List.reverse_reverse, ← hd, List.take_append_drop]
  have al : ∀ {l : List Value}, l.all am_pl = true → l.reverse.all am_pl = true := fun {l} z => by rw [List.all_reverse]; exact z
  have bd : ∀ {x : Option (Option Value × am_H)} {r : List Value}, (x.bind fun z => if am_nd z.1 = true then some (z.1.toList ++ r, z.2) else none) = some (st1, h1) → ∃ v, x = some (v, h1) ∧ am_nd v = true ∧ st1 = v.toList ++ r := by
    intro x r z
    cases x with
    | none => cases z
    | some q =>
      obtain ⟨v, h2⟩ := q
      dsimp only [Option.bind] at z
      split at z
      · rename_i hn
        cases z
        exact ⟨v, rfl, hn, rfl⟩
      · cases z
  unfold am_iv at e
  split at e
  · rename_i j
    split at e
    · rename_i mn ns pl hm
      split at e
      · rename_i q hq
        split at e
        · rename_i a r hd
          split at e
          · rename_i c fs hh
            split at e
            · rename_i hc
              obtain ⟨rfl, hk, hr, hpl⟩ := hc
              obtain ⟨v, hv, hn, rfl⟩ := bd e
              obtain ⟨t1, t2⟩ := tk hd
              exact Or.inr (Or.inl ⟨j, mn, ns, pl, q, a, _, r, v, fs, rfl, hm, hq, hk, t1, t2, hh, hr, al hpl, hv, hn, rfl⟩)
            · cases e
          · cases e
        · cases e
      · cases e
    · cases e
  · rename_i j
    split at e
    · rename_i mn ns pl hm
      split at e
      · rename_i h2000
        subst h2000
        split at e
        · rename_i a r
          split at e
          · rename_i hr
            cases e
            exact Or.inl ⟨j, a, ns, pl, rfl, hm, rfl, hr, rfl⟩
          · cases e
        · cases e
      · split at e
        · rename_i q hq
          split at e
          · rename_i a r hd
            split at e
            · rename_i hc
              obtain ⟨hk, hr, hpl⟩ := hc
              obtain ⟨v, hv, hn, rfl⟩ := bd e
              obtain ⟨t1, t2⟩ := tk hd
              exact Or.inr (Or.inr (Or.inl ⟨j, mn, ns, pl, q, a, _, r, v, rfl, hm, hq, hk, t1, t2, hr, al hpl, hv, hn, rfl⟩))
            · cases e
          · cases e
        · cases e
    · cases e
  · rename_i j
    split at e
    · rename_i mn ns pl hm
      split at e
      · rename_i q hq
        split at e
        · rename_i hc
          obtain ⟨hk, hl, hr, hpl⟩ := hc
          obtain ⟨v, hv, hn, rfl⟩ := bd e
          exact Or.inr (Or.inr (Or.inr ⟨j, mn, ns, pl, q, _, _, v, rfl, hm, hq, hk, by rw [List.length_reverse, List.length_take]; omega, by rw [List.reverse_reverse, List.take_append_drop], hr, al hpl, hv, hn, rfl⟩))
        · cases e
      · cases e
    · cases e
  · cases e
def am_wsm (q : am_M) : List Cond := Cond.code q.1 (am_wb q.2.1) q.2.2.1 q.2.2.2.1 :: am_gd
def am_R (d mc ms : Nat) : Room := { frames := d + 4, cells := mc, slots := ms, locals := 64 * (d + 4) }
def am_Pc (Ω : State → Prop) (D : va_G) (κ : FieldType → ClassId) (B : Nat) (args : List Value) (h h1 : am_H) (sz : Nat) : Array Value → State → Prop := va_Pc (args.map (am_tv B am_z0)) (fun U => U.heap.size = sz ∧ va_P D am_cl (am_ws B κ h) U.heap ∧ va_D (fun _ => True) (am_ws B κ h) ∧ am_K D κ U ∧ (h1.length = h.length ∨ sz = B + h.length) ∧ Ω U)
def am_Qc (D : va_G) (κ : FieldType → ClassId) (B : Nat) (v : Option Value) (h1 : am_H) (A1 : Nat → Prop) : Array Value → State → Outcome → State → Prop := fun _ st oc t => oc = .returned (v.map (am_tv B am_z0)) ∧ va_P D am_cl (am_ws B κ h1) t.heap ∧ va_D A1 (am_ws B κ h1) ∧ va_F A1 st t
/-- a method's contract at one place: these arguments, this heap, this answer, that heap -/
def am_OK (Ω : State → Prop) (l : Launch) (D : va_G) (κ : FieldType → ClassId) (B d mn : Nat) (args : List Value) (h : am_H) (v : Option Value) (h1 : am_H) : Prop :=
  ∀ q, am_me[mn]? = some q → ∀ sz, Met l q.1 (am_wsm q) (am_R d (h1.length - h.length) (am_sl h1 - am_sl h)) (am_Pc Ω D κ B args h h1 sz) (am_Qc D κ B v h1 (va_A (am_ws B κ h) sz)) (h1.length - h.length) (am_sl h1 - am_sl h) (va_A (am_ws B κ h) sz)
theorem am_good {w : Cond} (h : w ∈ am_gd) : (w.onTables && w.keeps) = true ∨ ∃ ty, w = .arrayClass ty := good_of_word (List.mem_filter.mp h).2
theorem am_gin {Ts ws : List Cond} (hgd : ∀ w ∈ am_gd, w ∈ Ts) (h : ∀ w ∈ ws, w ∈ am_gd) : GoodIn Ts ws := fun w hw => ⟨hgd w (h w hw), am_good (h w hw)⟩
theorem am_fact {mn : Nat} {q : am_M} (h : am_me[mn]? = some q) : Cond.code q.1 (am_wb q.2.1) q.2.2.1 q.2.2.2.1 ∈ am_gd ∧ Cond.initialized q.1.cls ∈ am_gd ∧ q.1.cls = am_nmo q.2.2.2.2.1 ∧ (parseMethodDescriptor q.1.desc).map (fun d => d.parameters.length) = some q.2.2.2.2.2.1 ∧ q.2.2.1 ≤ 20 ∧ (q.1.cls ≠ "java/lang/invoke/MethodHandle" ∧ q.1.cls ≠ "java/lang/invoke/VarHandle") ∧ plainName q.1.cls = true ∧
    (q.2.2.2.2.2.2.1 = 1 → Cond.static q.1 ∈ am_gd) ∧ (q.2.2.2.2.2.2.1 ≠ 1 → Cond.instanceMethod q.1 ∈ am_gd) ∧ (q.2.2.2.2.2.2.1 = 2 → q.1.name = "<init>" ∧ q.2.2.2.1 = none) ∧ (q.2.2.2.2.2.2.1 = 0 → Cond.selects q.1.cls q.1 q.1 ∈ am_gd) := by
  have h1 := am_me_ok h
  simp only [am_mec, Bool.and_eq_true, decide_eq_true_eq] at h1
  obtain ⟨⟨⟨⟨⟨⟨⟨⟨c1, c2⟩, c3⟩, c4⟩, c5⟩, c6⟩, c7⟩, c8⟩, c9⟩ := h1
  refine ⟨?_, am_wd_in c2, c3, c4, c5, ⟨c6, c7⟩, c8, fun hk => ?_, fun hk => ?_, fun hk => ?_, fun hk => ?_⟩
  · unfold am_wb
    split at c1
    · rename_i y b ml rt hw
      simp only [Bool.and_eq_true, decide_eq_true_eq] at c1
      obtain ⟨⟨e1, e2⟩, e3⟩ := c1
      rw [hw, ← e1, ← e2, ← e3]
      exact List.mem_filter.mpr ⟨List.mem_of_getElem? hw, rfl⟩
    · cases c1
  · rw [if_pos hk] at c9; exact am_wd_in c9
  · rw [if_neg hk, Bool.and_eq_true] at c9; exact am_wd_in c9.1
  · rw [if_neg (by omega), Bool.and_eq_true, if_pos hk] at c9
    simp only [Bool.and_eq_true, decide_eq_true_eq] at c9
    exact c9.2
  · rw [if_neg (by omega), Bool.and_eq_true, if_neg (by omega)] at c9
    exact am_wd_in c9.2
theorem am_mr_ok {o j mn ns pl : Nat} {q : am_M} (h : am_mr o j = some (mn, ns, pl)) (hq : am_me[mn]? = some q) : (ns = 0 → Cond.methodLink (am_nmo o) j q.1 ∈ am_gd) ∧ (ns ≠ 0 → Cond.methodLinkNest (am_nmo o) j q.1 "RopeWalk" ∈ am_ns) := by
  have h1 := am_lk2 am_mrc am_mr_chk h
  unfold am_mrc at h1
  simp only [hq] at h1
  refine ⟨fun h0 => ?_, fun h0 => ?_⟩
  · rw [if_pos h0] at h1; exact am_wd_in h1
  · rw [if_neg h0] at h1; exact am_wn_in h1
theorem am_mr_obj {o j a b : Nat} (h : am_mr o j = some (2000, a, b)) : Cond.methodLink (am_nmo o) j Lib.objectInit ∈ am_gd := by
  have h1 := am_lk2 am_mrc am_mr_chk h
  unfold am_mrc at h1
  have e : am_me[2000]? = none := by decide +kernel
  simp only [e] at h1
  exact am_wd_in h1
theorem am_w_oi : Cond.instanceMethod Lib.objectInit ∈ am_gd := am_wd_in (p := 166) (by decide +kernel)
theorem am_w_oc : Cond.code Lib.objectInit ⟨#[0xb1]⟩ 1 none ∈ am_gd := am_wd_in (p := 167) (by decide +kernel)
theorem am_ns_tab {w : Cond} (h : w ∈ am_ns) : w.onTables = true := by
  have h1 := (List.mem_filter.mp h).2
  cases w <;> first | rfl | (simp [am_isN] at h1)
theorem am_K.call {D : va_G} {κ : FieldType → ClassId} {U : State} {g : JFrame} {mk : MethodId} {a : Array Value} (h : am_K D κ U) : am_K D κ (U.calling g mk a) :=
  ⟨va_K.moved (u := U) (U := U.calling g mk a) (Vm.Alike.refl U.vm) h.1, fun ty ht => ⟨arrOfT_moved (u := U) (E := U.calling g mk a) (Vm.Alike.refl U.vm) (h.2.1 ty ht).1, va_RA.moved (u := U) (U := U.calling g mk a) (Vm.Alike.refl U.vm) (h.2.1 ty ht).2⟩, fun w hw => va_Nw.same (u := U) (U := U.calling g mk a) (am_ns_tab hw) rfl (h.2.2.1 w hw), va_AO.moved (u := U) (U := U.calling g mk a) (Vm.Alike.refl U.vm) h.2.2.2⟩
theorem am_blind {Ω : State → Prop} (hΩ : ∀ U g mk a, Ω U → Ω (U.calling g mk a)) {D : va_G} {κ : FieldType → ClassId} {B : Nat} {args : List Value} {h h1 : am_H} {sz : Nat} : FrameBlind (am_Pc Ω D κ B args h h1 sz) := by
  intro a U g mk q
  obtain ⟨q0, q1, qP, qD, qK, qs, qO⟩ := q
  exact ⟨q0, q1, qP, qD, qK.call, qs, hΩ _ _ _ _ qO⟩
section
variable {p : Program} {l : Launch} {e : Env} {R : Room} {s : State} {m : MethodId} {args : Array Value} {below : List Frame} {meth : Method} {c : Code} {H : Heap} {locs : List Loc} {cells slots : Nat} {Q : State → Prop}
variable {D : va_G} {A : Nat → Prop} {κ : FieldType → ClassId} {B N0 : Nat} {β : Nat → Nat} {cc : ByteArray} {nL o d : Nat} {ini : Bool} {Ts : List Cond} {L st st1 : List Value} {h h1 : am_H} {i : Instr} {pc w : Nat} {ls : Array Slot} {call : am_C} {Ω : State → Prop}
theorem am_after {st0 rest : List Value} {a : Array Value} {mc ms : Nat} {A1 free : Nat → Prop} {v : Option Value} (hr : va_Run p l e R s m args below meth c H locs cells slots mc ms (F0 m pc ls st0) rest (am_Qc D κ B v h1 A1 a) free) (hS : va_S A s.heap H locs) (hA1 : ∀ q, A1 q → A q) (hf : ∀ q, free q → A q)
    (kk : ∀ (H1 : Heap) (locs1 : List Loc), va_P D am_cl (am_ws B κ h1) H1 → va_D A (am_ws B κ h1) → va_S A s.heap H1 locs1 → W p l e R s m args below meth c H1 locs1 (cells + mc) (slots + ms) Q (F0 m (pc + 3) ls ((v.map (am_tv B am_z0)).toList ++ rest))) : W p l e R s m args below meth c H locs cells slots Q (F0 m pc ls st0) := by
  intro T hT X
  obtain ⟨v', st₀, t, T', L, h0, X', hL, e1, e2, ⟨hv, hp, hd, hz, hk⟩, st⟩ := hr T hT X
  cases hv
  rw [h0] at hz hk
  obtain ⟨t2, a1, b1⟩ := kk T'.heap (locs ++ L) (by rw [e1]; exact hp) (hd.weaken (fun _ _ _ z => hA1 _ z))
    ⟨Nat.le_trans hS.1 (by rw [e1]; exact hz), fun q h1 h2 => by rw [e1, hk q (Nat.lt_of_lt_of_le h1 hS.1) (fun z => h2 (hA1 q z))]; exact hS.2.1 q h1 h2, fun q hq => by
      rcases List.mem_append.mp hq with h | h
      · exact hS.2.2 q h
      · exact hf _ (hL q h)⟩ T' rfl X'
  exact ⟨t2, st t2 a1, b1⟩
theorem am_map_pl {As : List Value} (h : As.all am_pl = true) : As.map (am_tv B β) = As.map (am_tv B am_z0) := by
  apply List.map_congr_left
  intro v hv
  exact am_tv_pl (List.all_eq_true.mp h v hv)
theorem am_nd_pl {v : Option Value} (h : am_nd v = true) : (v.toList).map (am_tv B β) = (v.map (am_tv B am_z0)).toList := by
  cases v with
  | none => rfl
  | some x => cases x <;> first | rfl | cases h
set_option maxHeartbeats 4000000 in
theorem am_iv_ok (X : am_X p s m args meth c cc nL o ini Ts) (hK : am_K D κ s) (hP : va_P D am_cl (am_ws B κ h) H) (hD : va_D A (am_ws B κ h)) (hS : va_S A s.heap H locs) (hA : ∀ q, s.heap.size ≤ q → A q) (hsz : ls.size = nL) (hfr : d + 5 ≤ R.frames) (hlo : 64 * (d + 5) ≤ R.locals)
    (hΩb : ∀ U g mk a, Ω U → Ω (U.calling g mk a)) (hΩ : ∀ U : State, U.heap = H → s.WarmedH U.vm → Ω U) (HC : ∀ mn a h v h1, call mn a h = some (v, h1) → am_nd v = true → a.all am_pl = true → am_OK Ω l D κ B d mn a h v h1)
    (hdg : decode cc pc = .ok (i, w)) (hw : am_len i w = true) (hp : am_iv call o i st h = some (st1, h1)) (hgr : h1.length = h.length ∨ H.size = B + h.length) (hcap : cells + (h1.length - h.length) ≤ R.cells ∧ slots + (am_sl h1 - am_sl h) ≤ R.slots)
    (kk : ∀ (H1 : Heap) (locs1 : List Loc), va_P D am_cl (am_ws B κ h1) H1 → va_D A (am_ws B κ h1) → va_S A s.heap H1 locs1 → W p l e R s m args below meth c H1 locs1 (cells + (h1.length - h.length)) (slots + (am_sl h1 - am_sl h)) Q (F0 m (pc + w) ls (st1.map (am_tv B β)))) : W p l e R s m args below meth c H locs cells slots Q (F0 m pc ls (st.map (am_tv B β))) := by
  obtain ⟨hx, hb, hml, hown, hts, hgd, hin⟩ := X
  have hA1 : ∀ q, va_A (am_ws B κ h) H.size q → A q := by
    intro q hq
    rcases hq with ⟨k, e, hk⟩ | hq
    · exact hD.2 k _ hk
    · exact hA q (Nat.le_trans hS.1 hq)
  have hpre : ∀ {a : List Value}, a.all am_pl = true → ∀ U : State, U.heap = H → s.WarmedH U.vm → am_Pc Ω D κ B a h h1 H.size (a.map (am_tv B am_z0)).toArray U := by
    intro a ha U hU hW
    exact ⟨rfl, by rw [hU], by rw [hU]; exact hP, hD.weaken (fun _ _ _ _ => trivial), hK.warm hW, hgr.elim Or.inl Or.inr, hΩ U hU hW⟩
  have hrm : ∀ {r : List Value}, am_rm r = true → ∀ {pc : Nat} {ls : Array Slot} {st : List Value}, 2 * (F0 m pc ls st).monitorRoom + ((r.map (am_tv B β)).map fun v => v.category).sum ≤ 8 := by
    intro r hr pc ls st
    exact lv_room (by rw [am_cat_map]; exact of_decide_eq_true hr)
  rcases am_iv_inv hp with ⟨j, a, x, y, rfl, hm, rfl, hr, rfl⟩ | ⟨j, mn, ns, pl, q, a, As, r, v, fs, rfl, hm, hq, hk, hn, rfl, hh, hr, hpl, hc, hnd, rfl⟩ | ⟨j, mn, ns, pl, q, a, As, r, v, rfl, hm, hq, hk, hn, rfl, hr, hpl, hc, hnd, rfl⟩ | ⟨j, mn, ns, pl, q, As, r, v, rfl, hm, hq, hk, hn, rfl, hr, hpl, hc, hnd, rfl⟩
  · (obtain rfl : w = 3 := by simpa [am_len] using hw)
    refine W.objInit hx hb hown (hts _ (hgd _ (am_mr_obj hm))) (hts _ (hgd _ am_w_oi)) (hts _ (hgd _ am_w_oc)) rfl (by rw [hml]; exact hsz) rfl hdg (by omega) (by have := hrm hr (pc := pc) (ls := ls) (st := (Value.ref a :: st1).map (am_tv B β)); omega) ?_
    have := kk H locs hP hD hS
    simpa using this
  · (obtain rfl : w = 3 := by simpa [am_len] using hw)
    obtain ⟨f1, f2, f3, f4, f5, f6, f7, f8, f9, f10, f11⟩ := am_fact hq
    obtain ⟨r1, r2⟩ := am_mr_ok hm hq
    have hpl2 : (Value.ref a :: As).all am_pl = true := by rw [List.all_cons, hpl]; rfl
    have hM := HC mn _ h v h1 hc hnd hpl2 q hq H.size
    have hcls : ∃ z : vw_C, am_cl[q.2.2.2.2.1]? = some z := by
      obtain ⟨z, hz, -⟩ := hP a _ (am_ws_get hh)
      exact ⟨z, hz⟩
    obtain ⟨z, hz⟩ := hcls
    have hzn : z.1 = q.1.cls := by rw [f3]; exact (am_lay hz).2.2.2.2.symm
    have hst : (As.reverse ++ Value.ref a :: r).map (am_tv B β) = (As.map (am_tv B am_z0)).reverse ++ Value.ref (B + a) :: r.map (am_tv B β) := by
      rw [List.map_append, List.map_reverse, am_map_pl hpl]; rfl
    have hPV : PreV s H q.1.cls (B + a) (am_Pc Ω D κ B (.ref a :: As) h h1 H.size) (As.map (am_tv B am_z0)) := ⟨am_blind hΩb, by rw [← hzn]; exact va_recv hK.1 hP hz (am_ws_get hh), hpre hpl2⟩
    have hdd : q.1.cls ≠ "java/lang/invoke/MethodHandle" ∧ q.1.cls ≠ "java/lang/invoke/VarHandle" ∧ (parseMethodDescriptor q.1.desc).map (fun d => d.parameters.length) = some q.2.2.2.2.2.1 := ⟨f6.1, f6.2, f4⟩
    have hRR : (am_R d (h1.length - h.length) (am_sl h1 - am_sl h)).frames + 1 ≤ R.frames ∧ 8 + (q.2.2.1 + 11) + (am_R d (h1.length - h.length) (am_sl h1 - am_sl h)).locals ≤ R.locals := by simp only [am_R]; omega
    have hwsm : ∀ w ∈ am_wsm q, w ∈ am_gd := fun w hw => by
      rcases List.mem_cons.mp hw with rfl | hw
      · exact f1
      · exact hw
    have hafter : va_Run p l e R s m args below meth c H locs cells slots (h1.length - h.length) (am_sl h1 - am_sl h) (F0 m pc ls ((As.reverse ++ Value.ref a :: r).map (am_tv B β))) (r.map (am_tv B β)) (am_Qc D κ B v h1 (va_A (am_ws B κ h) H.size) (Value.ref (B + a) :: As.map (am_tv B am_z0)).toArray) (va_A (am_ws B κ h) H.size) := by
      by_cases hns : ns = 0
      · refine va_runV (n := q.2.2.2.2.2.1) ⟨hx, hb, hml, hown, hts⟩ hM (cwV (C := q.1.cls) q.2.2.2.2.2.1 hts (am_gin hgd ?_) rfl rfl rfl ⟨rfl, hdd⟩ hRR) hPV rfl (by rw [List.length_map]; exact hn) hsz hst (hrm hr) hdg hcap
        intro w hw
        rcases List.mem_append.mp hw with hw | hw
        · simp only [List.mem_cons, List.not_mem_nil, or_false] at hw
          rcases hw with rfl | rfl | rfl | rfl
          · exact r1 hns
          · exact f9 (by omega)
          · exact f11 hk
          · exact f2
        · exact hwsm w hw
      · exact va_runVN (n := q.2.2.2.2.2.1) ⟨hx, hb, hml, hown, hts⟩ hM ⟨va_cnB q.2.2.2.2.2.1 hts (am_gin hgd hwsm) rfl rfl rfl (hK.2.2.1 _ (r2 hns)) (hts _ (hgd _ f2)) hdd hRR, hts _ (hgd _ (f9 (by omega))), hts _ (hgd _ (f11 hk))⟩ hPV rfl (by rw [List.length_map]; exact hn) hsz hst (hrm hr) hdg hcap
    refine am_after hafter hS hA1 hA1 fun H1 locs1 a1 a2 a3 => ?_
    have := kk H1 locs1 a1 a2 a3
    rw [List.map_append, am_nd_pl hnd] at this
    exact this
  · (obtain rfl : w = 3 := by simpa [am_len] using hw)
    obtain ⟨f1, f2, f3, f4, f5, f6, f7, f8, f9, f10, f11⟩ := am_fact hq
    obtain ⟨r1, r2⟩ := am_mr_ok hm hq
    obtain ⟨g1, g2⟩ := f10 hk
    have hpl2 : (Value.ref a :: As).all am_pl = true := by rw [List.all_cons, hpl]; rfl
    have hM := HC mn _ h v h1 hc hnd hpl2 q hq H.size
    have hst : (As.reverse ++ Value.ref a :: r).map (am_tv B β) = (As.map (am_tv B am_z0)).reverse ++ Value.ref (B + a) :: r.map (am_tv B β) := by
      rw [List.map_append, List.map_reverse, am_map_pl hpl]; rfl
    have hPS : PreS s H (am_Pc Ω D κ B (.ref a :: As) h h1 H.size) (Value.ref (B + a) :: As.map (am_tv B am_z0)) := ⟨am_blind hΩb, hpre hpl2⟩
    have hdd : q.1.cls ≠ "java/lang/invoke/MethodHandle" ∧ q.1.cls ≠ "java/lang/invoke/VarHandle" ∧ (parseMethodDescriptor q.1.desc).map (fun d => d.parameters.length) = some q.2.2.2.2.2.1 := ⟨f6.1, f6.2, f4⟩
    have hRR : (am_R d (h1.length - h.length) (am_sl h1 - am_sl h)).frames + 1 ≤ R.frames ∧ 8 + (q.2.2.1 + 11) + (am_R d (h1.length - h.length) (am_sl h1 - am_sl h)).locals ≤ R.locals := by simp only [am_R]; omega
    have hwsm : ∀ w ∈ am_wsm q, w ∈ am_gd := fun w hw => by
      rcases List.mem_cons.mp hw with rfl | hw
      · exact f1
      · exact hw
    have hwe : am_wsm q = Cond.code q.1 (am_wb q.2.1) q.2.2.1 none :: am_gd := by unfold am_wsm; rw [g2]
    have hafter : va_Run p l e R s m args below meth c H locs cells slots (h1.length - h.length) (am_sl h1 - am_sl h) (F0 m pc ls ((As.reverse ++ Value.ref a :: r).map (am_tv B β))) (r.map (am_tv B β)) (am_Qc D κ B v h1 (va_A (am_ws B κ h) H.size) (Value.ref (B + a) :: As.map (am_tv B am_z0)).toArray) (va_A (am_ws B κ h) H.size) := by
      by_cases hns : ns = 0
      · exact va_runI (n := q.2.2.2.2.2.1) ⟨hx, hb, hml, hown, hts⟩ hM (cwI q.2.2.2.2.2.1 hts (am_gin hgd hwsm) hwe rfl rfl (hts _ (hgd _ f2)) (hts _ (hgd _ (r1 hns))) (hts _ (hgd _ (f9 (by omega)))) g1 hdd hRR) hPS rfl (by rw [List.length_map]; exact hn) hsz hst (hrm hr) hdg hcap
      · exact va_runIN (n := q.2.2.2.2.2.1) ⟨hx, hb, hml, hown, hts⟩ hM ⟨va_cnB q.2.2.2.2.2.1 hts (am_gin hgd hwsm) hwe rfl rfl (hK.2.2.1 _ (r2 hns)) (hts _ (hgd _ f2)) hdd hRR, g1, hts _ (hgd _ (f9 (by omega)))⟩ hPS rfl (by rw [List.length_map]; exact hn) hsz hst (hrm hr) hdg hcap
    refine am_after hafter hS hA1 hA1 fun H1 locs1 a1 a2 a3 => ?_
    have := kk H1 locs1 a1 a2 a3
    rw [List.map_append, am_nd_pl hnd] at this
    exact this
  · (obtain rfl : w = 3 := by simpa [am_len] using hw)
    obtain ⟨f1, f2, f3, f4, f5, f6, f7, f8, f9, f10, f11⟩ := am_fact hq
    obtain ⟨r1, r2⟩ := am_mr_ok hm hq
    have hM := HC mn _ h v h1 hc hnd hpl q hq H.size
    have hst : (As.reverse ++ r).map (am_tv B β) = (As.map (am_tv B am_z0)).reverse ++ r.map (am_tv B β) := by
      rw [List.map_append, List.map_reverse, am_map_pl hpl]
    have hPS : PreS s H (am_Pc Ω D κ B As h h1 H.size) (As.map (am_tv B am_z0)) := ⟨am_blind hΩb, hpre hpl⟩
    have hdd : q.1.cls ≠ "java/lang/invoke/MethodHandle" ∧ q.1.cls ≠ "java/lang/invoke/VarHandle" ∧ (parseMethodDescriptor q.1.desc).map (fun d => d.parameters.length) = some q.2.2.2.2.2.1 := ⟨f6.1, f6.2, f4⟩
    have hRR : (am_R d (h1.length - h.length) (am_sl h1 - am_sl h)).frames + 1 ≤ R.frames ∧ 8 + (q.2.2.1 + 11) + (am_R d (h1.length - h.length) (am_sl h1 - am_sl h)).locals ≤ R.locals := by simp only [am_R]; omega
    have hwsm : ∀ w ∈ am_wsm q, w ∈ am_gd := fun w hw => by
      rcases List.mem_cons.mp hw with rfl | hw
      · exact f1
      · exact hw
    have hafter : va_Run p l e R s m args below meth c H locs cells slots (h1.length - h.length) (am_sl h1 - am_sl h) (F0 m pc ls ((As.reverse ++ r).map (am_tv B β))) (r.map (am_tv B β)) (am_Qc D κ B v h1 (va_A (am_ws B κ h) H.size) (As.map (am_tv B am_z0)).toArray) (va_A (am_ws B κ h) H.size) := by
      by_cases hns : ns = 0
      · exact va_runS (n := q.2.2.2.2.2.1) ⟨hx, hb, hml, hown, hts⟩ hM ⟨callB_of q.2.2.2.2.2.1 hts (am_gin hgd hwsm) rfl rfl rfl (hts _ (hgd _ f2)) (hts _ (hgd _ (r1 hns))) hdd hRR, hts _ (hgd _ (f8 hk))⟩ hPS rfl (by rw [List.length_map]; exact hn) hsz hst (hrm hr) hdg hcap
      · exact va_runSN (n := q.2.2.2.2.2.1) ⟨hx, hb, hml, hown, hts⟩ hM ⟨va_cnB q.2.2.2.2.2.1 hts (am_gin hgd hwsm) rfl rfl rfl (hK.2.2.1 _ (r2 hns)) (hts _ (hgd _ f2)) hdd hRR, hts _ (hgd _ (f8 hk)), trivial⟩ hPS rfl (by rw [List.length_map]; exact hn) hsz hst (hrm hr) hdg hcap
    refine am_after hafter hS hA1 hA1 fun H1 locs1 a1 a2 a3 => ?_
    have := kk H1 locs1 a1 a2 a3
    rw [List.map_append, am_nd_pl hnd] at this
    exact this
end
