/-! Runs of a method: sound. -/
theorem am_ma_inv {o : Nat} {i : Instr} {st st1 : List Value} (h : am_ma o i st = some st1) : ∃ j mn a b, i = .invokestatic j ∧ am_mr o j = some (mn, a, b) ∧ am_rm st = true ∧
    ((mn = 3001 ∧ am_ii (fun x y => some (.int (if x < y then y else x))) st = some st1) ∨ (mn = 3002 ∧ am_ii (fun x y => some (.int (if y < x then y else x))) st = some st1) ∨ (mn = 3003 ∧ am_i1 (fun x => .int (if 0 ≤ x then x else 0 - x)) st = some st1) ∨ (mn = 3004 ∧ am_ll (fun x y => some (.long (if y < x then x else y))) st = some st1) ∨ (mn = 3005 ∧ am_ll (fun x y => some (.long (if y < x then y else x))) st = some st1)) := by
  unfold am_ma at h
  split at h
  · rename_i j
    split at h
    · rename_i mn a b hm
      split at h
      · rename_i hr
        refine ⟨j, mn, a, b, rfl, hm, hr, ?_⟩
        split at h
        · exact Or.inl ⟨by assumption, h⟩
        · split at h
          · exact Or.inr (Or.inl ⟨by assumption, h⟩)
          · split at h
            · exact Or.inr (Or.inr (Or.inl ⟨by assumption, h⟩))
            · split at h
              · exact Or.inr (Or.inr (Or.inr (Or.inl ⟨by assumption, h⟩)))
              · split at h
                · exact Or.inr (Or.inr (Or.inr (Or.inr ⟨by assumption, h⟩)))
                · cases h
      · cases h
    · cases h
  · cases h
theorem am_w_mi : Cond.initialized "java/lang/Math" ∈ am_gd := am_wd_in (p := 145) (by decide +kernel)
theorem am_w_m1s : Cond.static Lib.Math.max.name ∈ am_gd := am_wd_in (p := 310) (by decide +kernel)
theorem am_w_m1c : Cond.code Lib.Math.max.name Lib.Math.max.code 2 (some .int) ∈ am_gd := am_wd_in (p := 311) (by decide +kernel)
theorem am_w_m2s : Cond.static Lib.Math.min.name ∈ am_gd := am_wd_in (p := 763) (by decide +kernel)
theorem am_w_m2c : Cond.code Lib.Math.min.name Lib.Math.min.code 2 (some .int) ∈ am_gd := am_wd_in (p := 764) (by decide +kernel)
theorem am_w_m3s : Cond.static Lib.Math.abs.name ∈ am_gd := am_wd_in (p := 1276) (by decide +kernel)
theorem am_w_m3c : Cond.code Lib.Math.abs.name Lib.Math.abs.code 1 (some .int) ∈ am_gd := am_wd_in (p := 1277) (by decide +kernel)
theorem am_w_m4s : Cond.static Lib.MathLoose.max_long.x ∈ am_gd := am_wd_in (p := 1069) (by decide +kernel)
theorem am_w_m4c : Cond.code Lib.MathLoose.max_long.x Lib.MathLoose.max_long.code 4 (some .long) ∈ am_gd := am_wd_in (p := 1070) (by decide +kernel)
theorem am_w_m5s : Cond.static Lib.MathLoose.min_long.x ∈ am_gd := am_wd_in (p := 1066) (by decide +kernel)
theorem am_w_m5c : Cond.code Lib.MathLoose.min_long.x Lib.MathLoose.min_long.code 4 (some .long) ∈ am_gd := am_wd_in (p := 1067) (by decide +kernel)
theorem am_mr_ma {o j mn a b : Nat} (h : am_mr o j = some (mn, a, b)) : (mn = 3001 → Cond.methodLink (am_nmo o) j Lib.Math.max.name ∈ am_gd) ∧ (mn = 3002 → Cond.methodLink (am_nmo o) j Lib.Math.min.name ∈ am_gd) ∧ (mn = 3003 → Cond.methodLink (am_nmo o) j Lib.Math.abs.name ∈ am_gd) ∧ (mn = 3004 → Cond.methodLink (am_nmo o) j Lib.MathLoose.max_long.x ∈ am_gd) ∧ (mn = 3005 → Cond.methodLink (am_nmo o) j Lib.MathLoose.min_long.x ∈ am_gd) := by
  have h1 := am_lk2 am_mrc am_mr_chk h
  unfold am_mrc at h1
  have e : ∀ k, 3000 ≤ k → am_me[k]? = none := fun k hk => List.getElem?_eq_none (by rw [am_me_len]; omega)
  refine ⟨fun z => ?_, fun z => ?_, fun z => ?_, fun z => ?_, fun z => ?_⟩
  · subst z; simp only [e 3001 (by decide)] at h1; exact am_wd_in h1
  · subst z; simp only [e 3002 (by decide)] at h1; exact am_wd_in h1
  · subst z; simp only [e 3003 (by decide)] at h1; exact am_wd_in h1
  · subst z; simp only [e 3004 (by decide)] at h1; exact am_wd_in h1
  · subst z; simp only [e 3005 (by decide)] at h1; exact am_wd_in h1
theorem am_xt_inv {call : am_C} {o : Nat} {i : Instr} {st st1 : List Value} {h h1 : am_H} (e : am_xt call o i st h = some (st1, h1)) :
    (h1 = h) ∨ (∃ j x y q a v h2 l, i = .invokestatic j ∧ am_mr o j = some (1002, x, y) ∧ call am_rope a h = some (v, h2) ∧ (h1 = h2 ∨ (h2[q]? = some (.inl (.long, .inr (.inl l))) ∧ ∃ z, h1 = h2.set q (.inl (.long, .inr (.inl (l.set 0 z))))))) := by
  unfold am_xt at e
  repeat' split at e
  all_goals first
    | (cases e; exact Or.inl rfl)
    | (cases e; rename_i hh; exact Or.inr ⟨_, _, _, _, _, _, _, _, rfl, by assumption, by assumption, Or.inr ⟨by assumption, _, rfl⟩⟩)
    | (cases e; exact Or.inr ⟨_, _, _, 0, _, _, _, [], rfl, by assumption, by assumption, Or.inl rfl⟩)
    | cases e
theorem am_xt_le {call : am_C} (hm : ∀ mn a h v h1, call mn a h = some (v, h1) → am_le h h1) {o : Nat} {i : Instr} {st st1 : List Value} {h h1 : am_H} (e : am_xt call o i st h = some (st1, h1)) : am_le h h1 := by
  rcases am_xt_inv e with rfl | ⟨j, x, y, q, a, v, h2, l, -, -, hc, rfl | ⟨hq, z, rfl⟩⟩
  · exact am_le_rf _
  · exact hm _ _ _ _ _ hc
  · obtain ⟨z1, z2⟩ := am_eqs (am_se_set (e1 := .inl (.long, .inr (.inl (l.set 0 z)))) hq (by show (l.set 0 z).length = l.length; rw [List.length_set]))
    exact am_le_tr (hm _ _ _ _ _ hc) ⟨Nat.le_of_eq z1.symm, Nat.le_of_eq z2.symm⟩
theorem am_iv_le {call : am_C} (hm : ∀ mn a h v h1, call mn a h = some (v, h1) → am_le h h1) {o : Nat} {i : Instr} {st st1 : List Value} {h h1 : am_H} (e : am_iv call o i st h = some (st1, h1)) : am_le h h1 := by
  rcases am_iv_inv e with ⟨j, a, x, y, -, -, -, -, rfl⟩ | ⟨j, mn, ns, pl, q, a, As, r, v, fs, -, -, -, -, -, -, -, -, -, hc, -, -⟩ | ⟨j, mn, ns, pl, q, a, As, r, v, -, -, -, -, -, -, -, -, hc, -, -⟩ | ⟨j, mn, ns, pl, q, As, r, v, -, -, -, -, -, -, -, -, hc, -, -⟩
  · exact am_le_rf _
  · exact hm _ _ _ _ _ hc
  · exact hm _ _ _ _ _ hc
  · exact hm _ _ _ _ _ hc
/-- one step, read backwards -/
theorem am_step_inv {call : am_C} {sc : Option (List Int32)} {o : Nat} {ini : Bool} {rt : Option FieldType} {co : List (List (Nat × Instr × Nat))} {pc : Nat} {L st : List Value} {h : am_H} {z : (Nat × List Value × List Value × am_H) ⊕ (Option Value × am_H)} (e : am_step call sc o ini rt co pc L st h = some z) : ∃ i w, am_ins co pc = some (i, w) ∧ am_len i w = true ∧
    ((∃ st1, am_pu sc o i L st h = some st1 ∧ z = .inl (pc + w, L, st1, h)) ∨ (∃ L1 st1, am_lo i L st = some (L1, st1) ∧ z = .inl (pc + w, L1, st1, h)) ∨ (∃ t st1, am_br i pc st = some (t, st1) ∧ z = .inl (t, L, st1, h)) ∨ (∃ st1 h1, am_hw o ini i st h = some (st1, h1) ∧ z = .inl (pc + w, L, st1, h1)) ∨ (∃ v, am_rt o i rt st = some v ∧ z = .inr (v, h)) ∨
      (∃ st1 h1, am_iv call o i st h = some (st1, h1) ∧ z = .inl (pc + w, L, st1, h1)) ∨ (∃ st1 h1, am_mk o i st h = some (st1, h1) ∧ z = .inl (pc + w, L, st1, h1)) ∨ (∃ st1 h1, am_xt call o i st h = some (st1, h1) ∧ z = .inl (pc + w, L, st1, h1)) ∨ (∃ st1, am_ma o i st = some st1 ∧ z = .inl (pc + w, L, st1, h))) := by
  unfold am_step at e
  split at e
  · cases e
  · rename_i i w hi
    split at e
    · rename_i hl
      refine ⟨i, w, hi, hl, ?_⟩
      split at e
      · rename_i st1 h1; cases e; exact Or.inl ⟨st1, h1, rfl⟩
      · split at e
        · rename_i L1 st1 h1; cases e; exact Or.inr (Or.inl ⟨L1, st1, h1, rfl⟩)
        · split at e
          · rename_i t st1 h1; cases e; exact Or.inr (Or.inr (Or.inl ⟨t, st1, h1, rfl⟩))
          · split at e
            · rename_i st1 hh h1; cases e; exact Or.inr (Or.inr (Or.inr (Or.inl ⟨st1, hh, h1, rfl⟩)))
            · split at e
              · rename_i v h1; cases e; exact Or.inr (Or.inr (Or.inr (Or.inr (Or.inl ⟨v, h1, rfl⟩))))
              · split at e
                · rename_i st1 hh h1; cases e; exact Or.inr (Or.inr (Or.inr (Or.inr (Or.inr (Or.inl ⟨st1, hh, h1, rfl⟩)))))
                · split at e
                  · rename_i st1 hh h1; cases e; exact Or.inr (Or.inr (Or.inr (Or.inr (Or.inr (Or.inr (Or.inl ⟨st1, hh, h1, rfl⟩))))))
                  · split at e
                    · rename_i st1 hh h1; cases e; exact Or.inr (Or.inr (Or.inr (Or.inr (Or.inr (Or.inr (Or.inr (Or.inl ⟨st1, hh, h1, rfl⟩)))))))
                    · split at e
                      · rename_i st1 h1; cases e; exact Or.inr (Or.inr (Or.inr (Or.inr (Or.inr (Or.inr (Or.inr (Or.inr ⟨st1, h1, rfl⟩)))))))
                      · cases e
    · cases e
theorem am_loop_inv {call : am_C} {sc : Option (List Int32)} {o : Nat} {ini : Bool} {rt : Option FieldType} {co : List (List (Nat × Instr × Nat))} {n pc : Nat} {L st : List Value} {h : am_H} {z : Option Value × am_H} (e : am_loop call sc o ini rt co (n + 1) pc L st h = some z) :
    am_step call sc o ini rt co pc L st h = some (.inr z) ∨ ∃ pc1 L1 st1 h1, am_step call sc o ini rt co pc L st h = some (.inl (pc1, L1, st1, h1)) ∧ am_loop call sc o ini rt co n pc1 L1 st1 h1 = some z := by
  unfold am_loop at e
  split at e
  · cases e
  · rename_i r hr; cases e; exact Or.inl hr
  · rename_i pc1 L1 st1 h1 hr; exact Or.inr ⟨pc1, L1, st1, h1, hr, e⟩
theorem am_step_le {call : am_C} (hm : ∀ mn a h v h1, call mn a h = some (v, h1) → am_le h h1) {sc : Option (List Int32)} {o : Nat} {ini : Bool} {rt : Option FieldType} {co : List (List (Nat × Instr × Nat))} {pc pc1 : Nat} {L L1 st st1 : List Value} {h h1 : am_H} (e : am_step call sc o ini rt co pc L st h = some (.inl (pc1, L1, st1, h1))) : am_le h h1 := by
  obtain ⟨i, w, -, -, hz⟩ := am_step_inv e
  rcases hz with ⟨s1, -, hz⟩ | ⟨a1, s1, -, hz⟩ | ⟨t, s1, -, hz⟩ | ⟨s1, g1, hg, hz⟩ | ⟨v, -, hz⟩ | ⟨s1, g1, hg, hz⟩ | ⟨s1, g1, hg, hz⟩ | ⟨s1, g1, hg, hz⟩ | ⟨s1, -, hz⟩
  · cases hz; exact am_le_rf _
  · cases hz; exact am_le_rf _
  · cases hz; exact am_le_rf _
  · cases hz
    obtain ⟨z1, z2⟩ := am_eqs (am_hw_map hg)
    exact ⟨Nat.le_of_eq z1.symm, Nat.le_of_eq z2.symm⟩
  · cases hz
  · cases hz; exact am_iv_le hm hg
  · cases hz
    obtain ⟨e0, rfl⟩ := am_mk_app hg
    exact ⟨by rw [List.length_append]; omega, by rw [am_sl_app]; omega⟩
  · cases hz; exact am_xt_le hm hg
  · cases hz; exact am_le_rf _
theorem am_step_end {call : am_C} {sc : Option (List Int32)} {o : Nat} {ini : Bool} {rt : Option FieldType} {co : List (List (Nat × Instr × Nat))} {pc : Nat} {L st : List Value} {h h1 : am_H} {v : Option Value} (e : am_step call sc o ini rt co pc L st h = some (.inr (v, h1))) : h1 = h := by
  obtain ⟨i, w, -, -, hz⟩ := am_step_inv e
  rcases hz with ⟨s1, -, hz⟩ | ⟨a1, s1, -, hz⟩ | ⟨t, s1, -, hz⟩ | ⟨s1, g1, hg, hz⟩ | ⟨v, -, hz⟩ | ⟨s1, g1, hg, hz⟩ | ⟨s1, g1, hg, hz⟩ | ⟨s1, g1, hg, hz⟩ | ⟨s1, -, hz⟩ <;> cases hz
  rfl
theorem am_loop_le {call : am_C} (hm : ∀ mn a h v h1, call mn a h = some (v, h1) → am_le h h1) {sc : Option (List Int32)} {o : Nat} {ini : Bool} {rt : Option FieldType} {co : List (List (Nat × Instr × Nat))} : ∀ (n pc : Nat) (L st : List Value) (h : am_H) (v : Option Value) (h1 : am_H), am_loop call sc o ini rt co n pc L st h = some (v, h1) → am_le h h1 := by
  intro n
  induction n with
  | zero => intro pc L st h v h1 e; cases e
  | succ n ih =>
    intro pc L st h v h1 e
    rcases am_loop_inv e with e | ⟨pc1, L1, st1, h2, e1, e2⟩
    · rw [am_step_end e]; exact am_le_rf _
    · exact am_le_tr (am_step_le hm e1) (ih _ _ _ _ _ _ e2)
theorem am_run_le : ∀ (d n mn : Nat) (a : List Value) (h : am_H) (v : Option Value) (h1 : am_H), am_run d n mn a h = some (v, h1) → am_le h h1 := by
  intro d
  induction d with
  | zero => intro n mn a h v h1 e; cases e
  | succ d ih =>
    intro n mn a h v h1 e
    unfold am_run at e
    split at e
    · cases e
    · split at e
      · exact am_loop_le (fun mn a h v h1 z => ih n mn a h v h1 z) _ _ _ _ _ _ _ e
      · cases e
section
variable {p : Program} {l : Launch} {e : Env} {R : Room} {s : State} {m : MethodId} {args : Array Value} {below : List Frame} {meth : Method} {c : Code} {H : Heap} {locs : List Loc} {cells slots : Nat} {Q : State → Prop}
variable {D : va_G} {A : Nat → Prop} {κ : FieldType → ClassId} {B N0 S0 XA XS : Nat} {β : Nat → Nat} {cc : ByteArray} {nL o d : Nat} {ini : Bool} {Ts : List Cond} {L st st1 : List Value} {h h1 h9 : am_H} {i : Instr} {pc w : Nat} {ls : Array Slot} {call : am_C} {sc : Option (List Int32)} {rt : Option FieldType} {co : List (List (Nat × Instr × Nat))} {v : Option Value} {Ω : State → Prop}
theorem am_ma_ok (X : am_X p s m args meth c cc nL o ini Ts) (hsz : ls.size = nL) (hfr : 1 ≤ R.frames) (hlo : 64 ≤ R.locals) (hc : cells ≤ R.cells) (hs : slots ≤ R.slots) (hdg : decode cc pc = .ok (i, w)) (hw : am_len i w = true) (hp : am_ma o i st = some st1)
    (kk : W p l e R s m args below meth c H locs cells slots Q (F0 m (pc + w) ls (st1.map (am_tv B β)))) : W p l e R s m args below meth c H locs cells slots Q (F0 m pc ls (st.map (am_tv B β))) := by
  obtain ⟨hx, hb, hml, hown, hts, hgd, hin⟩ := X
  obtain ⟨j, mn, a, b, rfl, hm, hr, hq⟩ := am_ma_inv hp
  (obtain rfl : w = 3 := by simpa [am_len] using hw)
  have hmls : c.maxLocals = ls.size := by rw [hml]; exact hsz.symm
  have hr8 : (st.map fun v => v.category).sum ≤ 8 := of_decide_eq_true hr
  obtain ⟨k1, k2, k3, k4, k5⟩ := am_mr_ma hm
  rcases hq with ⟨e0, hq⟩ | ⟨e0, hq⟩ | ⟨e0, hq⟩ | ⟨e0, hq⟩ | ⟨e0, hq⟩
  · obtain ⟨x, y, r, v, rfl, e1, rfl⟩ := am_ii_inv hq
    cases e1
    exact va_mmax hx hb hmls hown (hts _ (hgd _ (k1 e0))) (hts _ (hgd _ am_w_m1s)) (hts _ (hgd _ am_w_mi)) (hts _ (hgd _ am_w_m1c)) hfr (by rw [am_cat_map]; simp only [List.map_cons, List.sum_cons] at hr8; omega) hc hs hdg kk
  · obtain ⟨x, y, r, v, rfl, e1, rfl⟩ := am_ii_inv hq
    cases e1
    exact va_mmin hx hb hmls hown (hts _ (hgd _ (k2 e0))) (hts _ (hgd _ am_w_m2s)) (hts _ (hgd _ am_w_mi)) (hts _ (hgd _ am_w_m2c)) hfr (by rw [am_cat_map]; simp only [List.map_cons, List.sum_cons] at hr8; omega) hc hs hdg kk
  · obtain ⟨x, r, rfl, rfl⟩ := am_i1_inv hq
    exact va_mabs hx hb hmls hown (hts _ (hgd _ (k3 e0))) (hts _ (hgd _ am_w_m3s)) (hts _ (hgd _ am_w_mi)) (hts _ (hgd _ am_w_m3c)) hfr (by rw [am_cat_map]; simp only [List.map_cons, List.sum_cons] at hr8; omega) hc hs hdg kk
  · obtain ⟨x, y, r, v, rfl, e1, rfl⟩ := am_ll_inv hq
    cases e1
    exact va_mmax_long hx hb hmls hown (hts _ (hgd _ (k4 e0))) (hts _ (hgd _ am_w_m4s)) (hts _ (hgd _ am_w_mi)) (hts _ (hgd _ am_w_m4c)) hfr (by rw [am_cat_map]; simp only [List.map_cons, List.sum_cons] at hr8; omega) hc hs hdg kk
  · obtain ⟨x, y, r, v, rfl, e1, rfl⟩ := am_ll_inv hq
    cases e1
    exact va_mmin_long hx hb hmls hown (hts _ (hgd _ (k5 e0))) (hts _ (hgd _ am_w_m5s)) (hts _ (hgd _ am_w_mi)) (hts _ (hgd _ am_w_m5c)) hfr (by rw [am_cat_map]; simp only [List.map_cons, List.sum_cons] at hr8; omega) hc hs hdg kk
set_option maxHeartbeats 4000000 in
/-- a run of a method from any place of it: v the answer, h9 the heap at its end; N0, S0 the cells and slots at its start; XA, XS what a thing outside may make beside -/
theorem am_loop_ok (X : am_X p s m args meth c cc nL o ini Ts) (hK : am_K D κ s) (hA : ∀ q, s.heap.size ≤ q → A q) (hsc : am_sc sc β A s) (hco : ∀ pc i w, am_ins co pc = some (i, w) → decode cc pc = .ok (i, w)) (hfr : d + 5 ≤ R.frames) (hlo : 64 * (d + 5) ≤ R.locals)
    (HC : ∀ mn a h v h1, call mn a h = some (v, h1) → am_nd v = true → a.all am_pl = true → am_OK Ω l D κ B d mn a h v h1) (hΩb : ∀ U g mk a, Ω U → Ω (U.calling g mk a)) (hΩ : ∀ (H : Heap) (locs : List Loc), va_S A s.heap H locs → ∀ U : State, U.heap = H → s.WarmedH U.vm → Ω U) (hm : ∀ mn a h v h1, call mn a h = some (v, h1) → am_le h h1)
    (hgr : h9.length = N0 ∨ s.heap.size = B + N0) (hful : (XA = 0 ∧ XS = 0) ∨ ∀ i st h st1 h1, am_xt call o i st h = some (st1, h1) → h.length = h9.length)
    (HX : ∀ pc i w st st1 h h1 H locs cells slots ls, decode cc pc = .ok (i, w) → am_len i w = true → am_xt call o i st h = some (st1, h1) → va_P D am_cl (am_ws B κ h) H → va_D A (am_ws B κ h) → va_S A s.heap H locs → ls.size = nL → cells + XA ≤ R.cells → slots + XS ≤ R.slots → am_le h1 h9 →
      (∀ (H1 : Heap) (locs1 : List Loc), va_P D am_cl (am_ws B κ h1) H1 → va_D A (am_ws B κ h1) → va_S A s.heap H1 locs1 → h1.length = h.length → am_sl h1 = am_sl h → W p l e R s m args below meth c H1 locs1 (cells + XA) (slots + XS) Q (F0 m (pc + w) ls (st1.map (am_tv B β)))) → W p l e R s m args below meth c H locs cells slots Q (F0 m pc ls (st.map (am_tv B β))))
    (hret : ∀ pc i st H locs cells slots ls, (∃ w, am_ins co pc = some (i, w) ∧ decode cc pc = .ok (i, w) ∧ am_len i w = true) → am_rt o i rt st = some v → va_P D am_cl (am_ws B κ h9) H → va_D A (am_ws B κ h9) → va_S A s.heap H locs → ls.size = nL → cells ≤ R.cells → slots ≤ R.slots → (XA = 0 → cells + N0 = h9.length) → (XS = 0 → slots + S0 = am_sl h9) → W p l e R s m args below meth c H locs cells slots Q (F0 m pc ls (st.map (am_tv B β)))) :
    ∀ (n pc : Nat) (L st : List Value) (h : am_H) (H : Heap) (locs : List Loc) (cells slots x y : Nat) (ls : Array Slot), am_loop call sc o ini rt co n pc L st h = some (v, h9) → va_P D am_cl (am_ws B κ h) H → va_D A (am_ws B κ h) → va_S A s.heap H locs → am_lh B β nL L ls →
      cells + N0 = h.length + x → slots + S0 = am_sl h + y → N0 ≤ h.length → (x = 0 ∨ h.length = h9.length) → (XA = 0 → x = 0) → (XS = 0 → y = 0) → h9.length + x + XA * n ≤ N0 + R.cells → am_sl h9 + y + XS * n ≤ S0 + R.slots →
      W p l e R s m args below meth c H locs cells slots Q (F0 m pc ls (st.map (am_tv B β))) := by
  intro n
  induction n with
  | zero => intro pc L st h H locs cells slots x y ls e0; cases e0
  | succ n ih =>
    intro pc L st h H locs cells slots x y ls e0 hP hD hS hl hce hsl hN hx0 hxz hyz hcc hcs
    have hle := am_loop_le hm _ _ _ _ _ _ _ e0
    have hlz : ls.size = nL := hl.2.1
    have hxn : XA * (n + 1) = XA * n + XA := Nat.mul_succ XA n
    have hyn : XS * (n + 1) = XS * n + XS := Nat.mul_succ XS n
    have c0 : cells ≤ R.cells := by have := hle.1; omega
    have s0 : slots ≤ R.slots := by have := hle.2; omega
    rcases am_loop_inv e0 with e1 | ⟨pc1, L1, st1, h1, e1, e2⟩
    · have hh := am_step_end e1
      subst hh
      obtain ⟨i, w, hi, hw, hz⟩ := am_step_inv e1
      rcases hz with ⟨s1, -, hz⟩ | ⟨a1, s1, -, hz⟩ | ⟨t, s1, -, hz⟩ | ⟨s1, g1, hg, hz⟩ | ⟨v1, hr, hz⟩ | ⟨s1, g1, hg, hz⟩ | ⟨s1, g1, hg, hz⟩ | ⟨s1, g1, hg, hz⟩ | ⟨s1, -, hz⟩ <;> cases hz
      exact hret pc i st H locs cells slots ls ⟨w, hi, hco _ _ _ hi, hw⟩ hr hP hD hS hlz c0 s0 (fun z => by have := hxz z; omega) (fun z => by have := hyz z; omega)
    · have hle2 := am_loop_le hm _ _ _ _ _ _ _ e2
      obtain ⟨i, w, hi, hw, hz⟩ := am_step_inv e1
      have hdg := hco _ _ _ hi
      rcases hz with ⟨s1, hg, hz⟩ | ⟨a1, s1, hg, hz⟩ | ⟨t, s1, hg, hz⟩ | ⟨s1, g1, hg, hz⟩ | ⟨v1, hr, hz⟩ | ⟨s1, g1, hg, hz⟩ | ⟨s1, g1, hg, hz⟩ | ⟨s1, g1, hg, hz⟩ | ⟨s1, hg, hz⟩
      · cases hz
        exact am_pu_ok X hK hP hS hsc hl hdg hw hg (ih _ _ _ _ _ _ _ _ x y _ e2 hP hD hS hl hce hsl hN hx0 hxz hyz (by omega) (by omega))
      · cases hz
        exact am_lo_ok X hl hdg hw hg (fun ls1 hl1 => ih _ _ _ _ _ _ _ _ x y _ e2 hP hD hS hl1 hce hsl hN hx0 hxz hyz (by omega) (by omega))
      · cases hz
        exact am_br_ok X hdg hw hg (ih _ _ _ _ _ _ _ _ x y _ e2 hP hD hS hl hce hsl hN hx0 hxz hyz (by omega) (by omega))
      · cases hz
        obtain ⟨z1, z2⟩ := am_eqs (am_hw_map hg)
        exact am_hw_ok X hK hP hD hS hlz (by omega) (by omega) hdg hw hg (fun H1 locs1 a1 a2 a3 => ih _ _ _ _ _ _ _ _ x y _ e2 a1 a2 a3 hl (by omega) (by omega) (by omega) (by omega) hxz hyz (by omega) (by omega))
      · cases hz
      · cases hz
        have hle3 := am_iv_le hm hg
        refine am_Wsz fun hup => ?_
        have hgr1 : h1.length = h.length ∨ H.size = B + h.length := by
          rcases hgr with z | z
          · exact Or.inl (by have := hle2.1; have := hle3.1; omega)
          · rcases hx0 with x0 | x0
            · exact Or.inr (Nat.le_antisymm (by omega) (am_losz hP hS.1 z hN))
            · exact Or.inl (by have := hle2.1; have := hle3.1; omega)
        exact am_iv_ok X hK hP hD hS hA hlz hfr hlo hΩb (hΩ H locs hS) HC hdg hw hg hgr1 ⟨by have := hle2.1; have := hle3.1; omega, by have := hle2.2; have := hle3.2; omega⟩ (fun H1 locs1 a1 a2 a3 => ih _ _ _ _ _ _ _ _ x y _ e2 a1 a2 a3 hl (by have := hle3.1; omega) (by have := hle3.2; omega) (by have := hle3.1; omega) (by have := hle3.1; have := hle2.1; omega) hxz hyz (by omega) (by omega))
      · cases hz
        obtain ⟨e9, h9e⟩ := am_mk_app hg
        have hl1 : h1.length = h.length + 1 := by rw [h9e, List.length_append]; rfl
        have x0 : x = 0 := by rcases hx0 with z | z; exact z; have := hle2.1; omega
        have hN1 : s.heap.size = B + N0 := by rcases hgr with z | z; (have := hle2.1; omega); exact z
        refine am_mk_ok X hK hP hD hS hA hN1 hN (by omega) hdg hw hg (fun e8 h8 => ?_) (fun e8 H1 h8 a1 a2 a3 => ?_)
        · have hs1 : am_sl h1 = am_sl h + am_se e8 := by rw [h8, am_sl_app]
          exact ⟨by have := hle2.1; omega, by have := hle2.2; omega⟩
        · have hs1 : am_sl h1 = am_sl h + am_se e8 := by rw [h8, am_sl_app]
          exact ih _ _ _ _ _ _ _ _ x y _ e2 a1 a2 a3 hl (by omega) (by omega) (by omega) (Or.inl x0) hxz hyz (by omega) (by omega)
      · cases hz
        have hle3 := am_xt_le hm hg
        refine HX pc i w st _ h _ H locs cells slots ls hdg hw hg hP hD hS hlz (by have := hle.1; omega) (by have := hle.2; omega) hle2 (fun H1 locs1 a1 a2 a3 q1 q2 => ?_)
        refine ih _ _ _ _ _ _ _ _ (x + XA) (y + XS) _ e2 a1 a2 a3 hl (by omega) (by omega) (by omega) ?_ (fun z => by have := hxz z; omega) (fun z => by have := hyz z; omega) (by omega) (by omega)
        rcases hful with ⟨z1, z2⟩ | z
        · rcases hx0 with x0 | x0
          · exact Or.inl (by omega)
          · exact Or.inr (by omega)
        · exact Or.inr (by have := z _ _ _ _ _ hg; omega)
      · cases hz
        exact am_ma_ok X hlz (by omega) (by omega) c0 s0 hdg hw hg (ih _ _ _ _ _ _ _ _ x y _ e2 hP hD hS hl hce hsl hN hx0 hxz hyz (by omega) (by omega))
end
