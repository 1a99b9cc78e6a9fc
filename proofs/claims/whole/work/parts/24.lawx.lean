/-! The law's frame: its one step outside, the call of its own rope. -/
theorem am_mr_x13 {j mn a b : Nat} (h : am_mr 13 j = some (mn, a, b)) : mn ≠ 1000 ∧ mn ≠ 1001 ∧ (mn = 1002 → j = 39) := by
  have hc : ((am_mrL.getD 13 []).all fun e => !(decide (e.2.1 = 1000)) && (!(decide (e.2.1 = 1001)) && (!(decide (e.2.1 = 1002)) || decide (e.1 = 39)))) = true := by decide +kernel
  have h1 := List.all_eq_true.mp hc _ (am_lk h)
  simp only [Bool.and_eq_true, Bool.or_eq_true, Bool.not_eq_true', decide_eq_false_iff_not, decide_eq_true_eq] at h1
  exact ⟨h1.1, h1.2.1, fun z => h1.2.2.elim (fun y => absurd z y) id⟩
theorem am_xt_13 {call : am_C} {i : Instr} {st st1 : List Value} {h h1 : am_H} (e : am_xt call 13 i st h = some (st1, h1)) :
    ∃ q y x a r fs v h2 rr, i = .invokestatic 39 ∧ st = .ref q :: .int y :: .int x :: .ref a :: r ∧ am_rm r = true ∧ h.length = am_full ∧ h[a]? = some (.inr (11, fs)) ∧ call am_rope [.ref a, .int x, .int y] h = some (v, h2) ∧ am_lrA q v h2 rr h1 ∧ st1 = .int rr :: r := by
  unfold am_xt at e
  split at e
  · rw [if_neg (by decide)] at e
    cases e
  · split at e
    · rename_i hm; exact absurd rfl (am_mr_x13 hm).1
    · rename_i hm; exact absurd rfl (am_mr_x13 hm).2.1
    · cases e
  · rename_i j
    split at e
    · rename_i a1 b1 hm
      have hj := (am_mr_x13 hm).2.2 rfl
      subst hj
      split at e
      · rename_i q y x a r
        split at e
        · rename_i hc
          split at e
          · rename_i fs ha
            split at e
            · rename_i v h2 hcall
              split at e
              · rename_i lo hq
                split at e
                · rename_i hlo
                  cases e
                  exact ⟨q, y, x, a, r, fs, _, h2, 0, rfl, rfl, hc.1, hc.2, ha, hcall, Or.inl ⟨v, lo, rfl, hq, hlo, rfl, rfl⟩, rfl⟩
                · cases e
              · cases e
            · rename_i d h2 hcall
              split at e
              · rename_i hd
                cases e
                exact ⟨q, y, x, a, r, fs, _, _, 1, rfl, rfl, hc.1, hc.2, ha, hcall, Or.inr (Or.inl ⟨by rw [hd], rfl, rfl⟩), rfl⟩
              · split at e
                · rename_i hd
                  cases e
                  exact ⟨q, y, x, a, r, fs, _, _, 2, rfl, rfl, hc.1, hc.2, ha, hcall, Or.inr (Or.inr ⟨by rw [hd], rfl, rfl⟩), rfl⟩
                · cases e
            · cases e
          · cases e
        · cases e
      · cases e
    · cases e
  · cases e
theorem am_lrA_le {q : Nat} {v : Option Value} {h1 h2 : am_H} {r : Int32} (h : am_lrA q v h1 r h2) : h2.map am_se = h1.map am_se := by
  rcases h with ⟨z, lo, -, hq, -, -, rfl⟩ | ⟨-, -, rfl⟩ | ⟨-, -, rfl⟩
  · exact am_se_set hq (by show (lo.set 0 z.toInt64).length = lo.length; rw [List.length_set])
  · rfl
  · rfl
section
variable {p : Program} {l : Launch} {e : Env} {R : Room} {s : State} {m : MethodId} {args : Array Value} {below : List Frame} {meth : Method} {c : Code} {H : Heap} {locs : List Loc} {cells slots : Nat} {Q : State → Prop}
variable {D : va_G} {A : Nat → Prop} {κ : FieldType → ClassId} {B : Nat} {β : Nat → Nat} {cc : ByteArray} {nL d N : Nat} {ini : Bool} {Ts : List Cond} {st st1 : List Value} {h h1 h9 : am_H} {i : Instr} {pc w : Nat} {ls : Array Slot}
set_option maxHeartbeats 4000000 in
theorem am_lawx (hlt : l.stackTraces = false) (X : am_X p s m args meth c cc nL 13 ini Ts) (hK : am_K D κ s) (hA : ∀ q, s.heap.size ≤ q → A q) (hfr : d + 8 ≤ R.frames) (hlo : 64 * (d + 8) ≤ R.locals)
    (hO2 : ∀ (H : Heap) (locs : List Loc), va_S A s.heap H locs → ∀ U : State, U.heap = H → s.WarmedH U.vm → am_O2 B U) (h9l : h9.length = am_full)
    (hdg : decode cc pc = .ok (i, w)) (hw : am_len i w = true) (hxt : am_xt (fun mn a h => am_run (d + 2) N mn a h) 13 i st h = some (st1, h1)) (hP : va_P D am_cl (am_ws B κ h) H) (hD : va_D A (am_ws B κ h)) (hS : va_S A s.heap H locs) (hsz : ls.size = nL) (hc : cells + 1 ≤ R.cells) (hs : slots + 6 ≤ R.slots) (hle : am_le h1 h9)
    (kk : ∀ (H1 : Heap) (locs1 : List Loc), va_P D am_cl (am_ws B κ h1) H1 → va_D A (am_ws B κ h1) → va_S A s.heap H1 locs1 → h1.length = h.length → am_sl h1 = am_sl h → W p l e R s m args below meth c H1 locs1 (cells + 1) (slots + 6) Q (F0 m (pc + w) ls (st1.map (am_tv B β)))) : W p l e R s m args below meth c H locs cells slots Q (F0 m pc ls (st.map (am_tv B β))) := by
  obtain ⟨q, y, x, a, r, fs, v, h2, rr, rfl, rfl, hr, hf, ha, hcall, hq, rfl⟩ := am_xt_13 hxt
  (obtain rfl : w = 3 := by simpa [am_len] using hw)
  have hm2 := am_lrA_le hq
  have hg2 := am_run_gw _ _ _ _ _ _ _ hcall
  have hle2 := am_run_le _ _ _ _ _ _ _ hcall
  have hl2 : h2.length = h.length := by
    have := (am_eqs hm2).1
    have := hle.1
    have := hle2.1
    omega
  have hms := am_eqs (hm2.trans (am_gw_eq hg2 hl2))
  have hM := am_lr_ok l hlt D κ B d N a q x y h fs ha v h2 hcall hl2 rr h1 hq H.size
  obtain ⟨hx, hb, hml, hown, hts, hgd, hin⟩ := X
  have hA1 : ∀ z, va_A (am_ws B κ h) H.size z → A z := by
    intro z hz
    rcases hz with ⟨k, e, hk⟩ | hz
    · exact hD.2 k _ hk
    · exact hA z (Nat.le_trans hS.1 hz)
  have hrm : 2 * (F0 m pc ls ((Value.ref q :: .int y :: .int x :: .ref a :: r).map (am_tv B β))).monitorRoom + ((r.map (am_tv B β)).map fun v => v.category).sum ≤ 8 := lv_room (by rw [am_cat_map]; exact of_decide_eq_true hr)
  have hrun := vx_runSW (R := R) (l := l) (e := e) (below := below) (meth := meth) (locs := locs) (cells := cells) (slots := slots) (H := H) (hh := am_lrH) (g := F0 m pc ls ((Value.ref q :: .int y :: .int x :: .ref a :: r).map (am_tv B β))) (rest := r.map (am_tv B β)) (As := [Value.ref a, .int x, .int y, .ref q].map (am_tv B am_z0)) (own := "RopeWalkLaw") (index := 39) (n := 4) ⟨hx, hb, hml, hown, hts⟩ hM (vx_cwSW (ws' := am_gd) 4 hts (am_gin hgd (by
    intro w hw
    rcases List.mem_append.mp hw with hw | hw
    · simp only [List.mem_cons, List.not_mem_nil, or_false] at hw
      rcases hw with rfl | rfl | rfl
      · exact am_w_lrl
      · exact am_w_lrs
      · exact am_w_lri
    · rcases List.mem_cons.mp hw with rfl | hw
      · exact am_w_lr
      · exact hw)) rfl rfl rfl (by decide +kernel) (by
      show d + 3 + 4 + 1 ≤ R.frames ∧ 8 + (5 + 11) + 64 * (d + 3 + 4) ≤ R.locals
      omega)) ⟨am_blind2, fun U hU hW => ⟨rfl, by rw [hU], by rw [hU]; exact hP, hD.weaken (fun _ _ _ _ => trivial), hK.warm hW, Or.inl rfl, hO2 H locs hS U hU hW⟩⟩ rfl rfl hsz rfl hrm hdg ⟨hc, hs⟩
  refine am_after hrun hS hA1 hA1 fun H1 locs1 a1 a2 a3 => ?_
  exact kk H1 locs1 a1 a2 a3 hms.1 hms.2
end
