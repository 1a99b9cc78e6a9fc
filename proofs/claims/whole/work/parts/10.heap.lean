/-! Instructions that write a cell: sound. -/
theorem am_fit_ok {ty : FieldType} {v : Value} (h : am_fit ty v = true) (B : Nat) (β : Nat → Nat) : am_pl v = true ∧ narrow ty (am_tv B β v) = am_tv B β v ∧ fits ty (am_tv B β v) = true := by
  unfold am_fit at h
  split at h
  · exact ⟨rfl, rfl, rfl⟩
  · rename_i x
    simp only [Bool.or_eq_true, beq_iff_eq] at h
    rcases h with rfl | rfl
    · exact ⟨rfl, narrow_b0, rfl⟩
    · exact ⟨rfl, narrow_b1, rfl⟩
  · exact ⟨rfl, rfl, rfl⟩
  · exact ⟨rfl, rfl, rfl⟩
  · exact ⟨rfl, rfl, rfl⟩
  · exact ⟨rfl, rfl, rfl⟩
  · exact ⟨rfl, rfl, rfl⟩
  · cases h
theorem am_names {ci : Nat} {q : vw_C} (h : am_cl[ci]? = some q) : ∀ a, a < q.2.2 → ∀ b, b < q.2.2 → a ≠ b → (q.2.1 a).2.1 ≠ (q.2.1 b).2.1 := by
  have key : ∀ T : u_T, ∀ a b, am_dif T a b = true → a ≠ b → (T a).2.1 ≠ (T b).2.1 := by
    intro T a b h1 h2 h3
    simp only [am_dif, Bool.or_eq_true, beq_iff_eq, Bool.not_eq_true', beq_eq_false_iff_ne] at h1
    exact h1.elim h2 (fun z => z h3)
  intro a ha b hb hab
  by_cases hc : ci < 12
  · have h1 := List.all_eq_true.mp am_nd_chk0 (q, ci) (List.mem_of_getElem? (i := ci) (by rw [List.getElem?_take, if_pos hc, List.getElem?_zipIdx, h]; simp))
    have h2 := List.all_eq_true.mp (List.all_eq_true.mp h1 a (List.mem_range.mpr ha)) b (List.mem_range.mpr hb)
    exact key _ a b h2 hab
  · have hl : ci < 13 := (List.getElem?_eq_some_iff.mp h).1
    have : ci = 12 := by omega
    subst this
    cases h
    have h2 := List.all_eq_true.mp (List.all_eq_true.mp am_nd_chk1 a (List.mem_range.mpr ha)) b (List.mem_range.mpr hb)
    exact key _ a b h2 hab
theorem am_te_f {B : Nat} {β : Nat → Nat} {κ : FieldType → ClassId} {c k : Nat} {fs : List Value} {v : Value} (hp : am_pl v = true) : am_te B κ (.inr (c, fs.set k v)) = .inr (c, (fs.map (am_tv B am_z0)).set k (am_tv B β v)) := by
  rw [am_tv_pl (β := β) (β' := am_z0) hp]
  show (Sum.inr (c, (fs.set k v).map (am_tv B am_z0)) : va_E) = _
  rw [List.map_set]
theorem am_getD_set {α : Type} {l : List α} {k : Nat} {x d : α} (hk : k < l.length) (j : Nat) : (l.set k x).getD j d = if j = k then x else l.getD j d := by
  rw [List.getD_eq_getElem?_getD, List.getD_eq_getElem?_getD, List.getElem?_set]
  by_cases h : k = j
  · subst h; simp [hk]
  · rw [if_neg h, if_neg (fun q => h q.symm)]
theorem am_te_i {B : Nat} {κ : FieldType → ClassId} {ty : FieldType} {k : Nat} {l : List Int32} {x : Int32} (hk : k < l.length) : am_te B κ (.inl (ty, .inl (l.set k x))) = .inl (κ ty, l.length, .inl (upd (fun j => l.getD j 0) k x)) := by
  show (Sum.inl (κ ty, (l.set k x).length, Sum.inl (fun j => (l.set k x).getD j 0)) : va_E) = _
  rw [List.length_set]
  congr 4
  funext j
  rw [am_getD_set hk]
  rfl
theorem am_te_l {B : Nat} {κ : FieldType → ClassId} {ty : FieldType} {k : Nat} {l : List Int64} {x : Int64} (hk : k < l.length) : am_te B κ (.inl (ty, .inr (.inl (l.set k x)))) = .inl (κ ty, l.length, .inr (.inl (vp_updL (fun j => l.getD j 0) k x))) := by
  show (Sum.inl (κ ty, (l.set k x).length, Sum.inr (Sum.inl (fun j => (l.set k x).getD j 0))) : va_E) = _
  rw [List.length_set]
  congr 5
  funext j
  rw [am_getD_set hk]
  rfl
theorem am_te_q {B : Nat} {κ : FieldType → ClassId} {ty : FieldType} {k q : Nat} {l : List (Option Nat)} (hk : k < l.length) : am_te B κ (.inl (ty, .inr (.inr (l.set k (some q))))) = .inl (κ ty, l.length, .inr (.inr (.inr (.inr (va_up (fun j => (l.getD j none).map (B + ·)) k (some (B + q))))))) := by
  show (Sum.inl (κ ty, (l.set k (some q)).length, Sum.inr (Sum.inr (Sum.inr (Sum.inr (fun j => ((l.set k (some q)).getD j none).map (B + ·)))))) : va_E) = _
  rw [List.length_set]
  congr 7
  funext j
  rw [am_getD_set hk]
  unfold va_up
  by_cases hj : j = k
  · rw [if_pos hj, if_pos hj]; rfl
  · rw [if_neg hj, if_neg hj]
theorem am_te_c {B : Nat} {κ : FieldType → ClassId} {ty : FieldType} {sp dp n : Nat} {f g : List Int32} (h4 : sp + n ≤ f.length) (h5 : dp + n ≤ g.length) : am_te B κ (.inl (ty, .inl (g.take dp ++ (f.drop sp).take n ++ g.drop (dp + n)))) = .inl (κ ty, g.length, .inl (va_cpy (fun j => f.getD j 0) (fun j => g.getD j 0) sp dp n)) := by
  show (Sum.inl (κ ty, (g.take dp ++ (f.drop sp).take n ++ g.drop (dp + n)).length, Sum.inl (fun j => (g.take dp ++ (f.drop sp).take n ++ g.drop (dp + n)).getD j 0)) : va_E) = _
  have hlen : (g.take dp ++ (f.drop sp).take n ++ g.drop (dp + n)).length = g.length := by simp; omega
  rw [hlen]
  congr 4
  funext j
  rw [List.getD_eq_getElem?_getD]
  unfold va_cpy
  have l1 : (g.take dp).length = dp := by simp; omega
  have l2 : ((f.drop sp).take n).length = n := by simp; omega
  by_cases h1 : j < dp
  · rw [if_neg (by omega), List.append_assoc, List.getElem?_append_left (by omega), List.getElem?_take, if_pos h1]; exact (List.getD_eq_getElem?_getD ..).symm
  · by_cases h2 : j < dp + n
    · rw [if_pos ⟨by omega, h2⟩, List.append_assoc, List.getElem?_append_right (by omega), List.getElem?_append_left (by omega), List.getElem?_take, if_pos (by omega), List.getElem?_drop, l1]; exact (List.getD_eq_getElem?_getD ..).symm
    · rw [if_neg (by omega), List.append_assoc, List.getElem?_append_right (by omega), List.getElem?_append_right (by omega), List.getElem?_drop, l1, l2, show dp + n + (j - dp - n) = j by omega]; exact (List.getD_eq_getElem?_getD ..).symm
theorem am_w_sys : Cond.initialized "java/lang/System" ∈ am_gd := am_wd_in (p := 158) (by decide +kernel)
theorem am_w_cps : Cond.static arraycopyName ∈ am_gd := am_wd_in (p := 1042) (by decide +kernel)
theorem am_w_cpn : Cond.native arraycopyName ∈ am_gd := am_wd_in (p := 1043) (by decide +kernel)
theorem am_mr_cpy {o j a b : Nat} (h : am_mr o j = some (2001, a, b)) : Cond.methodLink (am_nmo o) j arraycopyName ∈ am_gd := by
  have h1 := am_lk2 am_mrc am_mr_chk h
  unfold am_mrc at h1
  have e : am_me[2001]? = none := by decide +kernel
  simp only [e] at h1
  exact am_wd_in h1
theorem am_cpy_inv {st st1 : List Value} {h h1 : am_H} (e : am_cpy st h = some (st1, h1)) : ∃ n dp a sp a0 f g, st = .int n :: .int dp :: .ref a :: .int sp :: .ref a0 :: st1 ∧ h[a0]? = some (.inl (.int, .inl f)) ∧ h[a]? = some (.inl (.int, .inl g)) ∧ ¬ sp < 0 ∧ ¬ dp < 0 ∧ ¬ n < 0 ∧ sp.toNatClampNeg + n.toNatClampNeg ≤ f.length ∧ dp.toNatClampNeg + n.toNatClampNeg ≤ g.length ∧ (st1.map fun v => v.category).sum ≤ 8 ∧
    h1 = h.set a (.inl (.int, .inl (g.take dp.toNatClampNeg ++ (f.drop sp.toNatClampNeg).take n.toNatClampNeg ++ g.drop (dp.toNatClampNeg + n.toNatClampNeg)))) := by
  unfold am_cpy at e
  split at e
  · rename_i n dp a sp a0 r
    split at e
    · rename_i f g hf hg
      split at e
      · rename_i hc
        cases e
        exact ⟨n, dp, a, sp, a0, f, g, rfl, hf, hg, hc.1, hc.2.1, hc.2.2.1, hc.2.2.2.1, hc.2.2.2.2.1, hc.2.2.2.2.2, rfl⟩
      · cases e
    · cases e
  · cases e
section
variable {p : Program} {l : Launch} {e : Env} {R : Room} {s : State} {m : MethodId} {args : Array Value} {below : List Frame} {meth : Method} {c : Code} {H : Heap} {locs : List Loc} {cells slots : Nat} {Q : State → Prop}
variable {D : va_G} {A : Nat → Prop} {κ : FieldType → ClassId} {B : Nat} {β : Nat → Nat} {cc : ByteArray} {nL o : Nat} {ini : Bool} {Ts : List Cond} {L st st1 : List Value} {h h1 : am_H} {i : Instr} {pc w : Nat} {ls : Array Slot}
theorem am_cat_map {st : List Value} : ((st.map (am_tv B β)).map fun v => v.category) = st.map fun v => v.category := by
  rw [List.map_map]
  apply List.map_congr_left
  intro v _
  exact am_tv_cat B β v
theorem am_pf_inv {j : Nat} (e : am_pf o ini j st h = some (st1, h1)) : ∃ ci k ns pl a fs v, am_fr o j = some (ci, k, ns, pl) ∧ st = v :: .ref a :: st1 ∧ h[a]? = some (.inr (ci, fs)) ∧ k < fs.length ∧ am_fit (am_fty ci k) v = true ∧ (am_fin ci k = false ∨ (ini = true ∧ o = ci ∧ ns = 0)) ∧ h1 = h.set a (.inr (ci, fs.set k v)) := by
  unfold am_pf at e
  split at e
  · rename_i ci k ns pl hf
    split at e
    · rename_i v a r
      split at e
      · rename_i c fs hh
        split at e
        · rename_i hc
          obtain ⟨rfl, h2, h3, h4⟩ := hc
          cases e
          exact ⟨c, k, ns, pl, a, fs, v, hf, rfl, hh, h2, h3, h4, rfl⟩
        · cases e
      · cases e
    · cases e
  · cases e
theorem am_ias_inv (e : am_ias st h = some (st1, h1)) : ∃ x i a l, st = .int x :: .int i :: .ref a :: st1 ∧ h[a]? = some (.inl (.int, .inl l)) ∧ ¬ (i < 0 ∨ l.length ≤ i.toNatClampNeg) ∧ h1 = h.set a (.inl (.int, .inl (l.set i.toNatClampNeg x))) := by
  unfold am_ias at e
  split at e
  · rename_i x i a r
    split at e
    · rename_i l hh
      split at e
      · rename_i hc
        cases e
        exact ⟨x, i, a, l, rfl, hh, hc, rfl⟩
      · cases e
    · cases e
  · cases e
theorem am_bas_inv (e : am_bas st h = some (st1, h1)) : ∃ x i a l, st = .int x :: .int i :: .ref a :: st1 ∧ h[a]? = some (.inl (.boolean, .inl l)) ∧ (x = 0 ∨ x = 1) ∧ ¬ (i < 0 ∨ l.length ≤ i.toNatClampNeg) ∧ h1 = h.set a (.inl (.boolean, .inl (l.set i.toNatClampNeg x))) := by
  unfold am_bas at e
  split at e
  · rename_i x i a r
    split at e
    · rename_i l hh
      split at e
      · rename_i hc
        cases e
        exact ⟨x, i, a, l, rfl, hh, hc.1, hc.2, rfl⟩
      · cases e
    · cases e
  · cases e
theorem am_las_inv (e : am_las st h = some (st1, h1)) : ∃ x i a l, st = .long x :: .int i :: .ref a :: st1 ∧ h[a]? = some (.inl (.long, .inr (.inl l))) ∧ ¬ (i < 0 ∨ l.length ≤ i.toNatClampNeg) ∧ h1 = h.set a (.inl (.long, .inr (.inl (l.set i.toNatClampNeg x)))) := by
  unfold am_las at e
  split at e
  · rename_i x i a r
    split at e
    · rename_i l hh
      split at e
      · rename_i hc
        cases e
        exact ⟨x, i, a, l, rfl, hh, hc, rfl⟩
      · cases e
    · cases e
  · cases e
theorem am_aas_inv (e : am_aas st h = some (st1, h1)) : ∃ q i a l fs, st = .ref q :: .int i :: .ref a :: st1 ∧ h[a]? = some (.inl (.object "RopeWalk$Law", .inr (.inr l))) ∧ h[q]? = some (.inr (3, fs)) ∧ ¬ (i < 0 ∨ l.length ≤ i.toNatClampNeg) ∧ h1 = h.set a (.inl (.object "RopeWalk$Law", .inr (.inr (l.set i.toNatClampNeg (some q))))) := by
  unfold am_aas at e
  split at e
  · rename_i q i a r
    split at e
    · rename_i C l hh
      split at e
      · rename_i c fs hq
        split at e
        · rename_i hc
          obtain ⟨rfl, rfl, hc⟩ := hc
          cases e
          exact ⟨q, i, a, l, fs, rfl, hh, hq, hc, rfl⟩
        · cases e
      · cases e
    · cases e
  · cases e
theorem am_nar0 : vp_nar .boolean 0 = 0 := by decide
theorem am_nar1 : vp_nar .boolean 1 = 1 := by decide
set_option maxHeartbeats 4000000 in
theorem am_hw_ok (X : am_X p s m args meth c cc nL o ini Ts) (hK : am_K D κ s) (hP : va_P D am_cl (am_ws B κ h) H) (hD : va_D A (am_ws B κ h)) (hS : va_S A s.heap H locs) (hsz : ls.size = nL) (hfr : 1 ≤ R.frames) (hlo : 64 ≤ R.locals) (hdg : decode cc pc = .ok (i, w)) (hw : am_len i w = true) (hp : am_hw o ini i st h = some (st1, h1))
    (kk : ∀ (H1 : Heap) (locs1 : List Loc), va_P D am_cl (am_ws B κ h1) H1 → va_D A (am_ws B κ h1) → va_S A s.heap H1 locs1 → W p l e R s m args below meth c H1 locs1 cells slots Q (F0 m (pc + w) ls (st1.map (am_tv B β)))) : W p l e R s m args below meth c H locs cells slots Q (F0 m pc ls (st.map (am_tv B β))) := by
  obtain ⟨hx, hb, hml, hown, hts, hgd, hin⟩ := X
  have kset : ∀ {a : Nat} {e0 : am_E} {e1 : va_E}, h1 = h.set a e0 → am_te B κ e0 = e1 → ∀ (H1 : Heap) (locs1 : List Loc), va_P D am_cl ((am_ws B κ h).set a (B + a, e1)) H1 → va_D A ((am_ws B κ h).set a (B + a, e1)) → va_S A s.heap H1 locs1 → W p l e R s m args below meth c H1 locs1 cells slots Q (F0 m (pc + w) ls (st1.map (am_tv B β))) := by
    intro a e0 e1 q1 q2 H1 locs1 a1 a2 a3
    subst q1
    subst q2
    rw [← am_ws_set] at a1 a2
    exact kk H1 locs1 a1 a2 a3
  cases i
  case putfield j =>
    (obtain rfl : w = 3 := by simpa [am_len] using hw)
    obtain ⟨ci, k, ns, pl, a, fs, v, hf, rfl, hh, hkl, hfit, hfin, e1⟩ := am_pf_inv hp
    obtain ⟨q, hq, hk, h0, h2⟩ := am_fr_ok hf
    obtain ⟨ly1, ly2, ly3, ly4, ly5⟩ := am_lay hq
    obtain ⟨hpl, hnar, hft⟩ := am_fit_ok hfit B β
    have hlen : k < (fs.map (am_tv B am_z0)).length := by rw [List.length_map]; exact hkl
    have hfe : am_fin ci k = (q.2.1 k).2.2.2 := by unfold am_fin; rw [hq]
    rcases hfin with hfin | ⟨hini, hoc, hns⟩
    · by_cases hn : ns = 0
      · exact va_put (ci := ci) (C := q.1) (T := q.2.1) (N := q.2.2) hx hb hts (fun w hw => hgd w (ly1 w hw)) (am_fty ci) ly2 (am_names hq) hown hK.1 hP hD hS a (am_ws_get hh) hq k hk (hts _ (hgd _ (h0 hn))) (fun _ z => z) (by rw [← hfe]; exact hfin) (ly2 k hk) hnar hft hlen hdg (kset e1 (am_te_f hpl))
      · exact va_putN (ci := ci) (C := q.1) (T := q.2.1) (N := q.2.2) hx hb hts (fun w hw => hgd w (ly1 w hw)) (am_fty ci) ly2 (am_names hq) hown hK.1 hP hD hS a (am_ws_get hh) hq k hk (va_Nw.use rfl (hK.2.2.1 _ (h2 hn))) (fun _ z => z) (by rw [← hfe]; exact hfin) (ly2 k hk) hnar hft hlen hdg (kset e1 (am_te_f hpl))
    · by_cases hfin : am_fin ci k = false
      · exact va_put (ci := ci) (C := q.1) (T := q.2.1) (N := q.2.2) hx hb hts (fun w hw => hgd w (ly1 w hw)) (am_fty ci) ly2 (am_names hq) hown hK.1 hP hD hS a (am_ws_get hh) hq k hk (hts _ (hgd _ (h0 hns))) (fun _ z => z) (by rw [← hfe]; exact hfin) (ly2 k hk) hnar hft hlen hdg (kset e1 (am_te_f hpl))
      · exact va_putF (ci := ci) (C := q.1) (T := q.2.1) (N := q.2.2) hx hb hts (fun w hw => hgd w (ly1 w hw)) (am_fty ci) ly2 (am_names hq) hown hK.1 hP hD hS a (am_ws_get hh) hq k hk (hts _ (hgd _ (h0 hns))) (fun _ z => z) (by rw [← hfe]; simpa using hfin) (hin hini) (by rw [ly3 k hk, hoc, ly5]) (ly2 k hk) hnar hft hlen hdg (kset e1 (am_te_f hpl))
  case iastore =>
    (obtain rfl : w = 1 := by simpa [am_len] using hw)
    obtain ⟨x, i, a, l, rfl, hh, hi, e1⟩ := am_ias_inv hp
    exact va_iast hx hb (am_Kt hK am_ty_i) hP hD hS a 0 (am_ws_get hh) rfl hi hdg (kset e1 (am_te_i (Nat.not_le.mp fun z => hi (Or.inr z))))
  case bastore =>
    (obtain rfl : w = 1 := by simpa [am_len] using hw)
    obtain ⟨x, i, a, l, rfl, hh, hx01, hi, e1⟩ := am_bas_inv hp
    have hnx : vp_nar .boolean x = x := by rcases hx01 with rfl | rfl; exact am_nar0; exact am_nar1
    refine va_zast hx hb (am_Kt hK am_ty_z) hP hD hS a 0 (am_ws_get hh) rfl hi hdg ?_
    rw [hnx]
    exact kset e1 (am_te_i (Nat.not_le.mp fun z => hi (Or.inr z)))
  case lastore =>
    (obtain rfl : w = 1 := by simpa [am_len] using hw)
    obtain ⟨x, i, a, l, rfl, hh, hi, e1⟩ := am_las_inv hp
    exact va_last hx hb (am_Kt hK am_ty_l) hP hD hS a 0 (am_ws_get hh) rfl hi hdg (kset e1 (am_te_l (Nat.not_le.mp fun z => hi (Or.inr z))))
  case aastore =>
    (obtain rfl : w = 1 := by simpa [am_len] using hw)
    obtain ⟨q, i, a, l, fs, rfl, hh, hq, hi, e1⟩ := am_aas_inv hp
    exact va_astq (r := ("RopeWalk$Law", am_T3, 3)) hx hb (am_Kt hK am_ty_q) hP hD hS a 0 q 3 (am_ws_get hh) rfl (am_ws_get hq) rfl hi hdg (kset e1 (am_te_q (Nat.not_le.mp fun z => hi (Or.inr z))))
  case invokestatic j =>
    (obtain rfl : w = 3 := by simpa [am_len] using hw)
    unfold am_hw at hp
    dsimp only at hp
    split at hp
    · rename_i a b hm
      obtain ⟨n, dp, a, sp, a0, f, g, rfl, hf, hg, q1, q2, q3, q4, q5, q6, e1⟩ := am_cpy_inv hp
      exact va_copyi hx hb (by rw [hml]; exact hsz.symm) hown (hts _ (hgd _ (am_mr_cpy hm))) (hts _ (hgd _ am_w_cpn)) (hts _ (hgd _ am_w_cps)) (hts _ (hgd _ am_w_sys)) (am_Kt hK am_ty_i) hP hD hS a0 a 0 0 (am_ws_get hf) (am_ws_get hg) rfl rfl rfl q1 q2 q3 q4 q5 (fun _ _ => rfl) hfr (by
        have : ((st1.map (am_tv B β)).map fun v => v.category).sum ≤ 8 := by rw [am_cat_map]; exact q6
        have z : nativeFrameWords "java/lang/System" "arraycopy" 5 + 11 ≤ 50 := by decide +kernel
        omega) hdg (kset e1 (am_te_c q4 q5))
    · cases hp
  all_goals cases hp
end
