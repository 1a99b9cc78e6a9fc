theorem sc_val : ∀ j, j < 106 → (((am_str.getD j 0) &&& 255).toUInt32 % 65536).toInt32 = am_str.getD j 0 ∧ narrow .char (.int (am_str.getD j 0)) = .int (am_str.getD j 0) := by decide +kernel
theorem sc_len : Int32.ofNat am_str.length = 106 := by decide +kernel
theorem sc_len2 : am_str.length = 106 := by decide +kernel
theorem sc_in {i : Int32} (h : vp_in i 106) : ¬ i < 0 ∧ i < 106 ∧ i.toNatClampNeg < 106 := by
  obtain ⟨j, hj, rfl⟩ := vp_in_of h (by decide)
  refine ⟨nI_pos (by omega), ?_, by rw [nI_clamp (by omega)]; exact hj⟩
  exact nI_lt hj (by decide)
set_option maxHeartbeats 4000000 in
theorem sg_lch (l : Launch) (B k kv : Nat) (i : Int32) (hi : vp_in i 106) : Met l ys_lch (am_ws1 ys_lch 201 2 (some .char)) (am_rs 2 43) (va_Pc [.ref kv, .int i] (am_SF B k kv)) (am_Kp (some (.int (am_str.getD i.toNatClampNeg 0)))) 0 0 am_nf := by
  refine Met.ofW (cc := am_wb 201) (maxL := 2) (ret := some .char) (by decide +kernel) rfl ?_
  intro p e s m args below meth c s₁ Bd hml hv
  obtain ⟨rfl, hF⟩ := hv
  have hx := Bd.exec
  have hb := Bd.bytes
  have hr := Bd.returns
  have hts := atoms_spec (ws := am_ws1 ys_lch 201 2 (some .char)) Bd.pre
  have hgd : ∀ w ∈ am_gd, w.before ([Value.ref kv, Value.int i] : List Value).toArray s = true := fun w hw => hts w (List.mem_cons_of_mem _ hw)
  have hown : s.vm.findClass "java/lang/StringLatin1" = some m.cls := findClass_of_methodNamed Bd.named
  have hlocks := Bd.notSynchronized
  have hl := lv_entry ([.ref kv, .int i]) (n := 2) (Nat.le_of_ble_eq_true rfl)
  rw [lg_entry_eq]
  generalize (lg_sl ([.ref kv, .int i]) ++ List.replicate (2 - (lg_sl ([.ref kv, .int i])).length) Slot.unset).toArray = ls at hl ⊢
  have hl : lv_has ls 2 [(0, .ref kv), (1, .int i)] := hl
  have hS : va_S (fun q => B ≤ q) s.heap s.heap [] := va_S.rf
  have hF0 := hF
  obtain ⟨f1, f2, f3, f4, f5, f6⟩ := hF
  obtain ⟨i1, i2, i3⟩ := sc_in hi
  refine lv_iload_n hx hb sd_lch0 rfl (lv_at hl 1 rfl) ?_
  refine lv_aload_n hx hb sd_lch1 rfl (lv_at hl 0 rfl) ?_
  refine va_tlen hx hb f4 hS (v := 106) (by decide) sd_lch2 ?_
  refine am_keep (va_runS (As := [.int i, .int 106]) (rest := []) ⟨hx, hb, hml, hown, hts⟩ (sg_chk l B k kv i 106 i1 i2) ⟨callB_of (ws' := am_gd) 2 hts (am_gin (fun w hw => List.mem_cons_of_mem _ hw) sk_chk) rfl rfl rfl (hgd _ sw_iS) (hgd _ sl_chk) (by decide +kernel) ⟨Nat.le_of_ble_eq_true rfl, Nat.le_of_ble_eq_true rfl⟩, hgd _ st_chk⟩ ⟨am_fbl, fun U hU hW => ⟨rfl, hF0.to hW.alike (fun a _ _ => by rw [hU])⟩⟩ rfl rfl hl.1 rfl (lv_room (Nat.le_of_ble_eq_true rfl)) sd_lch3 ⟨Nat.le_refl _, Nat.le_refl _⟩) ?_
  refine lv_aload_n hx hb sd_lch6 rfl (lv_at hl 0 rfl) ?_
  refine lv_iload_n hx hb sd_lch7 rfl (lv_at hl 1 rfl) ?_
  refine va_tb hx hb f4 hS hi rfl sd_lch8 ?_
  refine lv_sipush (v := 255) hx hb sd_lch9 (by decide) ?_
  refine lv_iand hx hb sd_lch12 ?_
  refine lv_i2c hx hb sd_lch13 (sc_val _ i3).1 ?_
  exact W.zret (ty := .char) hx hb hr (sc_val _ i3).2 (fun t ht hW => ⟨rfl, ht⟩) (fun q hq => absurd hq List.not_mem_nil) sd_lch14
set_option maxHeartbeats 4000000 in
theorem sg_chr (l : Launch) (B k kv : Nat) (i : Int32) (hi : vp_in i 106) : Met l ys_chr (am_ws1 ys_chr 194 2 (some .char)) (am_rs 3 64) (va_Pc [.ref k, .int i] (am_SF B k kv)) (am_Kp (some (.int (am_str.getD i.toNatClampNeg 0)))) 0 0 am_nf := by
  refine Met.ofW (cc := am_wb 194) (maxL := 2) (ret := some .char) (by decide +kernel) rfl ?_
  intro p e s m args below meth c s₁ Bd hml hv
  obtain ⟨rfl, hF⟩ := hv
  have hx := Bd.exec
  have hb := Bd.bytes
  have hr := Bd.returns
  have hts := atoms_spec (ws := am_ws1 ys_chr 194 2 (some .char)) Bd.pre
  have hgd : ∀ w ∈ am_gd, w.before ([Value.ref k, Value.int i] : List Value).toArray s = true := fun w hw => hts w (List.mem_cons_of_mem _ hw)
  have hown : s.vm.findClass "java/lang/String" = some m.cls := findClass_of_methodNamed Bd.named
  have hlocks := Bd.notSynchronized
  have hl := lv_entry ([.ref k, .int i]) (n := 2) (Nat.le_of_ble_eq_true rfl)
  rw [lg_entry_eq]
  generalize (lg_sl ([.ref k, .int i]) ++ List.replicate (2 - (lg_sl ([.ref k, .int i])).length) Slot.unset).toArray = ls at hl ⊢
  have hl : lv_has ls 2 [(0, .ref k), (1, .int i)] := hl
  have hS : va_S (fun q => B ≤ q) s.heap s.heap [] := va_S.rf
  have hF0 := hF
  obtain ⟨f1, f2, f3, f4, f5, f6⟩ := hF
  obtain ⟨i1, i2, i3⟩ := sc_in hi
  refine lv_aload_n hx hb sd_chr0 rfl (lv_at hl 0 rfl) ?_
  refine am_keep (va_runV (As := []) (rest := []) ⟨hx, hb, hml, hown, hts⟩ (sg_lat l B k kv) (cwV (C := "java/lang/String") 0 hts (am_gin (fun w hw => List.mem_cons_of_mem _ hw) sv_lat) rfl rfl rfl ⟨rfl, by decide +kernel⟩ ⟨Nat.le_of_ble_eq_true rfl, Nat.le_of_ble_eq_true rfl⟩) ⟨am_fbl, ?_, fun U hU hW => ⟨rfl, hF0.to hW.alike (fun a _ _ => by rw [hU])⟩⟩ rfl rfl hl.1 rfl (lv_room (Nat.le_of_ble_eq_true rfl)) sd_chr1 ⟨Nat.le_refl _, Nat.le_refl _⟩) ?_
  · obtain ⟨cell, g1, g2, g3, -⟩ := f1
    exact ⟨cell, g1, g2, g3⟩
  refine lv_if_eq (tgt := 16) hx hb sd_chr4 (by decide) (fun z => absurd z (by decide)) (fun _ => ?_)
  refine lv_aload_n hx hb sd_chr7 rfl (lv_at hl 0 rfl) ?_
  refine vk_getf hx hb f3 hS hown (hgd _ sw_va) (fun _ z => z) sd_chr8 ?_
  refine lv_iload_n hx hb sd_chr11 rfl (lv_at hl 1 rfl) ?_
  refine am_keep (va_runS (As := [.ref kv, .int i]) (rest := []) ⟨hx, hb, hml, hown, hts⟩ (sg_lch l B k kv i hi) ⟨callB_of (ws' := am_gd) 2 hts (am_gin (fun w hw => List.mem_cons_of_mem _ hw) sk_lch) rfl rfl rfl (hgd _ sw_iL) (hgd _ sl_lch) (by decide +kernel) ⟨Nat.le_of_ble_eq_true rfl, Nat.le_of_ble_eq_true rfl⟩, hgd _ st_lch⟩ ⟨am_fbl, fun U hU hW => ⟨rfl, hF0.to hW.alike (fun a _ _ => by rw [hU])⟩⟩ rfl rfl hl.1 rfl (lv_room (Nat.le_of_ble_eq_true rfl)) sd_chr12 ⟨Nat.le_refl _, Nat.le_refl _⟩) ?_
  exact W.zret (ty := .char) hx hb hr (sc_val _ i3).2 (fun t ht hW => ⟨rfl, ht⟩) (fun q hq => absurd hq List.not_mem_nil) sd_chr15
theorem am_mr_st {o j mn a b : Nat} (h : am_mr o j = some (mn, a, b)) : (mn = 1000 → Cond.methodLink (am_nmo o) j ys_len ∈ am_gd) ∧ (mn = 1001 → Cond.methodLink (am_nmo o) j ys_chr ∈ am_gd) := by
  have h1 := am_lk2 am_mrc am_mr_chk h
  unfold am_mrc at h1
  have e : ∀ k, 1000 ≤ k → am_me[k]? = none := fun k hk => List.getElem?_eq_none (by rw [am_me_len]; omega)
  refine ⟨fun z => ?_, fun z => ?_⟩
  · subst z; simp only [e 1000 (by decide)] at h1; exact am_wd_in h1
  · subst z; simp only [e 1001 (by decide)] at h1; exact am_wd_in h1
theorem am_tok9 : am_nmo 9 = "RopeWalk$Tokens" := by decide +kernel
set_option maxHeartbeats 4000000 in
/-- the steps outside, of the class of tokens -/
theorem am_HS_ok (l : Launch) (D : va_G) (κ : FieldType → ClassId) (B : Nat) (s : State) (hO : am_O B s) : am_HS l D κ B s := by
  obtain ⟨hB, k, kv, hR, hF⟩ := hO
  refine ⟨fun _ => k, ?_⟩
  intro p e R m args below meth c Q A cc nL ini Ts call X hAB hfr hlo pc i w st st1 h h1 H locs cells slots ls hdg hw hxt hS hsz hc hs kk
  obtain ⟨hx, hb, hml, hown, hts, hgd, hin⟩ := X
  have hpre : ∀ U : State, U.heap = H → s.WarmedH U.vm → am_SF B k kv U := fun U hU hW => hF.to hW.alike (fun a ha hab => by rw [hU]; exact hS.2.1 a ha (hAB a hab))
  have hrec : ∃ cellB : Cell, H[k]? = some cellB ∧ cellB.vm.isStatics = false ∧ s.vm.findClass "java/lang/String" = some cellB.cls := by
    obtain ⟨cell, g1, g2, g3, g4⟩ := hF.1
    exact ⟨cell, by rw [hS.2.1 k (Array.getElem?_eq_some_iff.mp g1).1 (hAB k (Nat.not_le.mp g4))]; exact g1, g2, g3⟩
  unfold am_xt at hxt
  split at hxt
  · split at hxt
    · cases hxt
      (obtain rfl : w = 2 := by simpa [am_len] using hw)
      exact va_ldcS (own := "RopeWalk$Tokens") hx hb (by rw [← am_tok9]; exact hown) hR hdg kk
    · cases hxt
  · rename_i j
    split at hxt
    · rename_i a b hm
      split at hxt
      · rename_i r
        split at hxt
        · rename_i hr
          cases hxt
          (obtain rfl : w = 3 := by simpa [am_len] using hw)
          refine am_keep (va_runV (As := []) (rest := r.map (am_tv B (fun _ => k))) ⟨hx, hb, hml, hown, hts⟩ (sg_len l B k kv) (cwV (C := "java/lang/String") (ws' := am_gd) 0 hts (am_gin hgd (fun w hw => ?_)) rfl rfl rfl ⟨rfl, by decide +kernel⟩ ⟨by show 1 + 1 ≤ R.frames; omega, by show 8 + (1 + 11) + 20 ≤ R.locals; omega⟩) ⟨am_fbl, hrec, fun U hU hW => ⟨rfl, hpre U hU hW⟩⟩ rfl rfl hsz rfl (lv_room (by rw [am_cat_map]; exact of_decide_eq_true hr)) hdg ⟨hc, hs⟩) ?_
          · rcases List.mem_append.mp hw with hw | hw
            · simp only [List.mem_cons, List.not_mem_nil, or_false] at hw
              rcases hw with rfl | rfl | rfl | rfl
              · exact (am_mr_st hm).1 rfl
              · exact am_wd_in (p := 182) (by decide +kernel)
              · exact am_wd_in (p := 183) (by decide +kernel)
              · exact sw_iS
            · exact sk_len w hw
          · have := kk
            rw [sc_len] at this
            exact this
        · cases hxt
      · cases hxt
    · rename_i a b hm
      split at hxt
      · rename_i q r
        split at hxt
        · rename_i hr
          cases hxt
          (obtain rfl : w = 3 := by simpa [am_len] using hw)
          have hi : vp_in q 106 := by rw [← sc_len2]; exact hr.2
          refine am_keep (va_runV (As := [.int q]) (rest := r.map (am_tv B (fun _ => k))) ⟨hx, hb, hml, hown, hts⟩ (sg_chr l B k kv q hi) (cwV (C := "java/lang/String") (ws' := am_gd) 1 hts (am_gin hgd (fun w hw => ?_)) rfl rfl rfl ⟨rfl, by decide +kernel⟩ ⟨by show 3 + 1 ≤ R.frames; omega, by show 8 + (2 + 11) + 64 ≤ R.locals; omega⟩) ⟨am_fbl, hrec, fun U hU hW => ⟨rfl, hpre U hU hW⟩⟩ rfl rfl hsz rfl (lv_room (by rw [am_cat_map]; exact of_decide_eq_true hr.1)) hdg ⟨hc, hs⟩) ?_
          · rcases List.mem_append.mp hw with hw | hw
            · simp only [List.mem_cons, List.not_mem_nil, or_false] at hw
              rcases hw with rfl | rfl | rfl | rfl
              · exact (am_mr_st hm).2 rfl
              · exact am_wd_in (p := 192) (by decide +kernel)
              · exact am_wd_in (p := 193) (by decide +kernel)
              · exact sw_iS
            · exact sk_chr w hw
          · exact kk
        · cases hxt
      · cases hxt
    · cases hxt
  · rename_i j
    split at hxt
    · rename_i a b hm
      exact absurd rfl (am_mr_x9 hm)
    · cases hxt
  · cases hxt
/-- every method: its run by the abstract machine is its run -/
theorem am_runs (l : Launch) (D : va_G) (κ : FieldType → ClassId) (B : Nat) (d n mn : Nat) (a : List Value) (h : am_H) (v : Option Value) (h1 : am_H) (e : am_run d n mn a h = some (v, h1)) (hnd : am_nd v = true) (hpl : a.all am_pl = true) : am_OK (am_O B) l D κ B d mn a h v h1 :=
  am_run_ok l D κ B (am_O B) am_O.call (fun _ z => z.1) am_O.to (fun s z _ => am_HS_ok l D κ B s z) d n mn a h v h1 e hnd hpl
