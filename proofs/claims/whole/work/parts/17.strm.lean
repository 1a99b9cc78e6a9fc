theorem sd_cod0 : decode (am_wb 188) 0 = .ok (.getstatic 38, 3) := by decide +kernel
theorem sd_cod3 : decode (am_wb 188) 3 = .ok (.ifCond .eq 10, 3) := by decide +kernel
theorem sd_cod6 : decode (am_wb 188) 6 = .ok (.aload_n 0, 1) := by decide +kernel
theorem sd_cod7 : decode (am_wb 188) 7 = .ok (.getfield 15, 3) := by decide +kernel
theorem sd_cod10 : decode (am_wb 188) 10 = .ok (.goto 4, 3) := by decide +kernel
theorem sd_cod14 : decode (am_wb 188) 14 = .ok (.ireturn, 1) := by decide +kernel
theorem sd_len0 : decode (am_wb 184) 0 = .ok (.aload_n 0, 1) := by decide +kernel
theorem sd_len1 : decode (am_wb 184) 1 = .ok (.getfield 9, 3) := by decide +kernel
theorem sd_len4 : decode (am_wb 184) 4 = .ok (.arraylength, 1) := by decide +kernel
theorem sd_len5 : decode (am_wb 184) 5 = .ok (.aload_n 0, 1) := by decide +kernel
theorem sd_len6 : decode (am_wb 184) 6 = .ok (.invokevirtual 335, 3) := by decide +kernel
theorem sd_len9 : decode (am_wb 184) 9 = .ok (.ishr, 1) := by decide +kernel
theorem sd_len10 : decode (am_wb 184) 10 = .ok (.ireturn, 1) := by decide +kernel
theorem sd_lat0 : decode (am_wb 198) 0 = .ok (.getstatic 38, 3) := by decide +kernel
theorem sd_lat3 : decode (am_wb 198) 3 = .ok (.ifCond .eq 14, 3) := by decide +kernel
theorem sd_lat6 : decode (am_wb 198) 6 = .ok (.aload_n 0, 1) := by decide +kernel
theorem sd_lat7 : decode (am_wb 198) 7 = .ok (.getfield 15, 3) := by decide +kernel
theorem sd_lat10 : decode (am_wb 198) 10 = .ok (.ifCond .ne 7, 3) := by decide +kernel
theorem sd_lat13 : decode (am_wb 198) 13 = .ok (.iconst 1, 1) := by decide +kernel
theorem sd_lat14 : decode (am_wb 198) 14 = .ok (.goto 4, 3) := by decide +kernel
theorem sd_lat18 : decode (am_wb 198) 18 = .ok (.ireturn, 1) := by decide +kernel
theorem sd_pre0 : decode (am_wb 209) 0 = .ok (.iload_n 0, 1) := by decide +kernel
theorem sd_pre1 : decode (am_wb 209) 1 = .ok (.ifCond .lt 8, 3) := by decide +kernel
theorem sd_pre4 : decode (am_wb 209) 4 = .ok (.iload_n 0, 1) := by decide +kernel
theorem sd_pre5 : decode (am_wb 209) 5 = .ok (.iload_n 1, 1) := by decide +kernel
theorem sd_pre6 : decode (am_wb 209) 6 = .ok (.if_icmp .lt 10, 3) := by decide +kernel
theorem sd_pre16 : decode (am_wb 209) 16 = .ok (.iload_n 0, 1) := by decide +kernel
theorem sd_pre17 : decode (am_wb 209) 17 = .ok (.ireturn, 1) := by decide +kernel
theorem sd_chk0 : decode (am_wb 204) 0 = .ok (.iload_n 0, 1) := by decide +kernel
theorem sd_chk1 : decode (am_wb 204) 1 = .ok (.iload_n 1, 1) := by decide +kernel
theorem sd_chk2 : decode (am_wb 204) 2 = .ok (.getstatic 1053, 3) := by decide +kernel
theorem sd_chk5 : decode (am_wb 204) 5 = .ok (.invokestatic 1059, 3) := by decide +kernel
theorem sd_chk8 : decode (am_wb 204) 8 = .ok (.pop, 1) := by decide +kernel
theorem sd_chk9 : decode (am_wb 204) 9 = .ok (.return_, 1) := by decide +kernel
theorem sd_lch0 : decode (am_wb 201) 0 = .ok (.iload_n 1, 1) := by decide +kernel
theorem sd_lch1 : decode (am_wb 201) 1 = .ok (.aload_n 0, 1) := by decide +kernel
theorem sd_lch2 : decode (am_wb 201) 2 = .ok (.arraylength, 1) := by decide +kernel
theorem sd_lch3 : decode (am_wb 201) 3 = .ok (.invokestatic 9, 3) := by decide +kernel
theorem sd_lch6 : decode (am_wb 201) 6 = .ok (.aload_n 0, 1) := by decide +kernel
theorem sd_lch7 : decode (am_wb 201) 7 = .ok (.iload_n 1, 1) := by decide +kernel
theorem sd_lch8 : decode (am_wb 201) 8 = .ok (.baload, 1) := by decide +kernel
theorem sd_lch9 : decode (am_wb 201) 9 = .ok (.sipush 255, 3) := by decide +kernel
theorem sd_lch12 : decode (am_wb 201) 12 = .ok (.iand, 1) := by decide +kernel
theorem sd_lch13 : decode (am_wb 201) 13 = .ok (.i2c, 1) := by decide +kernel
theorem sd_lch14 : decode (am_wb 201) 14 = .ok (.ireturn, 1) := by decide +kernel
theorem sd_chr0 : decode (am_wb 194) 0 = .ok (.aload_n 0, 1) := by decide +kernel
theorem sd_chr1 : decode (am_wb 194) 1 = .ok (.invokevirtual 492, 3) := by decide +kernel
theorem sd_chr4 : decode (am_wb 194) 4 = .ok (.ifCond .eq 12, 3) := by decide +kernel
theorem sd_chr7 : decode (am_wb 194) 7 = .ok (.aload_n 0, 1) := by decide +kernel
theorem sd_chr8 : decode (am_wb 194) 8 = .ok (.getfield 9, 3) := by decide +kernel
theorem sd_chr11 : decode (am_wb 194) 11 = .ok (.iload_n 1, 1) := by decide +kernel
theorem sd_chr12 : decode (am_wb 194) 12 = .ok (.invokestatic 495, 3) := by decide +kernel
theorem sd_chr15 : decode (am_wb 194) 15 = .ok (.ireturn, 1) := by decide +kernel
theorem st_chk : Cond.static ys_chk ∈ am_gd := am_wd_in (p := 203) (by decide +kernel)
theorem st_pre : Cond.static ys_pre ∈ am_gd := am_wd_in (p := 208) (by decide +kernel)
theorem st_lch : Cond.static ys_lch ∈ am_gd := am_wd_in (p := 200) (by decide +kernel)
theorem sl_chk : Cond.methodLink "java/lang/StringLatin1" 9 ys_chk ∈ am_gd := am_wd_in (p := 202) (by decide +kernel)
theorem sl_pre : Cond.methodLink "java/lang/String" 1059 ys_pre ∈ am_gd := am_wd_in (p := 207) (by decide +kernel)
theorem sl_lch : Cond.methodLink "java/lang/String" 495 ys_lch ∈ am_gd := am_wd_in (p := 199) (by decide +kernel)
theorem am_tl {w : Cond} {Ts : List Cond} {c0 : Cond} (h : Ts = c0 :: am_gd) : ∀ w ∈ am_gd, w ∈ Ts := fun w hw => by rw [h]; exact List.mem_cons_of_mem _ hw
set_option maxHeartbeats 4000000 in
theorem sg_cod (l : Launch) (B k kv : Nat) : Met l ys_cod (am_ws1 ys_cod 188 1 (some .byte)) (am_rs 0 0) (va_Pc [.ref k] (am_SF B k kv)) (am_Kp (some (.int 0))) 0 0 am_nf := by
  refine Met.ofW (cc := am_wb 188) (maxL := 1) (ret := some .byte) (by decide +kernel) rfl ?_
  intro p e s m args below meth c s₁ Bd hml hv
  obtain ⟨rfl, hF⟩ := hv
  have hx := Bd.exec
  have hb := Bd.bytes
  have hr := Bd.returns
  have hts := atoms_spec (ws := am_ws1 ys_cod 188 1 (some .byte)) Bd.pre
  have hgd : ∀ w ∈ am_gd, w.before ([Value.ref k] : List Value).toArray s = true := fun w hw => hts w (List.mem_cons_of_mem _ hw)
  have hown : s.vm.findClass "java/lang/String" = some m.cls := findClass_of_methodNamed Bd.named
  have hlocks := Bd.notSynchronized
  have hl := lv_entry ([.ref k]) (n := 1) (Nat.le_of_ble_eq_true rfl)
  rw [lg_entry_eq]
  generalize (lg_sl ([.ref k]) ++ List.replicate (1 - (lg_sl ([.ref k])).length) Slot.unset).toArray = ls at hl ⊢
  have hl : lv_has ls 1 [(0, .ref k)] := hl
  have hS : va_S (fun q => B ≤ q) s.heap s.heap [] := va_S.rf
  obtain ⟨f1, f2, f3, f4, f5, f6⟩ := hF
  refine va_gets hx hb f5 hS hown (hgd _ sw_cs) (fun _ z => z) sd_cod0 ?_
  refine lv_if_eq (tgt := 13) hx hb sd_cod3 (by decide) (fun z => absurd z (by decide)) (fun _ => ?_)
  refine lv_aload_n hx hb sd_cod6 rfl (lv_at hl 0 rfl) ?_
  refine vk_getf hx hb f2 hS hown (hgd _ sw_co) (fun _ z => z) sd_cod7 ?_
  refine lv_goto (tgt := 14) hx hb sd_cod10 (by decide) ?_
  exact W.zret (ty := .byte) hx hb hr (by decide) (fun t ht hW => ⟨rfl, ht⟩) (fun q hq => absurd hq List.not_mem_nil) sd_cod14
set_option maxHeartbeats 4000000 in
theorem sg_lat (l : Launch) (B k kv : Nat) : Met l ys_lat (am_ws1 ys_lat 198 1 (some .boolean)) (am_rs 0 0) (va_Pc [.ref k] (am_SF B k kv)) (am_Kp (some (.int 1))) 0 0 am_nf := by
  refine Met.ofW (cc := am_wb 198) (maxL := 1) (ret := some .boolean) (by decide +kernel) rfl ?_
  intro p e s m args below meth c s₁ Bd hml hv
  obtain ⟨rfl, hF⟩ := hv
  have hx := Bd.exec
  have hb := Bd.bytes
  have hr := Bd.returns
  have hts := atoms_spec (ws := am_ws1 ys_lat 198 1 (some .boolean)) Bd.pre
  have hgd : ∀ w ∈ am_gd, w.before ([Value.ref k] : List Value).toArray s = true := fun w hw => hts w (List.mem_cons_of_mem _ hw)
  have hown : s.vm.findClass "java/lang/String" = some m.cls := findClass_of_methodNamed Bd.named
  have hlocks := Bd.notSynchronized
  have hl := lv_entry ([.ref k]) (n := 1) (Nat.le_of_ble_eq_true rfl)
  rw [lg_entry_eq]
  generalize (lg_sl ([.ref k]) ++ List.replicate (1 - (lg_sl ([.ref k])).length) Slot.unset).toArray = ls at hl ⊢
  have hl : lv_has ls 1 [(0, .ref k)] := hl
  have hS : va_S (fun q => B ≤ q) s.heap s.heap [] := va_S.rf
  obtain ⟨f1, f2, f3, f4, f5, f6⟩ := hF
  refine va_gets hx hb f5 hS hown (hgd _ sw_cs) (fun _ z => z) sd_lat0 ?_
  refine lv_if_eq (tgt := 17) hx hb sd_lat3 (by decide) (fun z => absurd z (by decide)) (fun _ => ?_)
  refine lv_aload_n hx hb sd_lat6 rfl (lv_at hl 0 rfl) ?_
  refine vk_getf hx hb f2 hS hown (hgd _ sw_co) (fun _ z => z) sd_lat7 ?_
  refine lv_if_ne (tgt := 17) hx hb sd_lat10 (by decide) (fun z => absurd rfl z) (fun _ => ?_)
  refine lv_iconst (v := 1) hx hb sd_lat13 (by decide) ?_
  refine lv_goto (tgt := 18) hx hb sd_lat14 (by decide) ?_
  exact W.zret (ty := .boolean) hx hb hr narrow_b1 (fun t ht hW => ⟨rfl, ht⟩) (fun q hq => absurd hq List.not_mem_nil) sd_lat18
set_option maxHeartbeats 4000000 in
theorem sg_len (l : Launch) (B k kv : Nat) : Met l ys_len (am_ws1 ys_len 184 1 (some .int)) (am_rs 1 20) (va_Pc [.ref k] (am_SF B k kv)) (am_Kp (some (.int 106))) 0 0 am_nf := by
  refine Met.ofW (cc := am_wb 184) (maxL := 1) (ret := some .int) (by decide +kernel) rfl ?_
  intro p e s m args below meth c s₁ Bd hml hv
  obtain ⟨rfl, hF⟩ := hv
  have hx := Bd.exec
  have hb := Bd.bytes
  have hr := Bd.returns
  have hts := atoms_spec (ws := am_ws1 ys_len 184 1 (some .int)) Bd.pre
  have hgd : ∀ w ∈ am_gd, w.before ([Value.ref k] : List Value).toArray s = true := fun w hw => hts w (List.mem_cons_of_mem _ hw)
  have hown : s.vm.findClass "java/lang/String" = some m.cls := findClass_of_methodNamed Bd.named
  have hlocks := Bd.notSynchronized
  have hl := lv_entry ([.ref k]) (n := 1) (Nat.le_of_ble_eq_true rfl)
  rw [lg_entry_eq]
  generalize (lg_sl ([.ref k]) ++ List.replicate (1 - (lg_sl ([.ref k])).length) Slot.unset).toArray = ls at hl ⊢
  have hl : lv_has ls 1 [(0, .ref k)] := hl
  have hS : va_S (fun q => B ≤ q) s.heap s.heap [] := va_S.rf
  have hF0 := hF
  obtain ⟨f1, f2, f3, f4, f5, f6⟩ := hF
  refine lv_aload_n hx hb sd_len0 rfl (lv_at hl 0 rfl) ?_
  refine vk_getf hx hb f3 hS hown (hgd _ sw_va) (fun _ z => z) sd_len1 ?_
  refine va_tlen hx hb f4 hS (v := 106) (by decide) sd_len4 ?_
  refine lv_aload_n hx hb sd_len5 rfl (lv_at hl 0 rfl) ?_
  refine am_keep (va_runV (As := []) (rest := [.int 106]) ⟨hx, hb, hml, hown, hts⟩ (sg_cod l B k kv) (cwV (C := "java/lang/String") 0 hts (am_gin (fun w hw => List.mem_cons_of_mem _ hw) sv_cod) rfl rfl rfl ⟨rfl, by decide +kernel⟩ ⟨Nat.le_of_ble_eq_true rfl, Nat.le_of_ble_eq_true rfl⟩) ⟨am_fbl, ?_, fun U hU hW => ⟨rfl, hF0.to hW.alike (fun a _ _ => by rw [hU])⟩⟩ rfl rfl hl.1 rfl (lv_room (Nat.le_of_ble_eq_true rfl)) sd_len6 ⟨Nat.le_refl _, Nat.le_refl _⟩) ?_
  · obtain ⟨cell, g1, g2, g3, -⟩ := f1
    exact ⟨cell, g1, g2, g3⟩
  refine lv_ishr hx hb sd_len9 ?_
  exact W.iret (v := 106) hx hb hr (fun t ht hW => ⟨rfl, ht⟩) (fun q hq => absurd hq List.not_mem_nil) sd_len10
set_option maxHeartbeats 4000000 in
theorem sg_pre (l : Launch) (i n : Int32) (x : Value) (hxv : x = .null ∨ ∃ t, x = .ref t) (h1 : ¬ i < 0) (h2 : i < n) : Met l ys_pre (am_ws1 ys_pre 209 3 (some .int)) (am_rs 0 0) (va_Pc [.int i, .int n, x] (fun _ => True)) (am_Kp (some (.int i))) 0 0 am_nf := by
  refine Met.ofW (cc := am_wb 209) (maxL := 3) (ret := some .int) (by decide +kernel) rfl ?_
  intro p e s m args below meth c s₁ Bd hml hv
  obtain ⟨rfl, -⟩ := hv
  have hx := Bd.exec
  have hb := Bd.bytes
  have hr := Bd.returns
  have hlocks := Bd.notSynchronized
  have hc1 : x.category = 1 := by rcases hxv with rfl | ⟨t, rfl⟩ <;> rfl
  have hsl : lg_sl ([.int i, .int n, x]) = [.val (.int i), .val (.int n), .val x] := by
    show [Slot.val (.int i)] ++ ([Slot.val (.int n)] ++ ((if x.category = 2 then [Slot.val x, Slot.second] else [Slot.val x]) ++ [])) = _
    rw [if_neg (by rw [hc1]; decide)]
    rfl
  have hl := lv_entry ([.int i, .int n, x]) (n := 3) (by rw [hsl]; exact Nat.le_refl _)
  rw [lg_entry_eq]
  generalize (lg_sl ([.int i, .int n, x]) ++ List.replicate (3 - (lg_sl ([.int i, .int n, x])).length) Slot.unset).toArray = ls at hl ⊢
  have hl : lv_has ls 3 [(0, .int i), (1, .int n)] := am_has_sub hl (fun q hq => by
    simp only [List.mem_cons, List.not_mem_nil, or_false] at hq
    rcases hq with rfl | rfl
    · exact List.mem_cons_self
    · exact List.mem_cons_of_mem _ List.mem_cons_self)
  refine lv_iload_n hx hb sd_pre0 rfl (lv_at hl 0 rfl) ?_
  refine lv_if_lt (tgt := 9) hx hb sd_pre1 (by decide) (fun z => absurd z h1) (fun _ => ?_)
  refine lv_iload_n hx hb sd_pre4 rfl (lv_at hl 0 rfl) ?_
  refine lv_iload_n hx hb sd_pre5 rfl (lv_at hl 1 rfl) ?_
  refine lv_icmp_lt (tgt := 16) hx hb sd_pre6 (by decide) (fun _ => ?_) (fun z => absurd h2 z)
  refine lv_iload_n hx hb sd_pre16 rfl (lv_at hl 0 rfl) ?_
  exact W.iret hx hb hr (fun t ht hW => ⟨rfl, ht⟩) (fun q hq => absurd hq List.not_mem_nil) sd_pre17
set_option maxHeartbeats 4000000 in
theorem sg_chk (l : Launch) (B k kv : Nat) (i n : Int32) (h1 : ¬ i < 0) (h2 : i < n) : Met l ys_chk (am_ws1 ys_chk 204 2 none) (am_rs 1 22) (va_Pc [.int i, .int n] (am_SF B k kv)) (am_Kp none) 0 0 am_nf := by
  refine Met.ofW (cc := am_wb 204) (maxL := 2) (ret := none) (by decide +kernel) rfl ?_
  intro p e s m args below meth c s₁ Bd hml hv
  obtain ⟨rfl, hF⟩ := hv
  have hx := Bd.exec
  have hb := Bd.bytes
  have hr := Bd.returns
  have hts := atoms_spec (ws := am_ws1 ys_chk 204 2 none) Bd.pre
  have hgd : ∀ w ∈ am_gd, w.before ([Value.int i, Value.int n] : List Value).toArray s = true := fun w hw => hts w (List.mem_cons_of_mem _ hw)
  have hown : s.vm.findClass "java/lang/String" = some m.cls := findClass_of_methodNamed Bd.named
  have hlocks := Bd.notSynchronized
  have hl := lv_entry ([.int i, .int n]) (n := 2) (Nat.le_of_ble_eq_true rfl)
  rw [lg_entry_eq]
  generalize (lg_sl ([.int i, .int n]) ++ List.replicate (2 - (lg_sl ([.int i, .int n])).length) Slot.unset).toArray = ls at hl ⊢
  have hl : lv_has ls 2 [(0, .int i), (1, .int n)] := hl
  have hS : va_S (fun q => B ≤ q) s.heap s.heap [] := va_S.rf
  obtain ⟨f1, f2, f3, f4, f5, f6⟩ := hF
  refine lv_iload_n hx hb sd_chk0 rfl (lv_at hl 0 rfl) ?_
  refine lv_iload_n hx hb sd_chk1 rfl (lv_at hl 1 rfl) ?_
  have key : ∀ x : Value, (x = .null ∨ ∃ t, x = .ref t) → va_Z "jdk/internal/util/Preconditions" "SIOOBE_FORMATTER" "Ljava/util/function/BiFunction;" x (fun q => B ≤ q) s s.heap → W p l e (headSpec (am_ws1 ys_chk 204 2 none) (am_rs 1 22)).room s m ([Value.int i, Value.int n] : List Value).toArray below meth c s.heap [] 0 0 (MQ below (am_Kp none) ([Value.int i, Value.int n] : List Value).toArray s 0 0 am_nf) (F0 m 2 ls [.int n, .int i]) := by
    intro x hxv hZ
    refine va_gets hx hb hZ hS hown (hgd _ sw_fm) (fun _ z => z) sd_chk2 ?_
    refine am_keep (va_runS (As := [.int i, .int n, x]) (rest := []) ⟨hx, hb, hml, hown, hts⟩ (sg_pre l i n x hxv h1 h2) ⟨callB_of (ws' := am_gd) 3 hts (am_gin (fun w hw => List.mem_cons_of_mem _ hw) sk_pre) rfl rfl rfl (hgd _ sw_iP) (hgd _ sl_pre) (by decide +kernel) ⟨Nat.le_of_ble_eq_true rfl, Nat.le_of_ble_eq_true rfl⟩, hgd _ st_pre⟩ ⟨am_fbt, fun U hU hW => ⟨rfl, trivial⟩⟩ rfl rfl hl.1 rfl (lv_room (Nat.le_of_ble_eq_true rfl)) sd_chk5 ⟨Nat.le_refl _, Nat.le_refl _⟩) ?_
    refine lv_pop hx hb sd_chk8 rfl ?_
    exact W.vret hx hb hr (fun t ht hW => ⟨rfl, ht⟩) (fun q hq => absurd hq List.not_mem_nil) sd_chk9
  rcases f6 with hz | ⟨t, hz⟩
  · exact key _ (Or.inl rfl) hz
  · exact key _ (Or.inr ⟨t, rfl⟩) hz
