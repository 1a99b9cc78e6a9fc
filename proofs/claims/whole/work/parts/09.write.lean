/-! Locals, branches, cells written: sound. -/
theorem am_sto_inv {L L1 : List Value} {k : Nat} {p : Value → Bool} {st st1 : List Value} (h : am_sto L k p st = some (L1, st1)) : ∃ v, st = v :: st1 ∧ p v = true ∧ am_s1 L k v = some L1 := by
  unfold am_sto at h
  split at h
  · rename_i v r
    by_cases hp : p v = true
    · rw [if_pos hp] at h
      cases e : am_s1 L k v with
      | none => rw [e] at h; cases h
      | some z => rw [e] at h; cases h; exact ⟨v, rfl, hp, e⟩
    · rw [if_neg hp] at h; cases h
  · cases h
theorem am_st2_inv {L L1 : List Value} {k : Nat} {st st1 : List Value} (h : am_st2 L k st = some (L1, st1)) : ∃ x, st = .long x :: st1 ∧ am_s2 L k (.long x) = some L1 := by
  unfold am_st2 at h
  split at h
  · rename_i x r
    cases e : am_s2 L k (.long x) with
    | none => rw [e] at h; cases h
    | some z => rw [e] at h; cases h; exact ⟨x, rfl, e⟩
  · cases h
theorem am_tg_inv {pc t : Nat} {off : Int} (h : am_tg pc off = some t) : (pc : Int) + off = (t : Int) := by
  unfold am_tg at h
  by_cases h0 : 0 ≤ (pc : Int) + off
  · rw [if_pos h0] at h
    cases h
    omega
  · rw [if_neg h0] at h; cases h
theorem am_b1_inv {p : Int32 → Bool} {pc t : Nat} {off : Int} {st st1 : List Value} (h : am_b1 p pc off st = some (t, st1)) : ∃ (x : Int32) (t0 : Nat), st = .int x :: st1 ∧ (pc : Int) + off = (t0 : Int) ∧ ((p x = true ∧ t = t0) ∨ (p x = false ∧ t = pc + 3)) := by
  unfold am_b1 at h
  split at h
  · rename_i x r
    cases e : am_tg pc off with
    | none => rw [e] at h; cases h
    | some z =>
      rw [e] at h; cases h
      refine ⟨x, z, rfl, am_tg_inv e, ?_⟩
      by_cases hp : p x = true
      · exact Or.inl ⟨hp, if_pos hp⟩
      · exact Or.inr ⟨by simpa using hp, if_neg hp⟩
  · cases h
theorem am_b2_inv {p : Int32 → Int32 → Bool} {pc t : Nat} {off : Int} {st st1 : List Value} (h : am_b2 p pc off st = some (t, st1)) : ∃ (x y : Int32) (t0 : Nat), st = .int y :: .int x :: st1 ∧ (pc : Int) + off = (t0 : Int) ∧ ((p x y = true ∧ t = t0) ∨ (p x y = false ∧ t = pc + 3)) := by
  unfold am_b2 at h
  split at h
  · rename_i y x r
    cases e : am_tg pc off with
    | none => rw [e] at h; cases h
    | some z =>
      rw [e] at h; cases h
      refine ⟨x, y, z, rfl, am_tg_inv e, ?_⟩
      by_cases hp : p x y = true
      · exact Or.inl ⟨hp, if_pos hp⟩
      · exact Or.inr ⟨by simpa using hp, if_neg hp⟩
  · cases h
theorem am_sw_inv {lo hi dflt : Int} {offs : Array Int} {pc t : Nat} {st st1 : List Value} (h : am_sw lo hi dflt offs pc st = some (t, st1)) : ∃ x, st = .int x :: st1 ∧ (((x.toInt < lo ∨ hi < x.toInt) ∧ (pc : Int) + dflt = (t : Int)) ∨ (¬ x.toInt < lo ∧ ¬ hi < x.toInt ∧ ∃ off, offs[(x.toInt - lo).toNat]? = some off ∧ (pc : Int) + off = (t : Int))) := by
  unfold am_sw at h
  split at h
  · rename_i x r
    by_cases hc : x.toInt < lo ∨ hi < x.toInt
    · rw [if_pos hc] at h
      cases e : am_tg pc dflt with
      | none => rw [e] at h; cases h
      | some z => rw [e] at h; cases h; exact ⟨x, rfl, Or.inl ⟨hc, am_tg_inv e⟩⟩
    · rw [if_neg hc] at h
      split at h
      · rename_i off ho
        cases e : am_tg pc off with
        | none => rw [e] at h; cases h
        | some z => rw [e] at h; cases h; exact ⟨x, rfl, Or.inr ⟨fun q => hc (Or.inl q), fun q => hc (Or.inr q), off, ho, am_tg_inv e⟩⟩
      · cases h
  · cases h
section
variable {p : Program} {l : Launch} {e : Env} {R : Room} {s : State} {m : MethodId} {args : Array Value} {below : List Frame} {meth : Method} {c : Code} {H : Heap} {locs : List Loc} {cells slots : Nat} {Q : State → Prop}
variable {D : va_G} {A : Nat → Prop} {κ : FieldType → ClassId} {B : Nat} {β : Nat → Nat} {cc : ByteArray} {nL o : Nat} {ini : Bool} {Ts : List Cond} {sc : Option (List Int32)} {L L1 st st1 : List Value} {h : am_H} {i : Instr} {pc w t : Nat} {ls : Array Slot}
set_option maxHeartbeats 4000000 in
theorem am_lo_ok (X : am_X p s m args meth c cc nL o ini Ts) (hl : am_lh B β nL L ls) (hdg : decode cc pc = .ok (i, w)) (hw : am_len i w = true) (hp : am_lo i L st = some (L1, st1))
    (kk : ∀ ls1, am_lh B β nL L1 ls1 → W p l e R s m args below meth c H locs cells slots Q (F0 m (pc + w) ls1 (st1.map (am_tv B β)))) : W p l e R s m args below meth c H locs cells slots Q (F0 m pc ls (st.map (am_tv B β))) := by
  obtain ⟨hx, hb, hml, hown, hts, hgd, hin⟩ := X
  cases i
  case istore_n k =>
    (obtain rfl : w = 1 := by simpa [am_len] using hw)
    obtain ⟨v, rfl, hq, h1⟩ := am_sto_inv hp
    obtain ⟨x, rfl⟩ := am_isI_inv hq
    obtain ⟨hk, hlen, hsub⟩ := am_s1_sub (B := B) (β := β) h1
    exact lv_istore_n hx hb hdg rfl hl.2 (by rw [← hl.1]; exact hk) rfl (fun ls1 z => kk ls1 ⟨hlen.trans hl.1, am_has_sub z hsub⟩)
  case istore k =>
    (obtain rfl : w = 2 := by simpa [am_len] using hw)
    obtain ⟨v, rfl, hq, h1⟩ := am_sto_inv hp
    obtain ⟨x, rfl⟩ := am_isI_inv hq
    obtain ⟨hk, hlen, hsub⟩ := am_s1_sub (B := B) (β := β) h1
    exact lv_istore hx hb hdg hl.2 (by rw [← hl.1]; exact hk) rfl (fun ls1 z => kk ls1 ⟨hlen.trans hl.1, am_has_sub z hsub⟩)
  case astore_n k =>
    (obtain rfl : w = 1 := by simpa [am_len] using hw)
    obtain ⟨v, rfl, hq, h1⟩ := am_sto_inv hp
    obtain ⟨hk, hlen, hsub⟩ := am_s1_sub (B := B) (β := β) h1
    rcases am_isA_inv hq with ⟨x, rfl⟩ | ⟨x, rfl⟩
    · exact lv_astore_n hx hb hdg rfl hl.2 (by rw [← hl.1]; exact hk) rfl (fun ls1 z => kk ls1 ⟨hlen.trans hl.1, am_has_sub z hsub⟩)
    · exact lv_astore_n hx hb hdg rfl hl.2 (by rw [← hl.1]; exact hk) rfl (fun ls1 z => kk ls1 ⟨hlen.trans hl.1, am_has_sub z hsub⟩)
  case astore k =>
    (obtain rfl : w = 2 := by simpa [am_len] using hw)
    obtain ⟨v, rfl, hq, h1⟩ := am_sto_inv hp
    obtain ⟨hk, hlen, hsub⟩ := am_s1_sub (B := B) (β := β) h1
    rcases am_isA_inv hq with ⟨x, rfl⟩ | ⟨x, rfl⟩
    · exact lv_astore hx hb hdg hl.2 (by rw [← hl.1]; exact hk) rfl (fun ls1 z => kk ls1 ⟨hlen.trans hl.1, am_has_sub z hsub⟩)
    · exact lv_astore hx hb hdg hl.2 (by rw [← hl.1]; exact hk) rfl (fun ls1 z => kk ls1 ⟨hlen.trans hl.1, am_has_sub z hsub⟩)
  case lstore_n k =>
    (obtain rfl : w = 1 := by simpa [am_len] using hw)
    obtain ⟨x, rfl, h1⟩ := am_st2_inv hp
    obtain ⟨hk, hlen, hsub⟩ := am_s2_sub (B := B) (β := β) h1
    exact lv_lstore_n hx hb hdg rfl hl.2 (by rw [← hl.1]; exact hk) rfl (fun ls1 z => kk ls1 ⟨hlen.trans hl.1, am_has_sub z hsub⟩)
  case lstore k =>
    (obtain rfl : w = 2 := by simpa [am_len] using hw)
    obtain ⟨x, rfl, h1⟩ := am_st2_inv hp
    obtain ⟨hk, hlen, hsub⟩ := am_s2_sub (B := B) (β := β) h1
    exact lv_lstore hx hb hdg hl.2 (by rw [← hl.1]; exact hk) rfl (fun ls1 z => kk ls1 ⟨hlen.trans hl.1, am_has_sub z hsub⟩)
  case iinc k n =>
    (obtain rfl : w = 3 := by simpa [am_len] using hw)
    unfold am_lo at hp
    dsimp only at hp
    split at hp
    · rename_i x hx1
      cases e1 : am_s1 L k (.int (x + Int32.ofInt n)) with
      | none => rw [e1] at hp; cases hp
      | some z =>
        rw [e1] at hp; cases hp
        obtain ⟨hk, hlen, hsub⟩ := am_s1_sub (B := B) (β := β) e1
        obtain ⟨k1, hk1⟩ := List.mem_iff_getElem?.mp (am_lv_mem (B := B) (β := β) (q := (k, .int x)) |>.mpr ⟨.int x, hx1, am_un_i, rfl⟩)
        exact lv_iinc hx hb hdg hl.2 hk1 rfl (by rw [← hl.1]; exact hk) rfl (fun ls1 z => kk ls1 ⟨hlen.trans hl.1, am_has_sub z hsub⟩)
    · cases hp
  all_goals cases hp
set_option maxHeartbeats 4000000 in
theorem am_br_ok (X : am_X p s m args meth c cc nL o ini Ts) (hdg : decode cc pc = .ok (i, w)) (hw : am_len i w = true) (hp : am_br i pc st = some (t, st1))
    (kk : W p l e R s m args below meth c H locs cells slots Q (F0 m t ls (st1.map (am_tv B β)))) : W p l e R s m args below meth c H locs cells slots Q (F0 m pc ls (st.map (am_tv B β))) := by
  obtain ⟨hx, hb, hml, hown, hts, hgd, hin⟩ := X
  cases i
  case ifCond cd off =>
    (obtain rfl : w = 3 := by simpa [am_len] using hw)
    cases cd <;> (
      obtain ⟨x, t0, rfl, ht, hc⟩ := am_b1_inv (show am_b1 _ pc off st = some (t, st1) from hp)
      rcases hc with ⟨hc, rfl⟩ | ⟨hc, rfl⟩
      · first
          | exact lv_if_eq hx hb hdg ht (fun _ => kk) (fun hn => absurd (of_decide_eq_true hc) hn)
          | exact lv_if_ne hx hb hdg ht (fun _ => kk) (fun hn => absurd hn (of_decide_eq_true hc))
          | exact lv_if_lt hx hb hdg ht (fun _ => kk) (fun hn => absurd (of_decide_eq_true hc) hn)
          | exact lv_if_ge hx hb hdg ht (fun _ => kk) (fun hn => absurd (of_decide_eq_true hc) hn)
          | exact lv_if_gt hx hb hdg ht (fun _ => kk) (fun hn => absurd (of_decide_eq_true hc) hn)
          | exact lv_if_le hx hb hdg ht (fun _ => kk) (fun hn => absurd (of_decide_eq_true hc) hn)
      · first
          | exact lv_if_eq hx hb hdg ht (fun hn => absurd hn (of_decide_eq_false hc)) (fun _ => kk)
          | exact lv_if_ne hx hb hdg ht (fun hn => absurd hn (of_decide_eq_false hc)) (fun _ => kk)
          | exact lv_if_lt hx hb hdg ht (fun hn => absurd hn (of_decide_eq_false hc)) (fun _ => kk)
          | exact lv_if_ge hx hb hdg ht (fun hn => absurd hn (of_decide_eq_false hc)) (fun _ => kk)
          | exact lv_if_gt hx hb hdg ht (fun hn => absurd hn (of_decide_eq_false hc)) (fun _ => kk)
          | exact lv_if_le hx hb hdg ht (fun hn => absurd hn (of_decide_eq_false hc)) (fun _ => kk))
  case if_icmp cd off =>
    (obtain rfl : w = 3 := by simpa [am_len] using hw)
    cases cd <;> (
      obtain ⟨x, y, t0, rfl, ht, hc⟩ := am_b2_inv (show am_b2 _ pc off st = some (t, st1) from hp)
      rcases hc with ⟨hc, rfl⟩ | ⟨hc, rfl⟩
      · first
          | exact lv_icmp_eq hx hb hdg ht (fun _ => kk) (fun hn => absurd (of_decide_eq_true hc) hn)
          | exact lv_icmp_ne hx hb hdg ht (fun _ => kk) (fun hn => absurd hn (of_decide_eq_true hc))
          | exact lv_icmp_lt hx hb hdg ht (fun _ => kk) (fun hn => absurd (of_decide_eq_true hc) hn)
          | exact lv_icmp_ge hx hb hdg ht (fun _ => kk) (fun hn => absurd (of_decide_eq_true hc) hn)
          | exact lv_icmp_gt hx hb hdg ht (fun _ => kk) (fun hn => absurd (of_decide_eq_true hc) hn)
          | exact lv_icmp_le hx hb hdg ht (fun _ => kk) (fun hn => absurd (of_decide_eq_true hc) hn)
      · first
          | exact lv_icmp_eq hx hb hdg ht (fun hn => absurd hn (of_decide_eq_false hc)) (fun _ => kk)
          | exact lv_icmp_ne hx hb hdg ht (fun hn => absurd hn (of_decide_eq_false hc)) (fun _ => kk)
          | exact lv_icmp_lt hx hb hdg ht (fun hn => absurd hn (of_decide_eq_false hc)) (fun _ => kk)
          | exact lv_icmp_ge hx hb hdg ht (fun hn => absurd hn (of_decide_eq_false hc)) (fun _ => kk)
          | exact lv_icmp_gt hx hb hdg ht (fun hn => absurd hn (of_decide_eq_false hc)) (fun _ => kk)
          | exact lv_icmp_le hx hb hdg ht (fun hn => absurd hn (of_decide_eq_false hc)) (fun _ => kk))
  case goto off =>
    (obtain rfl : w = 3 := by simpa [am_len] using hw)
    change (am_tg pc off).map _ = _ at hp
    cases e1 : am_tg pc off with
    | none => rw [e1] at hp; cases hp
    | some z => rw [e1] at hp; cases hp; exact lv_goto hx hb hdg (am_tg_inv e1) kk
  case tableswitch dflt lo hi offs =>
    obtain ⟨x, rfl, ⟨h1, h2⟩ | ⟨h1, h2, off, h3, h4⟩⟩ := am_sw_inv hp
    · exact lv_tableOut hx hb hdg h1 h2 kk
    · exact lv_tableIn hx hb hdg h1 h2 h3 h4 kk
  case lookupswitch dflt ps =>
    unfold am_br at hp
    dsimp only at hp
    split at hp
    · rename_i x r
      split at hp
      · rename_i hps
        cases e1 : am_tg pc (Op.lookupswitch.offset ps.toList dflt x.toInt) with
        | none => rw [e1] at hp; cases hp
        | some z => rw [e1] at hp; cases hp; exact lv_lookup hx hb hdg hps rfl (am_tg_inv e1) kk
      · cases hp
    · cases hp
  all_goals cases hp
end
