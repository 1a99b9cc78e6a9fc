/-! Instructions that make a new stack, or write a local: sound. -/
theorem am_ii_inv {f : Int32 → Int32 → Option Value} {st st1 : List Value} (h : am_ii f st = some st1) : ∃ x y r v, st = .int y :: .int x :: r ∧ f x y = some v ∧ st1 = v :: r := by
  unfold am_ii at h
  split at h
  · rename_i y x r
    cases e : f x y with
    | none => rw [e] at h; cases h
    | some v => rw [e] at h; cases h; exact ⟨x, y, r, v, rfl, e, rfl⟩
  · cases h
theorem am_ll_inv {f : Int64 → Int64 → Option Value} {st st1 : List Value} (h : am_ll f st = some st1) : ∃ x y r v, st = .long y :: .long x :: r ∧ f x y = some v ∧ st1 = v :: r := by
  unfold am_ll at h
  split at h
  · rename_i y x r
    cases e : f x y with
    | none => rw [e] at h; cases h
    | some v => rw [e] at h; cases h; exact ⟨x, y, r, v, rfl, e, rfl⟩
  · cases h
theorem am_i1_inv {f : Int32 → Value} {st st1 : List Value} (h : am_i1 f st = some st1) : ∃ x r, st = .int x :: r ∧ st1 = f x :: r := by
  unfold am_i1 at h
  split at h
  · rename_i x r
    cases h; exact ⟨x, r, rfl, rfl⟩
  · cases h
theorem am_l1_inv {f : Int64 → Value} {st st1 : List Value} (h : am_l1 f st = some st1) : ∃ x r, st = .long x :: r ∧ st1 = f x :: r := by
  unfold am_l1 at h
  split at h
  · rename_i x r
    cases h; exact ⟨x, r, rfl, rfl⟩
  · cases h
theorem am_ld_inv {L : List Value} {k : Nat} {p : Value → Bool} {st st1 : List Value} (h : am_ld L k p st = some st1) : ∃ v, L[k]? = some v ∧ p v = true ∧ st1 = v :: st := by
  unfold am_ld at h
  split at h
  · rename_i v hv
    by_cases hp : p v = true
    · rw [if_pos hp] at h; cases h; exact ⟨v, hv, hp, rfl⟩
    · rw [if_neg hp] at h; cases h
  · cases h
theorem am_isI_inv {v : Value} (h : am_isI v = true) : ∃ x, v = .int x := by cases v <;> first | exact ⟨_, rfl⟩ | cases h
theorem am_isL_inv {v : Value} (h : am_isL v = true) : ∃ x, v = .long x := by cases v <;> first | exact ⟨_, rfl⟩ | cases h
theorem am_isA_inv {v : Value} (h : am_isA v = true) : (∃ x, v = .ref x) ∨ ∃ x, v = .retAddr x := by cases v <;> first | exact Or.inl ⟨_, rfl⟩ | exact Or.inr ⟨_, rfl⟩ | cases h
theorem am_gf_inv {o j : Nat} {st st1 : List Value} {h : am_H} (e : am_gf o j st h = some st1) : ∃ ci k ns pl a r fs v, am_fr o j = some (ci, k, ns, pl) ∧ st = .ref a :: r ∧ h[a]? = some (.inr (ci, fs)) ∧ fs[k]? = some v ∧ am_pl v = true ∧ st1 = v :: r := by
  unfold am_gf at e
  split at e
  · rename_i ci k ns pl hf
    split at e
    · rename_i a r
      split at e
      · rename_i c fs hh
        split at e
        · rename_i v hv
          by_cases hc : c = ci ∧ am_pl v = true
          · rw [if_pos hc] at e
            obtain ⟨rfl, hp⟩ := hc
            cases e
            exact ⟨c, k, ns, pl, a, r, fs, v, hf, rfl, hh, hv, hp, rfl⟩
          · rw [if_neg hc] at e; cases e
        · cases e
      · cases e
    · cases e
  · cases e
theorem am_ial_inv {ty : FieldType} {sc : Option (List Int32)} {st st1 : List Value} {h : am_H} (e : am_ial ty sc st h = some st1) :
    (∃ i a r l, st = .int i :: .ref a :: r ∧ h[a]? = some (.inl (ty, .inl l)) ∧ ¬ (i < 0 ∨ l.length ≤ i.toNatClampNeg) ∧ st1 = .int (l.getD i.toNatClampNeg 0) :: r) ∨
    (∃ i r l, st = .int i :: .retAddr 0 :: r ∧ sc = some l ∧ ty = .int ∧ ¬ (i < 0 ∨ l.length ≤ i.toNatClampNeg) ∧ st1 = .int (l.getD i.toNatClampNeg 0) :: r) := by
  unfold am_ial at e
  split at e
  · rename_i i a r
    split at e
    · rename_i t l hh
      by_cases hc : t = ty ∧ ¬ (i < 0 ∨ l.length ≤ i.toNatClampNeg)
      · rw [if_pos hc] at e
        obtain ⟨rfl, hp⟩ := hc
        cases e
        exact Or.inl ⟨i, a, r, l, rfl, hh, hp, rfl⟩
      · rw [if_neg hc] at e; cases e
    · cases e
  · rename_i i r
    split at e
    · rename_i l
      by_cases hc : ty = .int ∧ ¬ (i < 0 ∨ l.length ≤ i.toNatClampNeg)
      · rw [if_pos hc] at e
        obtain ⟨rfl, hp⟩ := hc
        cases e
        exact Or.inr ⟨i, r, l, rfl, rfl, rfl, hp, rfl⟩
      · rw [if_neg hc] at e; cases e
    · cases e
  · cases e
theorem am_lal_inv {st st1 : List Value} {h : am_H} (e : am_lal st h = some st1) : ∃ i a r l, st = .int i :: .ref a :: r ∧ h[a]? = some (.inl (.long, .inr (.inl l))) ∧ ¬ (i < 0 ∨ l.length ≤ i.toNatClampNeg) ∧ st1 = .long (l.getD i.toNatClampNeg 0) :: r := by
  unfold am_lal at e
  split at e
  · rename_i i a r
    split at e
    · rename_i l hh
      by_cases hc : ¬ (i < 0 ∨ l.length ≤ i.toNatClampNeg)
      · rw [if_pos hc] at e
        cases e
        exact ⟨i, a, r, l, rfl, hh, hc, rfl⟩
      · rw [if_neg hc] at e; cases e
    · cases e
  · cases e
theorem am_aal_inv {st st1 : List Value} {h : am_H} (e : am_aal st h = some st1) : ∃ i a r l q, st = .int i :: .ref a :: r ∧ h[a]? = some (.inl (.object "RopeWalk$Law", .inr (.inr l))) ∧ ¬ (i < 0 ∨ l.length ≤ i.toNatClampNeg) ∧ l.getD i.toNatClampNeg none = some q ∧ st1 = .ref q :: r := by
  unfold am_aal at e
  split at e
  · rename_i i a r
    split at e
    · rename_i C l hh
      by_cases hc : C = "RopeWalk$Law" ∧ ¬ (i < 0 ∨ l.length ≤ i.toNatClampNeg)
      · rw [if_pos hc] at e
        obtain ⟨rfl, hp⟩ := hc
        split at e
        · rename_i q hq
          cases e
          exact ⟨i, a, r, l, q, rfl, hh, hp, hq, rfl⟩
        · cases e
      · rw [if_neg hc] at e; cases e
    · cases e
  · cases e
theorem am_aln_inv {sc : Option (List Int32)} {st st1 : List Value} {h : am_H} (e : am_aln sc st h = some st1) :
    (∃ a r t x, st = .ref a :: r ∧ h[a]? = some (.inl (t, x)) ∧ t ∈ am_tys ∧ st1 = .int (Int32.ofNat (am_asz x)) :: r) ∨ (∃ r l, st = .retAddr 0 :: r ∧ sc = some l ∧ st1 = .int (Int32.ofNat l.length) :: r) := by
  unfold am_aln at e
  split at e
  · rename_i a r
    split at e
    · rename_i t x hh
      by_cases hc : t ∈ am_tys
      · rw [if_pos hc] at e
        cases e
        exact Or.inl ⟨a, r, t, x, rfl, hh, hc, rfl⟩
      · rw [if_neg hc] at e; cases e
    · cases e
  · rename_i r
    split at e
    · rename_i l
      cases e
      exact Or.inr ⟨r, l, rfl, rfl, rfl⟩
    · cases e
  · cases e
theorem am_ty_i : FieldType.int ∈ am_tys := by decide
theorem am_ty_z : FieldType.boolean ∈ am_tys := by decide
theorem am_ty_l : FieldType.long ∈ am_tys := by decide
theorem am_ty_q : FieldType.object "RopeWalk$Law" ∈ am_tys := by decide
theorem am_lay {ci : Nat} {q : vw_C} (h : am_cl[ci]? = some q) : (∀ w ∈ u_ws q.1 q.2.1 q.2.2, w ∈ am_gd) ∧ (∀ k, k < q.2.2 → parseFieldDescriptor (q.2.1 k).2.2.1 = some (am_fty ci k)) ∧ (∀ k, k < q.2.2 → (q.2.1 k).1 = q.1) ∧ (am_ty.getD ci []).length = q.2.2 ∧ am_nmo ci = q.1 := by
  have h1 := List.all_eq_true.mp am_cl_chk (q, ci) (List.mem_zipIdx_iff_getElem?.mpr h)
  simp only [am_clc, Bool.and_eq_true, List.all_eq_true, decide_eq_true_eq, List.mem_range] at h1
  obtain ⟨⟨h2, h3⟩, h4⟩ := h1
  refine ⟨fun w hw => ?_, fun k hk => (h2 k hk).1.2, fun k hk => (h2 k hk).2, h3, h4⟩
  obtain ⟨k, hk, rfl⟩ := List.mem_map.mp hw
  exact am_wd_in (h2 k (List.mem_range.mp hk)).1.1
theorem am_fr_ok {o j ci k ns pl : Nat} (h : am_fr o j = some (ci, k, ns, pl)) : ∃ q : vw_C, am_cl[ci]? = some q ∧ k < q.2.2 ∧ (ns = 0 → Cond.fieldLink (am_nmo o) j (q.2.1 k).1 (q.2.1 k).2.1 (q.2.1 k).2.2.1 ∈ am_gd) ∧ (ns ≠ 0 → Cond.fieldLinkNest (am_nmo o) j (q.2.1 k).1 (q.2.1 k).2.1 (q.2.1 k).2.2.1 "RopeWalk" ∈ am_ns) := by
  have h1 := am_lk2 am_frc am_fr_chk h
  unfold am_frc at h1
  split at h1
  · rename_i q hq
    rw [Bool.and_eq_true, decide_eq_true_eq] at h1
    refine ⟨q, hq, h1.1, fun h0 => ?_, fun h0 => ?_⟩
    · have h2 := h1.2
      rw [if_pos h0] at h2
      exact am_wd_in h2
    · have h2 := h1.2
      rw [if_neg h0] at h2
      exact am_wn_in h2
  · cases h1
section
variable {p : Program} {l : Launch} {e : Env} {R : Room} {s : State} {m : MethodId} {args : Array Value} {below : List Frame} {meth : Method} {c : Code} {H : Heap} {locs : List Loc} {cells slots : Nat} {Q : State → Prop}
variable {D : va_G} {A : Nat → Prop} {κ : FieldType → ClassId} {B : Nat} {β : Nat → Nat} {cc : ByteArray} {nL o : Nat} {ini : Bool} {Ts : List Cond} {sc : Option (List Int32)} {L st st1 : List Value} {h : am_H} {i : Instr} {pc w : Nat} {ls : Array Slot}
set_option maxHeartbeats 4000000 in
theorem am_pu_ok (X : am_X p s m args meth c cc nL o ini Ts) (hK : am_K D κ s) (hP : va_P D am_cl (am_ws B κ h) H) (hS : va_S A s.heap H locs) (hsc : am_sc sc β A s) (hl : am_lh B β nL L ls) (hdg : decode cc pc = .ok (i, w)) (hw : am_len i w = true) (hp : am_pu sc o i L st h = some st1)
    (kk : W p l e R s m args below meth c H locs cells slots Q (F0 m (pc + w) ls (st1.map (am_tv B β)))) : W p l e R s m args below meth c H locs cells slots Q (F0 m pc ls (st.map (am_tv B β))) := by
  obtain ⟨hx, hb, hml, hown, hts, hgd, hin⟩ := X
  cases i
  case iconst k => (obtain rfl : w = 1 := by simpa [am_len] using hw); cases hp; exact lv_iconst hx hb hdg rfl kk
  case bipush k => (obtain rfl : w = 2 := by simpa [am_len] using hw); cases hp; exact lv_bipush hx hb hdg rfl kk
  case sipush k => (obtain rfl : w = 3 := by simpa [am_len] using hw); cases hp; exact lv_sipush hx hb hdg rfl kk
  case lconst k => (obtain rfl : w = 1 := by simpa [am_len] using hw); cases hp; exact lv_lconst hx hb hdg rfl kk
  case ldc j =>
    (obtain rfl : w = 2 := by simpa [am_len] using hw)
    change (am_ci o j).map _ = _ at hp
    cases e : am_ci o j with
    | none => rw [e] at hp; cases hp
    | some v => rw [e] at hp; cases hp; exact lv_ldc hx hb hown (hts _ (hgd _ (am_wd_in (am_lk2 am_cic am_ci_chk e)))) hdg kk
  case ldc_w j =>
    (obtain rfl : w = 3 := by simpa [am_len] using hw)
    change (am_ci o j).map _ = _ at hp
    cases e : am_ci o j with
    | none => rw [e] at hp; cases hp
    | some v => rw [e] at hp; cases hp; exact lv_ldcw hx hb hown (hts _ (hgd _ (am_wd_in (am_lk2 am_cic am_ci_chk e)))) hdg kk
  case ldc2_w j =>
    (obtain rfl : w = 3 := by simpa [am_len] using hw)
    change (am_cj o j).map _ = _ at hp
    cases e : am_cj o j with
    | none => rw [e] at hp; cases hp
    | some v => rw [e] at hp; cases hp; exact lv_ldc2 hx hb hown (hts _ (hgd _ (am_wd_in (am_lk2 am_cjc am_cj_chk e)))) hdg kk
  case iload_n k => (obtain rfl : w = 1 := by simpa [am_len] using hw); obtain ⟨v, hv, hq, rfl⟩ := am_ld_inv hp; obtain ⟨x, rfl⟩ := am_isI_inv hq; exact lv_iload_n hx hb hdg rfl (am_lh_get hl hv am_un_i) kk
  case iload k => (obtain rfl : w = 2 := by simpa [am_len] using hw); obtain ⟨v, hv, hq, rfl⟩ := am_ld_inv hp; obtain ⟨x, rfl⟩ := am_isI_inv hq; exact lv_iload hx hb hdg (am_lh_get hl hv am_un_i) kk
  case lload_n k => (obtain rfl : w = 1 := by simpa [am_len] using hw); obtain ⟨v, hv, hq, rfl⟩ := am_ld_inv hp; obtain ⟨x, rfl⟩ := am_isL_inv hq; exact lv_lload_n hx hb hdg rfl (am_lh_get hl hv am_un_l) kk
  case lload k => (obtain rfl : w = 2 := by simpa [am_len] using hw); obtain ⟨v, hv, hq, rfl⟩ := am_ld_inv hp; obtain ⟨x, rfl⟩ := am_isL_inv hq; exact lv_lload hx hb hdg (am_lh_get hl hv am_un_l) kk
  case aload_n k =>
    (obtain rfl : w = 1 := by simpa [am_len] using hw)
    obtain ⟨v, hv, hq, rfl⟩ := am_ld_inv hp
    rcases am_isA_inv hq with ⟨x, rfl⟩ | ⟨x, rfl⟩
    · exact lv_aload_n hx hb hdg rfl (am_lh_get hl hv am_un_r) kk
    · exact lv_aload_n hx hb hdg rfl (am_lh_get hl hv am_un_a) kk
  case aload k =>
    (obtain rfl : w = 2 := by simpa [am_len] using hw)
    obtain ⟨v, hv, hq, rfl⟩ := am_ld_inv hp
    rcases am_isA_inv hq with ⟨x, rfl⟩ | ⟨x, rfl⟩
    · exact lv_aload hx hb hdg (am_lh_get hl hv am_un_r) kk
    · exact lv_aload hx hb hdg (am_lh_get hl hv am_un_a) kk
  case iadd => (obtain rfl : w = 1 := by simpa [am_len] using hw); obtain ⟨x, y, r, v, rfl, e, rfl⟩ := am_ii_inv hp; cases e; exact lv_iadd hx hb hdg kk
  case isub => (obtain rfl : w = 1 := by simpa [am_len] using hw); obtain ⟨x, y, r, v, rfl, e, rfl⟩ := am_ii_inv hp; cases e; exact lv_isub hx hb hdg kk
  case imul => (obtain rfl : w = 1 := by simpa [am_len] using hw); obtain ⟨x, y, r, v, rfl, e, rfl⟩ := am_ii_inv hp; cases e; exact lv_imul hx hb hdg kk
  case idiv =>
    (obtain rfl : w = 1 := by simpa [am_len] using hw)
    obtain ⟨x, y, r, v, rfl, e, rfl⟩ := am_ii_inv hp
    by_cases h0 : y = 0
    · rw [if_pos h0] at e; cases e
    · rw [if_neg h0] at e; cases e; exact lv_idiv hx hb hdg h0 kk
  case irem =>
    (obtain rfl : w = 1 := by simpa [am_len] using hw)
    obtain ⟨x, y, r, v, rfl, e, rfl⟩ := am_ii_inv hp
    by_cases h0 : y = 0
    · rw [if_pos h0] at e; cases e
    · rw [if_neg h0] at e; cases e; exact lv_irem hx hb hdg h0 kk
  case iand => (obtain rfl : w = 1 := by simpa [am_len] using hw); obtain ⟨x, y, r, v, rfl, e, rfl⟩ := am_ii_inv hp; cases e; exact lv_iand hx hb hdg kk
  case ior => (obtain rfl : w = 1 := by simpa [am_len] using hw); obtain ⟨x, y, r, v, rfl, e, rfl⟩ := am_ii_inv hp; cases e; exact lv_ior hx hb hdg kk
  case ixor => (obtain rfl : w = 1 := by simpa [am_len] using hw); obtain ⟨x, y, r, v, rfl, e, rfl⟩ := am_ii_inv hp; cases e; exact lv_ixor hx hb hdg kk
  case ishl => (obtain rfl : w = 1 := by simpa [am_len] using hw); obtain ⟨x, y, r, v, rfl, e, rfl⟩ := am_ii_inv hp; cases e; exact lv_ishl hx hb hdg kk
  case ishr => (obtain rfl : w = 1 := by simpa [am_len] using hw); obtain ⟨x, y, r, v, rfl, e, rfl⟩ := am_ii_inv hp; cases e; exact lv_ishr hx hb hdg kk
  case iushr => (obtain rfl : w = 1 := by simpa [am_len] using hw); obtain ⟨x, y, r, v, rfl, e, rfl⟩ := am_ii_inv hp; cases e; exact lv_iushr hx hb hdg rfl kk
  case ineg => (obtain rfl : w = 1 := by simpa [am_len] using hw); obtain ⟨x, r, rfl, rfl⟩ := am_i1_inv hp; exact lv_ineg hx hb hdg kk
  case i2l => (obtain rfl : w = 1 := by simpa [am_len] using hw); obtain ⟨x, r, rfl, rfl⟩ := am_i1_inv hp; exact lv_i2l hx hb hdg rfl kk
  case l2i => (obtain rfl : w = 1 := by simpa [am_len] using hw); obtain ⟨x, r, rfl, rfl⟩ := am_l1_inv hp; exact lv_l2i hx hb hdg rfl kk
  case lneg => (obtain rfl : w = 1 := by simpa [am_len] using hw); obtain ⟨x, r, rfl, rfl⟩ := am_l1_inv hp; exact lv_lneg hx hb hdg kk
  case ladd => (obtain rfl : w = 1 := by simpa [am_len] using hw); obtain ⟨x, y, r, v, rfl, e, rfl⟩ := am_ll_inv hp; cases e; exact lv_ladd hx hb hdg kk
  case lsub => (obtain rfl : w = 1 := by simpa [am_len] using hw); obtain ⟨x, y, r, v, rfl, e, rfl⟩ := am_ll_inv hp; cases e; exact lv_lsub hx hb hdg kk
  case lmul => (obtain rfl : w = 1 := by simpa [am_len] using hw); obtain ⟨x, y, r, v, rfl, e, rfl⟩ := am_ll_inv hp; cases e; exact lv_lmul hx hb hdg kk
  case land => (obtain rfl : w = 1 := by simpa [am_len] using hw); obtain ⟨x, y, r, v, rfl, e, rfl⟩ := am_ll_inv hp; cases e; exact lv_land hx hb hdg kk
  case ldiv =>
    (obtain rfl : w = 1 := by simpa [am_len] using hw)
    obtain ⟨x, y, r, v, rfl, e, rfl⟩ := am_ll_inv hp
    by_cases h0 : y = 0
    · rw [if_pos h0] at e; cases e
    · rw [if_neg h0] at e; cases e; exact lv_ldiv hx hb hdg h0 kk
  case lrem =>
    (obtain rfl : w = 1 := by simpa [am_len] using hw)
    obtain ⟨x, y, r, v, rfl, e, rfl⟩ := am_ll_inv hp
    by_cases h0 : y = 0
    · rw [if_pos h0] at e; cases e
    · rw [if_neg h0] at e; cases e; exact lv_lrem hx hb hdg h0 kk
  case lcmp => (obtain rfl : w = 1 := by simpa [am_len] using hw); obtain ⟨x, y, r, v, rfl, e, rfl⟩ := am_ll_inv hp; cases e; exact W.lcmp hx hb hdg kk
  case dup =>
    (obtain rfl : w = 1 := by simpa [am_len] using hw)
    cases st with
    | nil => cases hp
    | cons v r =>
      change (if v.category = 1 then some (v :: v :: r) else none) = some st1 at hp
      by_cases hc : v.category = 1
      · rw [if_pos hc] at hp; cases hp; exact lv_dup hx hb hdg (by rw [am_tv_cat]; exact hc) kk
      · rw [if_neg hc] at hp; cases hp
  case dup2 =>
    (obtain rfl : w = 1 := by simpa [am_len] using hw)
    cases st with
    | nil => cases hp
    | cons v r =>
      cases r with
      | nil => cases hp
      | cons u r =>
        change (if v.category = 1 ∧ u.category = 1 then some (v :: u :: v :: u :: r) else none) = some st1 at hp
        by_cases hc : v.category = 1 ∧ u.category = 1
        · rw [if_pos hc] at hp; cases hp; exact lv_dup2_11 hx hb hdg (by rw [am_tv_cat]; exact hc.1) (by rw [am_tv_cat]; exact hc.2) kk
        · rw [if_neg hc] at hp; cases hp
  case pop =>
    (obtain rfl : w = 1 := by simpa [am_len] using hw)
    cases st with
    | nil => cases hp
    | cons v r =>
      change (if v.category = 1 then some r else none) = some st1 at hp
      by_cases hc : v.category = 1
      · rw [if_pos hc] at hp; cases hp; exact lv_pop hx hb hdg (by rw [am_tv_cat]; exact hc) kk
      · rw [if_neg hc] at hp; cases hp
  case getfield j =>
    (obtain rfl : w = 3 := by simpa [am_len] using hw)
    obtain ⟨ci, k, ns, pl, a, r, fs, v, hf, rfl, hh, hv, hpl, rfl⟩ := am_gf_inv hp
    obtain ⟨q, hq, hk, h0, h1⟩ := am_fr_ok hf
    have hly := (am_lay hq).1
    have hvv : (fs.map (am_tv B am_z0))[k]? = some (am_tv B β v) := by rw [List.getElem?_map, hv, am_tv_pl (β := β) (β' := am_z0) hpl]; rfl
    by_cases hn : ns = 0
    · exact va_get (ci := ci) (C := q.1) (T := q.2.1) (N := q.2.2) hx hb hts (fun w hw => hgd w (hly w hw)) hown hK.1 hP a (am_ws_get hh) hq k hk (hts _ (hgd _ (h0 hn))) (fun _ z => z) hvv hdg kk
    · exact va_getN (ci := ci) (C := q.1) (T := q.2.1) (N := q.2.2) hx hb hts (fun w hw => hgd w (hly w hw)) hown hK.1 hP a (am_ws_get hh) hq k hk (va_Nw.use rfl (hK.2.2.1 _ (h1 hn))) (fun _ z => z) hvv hdg kk
  case iaload =>
    (obtain rfl : w = 1 := by simpa [am_len] using hw)
    rcases am_ial_inv hp with ⟨i, a, r, l, rfl, hh, hi, rfl⟩ | ⟨i, r, l, rfl, hs, -, hi, rfl⟩
    · exact va_iald hx hb (am_Kt hK am_ty_i) hP a 0 (am_ws_get hh) rfl hi hdg kk
    · obtain ⟨hX, hbl, hbA⟩ := hsc l hs
      exact va_sld hx hb hX hbl hbA hS hi hdg kk
  case baload =>
    (obtain rfl : w = 1 := by simpa [am_len] using hw)
    rcases am_ial_inv (ty := .boolean) (sc := none) (show am_ial .boolean none st h = some st1 from hp) with ⟨i, a, r, l, rfl, hh, hi, rfl⟩ | ⟨i, r, l, rfl, hs, -, hi, rfl⟩
    · exact va_zald hx hb (am_Kt hK am_ty_z) hP a 0 (am_ws_get hh) rfl hi hdg kk
    · cases hs
  case laload =>
    (obtain rfl : w = 1 := by simpa [am_len] using hw)
    obtain ⟨i, a, r, l, rfl, hh, hi, rfl⟩ := am_lal_inv hp
    exact va_lald hx hb (am_Kt hK am_ty_l) hP a 0 (am_ws_get hh) rfl hi hdg kk
  case aaload =>
    (obtain rfl : w = 1 := by simpa [am_len] using hw)
    obtain ⟨i, a, r, l, q, rfl, hh, hi, hq, rfl⟩ := am_aal_inv hp
    refine va_aldq hx hb (am_Kt hK am_ty_q) hP a 0 (am_ws_get hh) rfl hi hdg ?_
    rw [hq]
    exact kk
  case arraylength =>
    (obtain rfl : w = 1 := by simpa [am_len] using hw)
    rcases am_aln_inv hp with ⟨a, r, t, x, rfl, hh, ht, rfl⟩ | ⟨r, l, rfl, hs, rfl⟩
    · rcases x with x | x | x
      · exact va_alen hx hb (am_Kt hK ht) hP a 0 (am_ws_get hh) rfl rfl hdg kk
      · exact va_alen hx hb (am_Kt hK ht) hP a 0 (am_ws_get hh) rfl rfl hdg kk
      · exact va_alen hx hb (am_Kt hK ht) hP a 0 (am_ws_get hh) rfl rfl hdg kk
    · obtain ⟨hX, hbl, hbA⟩ := hsc l hs
      exact va_slen hx hb hX hbl hbA hS hdg kk
  all_goals cases hp
end
