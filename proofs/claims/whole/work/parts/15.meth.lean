/-! Every method that the abstract machine runs to its end does so on the machine: its contract. -/
theorem am_tv0_un (B : Nat) (β : Nat → Nat) : am_tv B β am_un = am_un := rfl
theorem am_en_len (B : Nat) (β : Nat → Nat) (vs : List Value) : (lg_sl (vs.map (am_tv B β))).length = (am_en vs).length := by
  induction vs with
  | nil => rfl
  | cons v vs ih =>
    unfold lg_sl am_en at ih ⊢
    rw [List.map_cons, List.flatMap_cons, List.flatMap_cons, List.length_append, List.length_append, ih, am_tv_cat]
    by_cases hc : v.category = 2
    · rw [if_pos hc, if_pos hc]; rfl
    · rw [if_neg hc, if_neg hc]; rfl
theorem am_en_args (B : Nat) (β : Nat → Nat) : ∀ (vs : List Value) (r k : Nat) (v : Value), (am_en vs ++ List.replicate r am_un)[k]? = some v → v ≠ am_un → ∀ i, (i + k, am_tv B β v) ∈ lv_args i (vs.map (am_tv B β)) := by
  intro vs
  induction vs with
  | nil =>
    intro r k v h hv i
    have : am_en [] = [] := rfl
    rw [this, List.nil_append, List.getElem?_replicate] at h
    split at h
    · cases h; exact absurd rfl hv
    · cases h
  | cons u vs ih =>
    intro r k v h hv i
    have he : am_en (u :: vs) = (if u.category = 2 then [u, am_un] else [u]) ++ am_en vs := rfl
    rw [he] at h
    rw [List.map_cons]
    show _ ∈ (i, am_tv B β u) :: lv_args (if (am_tv B β u).category = 2 then i + 2 else i + 1) (vs.map (am_tv B β))
    rw [am_tv_cat]
    by_cases hc : u.category = 2
    · rw [if_pos hc] at h ⊢
      match k, h with
      | 0, h => cases h; exact List.mem_cons_self
      | 1, h => cases h; exact absurd rfl hv
      | k + 2, h =>
        have := ih r k v h hv (i + 2)
        rw [show i + (k + 2) = i + 2 + k by omega]
        exact List.mem_cons_of_mem _ this
    · rw [if_neg hc] at h ⊢
      match k, h with
      | 0, h => cases h; exact List.mem_cons_self
      | k + 1, h =>
        have := ih r k v h hv (i + 1)
        rw [show i + (k + 1) = i + 1 + k by omega]
        exact List.mem_cons_of_mem _ this
theorem am_entry (B : Nat) (β : Nat → Nat) (vs : List Value) {n : Nat} (h : (am_en vs).length ≤ n) {ls : Array Slot} (hl : lv_has ls n (lv_args 0 (vs.map (am_tv B β)))) : am_lh B β n (am_en vs ++ List.replicate (n - (am_en vs).length) am_un) ls := by
  refine ⟨by rw [List.length_append, List.length_replicate]; omega, am_has_sub hl fun q hq => ?_⟩
  obtain ⟨v, h1, h2, h3⟩ := am_lv_mem.mp hq
  have := am_en_args B β vs _ _ v h1 h2 0
  rw [Nat.zero_add, h3] at this
  exact this
/-- a thing outside, of the class of tokens: what its steps are, at a state -/
def am_HS (l : Launch) (D : va_G) (κ : FieldType → ClassId) (B : Nat) (s : State) : Prop := ∃ β : Nat → Nat, ∀ (p : Program) (e : Env) (R : Room) (m : MethodId) (args : Array Value) (below : List Frame) (meth : Method) (c : Code) (Q : State → Prop) (A : Nat → Prop) (cc : ByteArray) (nL : Nat) (ini : Bool) (Ts : List Cond) (call : am_C), am_X p s m args meth c cc nL 9 ini Ts → (∀ q, q < B → ¬ A q) → 4 ≤ R.frames → 256 ≤ R.locals →
  ∀ (pc : Nat) (i : Instr) (w : Nat) (st st1 : List Value) (h h1 : am_H) (H : Heap) (locs : List Loc) (cells slots : Nat) (ls : Array Slot), decode cc pc = .ok (i, w) → am_len i w = true → am_xt call 9 i st h = some (st1, h1) → va_S A s.heap H locs → ls.size = nL → cells ≤ R.cells → slots ≤ R.slots → W p l e R s m args below meth c H locs cells slots Q (F0 m (pc + w) ls (st1.map (am_tv B β))) → W p l e R s m args below meth c H locs cells slots Q (F0 m pc ls (st.map (am_tv B β)))
theorem am_mr_x {o j mn a b : Nat} (h : am_mr o j = some (mn, a, b)) (hm : mn = 1000 ∨ mn = 1001 ∨ mn = 1002) : o = 9 ∨ o = 13 := by
  have hc : (am_mrL.zipIdx.all fun q => q.1.all fun e => !(decide (e.2.1 = 1000) || decide (e.2.1 = 1001) || decide (e.2.1 = 1002)) || decide (q.2 = 9) || decide (q.2 = 13)) = true := by decide +kernel
  have h1 := am_lk2 (fun o e => !(decide (e.2.1 = 1000) || decide (e.2.1 = 1001) || decide (e.2.1 = 1002)) || decide (o = 9) || decide (o = 13)) hc h
  simp only [Bool.or_eq_true, Bool.not_eq_true', Bool.or_eq_false_iff, decide_eq_false_iff_not, decide_eq_true_eq] at h1
  rcases h1 with (h1 | h1) | h1
  · omega
  · exact Or.inl h1
  · exact Or.inr h1
theorem am_mr_x9 {j mn a b : Nat} (h : am_mr 9 j = some (mn, a, b)) : mn ≠ 1002 := by
  have hc : ((am_mrL.getD 9 []).all fun e => !(decide (e.2.1 = 1002))) = true := by decide +kernel
  have h1 := List.all_eq_true.mp hc _ (am_lk h)
  simpa using h1
theorem am_xt_o {call : am_C} {o : Nat} {i : Instr} {st st1 : List Value} {h h1 : am_H} (e : am_xt call o i st h = some (st1, h1)) : o = 9 ∨ o = 13 := by
  unfold am_xt at e
  split at e
  · split at e
    · rename_i ho; exact Or.inl ho
    · cases e
  · split at e
    · rename_i hm; exact am_mr_x hm (Or.inl rfl)
    · rename_i hm; exact am_mr_x hm (Or.inr (Or.inl rfl))
    · cases e
  · split at e
    · rename_i hm; exact am_mr_x hm (Or.inr (Or.inr rfl))
    · cases e
  · cases e
theorem am_xt_9 {call : am_C} {i : Instr} {st st1 : List Value} {h h1 : am_H} (e : am_xt call 9 i st h = some (st1, h1)) : h1 = h := by
  rcases am_xt_inv e with z | ⟨j, x, y, q, a, v, h2, l, -, hm, -, -⟩
  · exact z
  · exact absurd rfl (am_mr_x9 hm)
/-- the class numbers of methods: never the law's own -/
theorem am_own {mn : Nat} {q : am_M} (h : am_me[mn]? = some q) : q.2.2.2.2.1 ≠ 13 := by
  have hc : am_me.all (fun q => !(decide (q.2.2.2.2.1 = 13))) = true := by decide +kernel
  have h1 := List.all_eq_true.mp hc q (List.mem_of_getElem? h)
  simpa using h1
theorem am_rt_inv {o : Nat} {i : Instr} {rt : Option FieldType} {st : List Value} {v : Option Value} (h : am_rt o i rt st = some v) : (∃ x, i = .ireturn ∧ rt = some .int ∧ st = [.int x] ∧ v = some (.int x)) ∨ (∃ x, i = .ireturn ∧ rt = some .boolean ∧ st = [.int x] ∧ (x = 0 ∨ x = 1) ∧ v = some (.int x)) ∨ (∃ x, i = .lreturn ∧ rt = some .long ∧ st = [.long x] ∧ v = some (.long x)) ∨ (∃ C a, i = .areturn ∧ rt = some (.object C) ∧ st = [.ref a] ∧ v = some (.ref a)) ∨ (i = .return_ ∧ rt = none ∧ st = [] ∧ v = none) ∨
    (∃ j e, i = .new j ∧ o = 11 ∧ st = [] ∧ ((j = 140 ∧ e = 1) ∨ (j = 162 ∧ e = 2)) ∧ v = some (.double e)) := by
  unfold am_rt at h
  split at h
  · split at h
    · cases h; exact Or.inl ⟨_, rfl, rfl, rfl, rfl⟩
    · split at h
      · rename_i hv; cases h; exact Or.inr (Or.inl ⟨_, rfl, rfl, rfl, hv, rfl⟩)
      · cases h
    · cases h
  · split at h
    · cases h; exact Or.inr (Or.inr (Or.inl ⟨_, rfl, rfl, rfl, rfl⟩))
    · cases h
  · split at h
    · cases h; exact Or.inr (Or.inr (Or.inr (Or.inl ⟨_, _, rfl, rfl, rfl, rfl⟩)))
    · cases h
  · split at h
    · cases h; exact Or.inr (Or.inr (Or.inr (Or.inr (Or.inl ⟨rfl, rfl, rfl, rfl⟩))))
    · cases h
  · rename_i j
    split at h
    · rename_i ho
      split at h
      · rename_i hj; cases h; exact Or.inr (Or.inr (Or.inr (Or.inr (Or.inr ⟨j, 1, rfl, ho.1, ho.2, Or.inl ⟨hj, rfl⟩, rfl⟩))))
      · split at h
        · rename_i hj; cases h; exact Or.inr (Or.inr (Or.inr (Or.inr (Or.inr ⟨j, 2, rfl, ho.1, ho.2, Or.inr ⟨hj, rfl⟩, rfl⟩))))
        · cases h
    · cases h
  · cases h
theorem am_AB {B : Nat} {κ : FieldType → ClassId} {h : am_H} {sz : Nat} (hB : B ≤ sz) : ∀ z, z < B → ¬ va_A (am_ws B κ h) sz z := by
  rintro z hz (⟨k, e, hk⟩ | hz2)
  · rw [am_ws, List.getElem?_mapIdx] at hk
    cases he : h[k]? with
    | none => rw [he] at hk; cases hk
    | some x =>
      rw [he] at hk
      have h1 := congrArg Prod.fst (Option.some.inj hk)
      dsimp only at h1
      omega
  · omega
set_option maxHeartbeats 4000000 in
theorem am_run_ok (l : Launch) (D : va_G) (κ : FieldType → ClassId) (B : Nat) (Ω : State → Prop) (hΩb : ∀ U g mk a, Ω U → Ω (U.calling g mk a)) (hΩB : ∀ s, Ω s → B ≤ s.heap.size) (hΩs : ∀ s U : State, Ω s → s.heap.size ≤ U.heap.size → s.WarmedH U.vm → (∀ q, q < B → U.heap[q]? = s.heap[q]?) → Ω U) (HS : ∀ s, Ω s → am_K D κ s → am_HS l D κ B s) :
    ∀ (d n mn : Nat) (a : List Value) (h : am_H) (v : Option Value) (h1 : am_H), am_run d n mn a h = some (v, h1) → am_nd v = true → a.all am_pl = true → am_OK Ω l D κ B d mn a h v h1 := by
  intro d
  induction d with
  | zero => intro n mn a h v h1 e; cases e
  | succ d ih =>
    intro n mn a h v h1 e hnd hpl q hq sz
    unfold am_run at e
    rw [hq] at e
    dsimp only at e
    by_cases hlen : (am_en a).length ≤ q.2.2.1
    · rw [if_pos hlen] at e
      obtain ⟨f1, f2, f3, f4, f5, f6, f7, f8, f9, f10, f11⟩ := am_fact hq
      refine Met.ofW (cc := am_wb q.2.1) (maxL := q.2.2.1) (ret := q.2.2.2.1) f7 rfl ?_
      intro p ev s m args below meth c s₁ Bd hml hv
      obtain ⟨rfl, hsz, hP, hD0, hK, hgr, hO⟩ := hv
      have hx := Bd.exec
      have hb := Bd.bytes
      have hr := Bd.returns
      have hts := atoms_spec (ws := am_wsm q) Bd.pre
      have hown : s.vm.findClass q.1.cls = some m.cls := findClass_of_methodNamed Bd.named
      have hlocks := Bd.notSynchronized
      have hin : meth.name = q.1.name := (name_of_methodNamed Bd.named Bd.method).1
      subst hsz
      have hD := hD0.self (sz := s.heap.size)
      have hBs := hΩB s hO
      have hA : ∀ z : Nat, s.heap.size ≤ z → va_A (am_ws B κ h) s.heap.size z := fun z hz => Or.inr hz
      have hAB := am_AB (κ := κ) (h := h) hBs
      obtain ⟨β, hβ⟩ : ∃ β : Nat → Nat, q.2.2.2.2.1 = 9 → ∀ (p : Program) (e : Env) (R : Room) (m : MethodId) (args : Array Value) (below : List Frame) (meth : Method) (c : Code) (Q : State → Prop) (A : Nat → Prop) (cc : ByteArray) (nL : Nat) (ini : Bool) (Ts : List Cond) (call : am_C), am_X p s m args meth c cc nL 9 ini Ts → (∀ q, q < B → ¬ A q) → 4 ≤ R.frames → 256 ≤ R.locals →
          ∀ (pc : Nat) (i : Instr) (w : Nat) (st st1 : List Value) (h h1 : am_H) (H : Heap) (locs : List Loc) (cells slots : Nat) (ls : Array Slot), decode cc pc = .ok (i, w) → am_len i w = true → am_xt call 9 i st h = some (st1, h1) → va_S A s.heap H locs → ls.size = nL → cells ≤ R.cells → slots ≤ R.slots → W p l e R s m args below meth c H locs cells slots Q (F0 m (pc + w) ls (st1.map (am_tv B β))) → W p l e R s m args below meth c H locs cells slots Q (F0 m pc ls (st.map (am_tv B β))) := by
        by_cases ho : q.2.2.2.2.1 = 9
        · obtain ⟨β, hb⟩ := HS s hO hK
          exact ⟨β, fun _ => hb⟩
        · exact ⟨am_z0, fun z => absurd z ho⟩
      have hl := lv_entry (a.map (am_tv B am_z0)) (n := q.2.2.1) (by rw [am_en_len]; exact hlen)
      rw [lg_entry_eq]
      generalize (lg_sl (a.map (am_tv B am_z0)) ++ List.replicate (q.2.2.1 - (lg_sl (a.map (am_tv B am_z0))).length) Slot.unset).toArray = ls at hl ⊢
      have hlh : am_lh B β q.2.2.1 (am_en a ++ List.replicate (q.2.2.1 - (am_en a).length) am_un) ls := am_entry B β a hlen (by rw [am_map_pl hpl]; exact hl)
      have X : am_X p s m (a.map (am_tv B am_z0)).toArray meth c (am_wb q.2.1) q.2.2.1 q.2.2.2.2.1 (q.1.name == "<init>") (am_wsm q) := ⟨hx, hb, hml, by rw [← f3]; exact hown, hts, fun w hw => List.mem_cons_of_mem _ hw, fun z => by rw [hin]; exact eq_of_beq z⟩
      refine am_loop_ok (XA := 0) (XS := 0) (N0 := h.length) (S0 := am_sl h) (d := d) (β := β) (sc := none) (rt := q.2.2.2.1) (h9 := h1) (v := v) (Ω := Ω) X hK hA (fun xs z => by cases z) (am_code_ok mn q hq) (by show d + 5 ≤ d + 1 + 4; omega) (by show 64 * (d + 5) ≤ 64 * (d + 1 + 4); omega) (fun mn a h v h1 z z1 z2 => ih n mn a h v h1 z z1 z2) hΩb ?_ (fun mn a h v h1 z => am_run_le d n mn a h v h1 z) hgr (Or.inl ⟨rfl, rfl⟩) ?_ ?_ n 0 _ [] h s.heap [] 0 0 0 0 ls e hP hD va_S.rf hlh (by omega) (by omega) (Nat.le_refl _) (Or.inl rfl) (fun _ => rfl) (fun _ => rfl) ?_ ?_
      · intro H locs hS U hU hW
        refine hΩs s U hO (by rw [hU]; exact hS.1) hW fun z hz => ?_
        rw [hU]
        exact hS.2.1 z (Nat.lt_of_lt_of_le hz hBs) (hAB z hz)
      · intro pc i w st st1 h2 h3 H locs cells slots ls2 hdg hw hxt hP2 hD2 hS2 hsz2 hc2 hs2 hle2 kk
        rcases am_xt_o hxt with ho | ho
        · have hxt9 := hxt
          rw [ho] at hxt9
          have he := am_xt_9 hxt9
          subst he
          rw [ho] at X
          exact hβ ho p ev _ m _ below meth c _ _ _ _ _ _ _ X hAB (by show 4 ≤ d + 1 + 4; omega) (by show 256 ≤ 64 * (d + 1 + 4); omega) pc i w st st1 _ _ H locs cells slots ls2 hdg hw hxt9 hS2 hsz2 hc2 hs2 (kk H locs hP2 hD2 hS2 rfl rfl)
        · exact absurd ho (am_own hq)
      · intro pc i st H locs cells slots ls2 hdw hrt hP2 hD2 hS2 hsz2 hc2 hs2 hcc hss
        obtain ⟨w, -, hdg, hw⟩ := hdw
        have hc3 : h1.length - h.length = cells := by have := hcc rfl; omega
        have hs3 : am_sl h1 - am_sl h = slots := by have := hss rfl; omega
        rw [hc3, hs3]
        rcases am_rt_inv hrt with ⟨x, rfl, hrq, rfl, rfl⟩ | ⟨x, rfl, hrq, rfl, hx01, rfl⟩ | ⟨x, rfl, hrq, rfl, rfl⟩ | ⟨C, x, rfl, hrq, rfl, rfl⟩ | ⟨rfl, hrq, rfl, rfl⟩ | ⟨j, x, rfl, ho, rfl, hj, rfl⟩
        · (obtain rfl : w = 1 := by simpa [am_len] using hw)
          exact W.iret hx hb (hr.trans hrq) (fun t ht hW => ⟨rfl, by rw [ht]; exact hP2, hD2, hS2.F ht⟩) hS2.2.2 hdg
        · (obtain rfl : w = 1 := by simpa [am_len] using hw)
          exact W.zret hx hb (hr.trans hrq) (by rcases hx01 with rfl | rfl; exact narrow_b0; exact narrow_b1) (fun t ht hW => ⟨rfl, by rw [ht]; exact hP2, hD2, hS2.F ht⟩) hS2.2.2 hdg
        · (obtain rfl : w = 1 := by simpa [am_len] using hw)
          exact W.lret hx hb (hr.trans hrq) (fun t ht hW => ⟨rfl, by rw [ht]; exact hP2, hD2, hS2.F ht⟩) hS2.2.2 hdg
        · (obtain rfl : w = 1 := by simpa [am_len] using hw)
          exact W.aret hx hb (hr.trans hrq) (Or.inl ⟨C, rfl⟩) (Or.inr ⟨_, rfl⟩) (fun t ht hW => ⟨rfl, by rw [ht]; exact hP2, hD2, hS2.F ht⟩) hS2.2.2 hdg
        · (obtain rfl : w = 1 := by simpa [am_len] using hw)
          exact W.vret hx hb (hr.trans hrq) (fun t ht hW => ⟨rfl, by rw [ht]; exact hP2, hD2, hS2.F ht⟩) hS2.2.2 hdg
        · cases hnd
      · show h1.length + 0 + 0 * n ≤ h.length + (h1.length - h.length)
        have := (am_run_le (d + 1) n mn a h v h1 (by unfold am_run; rw [hq]; dsimp only; rw [if_pos hlen]; exact e)).1
        omega
      · show am_sl h1 + 0 + 0 * n ≤ am_sl h + (am_sl h1 - am_sl h)
        have := (am_run_le (d + 1) n mn a h v h1 (by unfold am_run; rw [hq]; dsimp only; rw [if_pos hlen]; exact e)).2
        omega
    · rw [if_neg hlen] at e
      cases e
