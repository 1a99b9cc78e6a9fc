/-! The machine's state against the abstract one: cell i lies at address B + i; a thing outside at its own address. -/
def am_tv (B : Nat) (β : Nat → Nat) : Value → Value
  | .ref i => .ref (B + i)
  | .retAddr k => .ref (β k)
  | v => v
theorem am_tv_cat (B : Nat) (β : Nat → Nat) (v : Value) : (am_tv B β v).category = v.category := by cases v <;> rfl
theorem am_tv_pl {B : Nat} {β β' : Nat → Nat} {v : Value} (h : am_pl v = true) : am_tv B β v = am_tv B β' v := by cases v <;> first | rfl | cases h
def am_z0 : Nat → Nat := fun _ => 0
def am_te (B : Nat) (κ : FieldType → ClassId) : am_E → va_E
  | .inl (ty, .inl l) => .inl (κ ty, l.length, .inl (fun j => l.getD j 0))
  | .inl (ty, .inr (.inl l)) => .inl (κ ty, l.length, .inr (.inl (fun j => l.getD j 0)))
  | .inl (ty, .inr (.inr l)) => .inl (κ ty, l.length, .inr (.inr (.inr (.inr (fun j => (l.getD j none).map (B + ·))))))
  | .inr (c, fs) => .inr (c, fs.map (am_tv B am_z0))
def am_ws (B : Nat) (κ : FieldType → ClassId) (h : am_H) : va_W := h.mapIdx (fun i e => (B + i, am_te B κ e))
theorem am_ws_get {B : Nat} {κ : FieldType → ClassId} {h : am_H} {i : Nat} {e : am_E} (he : h[i]? = some e) : (am_ws B κ h)[i]? = some (B + i, am_te B κ e) := by
  rw [am_ws, List.getElem?_mapIdx, he]; rfl
theorem am_ws_set {B : Nat} {κ : FieldType → ClassId} {h : am_H} {i : Nat} {e : am_E} : am_ws B κ (h.set i e) = (am_ws B κ h).set i (B + i, am_te B κ e) := by
  apply List.ext_getElem?
  intro j
  rw [List.getElem?_set, am_ws, am_ws, List.getElem?_mapIdx, List.getElem?_set, List.length_mapIdx]
  by_cases hj : i = j
  · subst hj
    by_cases hl : i < h.length
    · simp [hl]
    · simp [hl]
  · simp [hj, List.getElem?_mapIdx]
theorem am_ws_app {B : Nat} {κ : FieldType → ClassId} {h : am_H} {e : am_E} : am_ws B κ (h ++ [e]) = am_ws B κ h ++ [(B + h.length, am_te B κ e)] := by
  rw [am_ws, am_ws, List.mapIdx_append]; simp
/-! locals -/
theorem am_un_i {x : Int32} : Value.int x ≠ am_un := by unfold am_un; intro q; cases q
theorem am_un_l {x : Int64} : Value.long x ≠ am_un := by unfold am_un; intro q; cases q
theorem am_un_r {x : Nat} : Value.ref x ≠ am_un := by unfold am_un; intro q; cases q
theorem am_un_a {x : Nat} : Value.retAddr x ≠ am_un := by unfold am_un; intro q; cases q
def am_lv (B : Nat) (β : Nat → Nat) (L : List Value) : List (Nat × Value) := (L.zipIdx.filter (fun q => decide (q.1 ≠ am_un))).map (fun q => (q.2, am_tv B β q.1))
theorem am_lv_mem {B : Nat} {β : Nat → Nat} {L : List Value} {q : Nat × Value} : q ∈ am_lv B β L ↔ ∃ v, L[q.1]? = some v ∧ v ≠ am_un ∧ am_tv B β v = q.2 := by
  obtain ⟨i, w⟩ := q
  unfold am_lv
  constructor
  · intro h
    obtain ⟨⟨v, j⟩, h1, h2⟩ := List.mem_map.mp h
    obtain ⟨h3, h4⟩ := List.mem_filter.mp h1
    cases h2
    exact ⟨v, List.mem_zipIdx_iff_getElem?.mp h3, of_decide_eq_true h4, rfl⟩
  · rintro ⟨v, h1, h2, h3⟩
    dsimp only at h1 h3
    subst h3
    exact List.mem_map.mpr ⟨(v, i), List.mem_filter.mpr ⟨List.mem_zipIdx_iff_getElem?.mpr h1, decide_eq_true h2⟩, rfl⟩
def am_lh (B : Nat) (β : Nat → Nat) (nL : Nat) (L : List Value) (ls : Array Slot) : Prop := L.length = nL ∧ lv_has ls nL (am_lv B β L)
theorem am_lh_get {B : Nat} {β : Nat → Nat} {nL : Nat} {L : List Value} {ls : Array Slot} (h : am_lh B β nL L ls) {k : Nat} {v : Value} (hv : L[k]? = some v) (hn : v ≠ am_un) : ls[k]? = some (.val (am_tv B β v)) :=
  h.2.2.2 (k, am_tv B β v) (am_lv_mem.mpr ⟨v, hv, hn, rfl⟩)
theorem am_has_sub {ls : Array Slot} {nL : Nat} {l l' : List (Nat × Value)} (h : lv_has ls nL l) (hs : ∀ q ∈ l', q ∈ l) : lv_has ls nL l' := ⟨h.1, h.2.1, fun q hq => h.2.2 q (hs q hq)⟩
theorem am_clr_len (L : List Value) (k : Nat) : (am_clr L k).length = L.length := by
  unfold am_clr
  cases k with
  | zero => rfl
  | succ j =>
    dsimp only
    cases e : L[j]? with
    | none => rfl
    | some v =>
      dsimp only
      by_cases hc : v.category = 2
      · rw [if_pos hc, List.length_set]
      · rw [if_neg hc]
theorem am_clr_get {L : List Value} {k j : Nat} {u : Value} (h : (am_clr L k)[j]? = some u) (hu : u ≠ am_un) : L[j]? = some u ∧ ¬ (j + 1 = k ∧ u.category = 2) := by
  unfold am_clr at h
  cases k with
  | zero => exact ⟨h, fun q => by omega⟩
  | succ i =>
    dsimp only at h
    cases e : L[i]? with
    | none =>
      rw [e] at h
      dsimp only at h
      refine ⟨h, fun q => ?_⟩
      have hji : j = i := by omega
      subst hji
      rw [e] at h
      cases h
    | some v =>
      rw [e] at h
      dsimp only at h
      by_cases hc : v.category = 2
      · rw [if_pos hc, List.getElem?_set] at h
        by_cases hj : i = j
        · rw [if_pos hj] at h
          have hl : i < L.length := (List.getElem?_eq_some_iff.mp e).1
          rw [if_pos hl] at h
          cases h
          exact absurd rfl hu
        · rw [if_neg hj] at h
          exact ⟨h, fun q => hj (by omega)⟩
      · rw [if_neg hc] at h
        refine ⟨h, fun q => ?_⟩
        have : j = i := by omega
        subst this
        rw [e] at h
        cases h
        exact hc q.2
theorem am_s1_sub {B : Nat} {β : Nat → Nat} {L L1 : List Value} {k : Nat} {v : Value} (h : am_s1 L k v = some L1) : k < L.length ∧ L1.length = L.length ∧ ∀ q ∈ am_lv B β L1, q ∈ (k, am_tv B β v) :: (am_lv B β L).filter (fun q => !(q.1 == k) && !(q.1 + 1 == k && q.2.category == 2)) := by
  unfold am_s1 at h
  by_cases hk : k < L.length
  · rw [if_pos hk] at h
    cases h
    refine ⟨hk, by rw [List.length_set, am_clr_len], fun q hq => ?_⟩
    obtain ⟨u, h1, h2, h3⟩ := am_lv_mem.mp hq
    obtain ⟨j, w⟩ := q
    dsimp only at h1 h3
    rw [List.getElem?_set] at h1
    by_cases hj : k = j
    · rw [if_pos hj, if_pos (by rw [am_clr_len]; omega)] at h1
      cases h1
      subst hj
      rw [← h3]
      exact List.mem_cons_self
    · rw [if_neg hj] at h1
      obtain ⟨h4, h5⟩ := am_clr_get h1 h2
      refine List.mem_cons_of_mem _ (List.mem_filter.mpr ⟨am_lv_mem.mpr ⟨u, h4, h2, h3⟩, ?_⟩)
      simp only [Bool.and_eq_true, Bool.not_eq_true', beq_eq_false_iff_ne, ne_eq, Bool.and_eq_false_iff]
      refine ⟨fun q => hj q.symm, ?_⟩
      rw [← h3, am_tv_cat]
      by_cases h6 : j + 1 = k
      · exact Or.inr (fun q => h5 ⟨h6, q⟩)
      · exact Or.inl h6
  · rw [if_neg hk] at h
    cases h
theorem am_s2_sub {B : Nat} {β : Nat → Nat} {L L1 : List Value} {k : Nat} {v : Value} (h : am_s2 L k v = some L1) : k + 1 < L.length ∧ L1.length = L.length ∧ ∀ q ∈ am_lv B β L1, q ∈ (k, am_tv B β v) :: (am_lv B β L).filter (fun q => !(q.1 == k) && (!(q.1 == k + 1) && !(q.1 + 1 == k && q.2.category == 2))) := by
  unfold am_s2 at h
  by_cases hk : k + 1 < L.length
  · rw [if_pos hk] at h
    cases h
    refine ⟨hk, by rw [List.length_set, List.length_set, am_clr_len], fun q hq => ?_⟩
    obtain ⟨u, h1, h2, h3⟩ := am_lv_mem.mp hq
    obtain ⟨j, w⟩ := q
    dsimp only at h1 h3
    rw [List.getElem?_set] at h1
    by_cases hj1 : k + 1 = j
    · rw [if_pos hj1, if_pos (by rw [List.length_set, am_clr_len]; omega)] at h1
      cases h1
      exact absurd rfl h2
    · rw [if_neg hj1, List.getElem?_set] at h1
      by_cases hj : k = j
      · rw [if_pos hj, if_pos (by rw [am_clr_len]; omega)] at h1
        cases h1
        subst hj
        rw [← h3]
        exact List.mem_cons_self
      · rw [if_neg hj] at h1
        obtain ⟨h4, h5⟩ := am_clr_get h1 h2
        refine List.mem_cons_of_mem _ (List.mem_filter.mpr ⟨am_lv_mem.mpr ⟨u, h4, h2, h3⟩, ?_⟩)
        simp only [Bool.and_eq_true, Bool.not_eq_true', beq_eq_false_iff_ne, ne_eq, Bool.and_eq_false_iff]
        refine ⟨fun q => hj q.symm, fun q => hj1 q.symm, ?_⟩
        rw [← h3, am_tv_cat]
        by_cases h6 : j + 1 = k
        · exact Or.inr (fun q => h5 ⟨h6, q⟩)
        · exact Or.inl h6
  · rw [if_neg hk] at h
    cases h
/-! what holds beside the heap -/
def am_K (D : va_G) (κ : FieldType → ClassId) (s : State) : Prop := va_K D am_cl [] s ∧ (∀ ty ∈ am_tys, ArrOfT s (κ ty) ty ∧ va_RA s (κ ty) ty) ∧ (∀ w ∈ am_ns, va_Nw w s) ∧ va_AO "RopeWalk$Law" s
theorem am_Kt {D : va_G} {κ : FieldType → ClassId} {s : State} (hK : am_K D κ s) {ty : FieldType} (h : ty ∈ am_tys) : va_K D am_cl [(κ ty, ty)] s :=
  ⟨hK.1.1, fun k q hk => by
    cases k with
    | zero => cases hk; exact hK.2.1 ty h
    | succ n => cases hk⟩
theorem am_ns_warm {w : Cond} (h : w ∈ am_ns) {s U : State} (hW : s.WarmedH U.vm) (hz : va_Nw w s) : va_Nw w U := by
  have h1 := (List.mem_filter.mp h).2
  cases w <;> first | exact va_Nw.warmF hW hz | exact va_Nw.warmM hW hz | (simp [am_isN] at h1)
theorem am_K.warm {D : va_G} {κ : FieldType → ClassId} {s U : State} (hW : s.WarmedH U.vm) (h : am_K D κ s) : am_K D κ U :=
  ⟨va_K.moved hW.alike h.1, fun ty ht => ⟨arrOfT_moved hW.alike (h.2.1 ty ht).1, (h.2.1 ty ht).2.moved hW.alike⟩, fun w hw => am_ns_warm hw hW (h.2.2.1 w hw), va_AO.moved hW.alike h.2.2.2⟩
def am_X (p : Program) (s : State) (m : MethodId) (args : Array Value) (meth : Method) (c : Code) (cc : ByteArray) (nL o : Nat) (ini : Bool) (Ts : List Cond) : Prop :=
  p.tables.exec = Jvm.exec ∧ c.code = cc ∧ c.maxLocals = nL ∧ s.vm.findClass (am_nmo o) = some m.cls ∧ (∀ w ∈ Ts, w.before args s = true) ∧ (∀ w ∈ am_gd, w ∈ Ts) ∧ (ini = true → meth.name = "<init>")
def am_sc (sc : Option (List Int32)) (β : Nat → Nat) (A : Nat → Prop) (s : State) : Prop := ∀ xs, sc = some xs → va_X (β 0) xs.length (fun j => xs.getD j 0) s s.heap ∧ β 0 < s.heap.size ∧ ¬ A (β 0)
