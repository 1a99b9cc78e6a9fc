/-! The text constant: String's own methods over it, by hand. -/
def am_txt : String := "maker rope ship rig sail storm seed law twist wear pull or and not yards even think sound bear stormy day "
def am_SF (B k kv : Nat) (U : State) : Prop := va_O "java/lang/String" k (fun q => B ≤ q) U U.heap ∧ va_OF "java/lang/String" "coder" "B" (.int 0) k (fun q => B ≤ q) U U.heap ∧ va_OF "java/lang/String" "value" "[B" (.ref kv) k (fun q => B ≤ q) U U.heap ∧ va_T .byte kv 106 (fun j => .int (am_str.getD j 0)) (fun q => B ≤ q) U U.heap ∧ va_Z "java/lang/String" "COMPACT_STRINGS" "Z" (.int 1) (fun q => B ≤ q) U U.heap ∧ va_Zq "jdk/internal/util/Preconditions" "SIOOBE_FORMATTER" "Ljava/util/function/BiFunction;" (fun q => B ≤ q) U U.heap
theorem am_SF.to {B k kv : Nat} {s U : State} (h : am_SF B k kv s) (hv : s.vm.Alike U.vm) (hq : ∀ a : Nat, a < s.heap.size → a < B → U.heap[a]? = s.heap[a]?) : am_SF B k kv U := by
  have hq2 : ∀ a : Nat, a < s.heap.size → ¬ (fun q => B ≤ q) a → U.heap[a]? = s.heap[a]? := fun a h1 h2 => hq a h1 (Nat.not_le.mp h2)
  obtain ⟨h1, h2, h3, h4, h5, h6⟩ := h
  exact ⟨(h1.kept hq2).moved hv, (h2.kept hq2).moved hv, (h3.kept hq2).moved hv, (h4.kept hq2).moved hv, (h5.kept hq2).moved hv, (h6.kept hq2).moved hv⟩
theorem am_SF.call {B k kv : Nat} {U : State} {g : JFrame} {mk : MethodId} {a : Array Value} (h : am_SF B k kv U) : am_SF B k kv (U.calling g mk a) := h.to (U := U.calling g mk a) (Vm.Alike.refl U.vm) (fun _ _ _ => rfl)
/-- what is outside: the text constant -/
def am_O (B : Nat) (U : State) : Prop := B ≤ U.heap.size ∧ ∃ k kv : Nat, vk_R "RopeWalk$Tokens" 40 am_txt k U ∧ am_SF B k kv U
theorem am_O.call {B : Nat} (U : State) (g : JFrame) (mk : MethodId) (a : Array Value) (h : am_O B U) : am_O B (U.calling g mk a) := by
  obtain ⟨h0, k, kv, h1, h2⟩ := h
  exact ⟨h0, k, kv, vk_R.same (u := U) (U := U.calling g mk a) rfl h1, h2.call⟩
theorem am_O.to {B : Nat} (s U : State) (h : am_O B s) (hz : s.heap.size ≤ U.heap.size) (hW : s.WarmedH U.vm) (hq : ∀ q, q < B → U.heap[q]? = s.heap[q]?) : am_O B U := by
  obtain ⟨h0, k, kv, h1, h2⟩ := h
  exact ⟨Nat.le_trans h0 hz, k, kv, h1.warm hW, h2.to hW.alike (fun a _ ha => hq a ha)⟩
def am_Kp (v : Option Value) : Array Value → State → Outcome → State → Prop := fun _ st oc t => oc = .returned v ∧ t.heap = st.heap
def am_nf : Addr → Prop := fun _ => False
def am_rs (f lo : Nat) : Room := { frames := f, cells := 0, slots := 0, locals := lo }
abbrev am_ws1 (y : MethodName) (pl n : Nat) (rt : Option FieldType) : List Cond := Cond.code y (am_wb pl) n rt :: am_gd
def ys_len : MethodName := ⟨"java/lang/String", "length", "()I"⟩
def ys_cod : MethodName := ⟨"java/lang/String", "coder", "()B"⟩
def ys_chr : MethodName := ⟨"java/lang/String", "charAt", "(I)C"⟩
def ys_lat : MethodName := ⟨"java/lang/String", "isLatin1", "()Z"⟩
def ys_chk : MethodName := ⟨"java/lang/String", "checkIndex", "(II)V"⟩
def ys_lch : MethodName := ⟨"java/lang/StringLatin1", "charAt", "([BI)C"⟩
def ys_pre : MethodName := ⟨"jdk/internal/util/Preconditions", "checkIndex", "(IILjava/util/function/BiFunction;)I"⟩
section
variable {p : Program} {l : Launch} {e : Env} {R : Room} {s : State} {m : MethodId} {args : Array Value} {below : List Frame} {meth : Method} {c : Code} {H : Heap} {locs : List Loc} {cells slots : Nat} {Q : State → Prop}
theorem am_keep {pc : Nat} {ls : Array Slot} {st0 rest : List Value} {a : Array Value} {v : Option Value} (hr : va_Run p l e R s m args below meth c H locs cells slots 0 0 (F0 m pc ls st0) rest (am_Kp v a) am_nf)
    (kk : W p l e R s m args below meth c H locs cells slots Q (F0 m (pc + 3) ls (v.toList ++ rest))) : W p l e R s m args below meth c H locs cells slots Q (F0 m pc ls st0) := by
  intro T hT X
  obtain ⟨v', st₀, t, T', L, h0, X', hL, e1, e2, ⟨hv, hh⟩, st⟩ := hr T hT X
  cases hv
  have hL0 : L = [] := by
    cases L with
    | nil => rfl
    | cons q L => exact (hL q List.mem_cons_self).elim
  subst hL0
  rw [List.append_nil] at X'
  obtain ⟨t2, a1, b1⟩ := kk T' (by rw [e1, hh, h0]) X'
  exact ⟨t2, st t2 a1, b1⟩
end
theorem am_fbl {B k kv : Nat} {av : List Value} : FrameBlind (va_Pc av (am_SF B k kv)) := fun _ _ _ _ q => ⟨q.1, q.2.call⟩
theorem am_fbt {av : List Value} : FrameBlind (va_Pc av (fun _ => True)) := fun _ _ _ _ q => ⟨q.1, trivial⟩
theorem sw_cs : Cond.fieldLink "java/lang/String" 38 "java/lang/String" "COMPACT_STRINGS" "Z" ∈ am_gd := am_wd_in (p := 189) (by decide +kernel)
theorem sw_fm : Cond.fieldLink "java/lang/String" 1053 "jdk/internal/util/Preconditions" "SIOOBE_FORMATTER" "Ljava/util/function/BiFunction;" ∈ am_gd := am_wd_in (p := 205) (by decide +kernel)
theorem sw_va : Cond.fieldLink "java/lang/String" 9 "java/lang/String" "value" "[B" ∈ am_gd := am_wd_in (p := 2259) (by decide +kernel)
theorem sw_co : Cond.fieldLink "java/lang/String" 15 "java/lang/String" "coder" "B" ∈ am_gd := am_wd_in (p := 2260) (by decide +kernel)
theorem sw_iS : Cond.initialized "java/lang/String" ∈ am_gd := am_wd_in (p := 138) (by decide +kernel)
theorem sw_iL : Cond.initialized "java/lang/StringLatin1" ∈ am_gd := am_wd_in (p := 139) (by decide +kernel)
theorem sw_iP : Cond.initialized "jdk/internal/util/Preconditions" ∈ am_gd := am_wd_in (p := 140) (by decide +kernel)
/-- a code word by its place -/
theorem sw_code {y : MethodName} {pl n : Nat} {rt : Option FieldType} (h : (match lw_tbl[pl]? with
  | some (.code y1 _ ml r1) => decide (y1 = y) && decide (ml = n) && decide (r1 = rt)
  | _ => false) = true) : ∀ w ∈ am_ws1 y pl n rt, w ∈ am_gd := by
  intro w hw
  rcases List.mem_cons.mp hw with rfl | hw
  · unfold am_wb
    split at h
    · rename_i y1 b ml r1 hq
      simp only [Bool.and_eq_true, decide_eq_true_eq] at h
      obtain ⟨⟨e1, e2⟩, e3⟩ := h
      rw [hq, ← e1, ← e2, ← e3]
      exact List.mem_filter.mpr ⟨List.mem_of_getElem? hq, rfl⟩
    · cases h
  · exact hw
theorem sk_cod : ∀ w ∈ am_ws1 ys_cod 188 1 (some .byte), w ∈ am_gd := sw_code (by decide +kernel)
theorem sk_len : ∀ w ∈ am_ws1 ys_len 184 1 (some .int), w ∈ am_gd := sw_code (by decide +kernel)
theorem sk_chr : ∀ w ∈ am_ws1 ys_chr 194 2 (some .char), w ∈ am_gd := sw_code (by decide +kernel)
theorem sk_lat : ∀ w ∈ am_ws1 ys_lat 198 1 (some .boolean), w ∈ am_gd := sw_code (by decide +kernel)
theorem sk_lch : ∀ w ∈ am_ws1 ys_lch 201 2 (some .char), w ∈ am_gd := sw_code (by decide +kernel)
theorem sk_chk : ∀ w ∈ am_ws1 ys_chk 204 2 none, w ∈ am_gd := sw_code (by decide +kernel)
theorem sk_pre : ∀ w ∈ am_ws1 ys_pre 209 3 (some .int), w ∈ am_gd := sw_code (by decide +kernel)
theorem sv_cod : ∀ w ∈ wsV "java/lang/String" 335 "java/lang/String" ys_cod (am_ws1 ys_cod 188 1 (some .byte)), w ∈ am_gd := by
  intro w hw
  rcases List.mem_append.mp hw with hw | hw
  · simp only [List.mem_cons, List.not_mem_nil, or_false] at hw
    rcases hw with rfl | rfl | rfl | rfl
    · exact am_wd_in (p := 185) (by decide +kernel)
    · exact am_wd_in (p := 186) (by decide +kernel)
    · exact am_wd_in (p := 187) (by decide +kernel)
    · exact sw_iS
  · exact sk_cod w hw
theorem sv_lat : ∀ w ∈ wsV "java/lang/String" 492 "java/lang/String" ys_lat (am_ws1 ys_lat 198 1 (some .boolean)), w ∈ am_gd := by
  intro w hw
  rcases List.mem_append.mp hw with hw | hw
  · simp only [List.mem_cons, List.not_mem_nil, or_false] at hw
    rcases hw with rfl | rfl | rfl | rfl
    · exact am_wd_in (p := 195) (by decide +kernel)
    · exact am_wd_in (p := 196) (by decide +kernel)
    · exact am_wd_in (p := 197) (by decide +kernel)
    · exact sw_iS
  · exact sk_lat w hw
theorem sv_len : ∀ w ∈ wsV "RopeWalk$Tokens" 42 "java/lang/String" ys_len (am_ws1 ys_len 184 1 (some .int)), w ∈ am_gd := by
  intro w hw
  rcases List.mem_append.mp hw with hw | hw
  · simp only [List.mem_cons, List.not_mem_nil, or_false] at hw
    rcases hw with rfl | rfl | rfl | rfl
    · exact am_wd_in (p := 181) (by decide +kernel)
    · exact am_wd_in (p := 182) (by decide +kernel)
    · exact am_wd_in (p := 183) (by decide +kernel)
    · exact sw_iS
  · exact sk_len w hw
theorem sv_chr : ∀ w ∈ wsV "RopeWalk$Tokens" 47 "java/lang/String" ys_chr (am_ws1 ys_chr 194 2 (some .char)), w ∈ am_gd := by
  intro w hw
  rcases List.mem_append.mp hw with hw | hw
  · simp only [List.mem_cons, List.not_mem_nil, or_false] at hw
    rcases hw with rfl | rfl | rfl | rfl
    · exact am_wd_in (p := 191) (by decide +kernel)
    · exact am_wd_in (p := 192) (by decide +kernel)
    · exact am_wd_in (p := 193) (by decide +kernel)
    · exact sw_iS
  · exact sk_chr w hw
