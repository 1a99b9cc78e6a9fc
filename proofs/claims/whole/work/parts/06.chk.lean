/-! The tables against the words: each link's word stands in lw_tbl. -/
def am_gd : List Cond := lw_tbl.filter goodWord
def am_isN : Cond → Bool
  | .fieldLinkNest _ _ _ _ _ _ => true
  | .methodLinkNest _ _ _ _ => true
  | _ => false
def am_ns : List Cond := lw_tbl.filter am_isN
def am_wd (p : Nat) (w : Cond) : Bool := decide (lw_tbl[p]? = some w) && goodWord w
def am_wn (p : Nat) (w : Cond) : Bool := decide (lw_tbl[p]? = some w) && am_isN w
theorem am_wd_in {p : Nat} {w : Cond} (h : am_wd p w = true) : w ∈ am_gd := by
  simp only [am_wd, Bool.and_eq_true, decide_eq_true_eq] at h
  exact List.mem_filter.mpr ⟨List.mem_of_getElem? h.1, h.2⟩
theorem am_wn_in {p : Nat} {w : Cond} (h : am_wn p w = true) : w ∈ am_ns := by
  simp only [am_wn, Bool.and_eq_true, decide_eq_true_eq] at h
  exact List.mem_filter.mpr ⟨List.mem_of_getElem? h.1, h.2⟩
theorem am_lk {β : Type} {l : List (Nat × β)} {a : Nat} {b : β} (h : l.lookup a = some b) : (a, b) ∈ l := by
  induction l with
  | nil => cases h
  | cons q l ih =>
    obtain ⟨k, v⟩ := q
    rw [List.lookup_cons] at h
    by_cases e : (a == k) = true
    · rw [e] at h
      have := eq_of_beq e
      cases h
      subst this
      exact List.mem_cons_self
    · rw [Bool.not_eq_true] at e
      rw [e] at h
      exact List.mem_cons_of_mem _ (ih h)
theorem am_lk2 {β : Type} {l : List (List (Nat × β))} {o a : Nat} {b : β} (f : Nat → Nat × β → Bool) (hf : (l.zipIdx.all fun q => q.1.all fun e => f q.2 e) = true) (h : (l.getD o []).lookup a = some b) : f o (a, b) = true := by
  have h1 := am_lk h
  have h2 : l[o]? = some (l.getD o []) := by
    rw [List.getD_eq_getElem?_getD] at h1 ⊢
    cases e : l[o]? with
    | none => rw [e] at h1; cases h1
    | some x => rfl
  have h3 := List.all_eq_true.mp hf (l.getD o [], o) (List.mem_zipIdx_iff_getElem?.mpr h2)
  exact List.all_eq_true.mp h3 _ h1
def am_nmo (o : Nat) : String := am_nm.getD o ""
def am_frc (o : Nat) (e : Nat × Nat × Nat × Nat × Nat) : Bool := match am_cl[e.2.1]? with
  | some q => decide (e.2.2.1 < q.2.2) && (if e.2.2.2.1 = 0 then am_wd e.2.2.2.2 (.fieldLink (am_nmo o) e.1 (q.2.1 e.2.2.1).1 (q.2.1 e.2.2.1).2.1 (q.2.1 e.2.2.1).2.2.1) else am_wn e.2.2.2.2 (.fieldLinkNest (am_nmo o) e.1 (q.2.1 e.2.2.1).1 (q.2.1 e.2.2.1).2.1 (q.2.1 e.2.2.1).2.2.1 "RopeWalk"))
  | none => false
theorem am_fr_chk : (am_frL.zipIdx.all fun q => q.1.all fun e => am_frc q.2 e) = true := by decide +kernel
def am_mec (q : am_M) : Bool := (match lw_tbl[q.2.1]? with
  | some (.code y _ ml rt) => decide (y = q.1) && decide (ml = q.2.2.1) && decide (rt = q.2.2.2.1)
  | _ => false) && am_wd q.2.2.2.2.2.2.2.2.2 (.initialized q.1.cls) && decide (q.1.cls = am_nmo q.2.2.2.2.1) && decide ((parseMethodDescriptor q.1.desc).map (fun d => d.parameters.length) = some q.2.2.2.2.2.1) && decide (q.2.2.1 ≤ 20) && decide (q.1.cls ≠ "java/lang/invoke/MethodHandle") && decide (q.1.cls ≠ "java/lang/invoke/VarHandle") && plainName q.1.cls &&
  (if q.2.2.2.2.2.2.1 = 1 then am_wd q.2.2.2.2.2.2.2.1 (.static q.1) else am_wd q.2.2.2.2.2.2.2.1 (.instanceMethod q.1) && (if q.2.2.2.2.2.2.1 = 2 then decide (q.1.name = "<init>") && decide (q.2.2.2.1 = none) else am_wd q.2.2.2.2.2.2.2.2.1 (.selects q.1.cls q.1 q.1)))
theorem am_me_c0 : ((am_me.drop 0).take 40).all am_mec = true := by decide +kernel
theorem am_me_c40 : ((am_me.drop 40).take 40).all am_mec = true := by decide +kernel
theorem am_me_c80 : ((am_me.drop 80).take 40).all am_mec = true := by decide +kernel
theorem am_me_c120 : ((am_me.drop 120).take 40).all am_mec = true := by decide +kernel
theorem am_me_c160 : ((am_me.drop 160).take 40).all am_mec = true := by decide +kernel
theorem am_me_c200 : ((am_me.drop 200).take 40).all am_mec = true := by decide +kernel
theorem am_me_c240 : ((am_me.drop 240).take 40).all am_mec = true := by decide +kernel
theorem am_me_c280 : ((am_me.drop 280).take 8).all am_mec = true := by decide +kernel
theorem am_me_len : am_me.length = 288 := by decide +kernel
theorem am_me_ok {mn : Nat} {q : am_M} (h : am_me[mn]? = some q) : am_mec q = true := by
  have hl : mn < 288 := by rw [← am_me_len]; exact (List.getElem?_eq_some_iff.mp h).1
  have key : ∀ i n : Nat, ((am_me.drop i).take n).all am_mec = true → i ≤ mn → mn < i + n → am_mec q = true := by
    intro i n ha h1 h2
    refine List.all_eq_true.mp ha q (List.mem_of_getElem? (i := mn - i) ?_)
    rw [List.getElem?_take, if_pos (by omega), List.getElem?_drop, show i + (mn - i) = mn by omega]
    exact h
  rcases Nat.lt_or_ge mn 40 with z0 | z0
  · exact key 0 40 am_me_c0 (by omega) (by omega)
  rcases Nat.lt_or_ge mn 80 with z40 | z40
  · exact key 40 40 am_me_c40 (by omega) (by omega)
  rcases Nat.lt_or_ge mn 120 with z80 | z80
  · exact key 80 40 am_me_c80 (by omega) (by omega)
  rcases Nat.lt_or_ge mn 160 with z120 | z120
  · exact key 120 40 am_me_c120 (by omega) (by omega)
  rcases Nat.lt_or_ge mn 200 with z160 | z160
  · exact key 160 40 am_me_c160 (by omega) (by omega)
  rcases Nat.lt_or_ge mn 240 with z200 | z200
  · exact key 200 40 am_me_c200 (by omega) (by omega)
  rcases Nat.lt_or_ge mn 280 with z240 | z240
  · exact key 240 40 am_me_c240 (by omega) (by omega)
  rcases Nat.lt_or_ge mn 288 with z280 | z280
  · exact key 280 8 am_me_c280 (by omega) (by omega)
  omega
def am_objInit : MethodName := Lib.objectInit
def am_mrc (o : Nat) (e : Nat × Nat × Nat × Nat) : Bool := match am_me[e.2.1]? with
  | some q => if e.2.2.1 = 0 then am_wd e.2.2.2 (.methodLink (am_nmo o) e.1 q.1) else am_wn e.2.2.2 (.methodLinkNest (am_nmo o) e.1 q.1 "RopeWalk")
  | none => if e.2.1 = 2000 then am_wd e.2.2.2 (.methodLink (am_nmo o) e.1 Lib.objectInit) else if e.2.1 = 2001 then am_wd e.2.2.2 (.methodLink (am_nmo o) e.1 arraycopyName) else if e.2.1 = 1000 then am_wd e.2.2.2 (.methodLink (am_nmo o) e.1 ⟨"java/lang/String", "length", "()I"⟩) else if e.2.1 = 1001 then am_wd e.2.2.2 (.methodLink (am_nmo o) e.1 ⟨"java/lang/String", "charAt", "(I)C"⟩) else if e.2.1 = 3001 then am_wd e.2.2.2 (.methodLink (am_nmo o) e.1 Lib.Math.max.name) else if e.2.1 = 3002 then am_wd e.2.2.2 (.methodLink (am_nmo o) e.1 Lib.Math.min.name) else if e.2.1 = 3003 then am_wd e.2.2.2 (.methodLink (am_nmo o) e.1 Lib.Math.abs.name) else if e.2.1 = 3004 then am_wd e.2.2.2 (.methodLink (am_nmo o) e.1 Lib.MathLoose.max_long.x) else if e.2.1 = 3005 then am_wd e.2.2.2 (.methodLink (am_nmo o) e.1 Lib.MathLoose.min_long.x) else if e.2.1 = 1002 then am_wd e.2.2.2 (.methodLink (am_nmo o) e.1 ⟨"RopeWalkLaw", "rope", "(LRopeWalk;II[J)I"⟩) else false
theorem am_mr_chk : (am_mrL.zipIdx.all fun q => q.1.all fun e => am_mrc q.2 e) = true := by decide +kernel
def am_cic (o : Nat) (e : Nat × Int32 × Nat) : Bool := am_wd e.2.2 (.constant (am_nmo o) e.1 e.2.1)
theorem am_ci_chk : (am_ciL.zipIdx.all fun q => q.1.all fun e => am_cic q.2 e) = true := by decide +kernel
def am_cjc (o : Nat) (e : Nat × Int64 × Nat) : Bool := am_wd e.2.2 (.constantLong (am_nmo o) e.1 e.2.1)
theorem am_cj_chk : (am_cjL.zipIdx.all fun q => q.1.all fun e => am_cjc q.2 e) = true := by decide +kernel
def am_nwc (o : Nat) (e : Nat × Nat × Nat × Nat × Nat) : Bool := match am_cl[e.2.1]? with
  | some q => am_wd e.2.2.1 (.classLink (am_nmo o) e.1 q.1) && am_wd e.2.2.2.1 (.instantiable q.1 q.2.2) && am_wd e.2.2.2.2 (.initialized q.1)
  | none => false
theorem am_nw_chk : (am_nwL.zipIdx.all fun q => q.1.all fun e => am_nwc q.2 e) = true := by decide +kernel
/-- fields: their words, types, names -/
def am_clc (e : vw_C × Nat) : Bool := (List.range e.1.2.2).all (fun k => am_wd ((am_lyL.getD e.2 []).getD k 0) (u_lay e.1.1 e.1.2.1 k) && decide (parseFieldDescriptor (e.1.2.1 k).2.2.1 = some (am_fty e.2 k)) && decide ((e.1.2.1 k).1 = e.1.1)) && decide ((am_ty.getD e.2 []).length = e.1.2.2) && decide (am_nmo e.2 = e.1.1)
theorem am_cl_chk : am_cl.zipIdx.all am_clc = true := by decide +kernel
/-- no two fields of one name -/
def am_dif (T : u_T) (a b : Nat) : Bool := (a == b) || !((T a).2.1 == (T b).2.1)
def am_ndc (e : vw_C × Nat) : Bool := (List.range e.1.2.2).all (fun a => (List.range e.1.2.2).all (fun b => am_dif e.1.2.1 a b))
theorem am_nd_chk0 : (am_cl.zipIdx.take 12).all am_ndc = true := by decide +kernel
theorem am_nd_chk1 : (List.range 90).all (fun a => (List.range 90).all (fun b => am_dif am_T12 a b)) = true := by decide +kernel
