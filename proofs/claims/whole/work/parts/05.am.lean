/-! AN ABSTRACT MACHINE for the program: ints, longs, places of a list of cells; it steps as the bytecode does, and says none where it can't say.
A cell is an array (type, contents) or an object (class number, fields). A reference is the cell's place; .retAddr k is a thing outside (0 the script, 1 the text constant). -/
abbrev am_A : Type := FieldType × (List Int32 ⊕ List Int64 ⊕ List (Option Nat))
abbrev am_E : Type := am_A ⊕ (Nat × List Value)
abbrev am_H : Type := List am_E
/-- a local that isn't set -/
def am_un : Value := .float 0
def am_fr (o j : Nat) : Option (Nat × Nat × Nat × Nat) := (am_frL.getD o []).lookup j
def am_mr (o j : Nat) : Option (Nat × Nat × Nat) := (am_mrL.getD o []).lookup j
def am_ci (o j : Nat) : Option (Int32 × Nat) := (am_ciL.getD o []).lookup j
def am_cj (o j : Nat) : Option (Int64 × Nat) := (am_cjL.getD o []).lookup j
def am_nw (o j : Nat) : Option (Nat × Nat × Nat × Nat) := (am_nwL.getD o []).lookup j
def am_ins (c : List (List (Nat × Instr × Nat))) (pc : Nat) : Option (Instr × Nat) := (c.getD (pc / 32) []).lookup pc
def am_fty (ci k : Nat) : FieldType := (am_ty.getD ci []).getD k .int
def am_fin (ci k : Nat) : Bool := match am_cl[ci]? with
  | some q => (q.2.1 k).2.2.2
  | none => true
def am_dfv : FieldType → Value
  | .long => .long 0
  | .object _ => .null
  | .array _ => .null
  | .float => .float 0
  | .double => .double 0
  | _ => .int 0
def am_isI : Value → Bool
  | .int _ => true
  | _ => false
def am_isL : Value → Bool
  | .long _ => true
  | _ => false
def am_isA : Value → Bool
  | .ref _ => true
  | .retAddr _ => true
  | _ => false
/-- no thing outside -/
def am_pl : Value → Bool
  | .retAddr _ => false
  | _ => true
def am_ld (L : List Value) (k : Nat) (p : Value → Bool) (st : List Value) : Option (List Value) := match L[k]? with
  | some v => if p v = true then some (v :: st) else none
  | none => none
def am_ii (f : Int32 → Int32 → Option Value) (st : List Value) : Option (List Value) := match st with
  | .int y :: .int x :: r => (f x y).map (· :: r)
  | _ => none
def am_ll (f : Int64 → Int64 → Option Value) (st : List Value) : Option (List Value) := match st with
  | .long y :: .long x :: r => (f x y).map (· :: r)
  | _ => none
def am_i1 (f : Int32 → Value) (st : List Value) : Option (List Value) := match st with
  | .int x :: r => some (f x :: r)
  | _ => none
def am_l1 (f : Int64 → Value) (st : List Value) : Option (List Value) := match st with
  | .long x :: r => some (f x :: r)
  | _ => none
def am_gf (o j : Nat) (st : List Value) (h : am_H) : Option (List Value) := match am_fr o j with
  | some (ci, k, _, _) => match st with
    | .ref a :: r => match h[a]? with
      | some (.inr (c, fs)) => match fs[k]? with
        | some v => if c = ci ∧ am_pl v = true then some (v :: r) else none
        | none => none
      | _ => none
    | _ => none
  | none => none
def am_ial (ty : FieldType) (sc : Option (List Int32)) (st : List Value) (h : am_H) : Option (List Value) := match st with
  | .int i :: .ref a :: r => match h[a]? with
    | some (.inl (t, .inl l)) => if t = ty ∧ ¬ (i < 0 ∨ l.length ≤ i.toNatClampNeg) then some (.int (l.getD i.toNatClampNeg 0) :: r) else none
    | _ => none
  | .int i :: .retAddr 0 :: r => match sc with
    | some l => if ty = .int ∧ ¬ (i < 0 ∨ l.length ≤ i.toNatClampNeg) then some (.int (l.getD i.toNatClampNeg 0) :: r) else none
    | none => none
  | _ => none
def am_lal (st : List Value) (h : am_H) : Option (List Value) := match st with
  | .int i :: .ref a :: r => match h[a]? with
    | some (.inl (.long, .inr (.inl l))) => if ¬ (i < 0 ∨ l.length ≤ i.toNatClampNeg) then some (.long (l.getD i.toNatClampNeg 0) :: r) else none
    | _ => none
  | _ => none
def am_aal (st : List Value) (h : am_H) : Option (List Value) := match st with
  | .int i :: .ref a :: r => match h[a]? with
    | some (.inl (.object C, .inr (.inr l))) => if C = "RopeWalk$Law" ∧ ¬ (i < 0 ∨ l.length ≤ i.toNatClampNeg) then
        match l.getD i.toNatClampNeg none with
        | some q => some (.ref q :: r)
        | none => none
      else none
    | _ => none
  | _ => none
def am_tys : List FieldType := [.int, .long, .boolean, .object "RopeWalk$Law"]
def am_asz (x : List Int32 ⊕ List Int64 ⊕ List (Option Nat)) : Nat := match x with
  | .inl l => l.length
  | .inr (.inl l) => l.length
  | .inr (.inr l) => l.length
def am_aln (sc : Option (List Int32)) (st : List Value) (h : am_H) : Option (List Value) := match st with
  | .ref a :: r => match h[a]? with
    | some (.inl (t, x)) => if t ∈ am_tys then some (.int (Int32.ofNat (am_asz x)) :: r) else none
    | _ => none
  | .retAddr 0 :: r => match sc with
    | some l => some (.int (Int32.ofNat l.length) :: r)
    | none => none
  | _ => none
/-- instructions that only make a new stack -/
def am_pu (sc : Option (List Int32)) (o : Nat) (i : Instr) (L st : List Value) (h : am_H) : Option (List Value) := match i with
  | .iconst k => some (.int (Int32.ofInt k) :: st)
  | .bipush k => some (.int (Int8.ofInt k).toInt32 :: st)
  | .sipush k => some (.int (Int16.ofInt k).toInt32 :: st)
  | .lconst k => some (.long (Int64.ofNat (k : Nat)) :: st)
  | .ldc j => (am_ci o j).map (fun v => .int v.1 :: st)
  | .ldc_w j => (am_ci o j).map (fun v => .int v.1 :: st)
  | .ldc2_w j => (am_cj o j).map (fun v => .long v.1 :: st)
  | .iload_n k => am_ld L k am_isI st
  | .iload k => am_ld L k am_isI st
  | .lload_n k => am_ld L k am_isL st
  | .lload k => am_ld L k am_isL st
  | .aload_n k => am_ld L k am_isA st
  | .aload k => am_ld L k am_isA st
  | .iadd => am_ii (fun x y => some (.int (x + y))) st
  | .isub => am_ii (fun x y => some (.int (x - y))) st
  | .imul => am_ii (fun x y => some (.int (x * y))) st
  | .idiv => am_ii (fun x y => if y = 0 then none else some (.int (x / y))) st
  | .irem => am_ii (fun x y => if y = 0 then none else some (.int (x - x / y * y))) st
  | .iand => am_ii (fun x y => some (.int (x &&& y))) st
  | .ior => am_ii (fun x y => some (.int (x ||| y))) st
  | .ixor => am_ii (fun x y => some (.int (x ^^^ y))) st
  | .ishl => am_ii (fun x y => some (.int (x <<< (y &&& 31)))) st
  | .ishr => am_ii (fun x y => some (.int (x >>> (y &&& 31)))) st
  | .iushr => am_ii (fun x y => some (.int (x.toUInt32 >>> (y.toUInt32 &&& Int32.toUInt32 31)).toInt32)) st
  | .ineg => am_i1 (fun x => .int (-x)) st
  | .i2l => am_i1 (fun x => .long x.toInt64) st
  | .l2i => am_l1 (fun x => .int x.toInt32) st
  | .lneg => am_l1 (fun x => .long (-x)) st
  | .ladd => am_ll (fun x y => some (.long (x + y))) st
  | .lsub => am_ll (fun x y => some (.long (x - y))) st
  | .lmul => am_ll (fun x y => some (.long (x * y))) st
  | .land => am_ll (fun x y => some (.long (x &&& y))) st
  | .ldiv => am_ll (fun x y => if y = 0 then none else some (.long (x / y))) st
  | .lrem => am_ll (fun x y => if y = 0 then none else some (.long (x - x / y * y))) st
  | .lcmp => am_ll (fun x y => some (.int (lg_cmp x y))) st
  | .dup => match st with
    | v :: r => if v.category = 1 then some (v :: v :: r) else none
    | _ => none
  | .dup2 => match st with
    | v :: w :: r => if v.category = 1 ∧ w.category = 1 then some (v :: w :: v :: w :: r) else none
    | _ => none
  | .pop => match st with
    | v :: r => if v.category = 1 then some r else none
    | _ => none
  | .getfield j => am_gf o j st h
  | .iaload => am_ial .int sc st h
  | .baload => am_ial .boolean none st h
  | .laload => am_lal st h
  | .aaload => am_aal st h
  | .arraylength => am_aln sc st h
  | _ => none
/-- a long just ahead of place k is no more -/
def am_clr (L : List Value) (k : Nat) : List Value := match k with
  | 0 => L
  | j + 1 => match L[j]? with
    | some v => if v.category = 2 then L.set j am_un else L
    | none => L
def am_s1 (L : List Value) (k : Nat) (v : Value) : Option (List Value) := if k < L.length then some ((am_clr L k).set k v) else none
def am_s2 (L : List Value) (k : Nat) (v : Value) : Option (List Value) := if k + 1 < L.length then some (((am_clr L k).set k v).set (k + 1) am_un) else none
def am_sto (L : List Value) (k : Nat) (p : Value → Bool) (st : List Value) : Option (List Value × List Value) := match st with
  | v :: r => if p v = true then (am_s1 L k v).map (fun L1 => (L1, r)) else none
  | [] => none
def am_st2 (L : List Value) (k : Nat) (st : List Value) : Option (List Value × List Value) := match st with
  | .long x :: r => (am_s2 L k (.long x)).map (fun L1 => (L1, r))
  | _ => none
/-- instructions that write a local -/
def am_lo (i : Instr) (L st : List Value) : Option (List Value × List Value) := match i with
  | .istore_n k => am_sto L k am_isI st
  | .istore k => am_sto L k am_isI st
  | .astore_n k => am_sto L k am_isA st
  | .astore k => am_sto L k am_isA st
  | .lstore_n k => am_st2 L k st
  | .lstore k => am_st2 L k st
  | .iinc k n => match L[k]? with
    | some (.int x) => (am_s1 L k (.int (x + Int32.ofInt n))).map (fun L1 => (L1, st))
    | _ => none
  | _ => none
/-- what a field of a type takes -/
def am_fit (ty : FieldType) (v : Value) : Bool := match ty, v with
  | .int, .int _ => true
  | .boolean, .int x => x == 0 || x == 1
  | .long, .long _ => true
  | .object _, .ref _ => true
  | .object _, .null => true
  | .array _, .ref _ => true
  | .array _, .null => true
  | _, _ => false
def am_pf (o : Nat) (ini : Bool) (j : Nat) (st : List Value) (h : am_H) : Option (List Value × am_H) := match am_fr o j with
  | some (ci, k, ns, _) => match st with
    | v :: .ref a :: r => match h[a]? with
      | some (.inr (c, fs)) => if c = ci ∧ k < fs.length ∧ am_fit (am_fty ci k) v = true ∧ (am_fin ci k = false ∨ (ini = true ∧ o = ci ∧ ns = 0)) then some (r, h.set a (.inr (c, fs.set k v))) else none
      | _ => none
    | _ => none
  | none => none
def am_ias (st : List Value) (h : am_H) : Option (List Value × am_H) := match st with
  | .int x :: .int i :: .ref a :: r => match h[a]? with
    | some (.inl (.int, .inl l)) => if ¬ (i < 0 ∨ l.length ≤ i.toNatClampNeg) then some (r, h.set a (.inl (.int, .inl (l.set i.toNatClampNeg x)))) else none
    | _ => none
  | _ => none
def am_bas (st : List Value) (h : am_H) : Option (List Value × am_H) := match st with
  | .int x :: .int i :: .ref a :: r => match h[a]? with
    | some (.inl (.boolean, .inl l)) => if (x = 0 ∨ x = 1) ∧ ¬ (i < 0 ∨ l.length ≤ i.toNatClampNeg) then some (r, h.set a (.inl (.boolean, .inl (l.set i.toNatClampNeg x)))) else none
    | _ => none
  | _ => none
def am_las (st : List Value) (h : am_H) : Option (List Value × am_H) := match st with
  | .long x :: .int i :: .ref a :: r => match h[a]? with
    | some (.inl (.long, .inr (.inl l))) => if ¬ (i < 0 ∨ l.length ≤ i.toNatClampNeg) then some (r, h.set a (.inl (.long, .inr (.inl (l.set i.toNatClampNeg x))))) else none
    | _ => none
  | _ => none
/-- of references: only objects of the class whose array it is -/
def am_aas (st : List Value) (h : am_H) : Option (List Value × am_H) := match st with
  | .ref q :: .int i :: .ref a :: r => match h[a]? with
    | some (.inl (.object C, .inr (.inr l))) => match h[q]? with
      | some (.inr (c, _)) => if C = "RopeWalk$Law" ∧ c = 3 ∧ ¬ (i < 0 ∨ l.length ≤ i.toNatClampNeg) then some (r, h.set a (.inl (.object C, .inr (.inr (l.set i.toNatClampNeg (some q)))))) else none
      | _ => none
    | _ => none
  | _ => none
/-- System.arraycopy of ints -/
def am_cpy (st : List Value) (h : am_H) : Option (List Value × am_H) := match st with
  | .int n :: .int dp :: .ref a :: .int sp :: .ref a0 :: r => match h[a0]?, h[a]? with
    | some (.inl (.int, .inl f)), some (.inl (.int, .inl g)) =>
      if ¬ sp < 0 ∧ ¬ dp < 0 ∧ ¬ n < 0 ∧ sp.toNatClampNeg + n.toNatClampNeg ≤ f.length ∧ dp.toNatClampNeg + n.toNatClampNeg ≤ g.length ∧ (r.map fun v => v.category).sum ≤ 8 then
        some (r, h.set a (.inl (.int, .inl (g.take dp.toNatClampNeg ++ (f.drop sp.toNatClampNeg).take n.toNatClampNeg ++ g.drop (dp.toNatClampNeg + n.toNatClampNeg)))))
      else none
    | _, _ => none
  | _ => none
/-- instructions that write a cell -/
def am_hw (o : Nat) (ini : Bool) (i : Instr) (st : List Value) (h : am_H) : Option (List Value × am_H) := match i with
  | .putfield j => am_pf o ini j st h
  | .iastore => am_ias st h
  | .bastore => am_bas st h
  | .lastore => am_las st h
  | .aastore => am_aas st h
  | .invokestatic j => match am_mr o j with
    | some (2001, _, _) => am_cpy st h
    | _ => none
  | _ => none
def am_tg (pc : Nat) (off : Int) : Option Nat := if 0 ≤ (pc : Int) + off then some ((pc : Int) + off).toNat else none
def am_b1 (p : Int32 → Bool) (pc : Nat) (off : Int) (st : List Value) : Option (Nat × List Value) := match st with
  | .int x :: r => (am_tg pc off).map (fun t => (if p x = true then t else pc + 3, r))
  | _ => none
def am_b2 (p : Int32 → Int32 → Bool) (pc : Nat) (off : Int) (st : List Value) : Option (Nat × List Value) := match st with
  | .int y :: .int x :: r => (am_tg pc off).map (fun t => (if p x y = true then t else pc + 3, r))
  | _ => none
def am_sw (lo hi dflt : Int) (offs : Array Int) (pc : Nat) (st : List Value) : Option (Nat × List Value) := match st with
  | .int x :: r => if x.toInt < lo ∨ hi < x.toInt then (am_tg pc dflt).map (fun t => (t, r)) else
    match offs[(x.toInt - lo).toNat]? with
    | some off => (am_tg pc off).map (fun t => (t, r))
    | none => none
  | _ => none
/-- branches -/
def am_br (i : Instr) (pc : Nat) (st : List Value) : Option (Nat × List Value) := match i with
  | .ifCond .eq off => am_b1 (fun x => decide (x = 0)) pc off st
  | .ifCond .ne off => am_b1 (fun x => decide (¬ x = 0)) pc off st
  | .ifCond .lt off => am_b1 (fun x => decide (x < 0)) pc off st
  | .ifCond .ge off => am_b1 (fun x => decide (0 ≤ x)) pc off st
  | .ifCond .gt off => am_b1 (fun x => decide (0 < x)) pc off st
  | .ifCond .le off => am_b1 (fun x => decide (x ≤ 0)) pc off st
  | .if_icmp .eq off => am_b2 (fun x y => decide (x = y)) pc off st
  | .if_icmp .ne off => am_b2 (fun x y => decide (¬ x = y)) pc off st
  | .if_icmp .lt off => am_b2 (fun x y => decide (x < y)) pc off st
  | .if_icmp .ge off => am_b2 (fun x y => decide (y ≤ x)) pc off st
  | .if_icmp .gt off => am_b2 (fun x y => decide (y < x)) pc off st
  | .if_icmp .le off => am_b2 (fun x y => decide (x ≤ y)) pc off st
  | .goto off => (am_tg pc off).map (fun t => (t, st))
  | .tableswitch dflt lo hi offs => am_sw lo hi dflt offs pc st
  | .lookupswitch dflt ps => match st with
    | .int x :: r => if (ps.toList.zip (ps.toList.drop 1)).all (fun (a, next) => a.1 < next.1) = true then (am_tg pc (Op.lookupswitch.offset ps.toList dflt x.toInt)).map (fun t => (t, r)) else none
    | _ => none
  | _ => none
/-- ends; an exception's making in RopeWalk.rope ends it, with .double 1 or .double 2 -/
def am_rt (o : Nat) (i : Instr) (rt : Option FieldType) (st : List Value) : Option (Option Value) := match i with
  | .ireturn => match rt, st with
    | some .int, [.int v] => some (some (.int v))
    | some .boolean, [.int v] => if v = 0 ∨ v = 1 then some (some (.int v)) else none
    | _, _ => none
  | .lreturn => match rt, st with
    | some .long, [.long v] => some (some (.long v))
    | _, _ => none
  | .areturn => match rt, st with
    | some (.object _), [.ref a] => some (some (.ref a))
    | _, _ => none
  | .return_ => match rt, st with
    | none, [] => some none
    | _, _ => none
  | .new j => if o = 11 ∧ st = [] then (if j = 140 then some (some (.double 1)) else if j = 162 then some (some (.double 2)) else none) else none
  | _ => none
/-- a method's answer that is no exception -/
def am_nd : Option Value → Bool
  | some (.double _) => false
  | some (.retAddr _) => false
  | _ => true
/-- what is made -/
def am_mk (o : Nat) (i : Instr) (st : List Value) (h : am_H) : Option (List Value × am_H) := match i with
  | .new j => match am_nw o j with
    | some (ci, _, _, _) => some (.ref h.length :: st, h ++ [.inr (ci, (am_ty.getD ci []).map am_dfv)])
    | none => none
  | .newarray .int => match st with
    | .int n :: r => if ¬ n < 0 ∧ n.toNatClampNeg ≤ 100000 then some (.ref h.length :: r, h ++ [.inl (.int, .inl (List.replicate n.toNatClampNeg 0))]) else none
    | _ => none
  | .newarray .boolean => match st with
    | .int n :: r => if ¬ n < 0 ∧ n.toNatClampNeg ≤ 100000 then some (.ref h.length :: r, h ++ [.inl (.boolean, .inl (List.replicate n.toNatClampNeg 0))]) else none
    | _ => none
  | .newarray .long => match st with
    | .int n :: r => if ¬ n < 0 ∧ n.toNatClampNeg ≤ 100000 then some (.ref h.length :: r, h ++ [.inl (.long, .inr (.inl (List.replicate n.toNatClampNeg 0)))]) else none
    | _ => none
  | .anewarray j => match am_nw o j with
    | some (3, _, _, _) => match st with
      | .int n :: r => if ¬ n < 0 ∧ n.toNatClampNeg ≤ 100000 then some (.ref h.length :: r, h ++ [.inl (.object "RopeWalk$Law", .inr (.inr (List.replicate n.toNatClampNeg none)))]) else none
      | _ => none
    | _ => none
  | _ => none
abbrev am_C : Type := Nat → List Value → am_H → Option (Option Value × am_H)
/-- words that stand below a call's arguments -/
def am_rm (r : List Value) : Bool := decide ((r.map fun v => v.category).sum ≤ 8)
/-- calls -/
def am_iv (call : am_C) (o : Nat) (i : Instr) (st : List Value) (h : am_H) : Option (List Value × am_H) := match i with
  | .invokevirtual j => match am_mr o j with
    | some (mn, _, _) => match am_me[mn]? with
      | some q => match st.drop q.2.2.2.2.2.1 with
        | .ref a :: r => match h[a]? with
          | some (.inr (c, _)) => if c = q.2.2.2.2.1 ∧ q.2.2.2.2.2.2.1 = 0 ∧ am_rm r = true ∧ (st.take q.2.2.2.2.2.1).all am_pl = true then (call mn (.ref a :: (st.take q.2.2.2.2.2.1).reverse) h).bind (fun z => if am_nd z.1 = true then some (z.1.toList ++ r, z.2) else none) else none
          | _ => none
        | _ => none
      | none => none
    | none => none
  | .invokespecial j => match am_mr o j with
    | some (mn, _, _) => if mn = 2000 then (match st with
        | .ref _ :: r => if am_rm r = true then some (r, h) else none
        | _ => none) else match am_me[mn]? with
      | some q => match st.drop q.2.2.2.2.2.1 with
        | .ref a :: r => if q.2.2.2.2.2.2.1 = 2 ∧ am_rm r = true ∧ (st.take q.2.2.2.2.2.1).all am_pl = true then (call mn (.ref a :: (st.take q.2.2.2.2.2.1).reverse) h).bind (fun z => if am_nd z.1 = true then some (z.1.toList ++ r, z.2) else none) else none
        | _ => none
      | none => none
    | none => none
  | .invokestatic j => match am_mr o j with
    | some (mn, _, _) => match am_me[mn]? with
      | some q => if q.2.2.2.2.2.2.1 = 1 ∧ q.2.2.2.2.2.1 ≤ st.length ∧ am_rm (st.drop q.2.2.2.2.2.1) = true ∧ (st.take q.2.2.2.2.2.1).all am_pl = true then (call mn (st.take q.2.2.2.2.2.1).reverse h).bind (fun z => if am_nd z.1 = true then some (z.1.toList ++ st.drop q.2.2.2.2.2.1, z.2) else none) else none
      | none => none
    | none => none
  | _ => none
/-- the text constant of RopeWalk.Tokens -/
def am_str : List Int32 := [109, 97, 107, 101, 114, 32, 114, 111, 112, 101, 32, 115, 104, 105, 112, 32, 114, 105, 103, 32, 115, 97, 105, 108, 32, 115, 116, 111, 114, 109, 32, 115, 101, 101, 100, 32, 108, 97, 119, 32, 116, 119, 105, 115, 116, 32, 119, 101, 97, 114, 32, 112, 117, 108, 108, 32, 111, 114, 32, 97, 110, 100, 32, 110, 111, 116, 32, 121, 97, 114, 100, 115, 32, 101, 118, 101, 110, 32, 116, 104, 105, 110, 107, 32, 115, 111, 117, 110, 100, 32, 98, 101, 97, 114, 32, 115, 116, 111, 114, 109, 121, 32, 100, 97, 121, 32]
/-- the method RopeWalk.rope -/
def am_rope : Nat := 113
/-- how many cells there are once all is made -/
def am_full : Nat := 156
/-- things outside: the text constant, its length and signs; the law's own rope(x, a, b, out), which catches -/
def am_xt (call : am_C) (o : Nat) (i : Instr) (st : List Value) (h : am_H) : Option (List Value × am_H) := match i with
  | .ldc 40 => if o = 9 then some (.retAddr 1 :: st, h) else none
  | .invokevirtual j => match am_mr o j with
    | some (1000, _, _) => match st with
      | .retAddr 1 :: r => if am_rm r = true then some (.int (Int32.ofNat am_str.length) :: r, h) else none
      | _ => none
    | some (1001, _, _) => match st with
      | .int k :: .retAddr 1 :: r => if am_rm r = true ∧ ¬ (k < 0 ∨ am_str.length ≤ k.toNatClampNeg) then some (.int (am_str.getD k.toNatClampNeg 0) :: r, h) else none
      | _ => none
    | _ => none
  | .invokestatic j => match am_mr o j with
    | some (1002, _, _) => match st with
      | .ref q :: .int y :: .int x :: .ref a :: r => if am_rm r = true ∧ h.length = am_full then
          match h[a]? with
          | some (.inr (11, _)) => match call am_rope [.ref a, .int x, .int y] h with
            | some (some (.int v), h1) => match h1[q]? with
              | some (.inl (.long, .inr (.inl l))) => if 0 < l.length then some (.int 0 :: r, h1.set q (.inl (.long, .inr (.inl (l.set 0 v.toInt64))))) else none
              | _ => none
            | some (some (.double e), h1) => if e = 1 then some (.int 1 :: r, h1) else if e = 2 then some (.int 2 :: r, h1) else none
            | _ => none
          | _ => none
        else none
      | _ => none
    | _ => none
  | _ => none
/-- Math.max, min, abs -/
def am_ma (o : Nat) (i : Instr) (st : List Value) : Option (List Value) := match i with
  | .invokestatic j => match am_mr o j with
    | some (mn, _, _) => if am_rm st = true then
        (if mn = 3001 then am_ii (fun x y => some (.int (if x < y then y else x))) st
        else if mn = 3002 then am_ii (fun x y => some (.int (if y < x then y else x))) st
        else if mn = 3003 then am_i1 (fun x => .int (if 0 ≤ x then x else 0 - x)) st
        else if mn = 3004 then am_ll (fun x y => some (.long (if y < x then x else y))) st
        else if mn = 3005 then am_ll (fun x y => some (.long (if y < x then y else x))) st
        else none) else none
    | none => none
  | _ => none
/-- the length that an instruction has -/
def am_len (i : Instr) (w : Nat) : Bool := match i with
  | .bipush _ | .ldc _ | .iload _ | .lload _ | .aload _ | .istore _ | .lstore _ | .astore _ | .newarray _ => w == 2
  | .sipush _ | .ldc_w _ | .ldc2_w _ | .getfield _ | .putfield _ | .invokevirtual _ | .invokespecial _ | .invokestatic _ | .new _ | .anewarray _ | .iinc _ _ | .goto _ | .ifCond _ _ | .if_icmp _ _ => w == 3
  | .tableswitch _ _ _ _ | .lookupswitch _ _ => true
  | _ => w == 1
/-- one step: the next state, or the end -/
def am_step (call : am_C) (sc : Option (List Int32)) (o : Nat) (ini : Bool) (rt : Option FieldType) (co : List (List (Nat × Instr × Nat))) (pc : Nat) (L st : List Value) (h : am_H) : Option ((Nat × List Value × List Value × am_H) ⊕ (Option Value × am_H)) :=
  match am_ins co pc with
  | none => none
  | some (i, w) => if am_len i w = true then
    match am_pu sc o i L st h with
    | some st1 => some (.inl (pc + w, L, st1, h))
    | none => match am_lo i L st with
      | some (L1, st1) => some (.inl (pc + w, L1, st1, h))
      | none => match am_br i pc st with
        | some (t, st1) => some (.inl (t, L, st1, h))
        | none => match am_hw o ini i st h with
          | some (st1, h1) => some (.inl (pc + w, L, st1, h1))
          | none => match am_rt o i rt st with
            | some v => some (.inr (v, h))
            | none => match am_iv call o i st h with
              | some (st1, h1) => some (.inl (pc + w, L, st1, h1))
              | none => match am_mk o i st h with
                | some (st1, h1) => some (.inl (pc + w, L, st1, h1))
                | none => match am_xt call o i st h with
                  | some (st1, h1) => some (.inl (pc + w, L, st1, h1))
                  | none => match am_ma o i st with
                    | some st1 => some (.inl (pc + w, L, st1, h))
                    | none => none
    else none
def am_loop (call : am_C) (sc : Option (List Int32)) (o : Nat) (ini : Bool) (rt : Option FieldType) (co : List (List (Nat × Instr × Nat))) : Nat → Nat → List Value → List Value → am_H → Option (Option Value × am_H)
  | 0, _, _, _, _ => none
  | n + 1, pc, L, st, h => match am_step call sc o ini rt co pc L st h with
    | none => none
    | some (.inr r) => some r
    | some (.inl (pc1, L1, st1, h1)) => am_loop call sc o ini rt co n pc1 L1 st1 h1
/-- the locals at a method's entry -/
def am_en (args : List Value) : List Value := args.flatMap (fun v => if v.category = 2 then [v, am_un] else [v])
def am_run : Nat → Nat → am_C
  | 0, _, _, _, _ => none
  | d + 1, n, mn, args, h => match am_me[mn]? with
    | none => none
    | some q => if (am_en args).length ≤ q.2.2.1 then am_loop (fun m a h => am_run d n m a h) none q.2.2.2.2.1 (q.1.name == "<init>") q.2.2.2.1 (am_co.getD mn []) n 0 (am_en args ++ List.replicate (q.2.2.1 - (am_en args).length) am_un) [] h else none
