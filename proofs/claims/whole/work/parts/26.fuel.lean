/-! More fuel, the same answer. -/
def am_cle (c c' : am_C) : Prop := ∀ mn a h r, c mn a h = some r → c' mn a h = some r
theorem am_bd_mono {x x' : Option (Option Value × am_H)} {f : Option Value × am_H → Option (List Value × am_H)} {z : List Value × am_H} (hx : ∀ r, x = some r → x' = some r) (e : x.bind f = some z) : x'.bind f = some z := by
  cases e1 : x with
  | none => rw [e1] at e; cases e
  | some r => rw [hx r e1]; rw [e1] at e; exact e
theorem am_iv_mono {call call' : am_C} (hc : am_cle call call') {o : Nat} {i : Instr} {st : List Value} {h : am_H} {z : List Value × am_H} (e : am_iv call o i st h = some z) : am_iv call' o i st h = some z := by
  unfold am_iv at e ⊢
  cases i
  case invokevirtual j =>
    dsimp only at e ⊢
    cases e1 : am_mr o j with
    | none => rw [e1] at e; cases e
    | some x =>
      obtain ⟨mn, a, b⟩ := x
      rw [e1] at e
      dsimp only at e ⊢
      cases e2 : am_me[mn]? with
      | none => rw [e2] at e; cases e
      | some q =>
        rw [e2] at e
        dsimp only at e ⊢
        split at e
        · rename_i a r hd
          split at e
          · split at e
            · rename_i hcd
              rw [if_pos hcd]
              exact am_bd_mono (fun r hr => hc _ _ _ _ hr) e
            · cases e
          · cases e
        · cases e
  case invokespecial j =>
    dsimp only at e ⊢
    cases e1 : am_mr o j with
    | none => rw [e1] at e; cases e
    | some x =>
      obtain ⟨mn, a, b⟩ := x
      rw [e1] at e
      dsimp only at e ⊢
      by_cases h2 : mn = 2000
      · rw [if_pos h2] at e ⊢
        exact e
      · rw [if_neg h2] at e ⊢
        cases e2 : am_me[mn]? with
        | none => rw [e2] at e; cases e
        | some q =>
          rw [e2] at e
          dsimp only at e ⊢
          split at e
          · rename_i a r hd
            split at e
            · rename_i hcd
              rw [if_pos hcd]
              exact am_bd_mono (fun r hr => hc _ _ _ _ hr) e
            · cases e
          · cases e
  case invokestatic j =>
    dsimp only at e ⊢
    cases e1 : am_mr o j with
    | none => rw [e1] at e; cases e
    | some x =>
      obtain ⟨mn, a, b⟩ := x
      rw [e1] at e
      dsimp only at e ⊢
      cases e2 : am_me[mn]? with
      | none => rw [e2] at e; cases e
      | some q =>
        rw [e2] at e
        dsimp only at e ⊢
        split at e
        · rename_i hcd
          rw [if_pos hcd]
          exact am_bd_mono (fun r hr => hc _ _ _ _ hr) e
        · cases e
  all_goals cases e
theorem am_me_no {k : Nat} (h : 288 ≤ k) : am_me[k]? = none := List.getElem?_eq_none (by rw [am_me_len]; omega)
theorem am_iv_no {call : am_C} {o : Nat} {i : Instr} {st : List Value} {h : am_H} (hv : ∀ j mn a b, (i = .invokevirtual j ∨ i = .invokespecial j ∨ i = .invokestatic j) → am_mr o j = some (mn, a, b) → mn ≠ 2000 ∧ 288 ≤ mn) : am_iv call o i st h = none := by
  cases e : am_iv call o i st h with
  | none => rfl
  | some z =>
    obtain ⟨st1, h1⟩ := z
    rcases am_iv_inv e with ⟨j, a, x, y, hi, hm, -, -, -⟩ | ⟨j, mn, ns, pl, q, a, As, r, v, fs, hi, hm, hq, -⟩ | ⟨j, mn, ns, pl, q, a, As, r, v, hi, hm, hq, -⟩ | ⟨j, mn, ns, pl, q, As, r, v, hi, hm, hq, -⟩
    · exact absurd rfl (hv j _ _ _ (Or.inr (Or.inl hi)) hm).1
    · rw [am_me_no (hv j _ _ _ (Or.inl hi) hm).2] at hq; cases hq
    · rw [am_me_no (hv j _ _ _ (Or.inr (Or.inl hi)) hm).2] at hq; cases hq
    · rw [am_me_no (hv j _ _ _ (Or.inr (Or.inr hi)) hm).2] at hq; cases hq
theorem am_mk_iv {call : am_C} {o : Nat} {i : Instr} {st : List Value} {h : am_H} {z : List Value × am_H} (e : am_mk o i st h = some z) : am_iv call o i st h = none := by
  refine am_iv_no fun j mn a b hi hm => ?_
  rcases hi with rfl | rfl | rfl <;> (unfold am_mk at e; cases e)
theorem am_mk_xt {call : am_C} {o : Nat} {i : Instr} {st : List Value} {h : am_H} {z : List Value × am_H} (e : am_mk o i st h = some z) : am_xt call o i st h = none := by
  cases i <;> first | rfl | (unfold am_mk at e; cases e)
theorem am_xt_iv {call call' : am_C} {o : Nat} {i : Instr} {st : List Value} {h : am_H} {z : List Value × am_H} (e : am_xt call o i st h = some z) : am_iv call' o i st h = none := by
  refine am_iv_no fun j mn a b hi hm => ?_
  unfold am_xt at e
  rcases hi with rfl | rfl | rfl
  · dsimp only at e
    rw [hm] at e
    split at e
    · rename_i hz; cases hz; exact ⟨by decide, by decide⟩
    · rename_i hz; cases hz; exact ⟨by decide, by decide⟩
    · cases e
  · cases e
  · dsimp only at e
    rw [hm] at e
    split at e
    · rename_i hz; cases hz; exact ⟨by decide, by decide⟩
    · cases e
theorem am_ma_iv {call : am_C} {o : Nat} {i : Instr} {st st1 : List Value} {h : am_H} (e : am_ma o i st = some st1) : am_iv call o i st h = none ∧ am_xt call o i st h = none := by
  obtain ⟨j, mn, a, b, rfl, hm, -, hq⟩ := am_ma_inv e
  have hmn : 3001 ≤ mn := by
    rcases hq with ⟨z, -⟩ | ⟨z, -⟩ | ⟨z, -⟩ | ⟨z, -⟩ | ⟨z, -⟩ <;> omega
  constructor
  · refine am_iv_no fun j' mn' a' b' hi hm' => ?_
    rcases hi with hi | hi | hi
    · cases hi
    · cases hi
    · cases hi
      rw [hm] at hm'
      cases hm'
      exact ⟨by omega, by omega⟩
  · unfold am_xt
    dsimp only
    rw [hm]
    split
    · rename_i hz; cases hz; omega
    · rfl
theorem am_xt_mono {call call' : am_C} (hc : am_cle call call') {o : Nat} {i : Instr} {st : List Value} {h : am_H} {z : List Value × am_H} (e : am_xt call o i st h = some z) : am_xt call' o i st h = some z := by
  unfold am_xt at e ⊢
  cases i
  case invokestatic j =>
    dsimp only at e ⊢
    split at e
    · rename_i hm
      split at e
      · split at e
        · rename_i hcd
          rw [if_pos hcd]
          split at e
          · rename_i ha
            cases e1 : call am_rope _ h with
            | none => rw [e1] at e; cases e
            | some r =>
              rw [e1] at e
              rw [hc _ _ _ _ e1]
              exact e
          · cases e
        · cases e
      · cases e
    · cases e
  case ldc k =>
    by_cases hk : k = 40
    · subst hk
      exact e
    · split at e
      · rename_i heq
        cases heq
        exact absurd rfl hk
      · rename_i heq
        cases heq
      · rename_i heq
        cases heq
      · cases e
  all_goals exact e
theorem am_step_mono {call call' : am_C} (hc : am_cle call call') {sc : Option (List Int32)} {o : Nat} {ini : Bool} {rt : Option FieldType} {co : List (List (Nat × Instr × Nat))} {pc : Nat} {L st : List Value} {h : am_H} {z : (Nat × List Value × List Value × am_H) ⊕ (Option Value × am_H)} (e : am_step call sc o ini rt co pc L st h = some z) : am_step call' sc o ini rt co pc L st h = some z := by
  unfold am_step at e ⊢
  cases e1 : am_ins co pc with
  | none => rw [e1] at e; cases e
  | some x =>
    obtain ⟨i, w⟩ := x
    rw [e1] at e
    dsimp only at e ⊢
    by_cases hl : am_len i w = true
    · rw [if_pos hl] at e ⊢
      cases e2 : am_pu sc o i L st h with
      | some y => rw [e2] at e; exact e
      | none =>
        rw [e2] at e
        dsimp only at e ⊢
        cases e3 : am_lo i L st with
        | some y => rw [e3] at e; exact e
        | none =>
          rw [e3] at e
          dsimp only at e ⊢
          cases e4 : am_br i pc st with
          | some y => rw [e4] at e; exact e
          | none =>
            rw [e4] at e
            dsimp only at e ⊢
            cases e5 : am_hw o ini i st h with
            | some y => rw [e5] at e; exact e
            | none =>
              rw [e5] at e
              dsimp only at e ⊢
              cases e6 : am_rt o i rt st with
              | some y => rw [e6] at e; exact e
              | none =>
                rw [e6] at e
                dsimp only at e ⊢
                cases e7 : am_iv call o i st h with
                | some y => rw [e7] at e; rw [am_iv_mono hc e7]; exact e
                | none =>
                  rw [e7] at e
                  dsimp only at e
                  cases e8 : am_mk o i st h with
                  | some y => rw [e8] at e; rw [am_mk_iv e8]; exact e
                  | none =>
                    rw [e8] at e
                    dsimp only at e
                    cases e9 : am_xt call o i st h with
                    | some y => rw [e9] at e; rw [am_xt_iv e9, am_xt_mono hc e9]; exact e
                    | none =>
                      rw [e9] at e
                      dsimp only at e
                      cases e10 : am_ma o i st with
                      | none => rw [e10] at e; cases e
                      | some y => rw [e10] at e; rw [(am_ma_iv (call := call') (h := h) e10).1, (am_ma_iv (call := call') (h := h) e10).2]; exact e
    · rw [if_neg hl] at e
      cases e
theorem am_loop_mono {call call' : am_C} (hc : am_cle call call') {sc : Option (List Int32)} {o : Nat} {ini : Bool} {rt : Option FieldType} {co : List (List (Nat × Instr × Nat))} : ∀ (n n' pc : Nat) (L st : List Value) (h : am_H) (r : Option Value × am_H), n ≤ n' → am_loop call sc o ini rt co n pc L st h = some r → am_loop call' sc o ini rt co n' pc L st h = some r := by
  intro n
  induction n with
  | zero => intro n' pc L st h r hn e; cases e
  | succ n ih =>
    intro n' pc L st h r hn e
    cases n' with
    | zero => omega
    | succ n' =>
      rcases am_loop_inv e with e1 | ⟨pc1, L1, st1, h1, e1, e2⟩
      · unfold am_loop
        rw [am_step_mono hc e1]
      · unfold am_loop
        rw [am_step_mono hc e1]
        exact ih n' _ _ _ _ _ (by omega) e2
theorem am_run_mono : ∀ (d d' n n' mn : Nat) (a : List Value) (h : am_H) (r : Option Value × am_H), d ≤ d' → n ≤ n' → am_run d n mn a h = some r → am_run d' n' mn a h = some r := by
  intro d
  induction d with
  | zero => intro d' n n' mn a h r _ _ e; cases e
  | succ d ih =>
    intro d' n n' mn a h r hd hn e
    cases d' with
    | zero => omega
    | succ d' =>
      unfold am_run at e ⊢
      cases e1 : am_me[mn]? with
      | none => rw [e1] at e; cases e
      | some q =>
        rw [e1] at e
        dsimp only at e ⊢
        by_cases hl : (am_en a).length ≤ q.2.2.1
        · rw [if_pos hl] at e ⊢
          exact am_loop_mono (fun mn a h r z => ih d' n n' mn a h r (by omega) hn z) n n' _ _ _ _ _ hn e
        · rw [if_neg hl] at e
          cases e
