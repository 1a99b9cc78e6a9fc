/-! The law's first steps: both objects and the row of one long are made; by the kernel. -/
def am_steps (call : am_C) (sc : Option (List Int32)) (o : Nat) (ini : Bool) (rt : Option FieldType) (co : List (List (Nat × Instr × Nat))) : Nat → Nat → List Value → List Value → am_H → Option (Nat × List Value × List Value × am_H)
  | 0, pc, L, st, h => some (pc, L, st, h)
  | k + 1, pc, L, st, h => match am_step call sc o ini rt co pc L st h with
    | some (.inl (pc1, L1, st1, h1)) => am_steps call sc o ini rt co k pc1 L1 st1 h1
    | _ => none
theorem am_steps_loop {call : am_C} {sc : Option (List Int32)} {o : Nat} {ini : Bool} {rt : Option FieldType} {co : List (List (Nat × Instr × Nat))} {n pc1 : Nat} {L1 st1 : List Value} {h1 : am_H} {r : Option Value × am_H} (e2 : am_loop call sc o ini rt co n pc1 L1 st1 h1 = some r) : ∀ (k pc : Nat) (L st : List Value) (h : am_H), am_steps call sc o ini rt co k pc L st h = some (pc1, L1, st1, h1) → am_loop call sc o ini rt co (n + k) pc L st h = some r := by
  intro k
  induction k with
  | zero => intro pc L st h e; cases e; exact e2
  | succ k ih =>
    intro pc L st h e
    unfold am_steps at e
    cases e1 : am_step call sc o ini rt co pc L st h with
    | none => rw [e1] at e; cases e
    | some z =>
      rw [e1] at e
      cases z with
      | inr z => cases e
      | inl z =>
        obtain ⟨p1, a1, b1, c1⟩ := z
        rw [← Nat.add_assoc]
        unfold am_loop
        rw [e1]
        exact ih _ _ _ _ e
theorem am_pu_sc (sc : Option (List Int32)) (o : Nat) (i : Instr) (L st : List Value) (h : am_H) : am_pu sc o i L st h = am_pu none o i L st h ∨ (am_pu none o i L st h = none ∧ (i = .iaload ∨ i = .arraylength)) := by
  cases i
  case iaload =>
    cases e : am_pu none o .iaload L st h with
    | none => exact Or.inr ⟨rfl, Or.inl rfl⟩
    | some x =>
      refine Or.inl ?_
      have e1 : am_ial .int none st h = some x := e
      show am_ial .int sc st h = some x
      unfold am_ial at e1 ⊢
      split at e1
      · exact e1
      · cases e1
      · cases e1
  case arraylength =>
    cases e : am_pu none o .arraylength L st h with
    | none => exact Or.inr ⟨rfl, Or.inr rfl⟩
    | some x =>
      refine Or.inl ?_
      have e1 : am_aln none st h = some x := e
      show am_aln sc st h = some x
      unfold am_aln at e1 ⊢
      split at e1
      · exact e1
      · cases e1
      · cases e1
  all_goals exact Or.inl rfl
theorem am_step_sc {call : am_C} {sc : Option (List Int32)} {o : Nat} {ini : Bool} {rt : Option FieldType} {co : List (List (Nat × Instr × Nat))} {pc : Nat} {L st : List Value} {h : am_H} {z : (Nat × List Value × List Value × am_H) ⊕ (Option Value × am_H)} (e : am_step call none o ini rt co pc L st h = some z) : am_step call sc o ini rt co pc L st h = some z := by
  unfold am_step at e ⊢
  cases e1 : am_ins co pc with
  | none => rw [e1] at e; cases e
  | some x =>
    obtain ⟨i, w⟩ := x
    rw [e1] at e
    dsimp only at e ⊢
    by_cases hl : am_len i w = true
    · rw [if_pos hl] at e ⊢
      rcases am_pu_sc sc o i L st h with hp | ⟨hp, hi⟩
      · rw [hp]
        exact e
      · rw [hp] at e
        rcases hi with rfl | rfl <;> cases e
    · rw [if_neg hl] at e
      cases e
theorem am_steps_sc {call : am_C} {sc : Option (List Int32)} {o : Nat} {ini : Bool} {rt : Option FieldType} {co : List (List (Nat × Instr × Nat))} {q : Nat × List Value × List Value × am_H} : ∀ (k pc : Nat) (L st : List Value) (h : am_H), am_steps call none o ini rt co k pc L st h = some q → am_steps call sc o ini rt co k pc L st h = some q := by
  intro k
  induction k with
  | zero => intro pc L st h e; exact e
  | succ k ih =>
    intro pc L st h e
    unfold am_steps at e ⊢
    cases e1 : am_step call none o ini rt co pc L st h with
    | none => rw [e1] at e; cases e
    | some z =>
      rw [e1] at e
      rw [am_step_sc e1]
      cases z with
      | inr z => cases e
      | inl z =>
        obtain ⟨p1, a1, b1, c1⟩ := z
        exact ih _ _ _ _ e
theorem am_steps_mono {call call' : am_C} (hc : am_cle call call') {sc : Option (List Int32)} {o : Nat} {ini : Bool} {rt : Option FieldType} {co : List (List (Nat × Instr × Nat))} {q : Nat × List Value × List Value × am_H} : ∀ (k pc : Nat) (L st : List Value) (h : am_H), am_steps call sc o ini rt co k pc L st h = some q → am_steps call' sc o ini rt co k pc L st h = some q := by
  intro k
  induction k with
  | zero => intro pc L st h e; exact e
  | succ k ih =>
    intro pc L st h e
    unfold am_steps at e ⊢
    cases e1 : am_step call sc o ini rt co pc L st h with
    | none => rw [e1] at e; cases e
    | some z =>
      rw [e1] at e
      rw [am_step_mono hc e1]
      cases z with
      | inr z => cases e
      | inl z =>
        obtain ⟨p1, a1, b1, c1⟩ := z
        exact ih _ _ _ _ e
def am_i0 : Option (Nat × List Value × List Value × am_H) := am_steps (fun mn a h => am_run 10 8000 mn a h) none 13 false (some .boolean) am_c288 13 0 (.retAddr 0 :: List.replicate 6 am_un) [] []
/-- the heap with both objects fresh -/
def am_h0 : am_H := match am_i0 with
  | some q => q.2.2.2
  | none => []
/-- the law's locals at its loop's head: the script, the class's object, the reference's, the row, the place -/
def am_L0 (j : Int32) (u v : Value) : List Value := [.retAddr 0, .ref 0, .ref 110, .ref 155, .int j, u, v]
def am_i0b : Bool := match am_i0 with
  | some (pc, L, st, h) => decide (pc = 23) && decide (L = am_L0 0 am_un am_un) && decide (st = []) && decide (h.length = am_full) && decide (am_sl h = 6467)
  | none => false
theorem am_i0_ok : am_i0b = true := by decide +kernel
theorem am_i0_eq : am_i0 = some (23, am_L0 0 am_un am_un, [], am_h0) ∧ am_h0.length = am_full ∧ am_sl am_h0 = 6467 := by
  have h := am_i0_ok
  unfold am_i0b at h
  unfold am_h0
  cases e : am_i0 with
  | none => rw [e] at h; cases h
  | some q =>
    obtain ⟨pc, L, st, hh⟩ := q
    rw [e] at h
    simp only [Bool.and_eq_true, decide_eq_true_eq] at h
    obtain ⟨⟨⟨⟨h1, h2⟩, h3⟩, h4⟩, h5⟩ := h
    refine ⟨?_, h4, h5⟩
    rw [h1, h2, h3]
/-- the law's run, from its loop's head with both objects fresh -/
theorem am_law_of {d N n : Nat} {ys : List Int32} {r : Option Value × am_H} (hd : 8 ≤ d) (hN : 8000 ≤ N) (e : am_loop (fun mn a h => am_run (d + 2) N mn a h) (some ys) 13 false (some .boolean) am_c288 n 23 (am_L0 0 am_un am_un) [] am_h0 = some r) : am_law d N (n + 13) ys = some r := by
  refine am_steps_loop e 13 0 _ _ _ ?_
  refine am_steps_sc 13 0 _ _ _ ?_
  exact am_steps_mono (fun mn a h r z => am_run_mono 10 (d + 2) 8000 N mn a h r (by omega) hN z) 13 0 _ _ _ am_i0_eq.1
