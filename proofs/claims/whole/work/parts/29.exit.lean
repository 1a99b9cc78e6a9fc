/-! The law's loop's end. -/
theorem am_ex1 (call : am_C) (ys : List Int32) (j : Int32) (u v : Value) (h : am_H) : am_steps call (some ys) 13 false (some .boolean) am_c288 5 23 (am_L0 j u v) [] h = some (30, am_L0 j u v, [.int (Int32.ofNat ys.length - (Int8.ofInt 6).toInt32), .int j], h) := rfl
theorem am_ex2 (call : am_C) (sc : Option (List Int32)) (x j : Int32) (L : List Value) (h : am_H) (hc : x < j) : am_step call sc 13 false (some .boolean) am_c288 30 L [.int x, .int j] h = some (.inl (1419, L, [], h)) := by
  have e : am_br (.if_icmp .gt 1389) 30 [.int x, .int j] = some (1419, []) := by
    show am_b2 (fun x y => decide (y < x)) 30 1389 [.int x, .int j] = _
    unfold am_b2
    dsimp only
    rw [show am_tg 30 1389 = some 1419 from rfl]
    show some (if decide (x < j) = true then 1419 else 30 + 3, ([] : List Value)) = _
    rw [if_pos (decide_eq_true hc)]
  unfold am_step
  rw [show am_ins am_c288 30 = some (.if_icmp .gt 1389, 3) from rfl]
  dsimp only
  rw [if_pos (show am_len (.if_icmp .gt 1389) 3 = true from rfl), show am_pu sc 13 (.if_icmp .gt 1389) L [.int x, .int j] h = none from rfl]
  dsimp only
  rw [show am_lo (.if_icmp .gt 1389) L [.int x, .int j] = none from rfl]
  dsimp only
  rw [e]
theorem am_exit (call : am_C) (ys : List Int32) (j : Int32) (u v : Value) (h : am_H) (hc : Int32.ofNat ys.length - (Int8.ofInt 6).toInt32 < j) : am_loop call (some ys) 13 false (some .boolean) am_c288 8 23 (am_L0 j u v) [] h = some (some (.int 1), h) := by
  refine am_steps_loop (n := 3) ?_ 5 23 _ _ _ (am_ex1 call ys j u v h)
  show am_loop call (some ys) 13 false (some .boolean) am_c288 (2 + 1) 30 _ _ h = _
  unfold am_loop
  rw [am_ex2 call (some ys) _ j (am_L0 j u v) h hc]
  rfl
theorem am_goal_short (ys : List Int32) (hl : ys.length < 6) : am_goal ys := by
  refine ⟨8, 8000, 8, am_h0, Nat.le_refl _, by decide, Nat.le_refl _, am_exit _ ys 0 am_un am_un am_h0 ?_, am_i0_eq.2.1, ?_, ?_⟩
  · have : ys.length = 0 ∨ ys.length = 1 ∨ ys.length = 2 ∨ ys.length = 3 ∨ ys.length = 4 ∨ ys.length = 5 := by omega
    rcases this with z | z | z | z | z | z <;> (rw [z]; decide)
  · rw [am_i0_eq.2.1]; decide
  · rw [am_i0_eq.2.2]; decide
