/-! What is left: a statement on the abstract machine alone. -/
def am_goal (ys : List Int32) : Prop := ∃ (d N n : Nat) (h9 : am_H), 8 ≤ d ∧ d ≤ 1300 ∧ 8000 ≤ N ∧ am_loop (fun mn a h => am_run (d + 2) N mn a h) (some ys) 13 false (some .boolean) am_c288 n 23 (am_L0 0 am_un am_un) [] am_h0 = some (some (.int 1), h9) ∧ h9.length = am_full ∧ h9.length + (n + 13) ≤ 601024 ∧ am_sl h9 + 6 * (n + 13) ≤ 7293034
theorem am_close (G : ∀ ys : List Int32, ys.length ≤ 3072 → am_goal ys) {p : Program} {e : Env} {s : State} {m : MethodId} {below : List Frame} {meth : Method} {c : Code} (l : Launch) (hflags : l.flags = flags0) {b L : Nat} {xs : Nat → Int32} (hL : L ≤ 3072) (C0 : lw_At p s m meth c b L xs) : W p l e room_1 s m #[Value.ref b] below meth c s.heap [] 0 0 (lw_Z below #[Value.ref b] s) (entryFrame m ([Value.ref b] : List Value).toArray 7) := by
  have hl : ((List.range L).map xs).length = L := by rw [List.length_map, List.length_range]
  obtain ⟨d, N, n, h9, g1, g2, g3, g4, g5, g6, g7⟩ := G ((List.range L).map xs) (by rw [hl]; exact hL)
  refine am_start l hflags C0 ((List.range L).map xs) hl (fun j hj => ?_) d N (n + 13) h9 g2 (am_law_of g1 g3 g4) g5 g6 g7
  rw [List.getD_eq_getElem?_getD, List.getElem?_map, List.getElem?_range hj]
  rfl
