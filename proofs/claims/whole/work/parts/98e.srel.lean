/-! Class and reference: what holds between calls. -/
/-- a state as it may be: ropes' and ships' numbers; a ship that isn't at sea has no days left -/
def hL0 (S : Nat) (I : hI) : Prop := (∀ r, r < 8 → okn (I (S + 1) r) 4 ∧ okn (I (S + 2) r) 1000) ∧ (∀ s, s < 5 → okn (I (S + 4) s) 3 ∧ (¬ I (S + 4) s = Int32.ofNat 1 → I (S + 5) s = 0))
def hL (S : Nat) (I : hI) : Prop := hL0 S I ∧ okn (I S 0) 9001
/-- the last day on which one sails -/
def tls (I : hI) (T : Nat) : Prop := ∀ v, v < nn (I T 11) → ¬ I T 15 < I (T + 15) v
/-- ropes that aren't told are in no ship -/
def wN (S : Nat) (N : Nat → Nat) (I : hI) : Prop := n0 N ∨ ∀ r, N 1 ≤ r → r < 8 → I (S + 3) r = Int32.ofInt (-1)
/-- what is told, on both sides -/
def rA (T O : Nat) (N : Nat → Nat) (I K : hI) : Prop := ((T = 9 ∧ O = 36) ∨ (T = 36 ∧ O = 9)) ∧ tsz I T N ∧ tqs I T N ∧ thk I O ∧ tok K N ∧ tR T N I K ∧ LQ T N I K ∧ K 110 16 = Int32.ofNat (N 4 + N 5 + N 6) ∧ (∀ i, i < 106 → K 112 i = Int32.ofNat (wd i)) ∧ tls I T
/-- how it stands -/
def rB (N : Nat → Nat) (I : hI) (J : hJ) (K : hI) (L : hJ) : Prop := sR 63 0 (Int32.ofInt (-1)) N I K ∧ J 63 1 = L 110 62 ∧ hL 63 I ∧ wN 63 N I
/-- the image -/
def rC (N : Nat → Nat) (I : hI) (J : hJ) (K : hI) (L : hJ) : Prop := (I 0 9 = 0 ↔ K 110 86 = 0) ∧ (¬ I 0 9 = 0 → (∀ r, r < 8 → I 71 r = K 153 r ∧ I 72 r = K 153 (8 + r) ∧ (n0 N ∨ I 73 r = K 153 (16 + r)) ∧ (I 73 r = Int32.ofInt (-1) ∨ okn (I 73 r) 5) ∧ (N 1 ≤ r → I 71 r = 0)) ∧ (∀ s, s < 5 → I 74 s = K 153 (24 + s) ∧ I 75 s = K 153 (29 + s) ∧ I 76 s = K 154 s) ∧ I 70 2 = K 154 5 ∧ I 70 0 = K 154 6 ∧ J 70 1 = L 110 89 ∧ hL 70 I ∧ wN 70 N I)
/-- how it stands in the reference, as it is remembered -/
def cu (K : hI) (j : Nat) : Int32 := if j < 8 then K 138 j else if j < 16 then K 139 (j - 8) else if j < 24 then K 140 (j - 16) else if j < 29 then K 141 (j - 24) else K 142 (j - 29)
def sq (K : hI) (u i j : Nat) : Int32 := if i < u then K 152 (34 * i + j) else cu K j
/-- one change of the class undone -/
def uE (I : hI) (i j : Nat) (x : Int32) : Int32 := if I 97 i = Int32.ofInt (-1) then (if j = 24 + nn (I 101 i) ∨ j = 29 + nn (I 101 i) then 0 else x) else if j = nn (I 97 i) then I 98 i else if j = 8 + nn (I 97 i) then I 99 i else if j = 16 + nn (I 97 i) then I 100 i else x
def rD (N : Nat → Nat) (u : Nat) (I K : hI) : Prop := u ≤ 20 ∧ I 96 0 = Int32.ofNat u ∧ K 110 84 = Int32.ofNat u ∧ (∀ i, i < u → ((I 97 i = Int32.ofInt (-1) ∧ okn (I 101 i) 5) ∨ (okn (I 97 i) 8 ∧ nn (I 97 i) < N 1 ∧ (I 100 i = Int32.ofInt (-1) ∨ okn (I 100 i) 5) ∧ okn (I 98 i) 4 ∧ okn (I 99 i) 1000)) ∧ ∀ j, j < 34 → sq K u i j = uE I i j (sq K u (i + 1) j))
/-- what was seen -/
def rE (q : Nat) (I K : hI) : Prop := q ≤ 24 ∧ I 88 0 = Int32.ofNat q ∧ K 110 79 = Int32.ofNat q ∧ I 88 1 = K 110 80 ∧ (I 88 1 = Int32.ofInt (-1) ∨ okn (I 88 1) (q + 1)) ∧ (∀ i, i < q → (I 92 i = Int32.ofInt (-1) ∧ okn (I 90 i) 5 ∧ okn (I 89 i) 61 ∧ 1 ≤ nn (I 89 i) ∧ (I 91 i = 0 ∨ I 91 i = 1) ∧ K 149 (3 * i) = I 89 i ∧ K 149 (3 * i + 1) = I 90 i ∧ K 149 (3 * i + 2) = I 91 i) ∨ (okn (I 92 i) i ∧ K 149 (3 * i) = Int32.ofInt (-1) ∧ K 149 (3 * i + 1) = I 92 i))
/-- the words of the text, packed, in the class's order -/
def wkL : List Nat := [437622336, 620237824, 646234112, 613646336, 638889984, 659016096, 642945024, 404455424, 695520896, 777046016, 559296512, 522190848, 48365568, 486146048, 840503904, 191019008, 679786848, 653965440, 72402944, 659016121, 136085504]
def wk (r : Nat) : Int32 := Int32.ofNat (wkL.getD r 0)
/-- tape, fault and words -/
def rG (I K : hI) : Prop := (∃ z, z ≤ 700 ∧ I 0 1 = Int32.ofNat z ∧ K 110 1 = Int32.ofNat z ∧ ∀ i, i < z → I 1 i = K 111 i) ∧ I 0 4 = K 110 4 ∧ I 0 5 = K 110 5 ∧ ∀ r, r < 21 → I 4 r = wk r
/-- a call of the class changes no cell of the reference, and the other way round -/
def kC (I I1 : hI) : Prop := ∀ a i, 110 ≤ a → I1 a i = I a i
def kM (I I1 : hI) : Prop := ∀ a i, a < 110 → I1 a i = I a i
theorem kC_tr {I I1 I2 : hI} (h : kC I I1) (g : kC I1 I2) : kC I I2 := fun a i x => (g a i x).trans (h a i x)
theorem kM_tr {I I1 I2 : hI} (h : kM I I1) (g : kM I1 I2) : kM I I2 := fun a i x => (g a i x).trans (h a i x)
theorem kC_u {I : hI} {a k : Nat} {x : Int32} (h : a < 110) : kC I (am_u I a k x) := fun b i g => am_u_na (by omega)
theorem kM_u {I : hI} {a k : Nat} {x : Int32} (h : 110 ≤ a) : kM I (am_u I a k x) := fun b i g => am_u_na (by omega)
theorem kC_s {S : Nat} {I I1 : hI} (hS : S = 63 ∨ S = 70 ∨ S = 77) (h : sF S I I1) : kC I I1 := fun a i g => h a i (by omega) (by omega) (by omega)
theorem kM_s {I I1 : hI} (h : simF I I1) : kM I I1 := fun a i g => h a i (by omega) (by omega)
theorem kC_for {f : Nat → hI → hI} (h : ∀ i I, kC I (f i I)) (n : Nat) (I : hI) : kC I (s_for f n I) := by
  induction n with
  | zero => exact fun _ _ _ => rfl
  | succ n ih => exact kC_tr ih (h n _)
theorem kM_for {f : Nat → hI → hI} (h : ∀ i I, kM I (f i I)) (n : Nat) (I : hI) : kM I (s_for f n I) := by
  induction n with
  | zero => exact fun _ _ _ => rfl
  | succ n ih => exact kM_tr ih (h n _)
theorem tsz_c {T : Nat} {N : Nat → Nat} {I I1 : hI} (h : ∀ a i, T ≤ a → a ≤ T + 26 → I1 a i = I a i) (t : tsz I T N) : tsz I1 T N := by
  obtain ⟨z, z0, z1, z2, z3, z4, z5, z6⟩ := t
  exact ⟨z, (h _ _ (by omega) (by omega)).trans z0, (h _ _ (by omega) (by omega)).trans z1, (h _ _ (by omega) (by omega)).trans z2, (h _ _ (by omega) (by omega)).trans z3, (h _ _ (by omega) (by omega)).trans z4, (h _ _ (by omega) (by omega)).trans z5, (h _ _ (by omega) (by omega)).trans z6⟩
theorem tqs_c {T : Nat} {N : Nat → Nat} {I I1 : hI} (f : ∀ a i, T ≤ a → a ≤ T + 26 → I1 a i = I a i) (t : tqs I T N) : tqs I1 T N := by
  obtain ⟨q1, q2, q3, q4, q5, q6⟩ := t
  refine ⟨fun r hr => ?_, fun m hm => ?_, fun m hm => ?_, fun s hs => ?_, fun v hv => ?_, ?_⟩
  · rw [f _ _ (by omega) (by omega), f _ _ (by omega) (by omega), f _ _ (by omega) (by omega), f _ _ (by omega) (by omega)]; exact q1 r hr
  · rw [f _ _ (by omega) (by omega)]; exact q2 m hm
  · rw [f _ _ (by omega) (by omega)]; exact q3 m hm
  · rw [f _ _ (by omega) (by omega)]; exact q4 s hs
  · rw [f _ _ (by omega) (by omega), f _ _ (by omega) (by omega), f _ _ (by omega) (by omega)]; exact q5 v hv
  · rw [f _ _ (by omega) (by omega)]; exact q6
theorem tR_c {T : Nat} {N : Nat → Nat} {I I1 K K1 : hI} (h : ∀ a i, T ≤ a → a ≤ T + 26 → I1 a i = I a i) (g1 : ∀ a i, 112 ≤ a → a ≤ 133 → K1 a i = K a i) (t : tR T N I K) : tR T N I1 K1 := by
  obtain ⟨t1, t2, t3, t4, t5, t6⟩ := t
  have f1 : ∀ j i, j ≤ 26 → I1 (T + j) i = I (T + j) i := fun j i hj => h _ _ (by omega) (by omega)
  have f0 : ∀ i, I1 T i = I T i := fun i => h _ _ (by omega) (by omega)
  refine ⟨fun m hm => ?_, fun r hr => ?_, fun r hr => ?_, fun s hs => ?_, fun v hv => ?_, ?_⟩
  · rw [f1 2 _ (by omega), f1 3 _ (by omega), f1 4 _ (by omega), g1 115 _ (by omega) (by omega), g1 116 _ (by omega) (by omega), g1 117 _ (by omega) (by omega)]; exact t1 m hm
  · rw [f1 6 _ (by omega), f1 7 _ (by omega), f1 8 _ (by omega), f1 9 _ (by omega), g1 118 _ (by omega) (by omega), g1 119 _ (by omega) (by omega), g1 120 _ (by omega) (by omega), g1 121 _ (by omega) (by omega)]; exact t2 r hr
  · rw [f1 10 _ (by omega), g1 122 _ (by omega) (by omega)]; exact t3 r hr
  · rw [f1 12 _ (by omega), f1 13 _ (by omega), g1 123 _ (by omega) (by omega), g1 124 _ (by omega) (by omega)]; exact t4 s hs
  · rw [f1 14 _ (by omega), f1 15 _ (by omega), f1 16 _ (by omega), g1 125 _ (by omega) (by omega), g1 126 _ (by omega) (by omega), g1 127 _ (by omega) (by omega)]; exact t5 v hv
  · rw [f0, f0, g1 114 _ (by omega) (by omega), g1 114 _ (by omega) (by omega)]; exact t6
theorem rA_c {T O : Nat} {N : Nat → Nat} {I I1 K K1 : hI} (h1 : ∀ a i, 9 ≤ a → a < 63 → I1 a i = I a i) (h2 : ∀ a i, (112 ≤ a ∧ a ≤ 133) ∨ (a = 110 ∧ 12 ≤ i ∧ i ≤ 16) → K1 a i = K a i) (h : rA T O N I K) : rA T O N I1 K1 := by
  obtain ⟨a1, a2, a3, a4, a5, a6, a7, a8, a9, a10⟩ := h
  have f : ∀ a i, T ≤ a → a ≤ T + 26 → I1 a i = I a i := fun a i u v => h1 a i (by omega) (by omega)
  refine ⟨a1, tsz_c f a2, tqs_c f a3, fun m hm => ?_, tok_c (fun a i u => h2 a i (by omega)) a5, tR_c f (fun a i u v => h2 a i (by omega)) a6, LQ_c (fun a i u v => f a i (by omega) (by omega)) (fun a i u v => h2 a i (by omega)) a7, by rw [h2 110 16 (by omega)]; exact a8, fun i hi => ?_, ?_⟩
  · rw [h1 _ _ (by omega) (by omega)]; exact a4 m hm
  · rw [h2 112 i (by omega)]; exact a9 i hi
  · intro v
    rw [f T 11 (by omega) (by omega), f T 15 (by omega) (by omega), f (T + 15) v (by omega) (by omega)]
    exact a10 v
theorem hL0_c {S : Nat} {I I1 : hI} (h : ∀ a i, S ≤ a → a ≤ S + 6 → I1 a i = I a i) (g : hL0 S I) : hL0 S I1 := by
  refine ⟨fun r hr => ?_, fun s hs => ?_⟩
  · rw [h _ _ (by omega) (by omega), h _ _ (by omega) (by omega)]; exact g.1 r hr
  · rw [h _ _ (by omega) (by omega), h _ _ (by omega) (by omega)]; exact g.2 s hs
theorem hL_c {S : Nat} {I I1 : hI} (h : ∀ a i, S ≤ a → a ≤ S + 6 → I1 a i = I a i) (g : hL S I) : hL S I1 := ⟨hL0_c h g.1, by rw [h _ _ (by omega) (by omega)]; exact g.2⟩
theorem wN_c {S : Nat} {N : Nat → Nat} {I I1 : hI} (h : ∀ a i, S ≤ a → a ≤ S + 6 → I1 a i = I a i) (g : wN S N I) : wN S N I1 := g.imp id (fun g r h1 h2 => (h _ _ (by omega) (by omega)).trans (g r h1 h2))
theorem rB_c {N : Nat → Nat} {I I1 K K1 : hI} {J J1 L L1 : hJ} (h1 : ∀ a i, 63 ≤ a → a ≤ 69 → I1 a i = I a i) (h2 : ∀ a i, 138 ≤ a → a ≤ 145 → K1 a i = K a i) (j1 : J1 63 1 = J 63 1) (j2 : L1 110 62 = L 110 62) (h : rB N I J K L) : rB N I1 J1 K1 L1 := ⟨sR_c h1 h2 h.1, j1.trans (h.2.1.trans j2.symm), hL_c h1 h.2.2.1, wN_c h1 h.2.2.2⟩
theorem rC_c {N : Nat → Nat} {I I1 K K1 : hI} {J J1 L L1 : hJ} (h1 : ∀ a i, (70 ≤ a ∧ a ≤ 76) ∨ (a = 0 ∧ i = 9) → I1 a i = I a i) (h2 : ∀ a i, (153 ≤ a ∧ a ≤ 154) ∨ (a = 110 ∧ i = 86) → K1 a i = K a i) (j1 : J1 70 1 = J 70 1) (j2 : L1 110 89 = L 110 89) (h : rC N I J K L) : rC N I1 J1 K1 L1 := by
  obtain ⟨c1, c2⟩ := h
  have f : ∀ a i, 70 ≤ a → a ≤ 76 → I1 a i = I a i := fun a i u v => h1 a i (by omega)
  have g3 : ∀ i, K1 153 i = K 153 i := fun i => h2 153 i (by omega)
  have g4 : ∀ i, K1 154 i = K 154 i := fun i => h2 154 i (by omega)
  unfold rC
  rw [h1 0 9 (by omega), h2 110 86 (by omega)]
  refine ⟨c1, fun z => ?_⟩
  obtain ⟨d1, d2, d3, d4, d5, d6, d7⟩ := c2 z
  refine ⟨fun r hr => ?_, fun s hs => ?_, by rw [f 70 2 (by omega) (by omega), g4]; exact d3, by rw [f 70 0 (by omega) (by omega), g4]; exact d4, by rw [j1, j2]; exact d5, hL_c f d6, wN_c f d7⟩
  · rw [f 71 _ (by omega) (by omega), f 72 _ (by omega) (by omega), f 73 _ (by omega) (by omega), g3, g3, g3]; exact d1 r hr
  · rw [f 74 _ (by omega) (by omega), f 75 _ (by omega) (by omega), f 76 _ (by omega) (by omega), g3, g3, g4]; exact d2 s hs
theorem cu_c {K K1 : hI} (h : ∀ a i, 138 ≤ a → a ≤ 142 → K1 a i = K a i) (j : Nat) : cu K1 j = cu K j := by
  unfold cu
  rw [h 138 _ (by omega) (by omega), h 139 _ (by omega) (by omega), h 140 _ (by omega) (by omega), h 141 _ (by omega) (by omega), h 142 _ (by omega) (by omega)]
theorem rD_c {N : Nat → Nat} {u : Nat} {I I1 K K1 : hI} (h1 : ∀ a i, 96 ≤ a → a ≤ 101 → I1 a i = I a i) (h2 : ∀ a i, (138 ≤ a ∧ a ≤ 142) ∨ a = 152 ∨ (a = 110 ∧ i = 84) → K1 a i = K a i) (h : rD N u I K) : rD N u I1 K1 := by
  obtain ⟨d1, d2, d3, d4⟩ := h
  refine ⟨d1, by rw [h1 96 0 (by omega) (by omega)]; exact d2, by rw [h2 110 84 (by omega)]; exact d3, fun i hi => ?_⟩
  have e : ∀ i j, sq K1 u i j = sq K u i j := fun i j => by
    unfold sq
    rw [h2 152 _ (by omega), cu_c (fun a i u v => h2 a i (by omega))]
  have e2 : ∀ j x, uE I1 i j x = uE I i j x := fun j x => by
    unfold uE
    rw [h1 97 _ (by omega) (by omega), h1 98 _ (by omega) (by omega), h1 99 _ (by omega) (by omega), h1 100 _ (by omega) (by omega), h1 101 _ (by omega) (by omega)]
  rw [h1 97 _ (by omega) (by omega), h1 98 _ (by omega) (by omega), h1 99 _ (by omega) (by omega), h1 100 _ (by omega) (by omega), h1 101 _ (by omega) (by omega)]
  exact ⟨(d4 i hi).1, fun j hj => by rw [e, e, e2]; exact (d4 i hi).2 j hj⟩
theorem rE_c {q : Nat} {I I1 K K1 : hI} (h1 : ∀ a i, 88 ≤ a → a ≤ 92 → I1 a i = I a i) (h2 : ∀ a i, a = 149 ∨ (a = 110 ∧ 79 ≤ i ∧ i ≤ 80) → K1 a i = K a i) (h : rE q I K) : rE q I1 K1 := by
  unfold rE at *
  rw [h1 88 _ (by omega) (by omega), h1 88 _ (by omega) (by omega), h2 110 79 (by omega), h2 110 80 (by omega)]
  obtain ⟨e1, e2, e3, e4, e5, e6⟩ := h
  refine ⟨e1, e2, e3, e4, e5, fun i hi => ?_⟩
  rw [h1 89 _ (by omega) (by omega), h1 90 _ (by omega) (by omega), h1 91 _ (by omega) (by omega), h1 92 _ (by omega) (by omega), h2 149 _ (by omega), h2 149 _ (by omega), h2 149 _ (by omega)]
  exact e6 i hi
theorem rG_c {I I1 K K1 : hI} (h1 : ∀ a i, (a = 0 ∧ i ≠ 9) ∨ a = 1 ∨ a = 4 → I1 a i = I a i) (h2 : ∀ a i, a = 111 ∨ (a = 110 ∧ (i = 1 ∨ i = 4 ∨ i = 5)) → K1 a i = K a i) (h : rG I K) : rG I1 K1 := by
  obtain ⟨⟨z, g1, g2, g3, g4⟩, g5, g6, g7⟩ := h
  refine ⟨⟨z, g1, by rw [h1 0 1 (by omega)]; exact g2, by rw [h2 110 1 (by omega)]; exact g3, fun i hi => ?_⟩, by rw [h1 0 4 (by omega), h2 110 4 (by omega)]; exact g5, by rw [h1 0 5 (by omega), h2 110 5 (by omega)]; exact g6, fun r hr => by rw [h1 4 r (by omega)]; exact g7 r hr⟩
  rw [h1 1 _ (by omega), h2 111 _ (by omega)]; exact g4 i hi
