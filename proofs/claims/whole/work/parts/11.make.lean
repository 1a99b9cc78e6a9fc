/-! What is made: sound. The heap's size is known by the frame's own count. -/
def am_se : am_E → Nat
  | .inl (_, x) => am_asz x
  | .inr (_, fs) => fs.length
theorem am_dfv_ok (ty : FieldType) : defaultValue ty = am_dfv ty := by cases ty <;> rfl
theorem am_rep {α : Type} (N : Nat) (x : α) (j : Nat) : (List.replicate N x).getD j x = x := by
  rw [List.getD_eq_getElem?_getD, List.getElem?_replicate]
  split <;> rfl
theorem am_w_ai : Cond.arrayClass .int ∈ am_gd := am_wd_in (p := 267) (by decide +kernel)
theorem am_w_al : Cond.arrayClass .long ∈ am_gd := am_wd_in (p := 582) (by decide +kernel)
theorem am_w_az : Cond.arrayClass .boolean ∈ am_gd := am_wd_in (p := 620) (by decide +kernel)
theorem am_nw_ok {o j ci a b d : Nat} (h : am_nw o j = some (ci, a, b, d)) : ∃ q : vw_C, am_cl[ci]? = some q ∧ Cond.classLink (am_nmo o) j q.1 ∈ am_gd ∧ Cond.instantiable q.1 q.2.2 ∈ am_gd ∧ Cond.initialized q.1 ∈ am_gd := by
  have h1 := am_lk2 am_nwc am_nw_chk h
  unfold am_nwc at h1
  split at h1
  · rename_i q hq
    simp only [Bool.and_eq_true] at h1
    exact ⟨q, hq, am_wd_in h1.1.1, am_wd_in h1.1.2, am_wd_in h1.2⟩
  · cases h1
section
variable {p : Program} {l : Launch} {e : Env} {R : Room} {s : State} {m : MethodId} {args : Array Value} {below : List Frame} {meth : Method} {c : Code} {H : Heap} {locs : List Loc} {cells slots : Nat} {Q : State → Prop}
variable {D : va_G} {A : Nat → Prop} {κ : FieldType → ClassId} {B N0 : Nat} {β : Nat → Nat} {cc : ByteArray} {nL o : Nat} {ini : Bool} {Ts : List Cond} {L st st1 : List Value} {h h1 : am_H} {i : Instr} {pc w : Nat} {ls : Array Slot}
theorem am_Wsz {g : JFrame} (k : H.size ≤ s.heap.size + cells → W p l e R s m args below meth c H locs cells slots Q g) : W p l e R s m args below meth c H locs cells slots Q g :=
  fun T hT X => k (by have := X.same.2.2.1; rw [← hT]; exact this) T hT X
theorem am_losz (hP : va_P D am_cl (am_ws B κ h) H) (h0 : s.heap.size ≤ H.size) (hN : s.heap.size = B + N0) (hle : N0 ≤ h.length) : B + h.length ≤ H.size := by
  cases hlen : h.length with
  | zero => omega
  | succ n =>
    have hg : h[n]? = some h[n] := List.getElem?_eq_getElem (by omega)
    have h2 : B + n < H.size := (hP n _ (am_ws_get hg)).lt
    omega
theorem am_pushed {e0 : am_E} {H1 : Heap} (hP : va_P D am_cl (am_ws B κ h) H) (hD : va_D A (am_ws B κ h)) (hS : va_S A s.heap H locs) (hA : ∀ q, s.heap.size ≤ q → A q) (hsz : H.size = B + h.length) (z1 : H1.size = B + h.length + 1) (o1 : ∀ q, q < B + h.length → H1[q]? = H[q]?) (hat : va_at D am_cl (B + h.length, am_te B κ e0) H1) :
    va_P D am_cl (am_ws B κ (h ++ [e0])) H1 ∧ va_D A (am_ws B κ (h ++ [e0])) ∧ va_S A s.heap H1 locs := by
  rw [am_ws_app]
  have hk : ∀ (k : Nat) (x : Nat × va_E), (am_ws B κ h)[k]? = some x → H1[x.1]? = H[x.1]? := fun k x hx => o1 x.1 (by rw [← hsz]; exact (hP k x hx).lt)
  refine ⟨(hP.kept hk).app (fun k x hx => ?_), hD.push hP hsz.symm (hA _ (by rw [← hsz]; exact hS.1)), ⟨Nat.le_trans hS.1 (by omega), fun x h1 h2 => (o1 x (by rw [← hsz]; exact Nat.lt_of_lt_of_le h1 hS.1)).trans (hS.2.1 x h1 h2), hS.2.2⟩⟩
  have hz : k < 1 := (List.getElem?_eq_some_iff.mp hx).1
  rw [show k = 0 by omega] at hx
  cases hx
  exact hat
set_option maxHeartbeats 4000000 in
theorem am_mk_ok (X : am_X p s m args meth c cc nL o ini Ts) (hK : am_K D κ s) (hP : va_P D am_cl (am_ws B κ h) H) (hD : va_D A (am_ws B κ h)) (hS : va_S A s.heap H locs) (hA : ∀ q, s.heap.size ≤ q → A q) (hN : s.heap.size = B + N0) (hle : N0 ≤ h.length) (hcl : cells + N0 = h.length) (hdg : decode cc pc = .ok (i, w)) (hw : am_len i w = true) (hp : am_mk o i st h = some (st1, h1))
    (hcap : ∀ e0 : am_E, h1 = h ++ [e0] → cells + 1 ≤ R.cells ∧ slots + am_se e0 ≤ R.slots)
    (kk : ∀ (e0 : am_E) (H1 : Heap), h1 = h ++ [e0] → va_P D am_cl (am_ws B κ h1) H1 → va_D A (am_ws B κ h1) → va_S A s.heap H1 locs → W p l e R s m args below meth c H1 locs (cells + 1) (slots + am_se e0) Q (F0 m (pc + w) ls (st1.map (am_tv B β)))) : W p l e R s m args below meth c H locs cells slots Q (F0 m pc ls (st.map (am_tv B β))) := by
  obtain ⟨hx, hb, hml, hown, hts, hgd, hin⟩ := X
  refine am_Wsz fun hup => ?_
  have hsz : H.size = B + h.length := Nat.le_antisymm (by omega) (am_losz hP hS.1 hN hle)
  cases i
  case new j =>
    (obtain rfl : w = 3 := by simpa [am_len] using hw)
    unfold am_mk at hp
    dsimp only at hp
    split at hp
    · rename_i ci a b d hn
      cases hp
      obtain ⟨q, hq, w1, w2, w3⟩ := am_nw_ok hn
      obtain ⟨ly1, ly2, ly3, ly4, ly5⟩ := am_lay hq
      obtain ⟨c1, c2⟩ := hcap _ rfl
      have hsl : am_se (.inr (ci, (am_ty.getD ci []).map am_dfv)) = q.2.2 := by show ((am_ty.getD ci []).map am_dfv).length = _; rw [List.length_map]; exact ly4
      have hKn := hK.1.1 ci q hq
      refine W.newcK (n := q.2.2) hx hb hown (hts _ (hgd _ w1)) (hts _ (hgd _ w2)) (hts _ (hgd _ w3)) rfl hdg c1 (by rw [← hsl]; exact c2) hKn.2.1 hsz fun H1 kC hkC e1 z1 o1 => ?_
      have hat : va_at D am_cl (B + h.length, am_te B κ (.inr (ci, (am_ty.getD ci []).map am_dfv))) H1 := by
        refine ⟨q, hq, (u_born (am_fty ci) hts (fun w hw => hgd w (ly1 w hw)) hKn hkC e1 ly2).to fun j hj => ?_⟩
        rw [am_dfv_ok]
        unfold vp_V am_fty
        rw [← ly4] at hj
        simp only [List.getD_eq_getElem?_getD, List.getElem?_map]
        rw [List.getD_eq_getElem?_getD] at hj
        rw [List.getElem?_eq_getElem hj]
        simp only [Option.map_some, Option.getD_some]
        generalize (am_ty[ci]?.getD [])[j] = ty
        cases ty <;> rfl
      obtain ⟨a1, a2, a3⟩ := am_pushed hP hD hS hA hsz z1 o1 hat
      have := kk _ H1 rfl a1 a2 a3
      rw [hsl] at this
      exact this
    · cases hp
  case newarray at0 =>
    (obtain rfl : w = 2 := by simpa [am_len] using hw)
    have hra : ∀ ty ∈ am_tys, va_RA s (κ ty) ty := fun ty h => (hK.2.1 ty h).2
    cases at0
    case int =>
      unfold am_mk at hp
      dsimp only at hp
      split at hp
      · rename_i n r
        split at hp
        · rename_i hc
          cases hp
          obtain ⟨c1, c2⟩ := hcap _ rfl
          have hsl : am_se (.inl (.int, .inl (List.replicate n.toNatClampNeg 0))) = n.toNatClampNeg := List.length_replicate
          refine va_newaK (atype := .int) hx hb (hts _ (hgd _ am_w_ai)) rfl hdg rfl hc.1 rfl (show n.toNatClampNeg * 4 ≤ 536870912 by have := hc.2; omega) c1 (by rw [← hsl]; exact c2) hsz fun H1 cA e1 z1 o1 hAr hNm => ?_
          have hce : cA = κ .int := Option.some.inj (hNm.symm.trans (hra .int am_ty_i))
          subst hce
          have hat : va_at D am_cl (B + h.length, am_te B κ (.inl (.int, .inl (List.replicate n.toNatClampNeg 0)))) H1 := by
            show H1[B + h.length]? = some (vp_cell (κ .int) ((List.replicate n.toNatClampNeg (0 : Int32)).length, .inl (fun j => (List.replicate n.toNatClampNeg (0 : Int32)).getD j 0)))
            rw [vp_cell_i, e1, List.length_replicate]
            congr 2
            funext j
            rw [am_rep]; rfl
          obtain ⟨a1, a2, a3⟩ := am_pushed hP hD hS hA hsz z1 o1 hat
          have := kk _ H1 rfl a1 a2 a3
          rw [hsl] at this
          exact this
        · cases hp
      · cases hp
    case boolean =>
      unfold am_mk at hp
      dsimp only at hp
      split at hp
      · rename_i n r
        split at hp
        · rename_i hc
          cases hp
          obtain ⟨c1, c2⟩ := hcap _ rfl
          have hsl : am_se (.inl (.boolean, .inl (List.replicate n.toNatClampNeg 0))) = n.toNatClampNeg := List.length_replicate
          refine va_newaK (atype := .boolean) hx hb (hts _ (hgd _ am_w_az)) rfl hdg rfl hc.1 rfl (show n.toNatClampNeg * 1 ≤ 536870912 by have := hc.2; omega) c1 (by rw [← hsl]; exact c2) hsz fun H1 cA e1 z1 o1 hAr hNm => ?_
          have hce : cA = κ .boolean := Option.some.inj (hNm.symm.trans (hra .boolean am_ty_z))
          subst hce
          have hat : va_at D am_cl (B + h.length, am_te B κ (.inl (.boolean, .inl (List.replicate n.toNatClampNeg 0)))) H1 := by
            show H1[B + h.length]? = some (vp_cell (κ .boolean) ((List.replicate n.toNatClampNeg (0 : Int32)).length, .inl (fun j => (List.replicate n.toNatClampNeg (0 : Int32)).getD j 0)))
            rw [vp_cell_i, e1, List.length_replicate]
            congr 2
            funext j
            rw [am_rep]; rfl
          obtain ⟨a1, a2, a3⟩ := am_pushed hP hD hS hA hsz z1 o1 hat
          have := kk _ H1 rfl a1 a2 a3
          rw [hsl] at this
          exact this
        · cases hp
      · cases hp
    case long =>
      unfold am_mk at hp
      dsimp only at hp
      split at hp
      · rename_i n r
        split at hp
        · rename_i hc
          cases hp
          obtain ⟨c1, c2⟩ := hcap _ rfl
          have hsl : am_se (.inl (.long, .inr (.inl (List.replicate n.toNatClampNeg 0)))) = n.toNatClampNeg := List.length_replicate
          refine va_newaK (atype := .long) hx hb (hts _ (hgd _ am_w_al)) rfl hdg rfl hc.1 rfl (show n.toNatClampNeg * 8 ≤ 536870912 by have := hc.2; omega) c1 (by rw [← hsl]; exact c2) hsz fun H1 cA e1 z1 o1 hAr hNm => ?_
          have hce : cA = κ .long := Option.some.inj (hNm.symm.trans (hra .long am_ty_l))
          subst hce
          have hat : va_at D am_cl (B + h.length, am_te B κ (.inl (.long, .inr (.inl (List.replicate n.toNatClampNeg 0))))) H1 := by
            show H1[B + h.length]? = some (vp_cell (κ .long) ((List.replicate n.toNatClampNeg (0 : Int64)).length, .inr (.inl (fun j => (List.replicate n.toNatClampNeg (0 : Int64)).getD j 0))))
            rw [vp_cell_l, e1, List.length_replicate]
            congr 2
            funext j
            rw [am_rep]; rfl
          obtain ⟨a1, a2, a3⟩ := am_pushed hP hD hS hA hsz z1 o1 hat
          have := kk _ H1 rfl a1 a2 a3
          rw [hsl] at this
          exact this
        · cases hp
      · cases hp
    all_goals cases hp
  case anewarray j =>
    (obtain rfl : w = 3 := by simpa [am_len] using hw)
    unfold am_mk at hp
    dsimp only at hp
    split at hp
    · rename_i a b d hn
      split at hp
      · rename_i n r
        split at hp
        · rename_i hc
          cases hp
          obtain ⟨q, hq, w1, w2, w3⟩ := am_nw_ok hn
          cases hq
          obtain ⟨c1, c2⟩ := hcap _ rfl
          have hsl : am_se (.inl (.object "RopeWalk$Law", .inr (.inr (List.replicate n.toNatClampNeg none)))) = n.toNatClampNeg := List.length_replicate
          refine W.anew (C := "RopeWalk$Law") hx hb hown (hts _ (hgd _ w1)) (va_AO.use hK.2.2.2) rfl hdg rfl hc.1 (by omega) c1 (by rw [← hsl]; exact c2) fun cA kA comp f1 f2 f3 f4 => ?_
          generalize hH1 : H.push ({ cls := cA, slots := Array.replicate n.toNatClampNeg .null, vm := .none } : Cell) = H1
          have z1 : H1.size = B + h.length + 1 := by rw [← hH1, Array.size_push, hsz]
          have e1 : H1[B + h.length]? = some (arrV cA n.toNatClampNeg (fun _ => .null)) := by rw [← hH1, ← hsz, Array.getElem?_push_size, ← arrV_new]
          have o1 : ∀ q : Nat, q < B + h.length → H1[q]? = H[q]? := fun q hq => by rw [← hH1, Array.getElem?_push, if_neg (by rw [hsz]; exact Nat.ne_of_lt hq)]
          obtain ⟨kA2, comp2, g1, g2, g3, g4⟩ := (hK.2.1 _ am_ty_q).2
          have hce : cA = κ (.object "RopeWalk$Law") := Option.some.inj (f1.symm.trans g4)
          subst hce
          have hat : va_at D am_cl (B + h.length, am_te B κ (.inl (.object "RopeWalk$Law", .inr (.inr (List.replicate n.toNatClampNeg none))))) H1 := by
            show H1[B + h.length]? = some (vp_cell (κ (.object "RopeWalk$Law")) ((List.replicate n.toNatClampNeg (none : Option Nat)).length, .inr (.inr (.inr (.inr (fun j => ((List.replicate n.toNatClampNeg (none : Option Nat)).getD j none).map (B + ·)))))))
            rw [vp_cell_q, e1, List.length_replicate]
            congr 2
            funext j
            rw [am_rep]; rfl
          obtain ⟨a1, a2, a3⟩ := am_pushed hP hD hS hA hsz z1 o1 hat
          have := kk _ H1 rfl a1 a2 a3
          rw [hsl] at this
          rw [hsz]
          exact this
        · cases hp
      · cases hp
    · cases hp
  all_goals cases hp
end
