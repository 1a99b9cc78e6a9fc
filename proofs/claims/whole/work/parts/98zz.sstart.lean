/-! The first heap keeps what holds between the calls. -/
def sgI (a k : Nat) : Int32 := match am_hl[a]? with
  | some (.inl (_, .inl l)) => l.getD k 0
  | some (.inr (_, fs)) => match fs[k]? with
    | some (.int x) => x
    | _ => 0
  | _ => 0
def sgJ (a k : Nat) : Int64 := 0
def sgR (a k : Nat) : Nat := if a = 0 ∧ k = 3 then 36 else if a = 2 ∧ k = 2 then 9 else if a = 84 ∧ k = 3 then 36 else 5
theorem sg_b : am_eqH am_hl (am_hp sgI sgJ sgR) = true := by decide +kernel
theorem sg_ok : am_h0 = am_hp sgI sgJ sgR := am_hl_ok.trans (am_eqH_ok _ _ sg_b)
def sgN (_ : Nat) : Nat := 0
theorem sg_rA : rA 36 9 sgN sgI sgI := by
  refine ⟨Or.inr ⟨rfl, rfl⟩, ?_, ?_, ?_, ?_, ?_, ?_, ?_, ?_, ?_⟩
  · unfold tsz sgN; decide +kernel
  · unfold tqs
    refine ⟨fun r hr => absurd hr (Nat.not_lt_zero r), ?_, fun r hr => absurd hr (Nat.not_lt_zero r), fun r hr => absurd hr (Nat.not_lt_zero r), fun r hr => absurd hr (Nat.not_lt_zero r), ?_⟩
    · unfold thk okn; decide +kernel
    · unfold okn; decide +kernel
  · unfold thk okn; decide +kernel
  · refine ⟨?_, ?_, fun r hr => absurd hr (Nat.not_lt_zero r), fun r hr => absurd hr (Nat.not_lt_zero r), fun w hw g => absurd ?_ g⟩
    · unfold sgN; decide
    · unfold sgN; decide +kernel
    · have : w = 0 ∨ w = 1 ∨ w = 2 := by omega
      rcases this with z | z | z <;> (subst z; decide +kernel)
  · refine ⟨fun r hr => absurd hr (Nat.not_lt_zero r), fun r hr => absurd hr (Nat.not_lt_zero r), ?_, fun r hr => absurd hr (Nat.not_lt_zero r), fun r hr => absurd hr (Nat.not_lt_zero r), ?_⟩
    · unfold sgN; decide +kernel
    · decide +kernel
  · intro w hw
    have e : sgI 128 w = 0 := by
      have : w = 0 ∨ w = 1 ∨ w = 2 := by omega
      rcases this with z | z | z <;> (subst z; decide +kernel)
    refine ⟨⟨fun z => absurd z ?_, fun z => absurd e z⟩, fun _ => rfl, fun z => absurd e z⟩
    have : w = 0 ∨ w = 1 ∨ w = 2 := by omega
    rcases this with z | z | z <;> (subst z; decide +kernel)
  · unfold sgN; decide +kernel
  · decide +kernel
  · unfold tls
    intro v hv
    rw [show nn (sgI 36 11) = 0 by decide +kernel] at hv
    exact absurd hv (Nat.not_lt_zero v)
theorem sg_hL : hL 63 sgI := by
  unfold hL hL0 okn
  decide +kernel
theorem sg_rB : rB sgN sgI sgJ sgI sgJ := by
  refine ⟨⟨by decide +kernel, fun r hr => ?_, ?_, fun _ => by decide +kernel⟩, rfl, sg_hL, Or.inl ⟨rfl, rfl⟩⟩
  · refine ⟨Or.inl ⟨rfl, rfl⟩, ?_, fun _ => ?_, fun _ => ?_⟩
    · revert r; unfold okn; decide +kernel
    · revert r; decide +kernel
    · revert r; decide +kernel
  · intro s hs _
    revert s; decide +kernel
theorem sg_rC : rC sgN sgI sgJ sgI sgJ := ⟨by decide +kernel, fun z => absurd (by decide +kernel) z⟩
theorem sg_rD : rD sgN 0 sgI sgI := ⟨by decide, by decide +kernel, by decide +kernel, fun i hi => absurd hi (Nat.not_lt_zero i)⟩
theorem sg_rE : rE 0 sgI sgI := ⟨by decide, by decide +kernel, by decide +kernel, by decide +kernel, Or.inl (by decide +kernel), fun i hi => absurd hi (Nat.not_lt_zero i)⟩
theorem sg_rG : rG sgI sgI := ⟨⟨0, by decide, by decide +kernel, by decide +kernel, fun i hi => absurd hi (Nat.not_lt_zero i)⟩, by decide +kernel, by decide +kernel, by decide +kernel⟩
theorem sg_rF : rF sgN sgI sgI := ⟨fun m hm => absurd hm (Nat.not_lt_zero m), fun m hm => absurd hm (Nat.not_lt_zero m)⟩
theorem INV_0 : INV sgI sgJ sgR := ⟨36, 9, sgN, 0, 0, ⟨sg_rA, sg_rB, sg_rC, sg_rD, sg_rE, sg_rG, sg_rF⟩, rfl, rfl⟩
