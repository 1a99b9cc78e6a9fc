/-- the code tables, by number -/
def am_dch (c : List (List (Nat × Instr × Nat))) (b : ByteArray) : Prop := ∀ pc i w, am_ins c pc = some (i, w) → decode b pc = .ok (i, w)
theorem am_dch_of {c : List (List (Nat × Instr × Nat))} {b : ByteArray} {n : Nat} (hn : c.length = n) (h : ∀ q, q < n → am_dok b c q = true) : am_dch c b := by
  intro pc i w e
  have h1 := am_lk e
  by_cases hq : pc / 32 < n
  · have h2 := List.all_eq_true.mp (h _ hq) _ h1
    rw [Bool.and_eq_true, decide_eq_true_eq, decide_eq_true_eq] at h2
    exact h2.2
  · rw [List.getD_eq_getElem?_getD, List.getElem?_eq_none (by omega)] at h1
    cases h1
theorem am_e0 : am_dch am_c0 (am_wb 651) := am_dch_of (n := 3) rfl (fun q hq => match q, hq with
  | 0, _ => am_d0_0
  | 1, _ => am_d0_1
  | 2, _ => am_d0_2
  | _ + 3, hq => absurd hq (by omega))
theorem am_e1 : am_dch am_c1 (am_wb 1210) := am_dch_of (n := 1) rfl (fun q hq => by (obtain rfl : q = 0 := by omega); exact am_d1_0)
theorem am_e2 : am_dch am_c2 (am_wb 1214) := am_dch_of (n := 6) rfl (fun q hq => match q, hq with
  | 0, _ => am_d2_0
  | 1, _ => am_d2_1
  | 2, _ => am_d2_2
  | 3, _ => am_d2_3
  | 4, _ => am_d2_4
  | 5, _ => am_d2_5
  | _ + 6, hq => absurd hq (by omega))
theorem am_e3 : am_dch am_c3 (am_wb 1220) := am_dch_of (n := 5) rfl (fun q hq => match q, hq with
  | 0, _ => am_d3_0
  | 1, _ => am_d3_1
  | 2, _ => am_d3_2
  | 3, _ => am_d3_3
  | 4, _ => am_d3_4
  | _ + 5, hq => absurd hq (by omega))
theorem am_e4 : am_dch am_c4 (am_wb 1226) := am_dch_of (n := 3) rfl (fun q hq => match q, hq with
  | 0, _ => am_d4_0
  | 1, _ => am_d4_1
  | 2, _ => am_d4_2
  | _ + 3, hq => absurd hq (by omega))
theorem am_e5 : am_dch am_c5 (am_wb 1230) := am_dch_of (n := 2) rfl (fun q hq => match q, hq with
  | 0, _ => am_d5_0
  | 1, _ => am_d5_1
  | _ + 2, hq => absurd hq (by omega))
theorem am_e6 : am_dch am_c6 (am_wb 625) := am_dch_of (n := 2) rfl (fun q hq => match q, hq with
  | 0, _ => am_d6_0
  | 1, _ => am_d6_1
  | _ + 2, hq => absurd hq (by omega))
theorem am_e7 : am_dch am_c7 (am_wb 938) := am_dch_of (n := 1) rfl (fun q hq => by (obtain rfl : q = 0 := by omega); exact am_d7_0)
theorem am_e8 : am_dch am_c8 (am_wb 1036) := am_dch_of (n := 3) rfl (fun q hq => match q, hq with
  | 0, _ => am_d8_0
  | 1, _ => am_d8_1
  | 2, _ => am_d8_2
  | _ + 3, hq => absurd hq (by omega))
theorem am_e9 : am_dch am_c9 (am_wb 1078) := am_dch_of (n := 2) rfl (fun q hq => match q, hq with
  | 0, _ => am_d9_0
  | 1, _ => am_d9_1
  | _ + 2, hq => absurd hq (by omega))
theorem am_e10 : am_dch am_c10 (am_wb 1040) := am_dch_of (n := 4) rfl (fun q hq => match q, hq with
  | 0, _ => am_d10_0
  | 1, _ => am_d10_1
  | 2, _ => am_d10_2
  | 3, _ => am_d10_3
  | _ + 4, hq => absurd hq (by omega))
theorem am_e11 : am_dch am_c11 (am_wb 1371) := am_dch_of (n := 4) rfl (fun q hq => match q, hq with
  | 0, _ => am_d11_0
  | 1, _ => am_d11_1
  | 2, _ => am_d11_2
  | 3, _ => am_d11_3
  | _ + 4, hq => absurd hq (by omega))
theorem am_e12 : am_dch am_c12 (am_wb 532) := am_dch_of (n := 3) rfl (fun q hq => match q, hq with
  | 0, _ => am_d12_0
  | 1, _ => am_d12_1
  | 2, _ => am_d12_2
  | _ + 3, hq => absurd hq (by omega))
theorem am_e13 : am_dch am_c13 (am_wb 987) := am_dch_of (n := 3) rfl (fun q hq => match q, hq with
  | 0, _ => am_d13_0
  | 1, _ => am_d13_1
  | 2, _ => am_d13_2
  | _ + 3, hq => absurd hq (by omega))
theorem am_e14 : am_dch am_c14 (am_wb 1090) := am_dch_of (n := 1) rfl (fun q hq => by (obtain rfl : q = 0 := by omega); exact am_d14_0)
theorem am_e15 : am_dch am_c15 (am_wb 1094) := am_dch_of (n := 6) rfl (fun q hq => match q, hq with
  | 0, _ => am_d15_0
  | 1, _ => am_d15_1
  | 2, _ => am_d15_2
  | 3, _ => am_d15_3
  | 4, _ => am_d15_4
  | 5, _ => am_d15_5
  | _ + 6, hq => absurd hq (by omega))
theorem am_e16 : am_dch am_c16 (am_wb 1161) := am_dch_of (n := 3) rfl (fun q hq => match q, hq with
  | 0, _ => am_d16_0
  | 1, _ => am_d16_1
  | 2, _ => am_d16_2
  | _ + 3, hq => absurd hq (by omega))
theorem am_e17 : am_dch am_c17 (am_wb 1102) := am_dch_of (n := 1) rfl (fun q hq => by (obtain rfl : q = 0 := by omega); exact am_d17_0)
theorem am_e18 : am_dch am_c18 (am_wb 1098) := am_dch_of (n := 2) rfl (fun q hq => match q, hq with
  | 0, _ => am_d18_0
  | 1, _ => am_d18_1
  | _ + 2, hq => absurd hq (by omega))
theorem am_e19 : am_dch am_c19 (am_wb 1059) := am_dch_of (n := 2) rfl (fun q hq => match q, hq with
  | 0, _ => am_d19_0
  | 1, _ => am_d19_1
  | _ + 2, hq => absurd hq (by omega))
theorem am_e20 : am_dch am_c20 (am_wb 1107) := am_dch_of (n := 4) rfl (fun q hq => match q, hq with
  | 0, _ => am_d20_0
  | 1, _ => am_d20_1
  | 2, _ => am_d20_2
  | 3, _ => am_d20_3
  | _ + 4, hq => absurd hq (by omega))
theorem am_e21 : am_dch am_c21 (am_wb 1112) := am_dch_of (n := 3) rfl (fun q hq => match q, hq with
  | 0, _ => am_d21_0
  | 1, _ => am_d21_1
  | 2, _ => am_d21_2
  | _ + 3, hq => absurd hq (by omega))
theorem am_e22 : am_dch am_c22 (am_wb 1125) := am_dch_of (n := 2) rfl (fun q hq => match q, hq with
  | 0, _ => am_d22_0
  | 1, _ => am_d22_1
  | _ + 2, hq => absurd hq (by omega))
theorem am_e23 : am_dch am_c23 (am_wb 1129) := am_dch_of (n := 4) rfl (fun q hq => match q, hq with
  | 0, _ => am_d23_0
  | 1, _ => am_d23_1
  | 2, _ => am_d23_2
  | 3, _ => am_d23_3
  | _ + 4, hq => absurd hq (by omega))
theorem am_e24 : am_dch am_c24 (am_wb 1063) := am_dch_of (n := 1) rfl (fun q hq => by (obtain rfl : q = 0 := by omega); exact am_d24_0)
theorem am_e25 : am_dch am_c25 (am_wb 995) := am_dch_of (n := 2) rfl (fun q hq => match q, hq with
  | 0, _ => am_d25_0
  | 1, _ => am_d25_1
  | _ + 2, hq => absurd hq (by omega))
theorem am_e26 : am_dch am_c26 (am_wb 1023) := am_dch_of (n := 2) rfl (fun q hq => match q, hq with
  | 0, _ => am_d26_0
  | 1, _ => am_d26_1
  | _ + 2, hq => absurd hq (by omega))
theorem am_e27 : am_dch am_c27 (am_wb 1000) := am_dch_of (n := 4) rfl (fun q hq => match q, hq with
  | 0, _ => am_d27_0
  | 1, _ => am_d27_1
  | 2, _ => am_d27_2
  | 3, _ => am_d27_3
  | _ + 4, hq => absurd hq (by omega))
theorem am_e28 : am_dch am_c28 (am_wb 1027) := am_dch_of (n := 4) rfl (fun q hq => match q, hq with
  | 0, _ => am_d28_0
  | 1, _ => am_d28_1
  | 2, _ => am_d28_2
  | 3, _ => am_d28_3
  | _ + 4, hq => absurd hq (by omega))
theorem am_e29 : am_dch am_c29 (am_wb 1004) := am_dch_of (n := 2) rfl (fun q hq => match q, hq with
  | 0, _ => am_d29_0
  | 1, _ => am_d29_1
  | _ + 2, hq => absurd hq (by omega))
theorem am_e30 : am_dch am_c30 (am_wb 967) := am_dch_of (n := 5) rfl (fun q hq => match q, hq with
  | 0, _ => am_d30_0
  | 1, _ => am_d30_1
  | 2, _ => am_d30_2
  | 3, _ => am_d30_3
  | 4, _ => am_d30_4
  | _ + 5, hq => absurd hq (by omega))
theorem am_e31 : am_dch am_c31 (am_wb 330) := am_dch_of (n := 1) rfl (fun q hq => by (obtain rfl : q = 0 := by omega); exact am_d31_0)
theorem am_e32 : am_dch am_c32 (am_wb 806) := am_dch_of (n := 1) rfl (fun q hq => by (obtain rfl : q = 0 := by omega); exact am_d32_0)
theorem am_e33 : am_dch am_c33 (am_wb 839) := am_dch_of (n := 2) rfl (fun q hq => match q, hq with
  | 0, _ => am_d33_0
  | 1, _ => am_d33_1
  | _ + 2, hq => absurd hq (by omega))
theorem am_e34 : am_dch am_c34 (am_wb 1009) := am_dch_of (n := 7) rfl (fun q hq => match q, hq with
  | 0, _ => am_d34_0
  | 1, _ => am_d34_1
  | 2, _ => am_d34_2
  | 3, _ => am_d34_3
  | 4, _ => am_d34_4
  | 5, _ => am_d34_5
  | 6, _ => am_d34_6
  | _ + 7, hq => absurd hq (by omega))
theorem am_e35 : am_dch am_c35 (am_wb 1012) := am_dch_of (n := 1) rfl (fun q hq => by (obtain rfl : q = 0 := by omega); exact am_d35_0)
theorem am_e36 : am_dch am_c36 (am_wb 1016) := am_dch_of (n := 11) rfl (fun q hq => match q, hq with
  | 0, _ => am_d36_0
  | 1, _ => am_d36_1
  | 2, _ => am_d36_2
  | 3, _ => am_d36_3
  | 4, _ => am_d36_4
  | 5, _ => am_d36_5
  | 6, _ => am_d36_6
  | 7, _ => am_d36_7
  | 8, _ => am_d36_8
  | 9, _ => am_d36_9
  | 10, _ => am_d36_10
  | _ + 11, hq => absurd hq (by omega))
theorem am_e37 : am_dch am_c37 (am_wb 273) := am_dch_of (n := 2) rfl (fun q hq => match q, hq with
  | 0, _ => am_d37_0
  | 1, _ => am_d37_1
  | _ + 2, hq => absurd hq (by omega))
theorem am_e38 : am_dch am_c38 (am_wb 814) := am_dch_of (n := 4) rfl (fun q hq => match q, hq with
  | 0, _ => am_d38_0
  | 1, _ => am_d38_1
  | 2, _ => am_d38_2
  | 3, _ => am_d38_3
  | _ + 4, hq => absurd hq (by omega))
theorem am_e39 : am_dch am_c39 (am_wb 819) := am_dch_of (n := 4) rfl (fun q hq => match q, hq with
  | 0, _ => am_d39_0
  | 1, _ => am_d39_1
  | 2, _ => am_d39_2
  | 3, _ => am_d39_3
  | _ + 4, hq => absurd hq (by omega))
theorem am_e40 : am_dch am_c40 (am_wb 823) := am_dch_of (n := 2) rfl (fun q hq => match q, hq with
  | 0, _ => am_d40_0
  | 1, _ => am_d40_1
  | _ + 2, hq => absurd hq (by omega))
theorem am_e41 : am_dch am_c41 (am_wb 851) := am_dch_of (n := 4) rfl (fun q hq => match q, hq with
  | 0, _ => am_d41_0
  | 1, _ => am_d41_1
  | 2, _ => am_d41_2
  | 3, _ => am_d41_3
  | _ + 4, hq => absurd hq (by omega))
theorem am_e42 : am_dch am_c42 (am_wb 843) := am_dch_of (n := 3) rfl (fun q hq => match q, hq with
  | 0, _ => am_d42_0
  | 1, _ => am_d42_1
  | 2, _ => am_d42_2
  | _ + 3, hq => absurd hq (by omega))
theorem am_e43 : am_dch am_c43 (am_wb 835) := am_dch_of (n := 2) rfl (fun q hq => match q, hq with
  | 0, _ => am_d43_0
  | 1, _ => am_d43_1
  | _ + 2, hq => absurd hq (by omega))
theorem am_e44 : am_dch am_c44 (am_wb 828) := am_dch_of (n := 2) rfl (fun q hq => match q, hq with
  | 0, _ => am_d44_0
  | 1, _ => am_d44_1
  | _ + 2, hq => absurd hq (by omega))
theorem am_e45 : am_dch am_c45 (am_wb 847) := am_dch_of (n := 2) rfl (fun q hq => match q, hq with
  | 0, _ => am_d45_0
  | 1, _ => am_d45_1
  | _ + 2, hq => absurd hq (by omega))
theorem am_e46 : am_dch am_c46 (am_wb 831) := am_dch_of (n := 4) rfl (fun q hq => match q, hq with
  | 0, _ => am_d46_0
  | 1, _ => am_d46_1
  | 2, _ => am_d46_2
  | 3, _ => am_d46_3
  | _ + 4, hq => absurd hq (by omega))
theorem am_e47 : am_dch am_c47 (am_wb 307) := am_dch_of (n := 1) rfl (fun q hq => by (obtain rfl : q = 0 := by omega); exact am_d47_0)
theorem am_e48 : am_dch am_c48 (am_wb 867) := am_dch_of (n := 1) rfl (fun q hq => by (obtain rfl : q = 0 := by omega); exact am_d48_0)
theorem am_e49 : am_dch am_c49 (am_wb 871) := am_dch_of (n := 1) rfl (fun q hq => by (obtain rfl : q = 0 := by omega); exact am_d49_0)
theorem am_e50 : am_dch am_c50 (am_wb 875) := am_dch_of (n := 1) rfl (fun q hq => by (obtain rfl : q = 0 := by omega); exact am_d50_0)
theorem am_e51 : am_dch am_c51 (am_wb 587) := am_dch_of (n := 3) rfl (fun q hq => match q, hq with
  | 0, _ => am_d51_0
  | 1, _ => am_d51_1
  | 2, _ => am_d51_2
  | _ + 3, hq => absurd hq (by omega))
theorem am_e52 : am_dch am_c52 (am_wb 942) := am_dch_of (n := 2) rfl (fun q hq => match q, hq with
  | 0, _ => am_d52_0
  | 1, _ => am_d52_1
  | _ + 2, hq => absurd hq (by omega))
theorem am_e53 : am_dch am_c53 (am_wb 1333) := am_dch_of (n := 1) rfl (fun q hq => by (obtain rfl : q = 0 := by omega); exact am_d53_0)
theorem am_e54 : am_dch am_c54 (am_wb 1298) := am_dch_of (n := 3) rfl (fun q hq => match q, hq with
  | 0, _ => am_d54_0
  | 1, _ => am_d54_1
  | 2, _ => am_d54_2
  | _ + 3, hq => absurd hq (by omega))
theorem am_e55 : am_dch am_c55 (am_wb 1306) := am_dch_of (n := 2) rfl (fun q hq => match q, hq with
  | 0, _ => am_d55_0
  | 1, _ => am_d55_1
  | _ + 2, hq => absurd hq (by omega))
theorem am_e56 : am_dch am_c56 (am_wb 1325) := am_dch_of (n := 1) rfl (fun q hq => by (obtain rfl : q = 0 := by omega); exact am_d56_0)
theorem am_e57 : am_dch am_c57 (am_wb 1322) := am_dch_of (n := 2) rfl (fun q hq => match q, hq with
  | 0, _ => am_d57_0
  | 1, _ => am_d57_1
  | _ + 2, hq => absurd hq (by omega))
theorem am_e58 : am_dch am_c58 (am_wb 1345) := am_dch_of (n := 1) rfl (fun q hq => by (obtain rfl : q = 0 := by omega); exact am_d58_0)
theorem am_e59 : am_dch am_c59 (am_wb 1337) := am_dch_of (n := 3) rfl (fun q hq => match q, hq with
  | 0, _ => am_d59_0
  | 1, _ => am_d59_1
  | 2, _ => am_d59_2
  | _ + 3, hq => absurd hq (by omega))
theorem am_e60 : am_dch am_c60 (am_wb 1329) := am_dch_of (n := 2) rfl (fun q hq => match q, hq with
  | 0, _ => am_d60_0
  | 1, _ => am_d60_1
  | _ + 2, hq => absurd hq (by omega))
theorem am_e61 : am_dch am_c61 (am_wb 1341) := am_dch_of (n := 3) rfl (fun q hq => match q, hq with
  | 0, _ => am_d61_0
  | 1, _ => am_d61_1
  | 2, _ => am_d61_2
  | _ + 3, hq => absurd hq (by omega))
theorem am_e62 : am_dch am_c62 (am_wb 1353) := am_dch_of (n := 2) rfl (fun q hq => match q, hq with
  | 0, _ => am_d62_0
  | 1, _ => am_d62_1
  | _ + 2, hq => absurd hq (by omega))
theorem am_e63 : am_dch am_c63 (am_wb 474) := am_dch_of (n := 3) rfl (fun q hq => match q, hq with
  | 0, _ => am_d63_0
  | 1, _ => am_d63_1
  | 2, _ => am_d63_2
  | _ + 3, hq => absurd hq (by omega))
theorem am_e64 : am_dch am_c64 (am_wb 934) := am_dch_of (n := 4) rfl (fun q hq => match q, hq with
  | 0, _ => am_d64_0
  | 1, _ => am_d64_1
  | 2, _ => am_d64_2
  | 3, _ => am_d64_3
  | _ + 4, hq => absurd hq (by omega))
theorem am_e65 : am_dch am_c65 (am_wb 1146) := am_dch_of (n := 4) rfl (fun q hq => match q, hq with
  | 0, _ => am_d65_0
  | 1, _ => am_d65_1
  | 2, _ => am_d65_2
  | 3, _ => am_d65_3
  | _ + 4, hq => absurd hq (by omega))
theorem am_e66 : am_dch am_c66 (am_wb 963) := am_dch_of (n := 2) rfl (fun q hq => match q, hq with
  | 0, _ => am_d66_0
  | 1, _ => am_d66_1
  | _ + 2, hq => absurd hq (by omega))
theorem am_e67 : am_dch am_c67 (am_wb 971) := am_dch_of (n := 2) rfl (fun q hq => match q, hq with
  | 0, _ => am_d67_0
  | 1, _ => am_d67_1
  | _ + 2, hq => absurd hq (by omega))
theorem am_e68 : am_dch am_c68 (am_wb 1182) := am_dch_of (n := 1) rfl (fun q hq => by (obtain rfl : q = 0 := by omega); exact am_d68_0)
theorem am_e69 : am_dch am_c69 (am_wb 1082) := am_dch_of (n := 1) rfl (fun q hq => by (obtain rfl : q = 0 := by omega); exact am_d69_0)
theorem am_e70 : am_dch am_c70 (am_wb 1134) := am_dch_of (n := 2) rfl (fun q hq => match q, hq with
  | 0, _ => am_d70_0
  | 1, _ => am_d70_1
  | _ + 2, hq => absurd hq (by omega))
theorem am_e71 : am_dch am_c71 (am_wb 1116) := am_dch_of (n := 1) rfl (fun q hq => by (obtain rfl : q = 0 := by omega); exact am_d71_0)
theorem am_e72 : am_dch am_c72 (am_wb 172) := am_dch_of (n := 2) rfl (fun q hq => match q, hq with
  | 0, _ => am_d72_0
  | 1, _ => am_d72_1
  | _ + 2, hq => absurd hq (by omega))
theorem am_e73 : am_dch am_c73 (am_wb 918) := am_dch_of (n := 1) rfl (fun q hq => by (obtain rfl : q = 0 := by omega); exact am_d73_0)
theorem am_e74 : am_dch am_c74 (am_wb 922) := am_dch_of (n := 1) rfl (fun q hq => by (obtain rfl : q = 0 := by omega); exact am_d74_0)
theorem am_e75 : am_dch am_c75 (am_wb 926) := am_dch_of (n := 1) rfl (fun q hq => by (obtain rfl : q = 0 := by omega); exact am_d75_0)
theorem am_e76 : am_dch am_c76 (am_wb 753) := am_dch_of (n := 4) rfl (fun q hq => match q, hq with
  | 0, _ => am_d76_0
  | 1, _ => am_d76_1
  | 2, _ => am_d76_2
  | 3, _ => am_d76_3
  | _ + 4, hq => absurd hq (by omega))
theorem am_e77 : am_dch am_c77 (am_wb 855) := am_dch_of (n := 3) rfl (fun q hq => match q, hq with
  | 0, _ => am_d77_0
  | 1, _ => am_d77_1
  | 2, _ => am_d77_2
  | _ + 3, hq => absurd hq (by omega))
theorem am_e78 : am_dch am_c78 (am_wb 859) := am_dch_of (n := 3) rfl (fun q hq => match q, hq with
  | 0, _ => am_d78_0
  | 1, _ => am_d78_1
  | 2, _ => am_d78_2
  | _ + 3, hq => absurd hq (by omega))
theorem am_e79 : am_dch am_c79 (am_wb 884) := am_dch_of (n := 5) rfl (fun q hq => match q, hq with
  | 0, _ => am_d79_0
  | 1, _ => am_d79_1
  | 2, _ => am_d79_2
  | 3, _ => am_d79_3
  | 4, _ => am_d79_4
  | _ + 5, hq => absurd hq (by omega))
theorem am_e80 : am_dch am_c80 (am_wb 892) := am_dch_of (n := 2) rfl (fun q hq => match q, hq with
  | 0, _ => am_d80_0
  | 1, _ => am_d80_1
  | _ + 2, hq => absurd hq (by omega))
theorem am_e81 : am_dch am_c81 (am_wb 896) := am_dch_of (n := 4) rfl (fun q hq => match q, hq with
  | 0, _ => am_d81_0
  | 1, _ => am_d81_1
  | 2, _ => am_d81_2
  | 3, _ => am_d81_3
  | _ + 4, hq => absurd hq (by omega))
theorem am_e82 : am_dch am_c82 (am_wb 900) := am_dch_of (n := 6) rfl (fun q hq => match q, hq with
  | 0, _ => am_d82_0
  | 1, _ => am_d82_1
  | 2, _ => am_d82_2
  | 3, _ => am_d82_3
  | 4, _ => am_d82_4
  | 5, _ => am_d82_5
  | _ + 6, hq => absurd hq (by omega))
theorem am_e83 : am_dch am_c83 (am_wb 905) := am_dch_of (n := 2) rfl (fun q hq => match q, hq with
  | 0, _ => am_d83_0
  | 1, _ => am_d83_1
  | _ + 2, hq => absurd hq (by omega))
theorem am_e84 : am_dch am_c84 (am_wb 909) := am_dch_of (n := 2) rfl (fun q hq => match q, hq with
  | 0, _ => am_d84_0
  | 1, _ => am_d84_1
  | _ + 2, hq => absurd hq (by omega))
theorem am_e85 : am_dch am_c85 (am_wb 798) := am_dch_of (n := 3) rfl (fun q hq => match q, hq with
  | 0, _ => am_d85_0
  | 1, _ => am_d85_1
  | 2, _ => am_d85_2
  | _ + 3, hq => absurd hq (by omega))
theorem am_e86 : am_dch am_c86 (am_wb 863) := am_dch_of (n := 3) rfl (fun q hq => match q, hq with
  | 0, _ => am_d86_0
  | 1, _ => am_d86_1
  | 2, _ => am_d86_2
  | _ + 3, hq => absurd hq (by omega))
theorem am_e87 : am_dch am_c87 (am_wb 888) := am_dch_of (n := 2) rfl (fun q hq => match q, hq with
  | 0, _ => am_d87_0
  | 1, _ => am_d87_1
  | _ + 2, hq => absurd hq (by omega))
theorem am_e88 : am_dch am_c88 (am_wb 880) := am_dch_of (n := 3) rfl (fun q hq => match q, hq with
  | 0, _ => am_d88_0
  | 1, _ => am_d88_1
  | 2, _ => am_d88_2
  | _ + 3, hq => absurd hq (by omega))
theorem am_e89 : am_dch am_c89 (am_wb 914) := am_dch_of (n := 2) rfl (fun q hq => match q, hq with
  | 0, _ => am_d89_0
  | 1, _ => am_d89_1
  | _ + 2, hq => absurd hq (by omega))
theorem am_e90 : am_dch am_c90 (am_wb 178) := am_dch_of (n := 5) rfl (fun q hq => match q, hq with
  | 0, _ => am_d90_0
  | 1, _ => am_d90_1
  | 2, _ => am_d90_2
  | 3, _ => am_d90_3
  | 4, _ => am_d90_4
  | _ + 5, hq => absurd hq (by omega))
theorem am_e91 : am_dch am_c91 (am_wb 761) := am_dch_of (n := 1) rfl (fun q hq => by (obtain rfl : q = 0 := by omega); exact am_d91_0)
theorem am_e92 : am_dch am_c92 (am_wb 802) := am_dch_of (n := 1) rfl (fun q hq => by (obtain rfl : q = 0 := by omega); exact am_d92_0)
theorem am_e93 : am_dch am_c93 (am_wb 768) := am_dch_of (n := 5) rfl (fun q hq => match q, hq with
  | 0, _ => am_d93_0
  | 1, _ => am_d93_1
  | 2, _ => am_d93_2
  | 3, _ => am_d93_3
  | 4, _ => am_d93_4
  | _ + 5, hq => absurd hq (by omega))
theorem am_e94 : am_dch am_c94 (am_wb 775) := am_dch_of (n := 4) rfl (fun q hq => match q, hq with
  | 0, _ => am_d94_0
  | 1, _ => am_d94_1
  | 2, _ => am_d94_2
  | 3, _ => am_d94_3
  | _ + 4, hq => absurd hq (by omega))
theorem am_e95 : am_dch am_c95 (am_wb 231) := am_dch_of (n := 1) rfl (fun q hq => by (obtain rfl : q = 0 := by omega); exact am_d95_0)
theorem am_e96 : am_dch am_c96 (am_wb 779) := am_dch_of (n := 1) rfl (fun q hq => by (obtain rfl : q = 0 := by omega); exact am_d96_0)
theorem am_e97 : am_dch am_c97 (am_wb 786) := am_dch_of (n := 3) rfl (fun q hq => match q, hq with
  | 0, _ => am_d97_0
  | 1, _ => am_d97_1
  | 2, _ => am_d97_2
  | _ + 3, hq => absurd hq (by omega))
theorem am_e98 : am_dch am_c98 (am_wb 791) := am_dch_of (n := 5) rfl (fun q hq => match q, hq with
  | 0, _ => am_d98_0
  | 1, _ => am_d98_1
  | 2, _ => am_d98_2
  | 3, _ => am_d98_3
  | 4, _ => am_d98_4
  | _ + 5, hq => absurd hq (by omega))
theorem am_e99 : am_dch am_c99 (am_wb 794) := am_dch_of (n := 5) rfl (fun q hq => match q, hq with
  | 0, _ => am_d99_0
  | 1, _ => am_d99_1
  | 2, _ => am_d99_2
  | 3, _ => am_d99_3
  | 4, _ => am_d99_4
  | _ + 5, hq => absurd hq (by omega))
theorem am_e100 : am_dch am_c100 (am_wb 771) := am_dch_of (n := 1) rfl (fun q hq => by (obtain rfl : q = 0 := by omega); exact am_d100_0)
theorem am_e101 : am_dch am_c101 (am_wb 782) := am_dch_of (n := 1) rfl (fun q hq => by (obtain rfl : q = 0 := by omega); exact am_d101_0)
theorem am_e102 : am_dch am_c102 (am_wb 301) := am_dch_of (n := 6) rfl (fun q hq => match q, hq with
  | 0, _ => am_d102_0
  | 1, _ => am_d102_1
  | 2, _ => am_d102_2
  | 3, _ => am_d102_3
  | 4, _ => am_d102_4
  | 5, _ => am_d102_5
  | _ + 6, hq => absurd hq (by omega))
theorem am_e103 : am_dch am_c103 (am_wb 757) := am_dch_of (n := 3) rfl (fun q hq => match q, hq with
  | 0, _ => am_d103_0
  | 1, _ => am_d103_1
  | 2, _ => am_d103_2
  | _ + 3, hq => absurd hq (by omega))
theorem am_e104 : am_dch am_c104 (am_wb 810) := am_dch_of (n := 1) rfl (fun q hq => by (obtain rfl : q = 0 := by omega); exact am_d104_0)
theorem am_e105 : am_dch am_c105 (am_wb 1250) := am_dch_of (n := 3) rfl (fun q hq => match q, hq with
  | 0, _ => am_d105_0
  | 1, _ => am_d105_1
  | 2, _ => am_d105_2
  | _ + 3, hq => absurd hq (by omega))
theorem am_e106 : am_dch am_c106 (am_wb 164) := am_dch_of (n := 5) rfl (fun q hq => match q, hq with
  | 0, _ => am_d106_0
  | 1, _ => am_d106_1
  | 2, _ => am_d106_2
  | 3, _ => am_d106_3
  | 4, _ => am_d106_4
  | _ + 5, hq => absurd hq (by omega))
theorem am_e107 : am_dch am_c107 (am_wb 741) := am_dch_of (n := 2) rfl (fun q hq => match q, hq with
  | 0, _ => am_d107_0
  | 1, _ => am_d107_1
  | _ + 2, hq => absurd hq (by omega))
theorem am_e108 : am_dch am_c108 (am_wb 745) := am_dch_of (n := 2) rfl (fun q hq => match q, hq with
  | 0, _ => am_d108_0
  | 1, _ => am_d108_1
  | _ + 2, hq => absurd hq (by omega))
theorem am_e109 : am_dch am_c109 (am_wb 749) := am_dch_of (n := 3) rfl (fun q hq => match q, hq with
  | 0, _ => am_d109_0
  | 1, _ => am_d109_1
  | 2, _ => am_d109_2
  | _ + 3, hq => absurd hq (by omega))
theorem am_e110 : am_dch am_c110 (am_wb 930) := am_dch_of (n := 1) rfl (fun q hq => by (obtain rfl : q = 0 := by omega); exact am_d110_0)
theorem am_e111 : am_dch am_c111 (am_wb 946) := am_dch_of (n := 1) rfl (fun q hq => by (obtain rfl : q = 0 := by omega); exact am_d111_0)
theorem am_e112 : am_dch am_c112 (am_wb 950) := am_dch_of (n := 3) rfl (fun q hq => match q, hq with
  | 0, _ => am_d112_0
  | 1, _ => am_d112_1
  | 2, _ => am_d112_2
  | _ + 3, hq => absurd hq (by omega))
theorem am_e113 : am_dch am_c113 (am_wb 1398) := am_dch_of (n := 5) rfl (fun q hq => match q, hq with
  | 0, _ => am_d113_0
  | 1, _ => am_d113_1
  | 2, _ => am_d113_2
  | 3, _ => am_d113_3
  | 4, _ => am_d113_4
  | _ + 5, hq => absurd hq (by omega))
theorem am_e114 : am_dch am_c114 (am_wb 955) := am_dch_of (n := 5) rfl (fun q hq => match q, hq with
  | 0, _ => am_d114_0
  | 1, _ => am_d114_1
  | 2, _ => am_d114_2
  | 3, _ => am_d114_3
  | 4, _ => am_d114_4
  | _ + 5, hq => absurd hq (by omega))
theorem am_e115 : am_dch am_c115 (am_wb 975) := am_dch_of (n := 2) rfl (fun q hq => match q, hq with
  | 0, _ => am_d115_0
  | 1, _ => am_d115_1
  | _ + 2, hq => absurd hq (by omega))
theorem am_e116 : am_dch am_c116 (am_wb 983) := am_dch_of (n := 5) rfl (fun q hq => match q, hq with
  | 0, _ => am_d116_0
  | 1, _ => am_d116_1
  | 2, _ => am_d116_2
  | 3, _ => am_d116_3
  | 4, _ => am_d116_4
  | _ + 5, hq => absurd hq (by omega))
theorem am_e117 : am_dch am_c117 (am_wb 1032) := am_dch_of (n := 4) rfl (fun q hq => match q, hq with
  | 0, _ => am_d117_0
  | 1, _ => am_d117_1
  | 2, _ => am_d117_2
  | 3, _ => am_d117_3
  | _ + 4, hq => absurd hq (by omega))
theorem am_e118 : am_dch am_c118 (am_wb 1047) := am_dch_of (n := 2) rfl (fun q hq => match q, hq with
  | 0, _ => am_d118_0
  | 1, _ => am_d118_1
  | _ + 2, hq => absurd hq (by omega))
theorem am_e119 : am_dch am_c119 (am_wb 1051) := am_dch_of (n := 2) rfl (fun q hq => match q, hq with
  | 0, _ => am_d119_0
  | 1, _ => am_d119_1
  | _ + 2, hq => absurd hq (by omega))
theorem am_e120 : am_dch am_c120 (am_wb 1055) := am_dch_of (n := 4) rfl (fun q hq => match q, hq with
  | 0, _ => am_d120_0
  | 1, _ => am_d120_1
  | 2, _ => am_d120_2
  | 3, _ => am_d120_3
  | _ + 4, hq => absurd hq (by omega))
theorem am_e121 : am_dch am_c121 (am_wb 1074) := am_dch_of (n := 2) rfl (fun q hq => match q, hq with
  | 0, _ => am_d121_0
  | 1, _ => am_d121_1
  | _ + 2, hq => absurd hq (by omega))
theorem am_e122 : am_dch am_c122 (am_wb 1086) := am_dch_of (n := 3) rfl (fun q hq => match q, hq with
  | 0, _ => am_d122_0
  | 1, _ => am_d122_1
  | 2, _ => am_d122_2
  | _ + 3, hq => absurd hq (by omega))
theorem am_e123 : am_dch am_c123 (am_wb 1138) := am_dch_of (n := 7) rfl (fun q hq => match q, hq with
  | 0, _ => am_d123_0
  | 1, _ => am_d123_1
  | 2, _ => am_d123_2
  | 3, _ => am_d123_3
  | 4, _ => am_d123_4
  | 5, _ => am_d123_5
  | 6, _ => am_d123_6
  | _ + 7, hq => absurd hq (by omega))
theorem am_e124 : am_dch am_c124 (am_wb 1142) := am_dch_of (n := 1) rfl (fun q hq => by (obtain rfl : q = 0 := by omega); exact am_d124_0)
theorem am_e125 : am_dch am_c125 (am_wb 1157) := am_dch_of (n := 3) rfl (fun q hq => match q, hq with
  | 0, _ => am_d125_0
  | 1, _ => am_d125_1
  | 2, _ => am_d125_2
  | _ + 3, hq => absurd hq (by omega))
theorem am_e126 : am_dch am_c126 (am_wb 1166) := am_dch_of (n := 3) rfl (fun q hq => match q, hq with
  | 0, _ => am_d126_0
  | 1, _ => am_d126_1
  | 2, _ => am_d126_2
  | _ + 3, hq => absurd hq (by omega))
theorem am_e127 : am_dch am_c127 (am_wb 1170) := am_dch_of (n := 4) rfl (fun q hq => match q, hq with
  | 0, _ => am_d127_0
  | 1, _ => am_d127_1
  | 2, _ => am_d127_2
  | 3, _ => am_d127_3
  | _ + 4, hq => absurd hq (by omega))
theorem am_e128 : am_dch am_c128 (am_wb 1174) := am_dch_of (n := 4) rfl (fun q hq => match q, hq with
  | 0, _ => am_d128_0
  | 1, _ => am_d128_1
  | 2, _ => am_d128_2
  | 3, _ => am_d128_3
  | _ + 4, hq => absurd hq (by omega))
theorem am_e129 : am_dch am_c129 (am_wb 1189) := am_dch_of (n := 2) rfl (fun q hq => match q, hq with
  | 0, _ => am_d129_0
  | 1, _ => am_d129_1
  | _ + 2, hq => absurd hq (by omega))
theorem am_e130 : am_dch am_c130 (am_wb 1202) := am_dch_of (n := 2) rfl (fun q hq => match q, hq with
  | 0, _ => am_d130_0
  | 1, _ => am_d130_1
  | _ + 2, hq => absurd hq (by omega))
theorem am_e131 : am_dch am_c131 (am_wb 1178) := am_dch_of (n := 2) rfl (fun q hq => match q, hq with
  | 0, _ => am_d131_0
  | 1, _ => am_d131_1
  | _ + 2, hq => absurd hq (by omega))
theorem am_e132 : am_dch am_c132 (am_wb 1186) := am_dch_of (n := 2) rfl (fun q hq => match q, hq with
  | 0, _ => am_d132_0
  | 1, _ => am_d132_1
  | _ + 2, hq => absurd hq (by omega))
theorem am_e133 : am_dch am_c133 (am_wb 1206) := am_dch_of (n := 3) rfl (fun q hq => match q, hq with
  | 0, _ => am_d133_0
  | 1, _ => am_d133_1
  | 2, _ => am_d133_2
  | _ + 3, hq => absurd hq (by omega))
theorem am_e134 : am_dch am_c134 (am_wb 1234) := am_dch_of (n := 4) rfl (fun q hq => match q, hq with
  | 0, _ => am_d134_0
  | 1, _ => am_d134_1
  | 2, _ => am_d134_2
  | 3, _ => am_d134_3
  | _ + 4, hq => absurd hq (by omega))
theorem am_e135 : am_dch am_c135 (am_wb 1238) := am_dch_of (n := 1) rfl (fun q hq => by (obtain rfl : q = 0 := by omega); exact am_d135_0)
theorem am_e136 : am_dch am_c136 (am_wb 1242) := am_dch_of (n := 2) rfl (fun q hq => match q, hq with
  | 0, _ => am_d136_0
  | 1, _ => am_d136_1
  | _ + 2, hq => absurd hq (by omega))
theorem am_e137 : am_dch am_c137 (am_wb 1246) := am_dch_of (n := 5) rfl (fun q hq => match q, hq with
  | 0, _ => am_d137_0
  | 1, _ => am_d137_1
  | 2, _ => am_d137_2
  | 3, _ => am_d137_3
  | 4, _ => am_d137_4
  | _ + 5, hq => absurd hq (by omega))
theorem am_e138 : am_dch am_c138 (am_wb 1254) := am_dch_of (n := 3) rfl (fun q hq => match q, hq with
  | 0, _ => am_d138_0
  | 1, _ => am_d138_1
  | 2, _ => am_d138_2
  | _ + 3, hq => absurd hq (by omega))
theorem am_e139 : am_dch am_c139 (am_wb 1258) := am_dch_of (n := 2) rfl (fun q hq => match q, hq with
  | 0, _ => am_d139_0
  | 1, _ => am_d139_1
  | _ + 2, hq => absurd hq (by omega))
theorem am_e140 : am_dch am_c140 (am_wb 1262) := am_dch_of (n := 2) rfl (fun q hq => match q, hq with
  | 0, _ => am_d140_0
  | 1, _ => am_d140_1
  | _ + 2, hq => absurd hq (by omega))
theorem am_e141 : am_dch am_c141 (am_wb 1266) := am_dch_of (n := 2) rfl (fun q hq => match q, hq with
  | 0, _ => am_d141_0
  | 1, _ => am_d141_1
  | _ + 2, hq => absurd hq (by omega))
theorem am_e142 : am_dch am_c142 (am_wb 1281) := am_dch_of (n := 3) rfl (fun q hq => match q, hq with
  | 0, _ => am_d142_0
  | 1, _ => am_d142_1
  | 2, _ => am_d142_2
  | _ + 3, hq => absurd hq (by omega))
theorem am_e143 : am_dch am_c143 (am_wb 1270) := am_dch_of (n := 2) rfl (fun q hq => match q, hq with
  | 0, _ => am_d143_0
  | 1, _ => am_d143_1
  | _ + 2, hq => absurd hq (by omega))
theorem am_e144 : am_dch am_c144 (am_wb 1274) := am_dch_of (n := 3) rfl (fun q hq => match q, hq with
  | 0, _ => am_d144_0
  | 1, _ => am_d144_1
  | 2, _ => am_d144_2
  | _ + 3, hq => absurd hq (by omega))
theorem am_e145 : am_dch am_c145 (am_wb 1285) := am_dch_of (n := 4) rfl (fun q hq => match q, hq with
  | 0, _ => am_d145_0
  | 1, _ => am_d145_1
  | 2, _ => am_d145_2
  | 3, _ => am_d145_3
  | _ + 4, hq => absurd hq (by omega))
theorem am_e146 : am_dch am_c146 (am_wb 1290) := am_dch_of (n := 2) rfl (fun q hq => match q, hq with
  | 0, _ => am_d146_0
  | 1, _ => am_d146_1
  | _ + 2, hq => absurd hq (by omega))
theorem am_e147 : am_dch am_c147 (am_wb 1294) := am_dch_of (n := 1) rfl (fun q hq => by (obtain rfl : q = 0 := by omega); exact am_d147_0)
theorem am_e148 : am_dch am_c148 (am_wb 1302) := am_dch_of (n := 1) rfl (fun q hq => by (obtain rfl : q = 0 := by omega); exact am_d148_0)
theorem am_e149 : am_dch am_c149 (am_wb 1310) := am_dch_of (n := 1) rfl (fun q hq => by (obtain rfl : q = 0 := by omega); exact am_d149_0)
theorem am_e150 : am_dch am_c150 (am_wb 1314) := am_dch_of (n := 1) rfl (fun q hq => by (obtain rfl : q = 0 := by omega); exact am_d150_0)
theorem am_e151 : am_dch am_c151 (am_wb 1349) := am_dch_of (n := 5) rfl (fun q hq => match q, hq with
  | 0, _ => am_d151_0
  | 1, _ => am_d151_1
  | 2, _ => am_d151_2
  | 3, _ => am_d151_3
  | 4, _ => am_d151_4
  | _ + 5, hq => absurd hq (by omega))
theorem am_e152 : am_dch am_c152 (am_wb 1318) := am_dch_of (n := 5) rfl (fun q hq => match q, hq with
  | 0, _ => am_d152_0
  | 1, _ => am_d152_1
  | 2, _ => am_d152_2
  | 3, _ => am_d152_3
  | 4, _ => am_d152_4
  | _ + 5, hq => absurd hq (by omega))
theorem am_e153 : am_dch am_c153 (am_wb 1359) := am_dch_of (n := 4) rfl (fun q hq => match q, hq with
  | 0, _ => am_d153_0
  | 1, _ => am_d153_1
  | 2, _ => am_d153_2
  | 3, _ => am_d153_3
  | _ + 4, hq => absurd hq (by omega))
theorem am_e154 : am_dch am_c154 (am_wb 1363) := am_dch_of (n := 6) rfl (fun q hq => match q, hq with
  | 0, _ => am_d154_0
  | 1, _ => am_d154_1
  | 2, _ => am_d154_2
  | 3, _ => am_d154_3
  | 4, _ => am_d154_4
  | 5, _ => am_d154_5
  | _ + 6, hq => absurd hq (by omega))
theorem am_e155 : am_dch am_c155 (am_wb 1367) := am_dch_of (n := 1) rfl (fun q hq => by (obtain rfl : q = 0 := by omega); exact am_d155_0)
theorem am_e156 : am_dch am_c156 (am_wb 1375) := am_dch_of (n := 1) rfl (fun q hq => by (obtain rfl : q = 0 := by omega); exact am_d156_0)
theorem am_e157 : am_dch am_c157 (am_wb 1379) := am_dch_of (n := 2) rfl (fun q hq => match q, hq with
  | 0, _ => am_d157_0
  | 1, _ => am_d157_1
  | _ + 2, hq => absurd hq (by omega))
theorem am_e158 : am_dch am_c158 (am_wb 1383) := am_dch_of (n := 6) rfl (fun q hq => match q, hq with
  | 0, _ => am_d158_0
  | 1, _ => am_d158_1
  | 2, _ => am_d158_2
  | 3, _ => am_d158_3
  | 4, _ => am_d158_4
  | 5, _ => am_d158_5
  | _ + 6, hq => absurd hq (by omega))
theorem am_e159 : am_dch am_c159 (am_wb 1389) := am_dch_of (n := 7) rfl (fun q hq => match q, hq with
  | 0, _ => am_d159_0
  | 1, _ => am_d159_1
  | 2, _ => am_d159_2
  | 3, _ => am_d159_3
  | 4, _ => am_d159_4
  | 5, _ => am_d159_5
  | 6, _ => am_d159_6
  | _ + 7, hq => absurd hq (by omega))
theorem am_e160 : am_dch am_c160 (am_wb 979) := am_dch_of (n := 1) rfl (fun q hq => by (obtain rfl : q = 0 := by omega); exact am_d160_0)
theorem am_e161 : am_dch am_c161 (am_wb 991) := am_dch_of (n := 1) rfl (fun q hq => by (obtain rfl : q = 0 := by omega); exact am_d161_0)
theorem am_e162 : am_dch am_c162 (am_wb 959) := am_dch_of (n := 1) rfl (fun q hq => by (obtain rfl : q = 0 := by omega); exact am_d162_0)
theorem am_e163 : am_dch am_c163 (am_wb 1150) := am_dch_of (n := 2) rfl (fun q hq => match q, hq with
  | 0, _ => am_d163_0
  | 1, _ => am_d163_1
  | _ + 2, hq => absurd hq (by omega))
theorem am_e164 : am_dch am_c164 (am_wb 1153) := am_dch_of (n := 1) rfl (fun q hq => by (obtain rfl : q = 0 := by omega); exact am_d164_0)
theorem am_e165 : am_dch am_c165 (am_wb 1485) := am_dch_of (n := 32) rfl (fun q hq => match q, hq with
  | 0, _ => am_d165_0
  | 1, _ => am_d165_1
  | 2, _ => am_d165_2
  | 3, _ => am_d165_3
  | 4, _ => am_d165_4
  | 5, _ => am_d165_5
  | 6, _ => am_d165_6
  | 7, _ => am_d165_7
  | 8, _ => am_d165_8
  | 9, _ => am_d165_9
  | 10, _ => am_d165_10
  | 11, _ => am_d165_11
  | 12, _ => am_d165_12
  | 13, _ => am_d165_13
  | 14, _ => am_d165_14
  | 15, _ => am_d165_15
  | 16, _ => am_d165_16
  | 17, _ => am_d165_17
  | 18, _ => am_d165_18
  | 19, _ => am_d165_19
  | 20, _ => am_d165_20
  | 21, _ => am_d165_21
  | 22, _ => am_d165_22
  | 23, _ => am_d165_23
  | 24, _ => am_d165_24
  | 25, _ => am_d165_25
  | 26, _ => am_d165_26
  | 27, _ => am_d165_27
  | 28, _ => am_d165_28
  | 29, _ => am_d165_29
  | 30, _ => am_d165_30
  | 31, _ => am_d165_31
  | _ + 32, hq => absurd hq (by omega))
theorem am_e166 : am_dch am_c166 (am_wb 1784) := am_dch_of (n := 1) rfl (fun q hq => by (obtain rfl : q = 0 := by omega); exact am_d166_0)
theorem am_e167 : am_dch am_c167 (am_wb 1788) := am_dch_of (n := 5) rfl (fun q hq => match q, hq with
  | 0, _ => am_d167_0
  | 1, _ => am_d167_1
  | 2, _ => am_d167_2
  | 3, _ => am_d167_3
  | 4, _ => am_d167_4
  | _ + 5, hq => absurd hq (by omega))
theorem am_e168 : am_dch am_c168 (am_wb 1843) := am_dch_of (n := 1) rfl (fun q hq => by (obtain rfl : q = 0 := by omega); exact am_d168_0)
theorem am_e169 : am_dch am_c169 (am_wb 2047) := am_dch_of (n := 1) rfl (fun q hq => by (obtain rfl : q = 0 := by omega); exact am_d169_0)
theorem am_e170 : am_dch am_c170 (am_wb 1825) := am_dch_of (n := 1) rfl (fun q hq => by (obtain rfl : q = 0 := by omega); exact am_d170_0)
theorem am_e171 : am_dch am_c171 (am_wb 1804) := am_dch_of (n := 4) rfl (fun q hq => match q, hq with
  | 0, _ => am_d171_0
  | 1, _ => am_d171_1
  | 2, _ => am_d171_2
  | 3, _ => am_d171_3
  | _ + 4, hq => absurd hq (by omega))
theorem am_e172 : am_dch am_c172 (am_wb 1800) := am_dch_of (n := 2) rfl (fun q hq => match q, hq with
  | 0, _ => am_d172_0
  | 1, _ => am_d172_1
  | _ + 2, hq => absurd hq (by omega))
theorem am_e173 : am_dch am_c173 (am_wb 1812) := am_dch_of (n := 2) rfl (fun q hq => match q, hq with
  | 0, _ => am_d173_0
  | 1, _ => am_d173_1
  | _ + 2, hq => absurd hq (by omega))
theorem am_e174 : am_dch am_c174 (am_wb 1796) := am_dch_of (n := 9) rfl (fun q hq => match q, hq with
  | 0, _ => am_d174_0
  | 1, _ => am_d174_1
  | 2, _ => am_d174_2
  | 3, _ => am_d174_3
  | 4, _ => am_d174_4
  | 5, _ => am_d174_5
  | 6, _ => am_d174_6
  | 7, _ => am_d174_7
  | 8, _ => am_d174_8
  | _ + 9, hq => absurd hq (by omega))
theorem am_e175 : am_dch am_c175 (am_wb 1817) := am_dch_of (n := 10) rfl (fun q hq => match q, hq with
  | 0, _ => am_d175_0
  | 1, _ => am_d175_1
  | 2, _ => am_d175_2
  | 3, _ => am_d175_3
  | 4, _ => am_d175_4
  | 5, _ => am_d175_5
  | 6, _ => am_d175_6
  | 7, _ => am_d175_7
  | 8, _ => am_d175_8
  | 9, _ => am_d175_9
  | _ + 10, hq => absurd hq (by omega))
theorem am_e176 : am_dch am_c176 (am_wb 1808) := am_dch_of (n := 2) rfl (fun q hq => match q, hq with
  | 0, _ => am_d176_0
  | 1, _ => am_d176_1
  | _ + 2, hq => absurd hq (by omega))
theorem am_e177 : am_dch am_c177 (am_wb 1887) := am_dch_of (n := 1) rfl (fun q hq => by (obtain rfl : q = 0 := by omega); exact am_d177_0)
theorem am_e178 : am_dch am_c178 (am_wb 1875) := am_dch_of (n := 1) rfl (fun q hq => by (obtain rfl : q = 0 := by omega); exact am_d178_0)
theorem am_e179 : am_dch am_c179 (am_wb 1840) := am_dch_of (n := 2) rfl (fun q hq => match q, hq with
  | 0, _ => am_d179_0
  | 1, _ => am_d179_1
  | _ + 2, hq => absurd hq (by omega))
theorem am_e180 : am_dch am_c180 (am_wb 1490) := am_dch_of (n := 4) rfl (fun q hq => match q, hq with
  | 0, _ => am_d180_0
  | 1, _ => am_d180_1
  | 2, _ => am_d180_2
  | 3, _ => am_d180_3
  | _ + 4, hq => absurd hq (by omega))
theorem am_e181 : am_dch am_c181 (am_wb 1497) := am_dch_of (n := 1) rfl (fun q hq => by (obtain rfl : q = 0 := by omega); exact am_d181_0)
theorem am_e182 : am_dch am_c182 (am_wb 1494) := am_dch_of (n := 8) rfl (fun q hq => match q, hq with
  | 0, _ => am_d182_0
  | 1, _ => am_d182_1
  | 2, _ => am_d182_2
  | 3, _ => am_d182_3
  | 4, _ => am_d182_4
  | 5, _ => am_d182_5
  | 6, _ => am_d182_6
  | 7, _ => am_d182_7
  | _ + 8, hq => absurd hq (by omega))
theorem am_e183 : am_dch am_c183 (am_wb 1836) := am_dch_of (n := 1) rfl (fun q hq => by (obtain rfl : q = 0 := by omega); exact am_d183_0)
theorem am_e184 : am_dch am_c184 (am_wb 1833) := am_dch_of (n := 2) rfl (fun q hq => match q, hq with
  | 0, _ => am_d184_0
  | 1, _ => am_d184_1
  | _ + 2, hq => absurd hq (by omega))
theorem am_e185 : am_dch am_c185 (am_wb 1851) := am_dch_of (n := 2) rfl (fun q hq => match q, hq with
  | 0, _ => am_d185_0
  | 1, _ => am_d185_1
  | _ + 2, hq => absurd hq (by omega))
theorem am_e186 : am_dch am_c186 (am_wb 1829) := am_dch_of (n := 4) rfl (fun q hq => match q, hq with
  | 0, _ => am_d186_0
  | 1, _ => am_d186_1
  | 2, _ => am_d186_2
  | 3, _ => am_d186_3
  | _ + 4, hq => absurd hq (by omega))
theorem am_e187 : am_dch am_c187 (am_wb 1847) := am_dch_of (n := 5) rfl (fun q hq => match q, hq with
  | 0, _ => am_d187_0
  | 1, _ => am_d187_1
  | 2, _ => am_d187_2
  | 3, _ => am_d187_3
  | 4, _ => am_d187_4
  | _ + 5, hq => absurd hq (by omega))
theorem am_e188 : am_dch am_c188 (am_wb 1855) := am_dch_of (n := 3) rfl (fun q hq => match q, hq with
  | 0, _ => am_d188_0
  | 1, _ => am_d188_1
  | 2, _ => am_d188_2
  | _ + 3, hq => absurd hq (by omega))
theorem am_e189 : am_dch am_c189 (am_wb 1859) := am_dch_of (n := 3) rfl (fun q hq => match q, hq with
  | 0, _ => am_d189_0
  | 1, _ => am_d189_1
  | 2, _ => am_d189_2
  | _ + 3, hq => absurd hq (by omega))
theorem am_e190 : am_dch am_c190 (am_wb 1863) := am_dch_of (n := 4) rfl (fun q hq => match q, hq with
  | 0, _ => am_d190_0
  | 1, _ => am_d190_1
  | 2, _ => am_d190_2
  | 3, _ => am_d190_3
  | _ + 4, hq => absurd hq (by omega))
theorem am_e191 : am_dch am_c191 (am_wb 1867) := am_dch_of (n := 2) rfl (fun q hq => match q, hq with
  | 0, _ => am_d191_0
  | 1, _ => am_d191_1
  | _ + 2, hq => absurd hq (by omega))
theorem am_e192 : am_dch am_c192 (am_wb 1821) := am_dch_of (n := 8) rfl (fun q hq => match q, hq with
  | 0, _ => am_d192_0
  | 1, _ => am_d192_1
  | 2, _ => am_d192_2
  | 3, _ => am_d192_3
  | 4, _ => am_d192_4
  | 5, _ => am_d192_5
  | 6, _ => am_d192_6
  | 7, _ => am_d192_7
  | _ + 8, hq => absurd hq (by omega))
theorem am_e193 : am_dch am_c193 (am_wb 1792) := am_dch_of (n := 3) rfl (fun q hq => match q, hq with
  | 0, _ => am_d193_0
  | 1, _ => am_d193_1
  | 2, _ => am_d193_2
  | _ + 3, hq => absurd hq (by omega))
theorem am_e194 : am_dch am_c194 (am_wb 1918) := am_dch_of (n := 1) rfl (fun q hq => by (obtain rfl : q = 0 := by omega); exact am_d194_0)
theorem am_e195 : am_dch am_c195 (am_wb 1922) := am_dch_of (n := 3) rfl (fun q hq => match q, hq with
  | 0, _ => am_d195_0
  | 1, _ => am_d195_1
  | 2, _ => am_d195_2
  | _ + 3, hq => absurd hq (by omega))
theorem am_e196 : am_dch am_c196 (am_wb 1910) := am_dch_of (n := 2) rfl (fun q hq => match q, hq with
  | 0, _ => am_d196_0
  | 1, _ => am_d196_1
  | _ + 2, hq => absurd hq (by omega))
theorem am_e197 : am_dch am_c197 (am_wb 1899) := am_dch_of (n := 3) rfl (fun q hq => match q, hq with
  | 0, _ => am_d197_0
  | 1, _ => am_d197_1
  | 2, _ => am_d197_2
  | _ + 3, hq => absurd hq (by omega))
theorem am_e198 : am_dch am_c198 (am_wb 1914) := am_dch_of (n := 1) rfl (fun q hq => by (obtain rfl : q = 0 := by omega); exact am_d198_0)
theorem am_e199 : am_dch am_c199 (am_wb 1907) := am_dch_of (n := 3) rfl (fun q hq => match q, hq with
  | 0, _ => am_d199_0
  | 1, _ => am_d199_1
  | 2, _ => am_d199_2
  | _ + 3, hq => absurd hq (by omega))
theorem am_e200 : am_dch am_c200 (am_wb 1891) := am_dch_of (n := 1) rfl (fun q hq => by (obtain rfl : q = 0 := by omega); exact am_d200_0)
theorem am_e201 : am_dch am_c201 (am_wb 1883) := am_dch_of (n := 1) rfl (fun q hq => by (obtain rfl : q = 0 := by omega); exact am_d201_0)
theorem am_e202 : am_dch am_c202 (am_wb 1895) := am_dch_of (n := 1) rfl (fun q hq => by (obtain rfl : q = 0 := by omega); exact am_d202_0)
theorem am_e203 : am_dch am_c203 (am_wb 1879) := am_dch_of (n := 6) rfl (fun q hq => match q, hq with
  | 0, _ => am_d203_0
  | 1, _ => am_d203_1
  | 2, _ => am_d203_2
  | 3, _ => am_d203_3
  | 4, _ => am_d203_4
  | 5, _ => am_d203_5
  | _ + 6, hq => absurd hq (by omega))
theorem am_e204 : am_dch am_c204 (am_wb 1903) := am_dch_of (n := 9) rfl (fun q hq => match q, hq with
  | 0, _ => am_d204_0
  | 1, _ => am_d204_1
  | 2, _ => am_d204_2
  | 3, _ => am_d204_3
  | 4, _ => am_d204_4
  | 5, _ => am_d204_5
  | 6, _ => am_d204_6
  | 7, _ => am_d204_7
  | 8, _ => am_d204_8
  | _ + 9, hq => absurd hq (by omega))
theorem am_e205 : am_dch am_c205 (am_wb 1871) := am_dch_of (n := 3) rfl (fun q hq => match q, hq with
  | 0, _ => am_d205_0
  | 1, _ => am_d205_1
  | 2, _ => am_d205_2
  | _ + 3, hq => absurd hq (by omega))
theorem am_e206 : am_dch am_c206 (am_wb 1991) := am_dch_of (n := 2) rfl (fun q hq => match q, hq with
  | 0, _ => am_d206_0
  | 1, _ => am_d206_1
  | _ + 2, hq => absurd hq (by omega))
theorem am_e207 : am_dch am_c207 (am_wb 2000) := am_dch_of (n := 4) rfl (fun q hq => match q, hq with
  | 0, _ => am_d207_0
  | 1, _ => am_d207_1
  | 2, _ => am_d207_2
  | 3, _ => am_d207_3
  | _ + 4, hq => absurd hq (by omega))
theorem am_e208 : am_dch am_c208 (am_wb 1997) := am_dch_of (n := 3) rfl (fun q hq => match q, hq with
  | 0, _ => am_d208_0
  | 1, _ => am_d208_1
  | 2, _ => am_d208_2
  | _ + 3, hq => absurd hq (by omega))
theorem am_e209 : am_dch am_c209 (am_wb 1987) := am_dch_of (n := 9) rfl (fun q hq => match q, hq with
  | 0, _ => am_d209_0
  | 1, _ => am_d209_1
  | 2, _ => am_d209_2
  | 3, _ => am_d209_3
  | 4, _ => am_d209_4
  | 5, _ => am_d209_5
  | 6, _ => am_d209_6
  | 7, _ => am_d209_7
  | 8, _ => am_d209_8
  | _ + 9, hq => absurd hq (by omega))
theorem am_e210 : am_dch am_c210 (am_wb 1501) := am_dch_of (n := 2) rfl (fun q hq => match q, hq with
  | 0, _ => am_d210_0
  | 1, _ => am_d210_1
  | _ + 2, hq => absurd hq (by omega))
theorem am_e211 : am_dch am_c211 (am_wb 1505) := am_dch_of (n := 4) rfl (fun q hq => match q, hq with
  | 0, _ => am_d211_0
  | 1, _ => am_d211_1
  | 2, _ => am_d211_2
  | 3, _ => am_d211_3
  | _ + 4, hq => absurd hq (by omega))
theorem am_e212 : am_dch am_c212 (am_wb 1509) := am_dch_of (n := 3) rfl (fun q hq => match q, hq with
  | 0, _ => am_d212_0
  | 1, _ => am_d212_1
  | 2, _ => am_d212_2
  | _ + 3, hq => absurd hq (by omega))
theorem am_e213 : am_dch am_c213 (am_wb 2075) := am_dch_of (n := 5) rfl (fun q hq => match q, hq with
  | 0, _ => am_d213_0
  | 1, _ => am_d213_1
  | 2, _ => am_d213_2
  | 3, _ => am_d213_3
  | 4, _ => am_d213_4
  | _ + 5, hq => absurd hq (by omega))
theorem am_e214 : am_dch am_c214 (am_wb 1962) := am_dch_of (n := 1) rfl (fun q hq => by (obtain rfl : q = 0 := by omega); exact am_d214_0)
theorem am_e215 : am_dch am_c215 (am_wb 1930) := am_dch_of (n := 1) rfl (fun q hq => by (obtain rfl : q = 0 := by omega); exact am_d215_0)
theorem am_e216 : am_dch am_c216 (am_wb 1942) := am_dch_of (n := 1) rfl (fun q hq => by (obtain rfl : q = 0 := by omega); exact am_d216_0)
theorem am_e217 : am_dch am_c217 (am_wb 1979) := am_dch_of (n := 2) rfl (fun q hq => match q, hq with
  | 0, _ => am_d217_0
  | 1, _ => am_d217_1
  | _ + 2, hq => absurd hq (by omega))
theorem am_e218 : am_dch am_c218 (am_wb 1950) := am_dch_of (n := 2) rfl (fun q hq => match q, hq with
  | 0, _ => am_d218_0
  | 1, _ => am_d218_1
  | _ + 2, hq => absurd hq (by omega))
theorem am_e219 : am_dch am_c219 (am_wb 1946) := am_dch_of (n := 2) rfl (fun q hq => match q, hq with
  | 0, _ => am_d219_0
  | 1, _ => am_d219_1
  | _ + 2, hq => absurd hq (by omega))
theorem am_e220 : am_dch am_c220 (am_wb 1954) := am_dch_of (n := 4) rfl (fun q hq => match q, hq with
  | 0, _ => am_d220_0
  | 1, _ => am_d220_1
  | 2, _ => am_d220_2
  | 3, _ => am_d220_3
  | _ + 4, hq => absurd hq (by omega))
theorem am_e221 : am_dch am_c221 (am_wb 1975) := am_dch_of (n := 4) rfl (fun q hq => match q, hq with
  | 0, _ => am_d221_0
  | 1, _ => am_d221_1
  | 2, _ => am_d221_2
  | 3, _ => am_d221_3
  | _ + 4, hq => absurd hq (by omega))
theorem am_e222 : am_dch am_c222 (am_wb 1971) := am_dch_of (n := 3) rfl (fun q hq => match q, hq with
  | 0, _ => am_d222_0
  | 1, _ => am_d222_1
  | 2, _ => am_d222_2
  | _ + 3, hq => absurd hq (by omega))
theorem am_e223 : am_dch am_c223 (am_wb 1983) := am_dch_of (n := 2) rfl (fun q hq => match q, hq with
  | 0, _ => am_d223_0
  | 1, _ => am_d223_1
  | _ + 2, hq => absurd hq (by omega))
theorem am_e224 : am_dch am_c224 (am_wb 2032) := am_dch_of (n := 2) rfl (fun q hq => match q, hq with
  | 0, _ => am_d224_0
  | 1, _ => am_d224_1
  | _ + 2, hq => absurd hq (by omega))
theorem am_e225 : am_dch am_c225 (am_wb 2028) := am_dch_of (n := 3) rfl (fun q hq => match q, hq with
  | 0, _ => am_d225_0
  | 1, _ => am_d225_1
  | 2, _ => am_d225_2
  | _ + 3, hq => absurd hq (by omega))
theorem am_e226 : am_dch am_c226 (am_wb 2024) := am_dch_of (n := 1) rfl (fun q hq => by (obtain rfl : q = 0 := by omega); exact am_d226_0)
theorem am_e227 : am_dch am_c227 (am_wb 2055) := am_dch_of (n := 2) rfl (fun q hq => match q, hq with
  | 0, _ => am_d227_0
  | 1, _ => am_d227_1
  | _ + 2, hq => absurd hq (by omega))
theorem am_e228 : am_dch am_c228 (am_wb 2051) := am_dch_of (n := 3) rfl (fun q hq => match q, hq with
  | 0, _ => am_d228_0
  | 1, _ => am_d228_1
  | 2, _ => am_d228_2
  | _ + 3, hq => absurd hq (by omega))
theorem am_e229 : am_dch am_c229 (am_wb 2067) := am_dch_of (n := 3) rfl (fun q hq => match q, hq with
  | 0, _ => am_d229_0
  | 1, _ => am_d229_1
  | 2, _ => am_d229_2
  | _ + 3, hq => absurd hq (by omega))
theorem am_e230 : am_dch am_c230 (am_wb 2063) := am_dch_of (n := 7) rfl (fun q hq => match q, hq with
  | 0, _ => am_d230_0
  | 1, _ => am_d230_1
  | 2, _ => am_d230_2
  | 3, _ => am_d230_3
  | 4, _ => am_d230_4
  | 5, _ => am_d230_5
  | 6, _ => am_d230_6
  | _ + 7, hq => absurd hq (by omega))
theorem am_e231 : am_dch am_c231 (am_wb 2044) := am_dch_of (n := 7) rfl (fun q hq => match q, hq with
  | 0, _ => am_d231_0
  | 1, _ => am_d231_1
  | 2, _ => am_d231_2
  | 3, _ => am_d231_3
  | 4, _ => am_d231_4
  | 5, _ => am_d231_5
  | 6, _ => am_d231_6
  | _ + 7, hq => absurd hq (by omega))
theorem am_e232 : am_dch am_c232 (am_wb 2079) := am_dch_of (n := 1) rfl (fun q hq => by (obtain rfl : q = 0 := by omega); exact am_d232_0)
theorem am_e233 : am_dch am_c233 (am_wb 2091) := am_dch_of (n := 2) rfl (fun q hq => match q, hq with
  | 0, _ => am_d233_0
  | 1, _ => am_d233_1
  | _ + 2, hq => absurd hq (by omega))
theorem am_e234 : am_dch am_c234 (am_wb 2083) := am_dch_of (n := 2) rfl (fun q hq => match q, hq with
  | 0, _ => am_d234_0
  | 1, _ => am_d234_1
  | _ + 2, hq => absurd hq (by omega))
theorem am_e235 : am_dch am_c235 (am_wb 2087) := am_dch_of (n := 2) rfl (fun q hq => match q, hq with
  | 0, _ => am_d235_0
  | 1, _ => am_d235_1
  | _ + 2, hq => absurd hq (by omega))
theorem am_e236 : am_dch am_c236 (am_wb 1934) := am_dch_of (n := 1) rfl (fun q hq => by (obtain rfl : q = 0 := by omega); exact am_d236_0)
theorem am_e237 : am_dch am_c237 (am_wb 1926) := am_dch_of (n := 4) rfl (fun q hq => match q, hq with
  | 0, _ => am_d237_0
  | 1, _ => am_d237_1
  | 2, _ => am_d237_2
  | 3, _ => am_d237_3
  | _ + 4, hq => absurd hq (by omega))
theorem am_e238 : am_dch am_c238 (am_wb 1938) := am_dch_of (n := 5) rfl (fun q hq => match q, hq with
  | 0, _ => am_d238_0
  | 1, _ => am_d238_1
  | 2, _ => am_d238_2
  | 3, _ => am_d238_3
  | 4, _ => am_d238_4
  | _ + 5, hq => absurd hq (by omega))
theorem am_e239 : am_dch am_c239 (am_wb 1958) := am_dch_of (n := 2) rfl (fun q hq => match q, hq with
  | 0, _ => am_d239_0
  | 1, _ => am_d239_1
  | _ + 2, hq => absurd hq (by omega))
theorem am_e240 : am_dch am_c240 (am_wb 1966) := am_dch_of (n := 4) rfl (fun q hq => match q, hq with
  | 0, _ => am_d240_0
  | 1, _ => am_d240_1
  | 2, _ => am_d240_2
  | 3, _ => am_d240_3
  | _ + 4, hq => absurd hq (by omega))
theorem am_e241 : am_dch am_c241 (am_wb 2004) := am_dch_of (n := 3) rfl (fun q hq => match q, hq with
  | 0, _ => am_d241_0
  | 1, _ => am_d241_1
  | 2, _ => am_d241_2
  | _ + 3, hq => absurd hq (by omega))
theorem am_e242 : am_dch am_c242 (am_wb 2016) := am_dch_of (n := 2) rfl (fun q hq => match q, hq with
  | 0, _ => am_d242_0
  | 1, _ => am_d242_1
  | _ + 2, hq => absurd hq (by omega))
theorem am_e243 : am_dch am_c243 (am_wb 2020) := am_dch_of (n := 3) rfl (fun q hq => match q, hq with
  | 0, _ => am_d243_0
  | 1, _ => am_d243_1
  | 2, _ => am_d243_2
  | _ + 3, hq => absurd hq (by omega))
theorem am_e244 : am_dch am_c244 (am_wb 2036) := am_dch_of (n := 2) rfl (fun q hq => match q, hq with
  | 0, _ => am_d244_0
  | 1, _ => am_d244_1
  | _ + 2, hq => absurd hq (by omega))
theorem am_e245 : am_dch am_c245 (am_wb 2040) := am_dch_of (n := 3) rfl (fun q hq => match q, hq with
  | 0, _ => am_d245_0
  | 1, _ => am_d245_1
  | 2, _ => am_d245_2
  | _ + 3, hq => absurd hq (by omega))
theorem am_e246 : am_dch am_c246 (am_wb 2071) := am_dch_of (n := 4) rfl (fun q hq => match q, hq with
  | 0, _ => am_d246_0
  | 1, _ => am_d246_1
  | 2, _ => am_d246_2
  | 3, _ => am_d246_3
  | _ + 4, hq => absurd hq (by omega))
theorem am_e247 : am_dch am_c247 (am_wb 2095) := am_dch_of (n := 2) rfl (fun q hq => match q, hq with
  | 0, _ => am_d247_0
  | 1, _ => am_d247_1
  | _ + 2, hq => absurd hq (by omega))
theorem am_e248 : am_dch am_c248 (am_wb 2099) := am_dch_of (n := 2) rfl (fun q hq => match q, hq with
  | 0, _ => am_d248_0
  | 1, _ => am_d248_1
  | _ + 2, hq => absurd hq (by omega))
theorem am_e249 : am_dch am_c249 (am_wb 2103) := am_dch_of (n := 3) rfl (fun q hq => match q, hq with
  | 0, _ => am_d249_0
  | 1, _ => am_d249_1
  | 2, _ => am_d249_2
  | _ + 3, hq => absurd hq (by omega))
theorem am_e250 : am_dch am_c250 (am_wb 2115) := am_dch_of (n := 1) rfl (fun q hq => by (obtain rfl : q = 0 := by omega); exact am_d250_0)
theorem am_e251 : am_dch am_c251 (am_wb 2118) := am_dch_of (n := 1) rfl (fun q hq => by (obtain rfl : q = 0 := by omega); exact am_d251_0)
theorem am_e252 : am_dch am_c252 (am_wb 2111) := am_dch_of (n := 2) rfl (fun q hq => match q, hq with
  | 0, _ => am_d252_0
  | 1, _ => am_d252_1
  | _ + 2, hq => absurd hq (by omega))
theorem am_e253 : am_dch am_c253 (am_wb 2107) := am_dch_of (n := 5) rfl (fun q hq => match q, hq with
  | 0, _ => am_d253_0
  | 1, _ => am_d253_1
  | 2, _ => am_d253_2
  | 3, _ => am_d253_3
  | 4, _ => am_d253_4
  | _ + 5, hq => absurd hq (by omega))
theorem am_e254 : am_dch am_c254 (am_wb 2122) := am_dch_of (n := 2) rfl (fun q hq => match q, hq with
  | 0, _ => am_d254_0
  | 1, _ => am_d254_1
  | _ + 2, hq => absurd hq (by omega))
theorem am_e255 : am_dch am_c255 (am_wb 2130) := am_dch_of (n := 2) rfl (fun q hq => match q, hq with
  | 0, _ => am_d255_0
  | 1, _ => am_d255_1
  | _ + 2, hq => absurd hq (by omega))
theorem am_e256 : am_dch am_c256 (am_wb 2134) := am_dch_of (n := 7) rfl (fun q hq => match q, hq with
  | 0, _ => am_d256_0
  | 1, _ => am_d256_1
  | 2, _ => am_d256_2
  | 3, _ => am_d256_3
  | 4, _ => am_d256_4
  | 5, _ => am_d256_5
  | 6, _ => am_d256_6
  | _ + 7, hq => absurd hq (by omega))
theorem am_e257 : am_dch am_c257 (am_wb 2126) := am_dch_of (n := 7) rfl (fun q hq => match q, hq with
  | 0, _ => am_d257_0
  | 1, _ => am_d257_1
  | 2, _ => am_d257_2
  | 3, _ => am_d257_3
  | 4, _ => am_d257_4
  | 5, _ => am_d257_5
  | 6, _ => am_d257_6
  | _ + 7, hq => absurd hq (by omega))
theorem am_e258 : am_dch am_c258 (am_wb 2138) := am_dch_of (n := 5) rfl (fun q hq => match q, hq with
  | 0, _ => am_d258_0
  | 1, _ => am_d258_1
  | 2, _ => am_d258_2
  | 3, _ => am_d258_3
  | 4, _ => am_d258_4
  | _ + 5, hq => absurd hq (by omega))
theorem am_e259 : am_dch am_c259 (am_wb 2142) := am_dch_of (n := 4) rfl (fun q hq => match q, hq with
  | 0, _ => am_d259_0
  | 1, _ => am_d259_1
  | 2, _ => am_d259_2
  | 3, _ => am_d259_3
  | _ + 4, hq => absurd hq (by omega))
theorem am_e260 : am_dch am_c260 (am_wb 2158) := am_dch_of (n := 3) rfl (fun q hq => match q, hq with
  | 0, _ => am_d260_0
  | 1, _ => am_d260_1
  | 2, _ => am_d260_2
  | _ + 3, hq => absurd hq (by omega))
theorem am_e261 : am_dch am_c261 (am_wb 2154) := am_dch_of (n := 4) rfl (fun q hq => match q, hq with
  | 0, _ => am_d261_0
  | 1, _ => am_d261_1
  | 2, _ => am_d261_2
  | 3, _ => am_d261_3
  | _ + 4, hq => absurd hq (by omega))
theorem am_e262 : am_dch am_c262 (am_wb 2150) := am_dch_of (n := 1) rfl (fun q hq => by (obtain rfl : q = 0 := by omega); exact am_d262_0)
theorem am_e263 : am_dch am_c263 (am_wb 2146) := am_dch_of (n := 1) rfl (fun q hq => by (obtain rfl : q = 0 := by omega); exact am_d263_0)
theorem am_e264 : am_dch am_c264 (am_wb 2162) := am_dch_of (n := 1) rfl (fun q hq => by (obtain rfl : q = 0 := by omega); exact am_d264_0)
theorem am_e265 : am_dch am_c265 (am_wb 2166) := am_dch_of (n := 4) rfl (fun q hq => match q, hq with
  | 0, _ => am_d265_0
  | 1, _ => am_d265_1
  | 2, _ => am_d265_2
  | 3, _ => am_d265_3
  | _ + 4, hq => absurd hq (by omega))
theorem am_e266 : am_dch am_c266 (am_wb 2176) := am_dch_of (n := 2) rfl (fun q hq => match q, hq with
  | 0, _ => am_d266_0
  | 1, _ => am_d266_1
  | _ + 2, hq => absurd hq (by omega))
theorem am_e267 : am_dch am_c267 (am_wb 2172) := am_dch_of (n := 2) rfl (fun q hq => match q, hq with
  | 0, _ => am_d267_0
  | 1, _ => am_d267_1
  | _ + 2, hq => absurd hq (by omega))
theorem am_e268 : am_dch am_c268 (am_wb 2180) := am_dch_of (n := 2) rfl (fun q hq => match q, hq with
  | 0, _ => am_d268_0
  | 1, _ => am_d268_1
  | _ + 2, hq => absurd hq (by omega))
theorem am_e269 : am_dch am_c269 (am_wb 2184) := am_dch_of (n := 1) rfl (fun q hq => by (obtain rfl : q = 0 := by omega); exact am_d269_0)
theorem am_e270 : am_dch am_c270 (am_wb 2196) := am_dch_of (n := 1) rfl (fun q hq => by (obtain rfl : q = 0 := by omega); exact am_d270_0)
theorem am_e271 : am_dch am_c271 (am_wb 2208) := am_dch_of (n := 3) rfl (fun q hq => match q, hq with
  | 0, _ => am_d271_0
  | 1, _ => am_d271_1
  | 2, _ => am_d271_2
  | _ + 3, hq => absurd hq (by omega))
theorem am_e272 : am_dch am_c272 (am_wb 2204) := am_dch_of (n := 1) rfl (fun q hq => by (obtain rfl : q = 0 := by omega); exact am_d272_0)
theorem am_e273 : am_dch am_c273 (am_wb 2200) := am_dch_of (n := 2) rfl (fun q hq => match q, hq with
  | 0, _ => am_d273_0
  | 1, _ => am_d273_1
  | _ + 2, hq => absurd hq (by omega))
theorem am_e274 : am_dch am_c274 (am_wb 2192) := am_dch_of (n := 4) rfl (fun q hq => match q, hq with
  | 0, _ => am_d274_0
  | 1, _ => am_d274_1
  | 2, _ => am_d274_2
  | 3, _ => am_d274_3
  | _ + 4, hq => absurd hq (by omega))
theorem am_e275 : am_dch am_c275 (am_wb 2188) := am_dch_of (n := 1) rfl (fun q hq => by (obtain rfl : q = 0 := by omega); exact am_d275_0)
theorem am_e276 : am_dch am_c276 (am_wb 2212) := am_dch_of (n := 9) rfl (fun q hq => match q, hq with
  | 0, _ => am_d276_0
  | 1, _ => am_d276_1
  | 2, _ => am_d276_2
  | 3, _ => am_d276_3
  | 4, _ => am_d276_4
  | 5, _ => am_d276_5
  | 6, _ => am_d276_6
  | 7, _ => am_d276_7
  | 8, _ => am_d276_8
  | _ + 9, hq => absurd hq (by omega))
theorem am_e277 : am_dch am_c277 (am_wb 2216) := am_dch_of (n := 4) rfl (fun q hq => match q, hq with
  | 0, _ => am_d277_0
  | 1, _ => am_d277_1
  | 2, _ => am_d277_2
  | 3, _ => am_d277_3
  | _ + 4, hq => absurd hq (by omega))
theorem am_e278 : am_dch am_c278 (am_wb 2220) := am_dch_of (n := 5) rfl (fun q hq => match q, hq with
  | 0, _ => am_d278_0
  | 1, _ => am_d278_1
  | 2, _ => am_d278_2
  | 3, _ => am_d278_3
  | 4, _ => am_d278_4
  | _ + 5, hq => absurd hq (by omega))
theorem am_e279 : am_dch am_c279 (am_wb 2012) := am_dch_of (n := 3) rfl (fun q hq => match q, hq with
  | 0, _ => am_d279_0
  | 1, _ => am_d279_1
  | 2, _ => am_d279_2
  | _ + 3, hq => absurd hq (by omega))
theorem am_e280 : am_dch am_c280 (am_wb 2228) := am_dch_of (n := 3) rfl (fun q hq => match q, hq with
  | 0, _ => am_d280_0
  | 1, _ => am_d280_1
  | 2, _ => am_d280_2
  | _ + 3, hq => absurd hq (by omega))
theorem am_e281 : am_dch am_c281 (am_wb 2008) := am_dch_of (n := 3) rfl (fun q hq => match q, hq with
  | 0, _ => am_d281_0
  | 1, _ => am_d281_1
  | 2, _ => am_d281_2
  | _ + 3, hq => absurd hq (by omega))
theorem am_e282 : am_dch am_c282 (am_wb 2224) := am_dch_of (n := 2) rfl (fun q hq => match q, hq with
  | 0, _ => am_d282_0
  | 1, _ => am_d282_1
  | _ + 2, hq => absurd hq (by omega))
theorem am_e283 : am_dch am_c283 (am_wb 2232) := am_dch_of (n := 3) rfl (fun q hq => match q, hq with
  | 0, _ => am_d283_0
  | 1, _ => am_d283_1
  | 2, _ => am_d283_2
  | _ + 3, hq => absurd hq (by omega))
theorem am_e284 : am_dch am_c284 (am_wb 2236) := am_dch_of (n := 3) rfl (fun q hq => match q, hq with
  | 0, _ => am_d284_0
  | 1, _ => am_d284_1
  | 2, _ => am_d284_2
  | _ + 3, hq => absurd hq (by omega))
theorem am_e285 : am_dch am_c285 (am_wb 2240) := am_dch_of (n := 7) rfl (fun q hq => match q, hq with
  | 0, _ => am_d285_0
  | 1, _ => am_d285_1
  | 2, _ => am_d285_2
  | 3, _ => am_d285_3
  | 4, _ => am_d285_4
  | 5, _ => am_d285_5
  | 6, _ => am_d285_6
  | _ + 7, hq => absurd hq (by omega))
theorem am_e286 : am_dch am_c286 (am_wb 1198) := am_dch_of (n := 1) rfl (fun q hq => by (obtain rfl : q = 0 := by omega); exact am_d286_0)
theorem am_e287 : am_dch am_c287 (am_wb 1192) := am_dch_of (n := 2) rfl (fun q hq => match q, hq with
  | 0, _ => am_d287_0
  | 1, _ => am_d287_1
  | _ + 2, hq => absurd hq (by omega))
theorem am_e288 : am_dch am_c288 code := am_dch_of (n := 45) rfl (fun q hq => match q, hq with
  | 0, _ => am_d288_0
  | 1, _ => am_d288_1
  | 2, _ => am_d288_2
  | 3, _ => am_d288_3
  | 4, _ => am_d288_4
  | 5, _ => am_d288_5
  | 6, _ => am_d288_6
  | 7, _ => am_d288_7
  | 8, _ => am_d288_8
  | 9, _ => am_d288_9
  | 10, _ => am_d288_10
  | 11, _ => am_d288_11
  | 12, _ => am_d288_12
  | 13, _ => am_d288_13
  | 14, _ => am_d288_14
  | 15, _ => am_d288_15
  | 16, _ => am_d288_16
  | 17, _ => am_d288_17
  | 18, _ => am_d288_18
  | 19, _ => am_d288_19
  | 20, _ => am_d288_20
  | 21, _ => am_d288_21
  | 22, _ => am_d288_22
  | 23, _ => am_d288_23
  | 24, _ => am_d288_24
  | 25, _ => am_d288_25
  | 26, _ => am_d288_26
  | 27, _ => am_d288_27
  | 28, _ => am_d288_28
  | 29, _ => am_d288_29
  | 30, _ => am_d288_30
  | 31, _ => am_d288_31
  | 32, _ => am_d288_32
  | 33, _ => am_d288_33
  | 34, _ => am_d288_34
  | 35, _ => am_d288_35
  | 36, _ => am_d288_36
  | 37, _ => am_d288_37
  | 38, _ => am_d288_38
  | 39, _ => am_d288_39
  | 40, _ => am_d288_40
  | 41, _ => am_d288_41
  | 42, _ => am_d288_42
  | 43, _ => am_d288_43
  | 44, _ => am_d288_44
  | _ + 45, hq => absurd hq (by omega))
def am_zl0 : List (am_M × List (List (Nat × Instr × Nat))) := [(am_m0, am_c0), (am_m1, am_c1), (am_m2, am_c2), (am_m3, am_c3), (am_m4, am_c4), (am_m5, am_c5), (am_m6, am_c6), (am_m7, am_c7), (am_m8, am_c8), (am_m9, am_c9), (am_m10, am_c10), (am_m11, am_c11), (am_m12, am_c12), (am_m13, am_c13), (am_m14, am_c14), (am_m15, am_c15), (am_m16, am_c16), (am_m17, am_c17), (am_m18, am_c18), (am_m19, am_c19), (am_m20, am_c20), (am_m21, am_c21), (am_m22, am_c22), (am_m23, am_c23)]
theorem am_za0 : ∀ x ∈ am_zl0, am_dch x.2 (am_wb x.1.2.1) := List.forall_mem_cons.mpr ⟨am_e0, List.forall_mem_cons.mpr ⟨am_e1, List.forall_mem_cons.mpr ⟨am_e2, List.forall_mem_cons.mpr ⟨am_e3, List.forall_mem_cons.mpr ⟨am_e4, List.forall_mem_cons.mpr ⟨am_e5, List.forall_mem_cons.mpr ⟨am_e6, List.forall_mem_cons.mpr ⟨am_e7, List.forall_mem_cons.mpr ⟨am_e8, List.forall_mem_cons.mpr ⟨am_e9, List.forall_mem_cons.mpr ⟨am_e10, List.forall_mem_cons.mpr ⟨am_e11, List.forall_mem_cons.mpr ⟨am_e12, List.forall_mem_cons.mpr ⟨am_e13, List.forall_mem_cons.mpr ⟨am_e14, List.forall_mem_cons.mpr ⟨am_e15, List.forall_mem_cons.mpr ⟨am_e16, List.forall_mem_cons.mpr ⟨am_e17, List.forall_mem_cons.mpr ⟨am_e18, List.forall_mem_cons.mpr ⟨am_e19, List.forall_mem_cons.mpr ⟨am_e20, List.forall_mem_cons.mpr ⟨am_e21, List.forall_mem_cons.mpr ⟨am_e22, List.forall_mem_cons.mpr ⟨am_e23, fun _ h => absurd h List.not_mem_nil⟩⟩⟩⟩⟩⟩⟩⟩⟩⟩⟩⟩⟩⟩⟩⟩⟩⟩⟩⟩⟩⟩⟩⟩
def am_zl1 : List (am_M × List (List (Nat × Instr × Nat))) := [(am_m24, am_c24), (am_m25, am_c25), (am_m26, am_c26), (am_m27, am_c27), (am_m28, am_c28), (am_m29, am_c29), (am_m30, am_c30), (am_m31, am_c31), (am_m32, am_c32), (am_m33, am_c33), (am_m34, am_c34), (am_m35, am_c35), (am_m36, am_c36), (am_m37, am_c37), (am_m38, am_c38), (am_m39, am_c39), (am_m40, am_c40), (am_m41, am_c41), (am_m42, am_c42), (am_m43, am_c43), (am_m44, am_c44), (am_m45, am_c45), (am_m46, am_c46), (am_m47, am_c47)]
theorem am_za1 : ∀ x ∈ am_zl1, am_dch x.2 (am_wb x.1.2.1) := List.forall_mem_cons.mpr ⟨am_e24, List.forall_mem_cons.mpr ⟨am_e25, List.forall_mem_cons.mpr ⟨am_e26, List.forall_mem_cons.mpr ⟨am_e27, List.forall_mem_cons.mpr ⟨am_e28, List.forall_mem_cons.mpr ⟨am_e29, List.forall_mem_cons.mpr ⟨am_e30, List.forall_mem_cons.mpr ⟨am_e31, List.forall_mem_cons.mpr ⟨am_e32, List.forall_mem_cons.mpr ⟨am_e33, List.forall_mem_cons.mpr ⟨am_e34, List.forall_mem_cons.mpr ⟨am_e35, List.forall_mem_cons.mpr ⟨am_e36, List.forall_mem_cons.mpr ⟨am_e37, List.forall_mem_cons.mpr ⟨am_e38, List.forall_mem_cons.mpr ⟨am_e39, List.forall_mem_cons.mpr ⟨am_e40, List.forall_mem_cons.mpr ⟨am_e41, List.forall_mem_cons.mpr ⟨am_e42, List.forall_mem_cons.mpr ⟨am_e43, List.forall_mem_cons.mpr ⟨am_e44, List.forall_mem_cons.mpr ⟨am_e45, List.forall_mem_cons.mpr ⟨am_e46, List.forall_mem_cons.mpr ⟨am_e47, fun _ h => absurd h List.not_mem_nil⟩⟩⟩⟩⟩⟩⟩⟩⟩⟩⟩⟩⟩⟩⟩⟩⟩⟩⟩⟩⟩⟩⟩⟩
def am_zl2 : List (am_M × List (List (Nat × Instr × Nat))) := [(am_m48, am_c48), (am_m49, am_c49), (am_m50, am_c50), (am_m51, am_c51), (am_m52, am_c52), (am_m53, am_c53), (am_m54, am_c54), (am_m55, am_c55), (am_m56, am_c56), (am_m57, am_c57), (am_m58, am_c58), (am_m59, am_c59), (am_m60, am_c60), (am_m61, am_c61), (am_m62, am_c62), (am_m63, am_c63), (am_m64, am_c64), (am_m65, am_c65), (am_m66, am_c66), (am_m67, am_c67), (am_m68, am_c68), (am_m69, am_c69), (am_m70, am_c70), (am_m71, am_c71)]
theorem am_za2 : ∀ x ∈ am_zl2, am_dch x.2 (am_wb x.1.2.1) := List.forall_mem_cons.mpr ⟨am_e48, List.forall_mem_cons.mpr ⟨am_e49, List.forall_mem_cons.mpr ⟨am_e50, List.forall_mem_cons.mpr ⟨am_e51, List.forall_mem_cons.mpr ⟨am_e52, List.forall_mem_cons.mpr ⟨am_e53, List.forall_mem_cons.mpr ⟨am_e54, List.forall_mem_cons.mpr ⟨am_e55, List.forall_mem_cons.mpr ⟨am_e56, List.forall_mem_cons.mpr ⟨am_e57, List.forall_mem_cons.mpr ⟨am_e58, List.forall_mem_cons.mpr ⟨am_e59, List.forall_mem_cons.mpr ⟨am_e60, List.forall_mem_cons.mpr ⟨am_e61, List.forall_mem_cons.mpr ⟨am_e62, List.forall_mem_cons.mpr ⟨am_e63, List.forall_mem_cons.mpr ⟨am_e64, List.forall_mem_cons.mpr ⟨am_e65, List.forall_mem_cons.mpr ⟨am_e66, List.forall_mem_cons.mpr ⟨am_e67, List.forall_mem_cons.mpr ⟨am_e68, List.forall_mem_cons.mpr ⟨am_e69, List.forall_mem_cons.mpr ⟨am_e70, List.forall_mem_cons.mpr ⟨am_e71, fun _ h => absurd h List.not_mem_nil⟩⟩⟩⟩⟩⟩⟩⟩⟩⟩⟩⟩⟩⟩⟩⟩⟩⟩⟩⟩⟩⟩⟩⟩
def am_zl3 : List (am_M × List (List (Nat × Instr × Nat))) := [(am_m72, am_c72), (am_m73, am_c73), (am_m74, am_c74), (am_m75, am_c75), (am_m76, am_c76), (am_m77, am_c77), (am_m78, am_c78), (am_m79, am_c79), (am_m80, am_c80), (am_m81, am_c81), (am_m82, am_c82), (am_m83, am_c83), (am_m84, am_c84), (am_m85, am_c85), (am_m86, am_c86), (am_m87, am_c87), (am_m88, am_c88), (am_m89, am_c89), (am_m90, am_c90), (am_m91, am_c91), (am_m92, am_c92), (am_m93, am_c93), (am_m94, am_c94), (am_m95, am_c95)]
theorem am_za3 : ∀ x ∈ am_zl3, am_dch x.2 (am_wb x.1.2.1) := List.forall_mem_cons.mpr ⟨am_e72, List.forall_mem_cons.mpr ⟨am_e73, List.forall_mem_cons.mpr ⟨am_e74, List.forall_mem_cons.mpr ⟨am_e75, List.forall_mem_cons.mpr ⟨am_e76, List.forall_mem_cons.mpr ⟨am_e77, List.forall_mem_cons.mpr ⟨am_e78, List.forall_mem_cons.mpr ⟨am_e79, List.forall_mem_cons.mpr ⟨am_e80, List.forall_mem_cons.mpr ⟨am_e81, List.forall_mem_cons.mpr ⟨am_e82, List.forall_mem_cons.mpr ⟨am_e83, List.forall_mem_cons.mpr ⟨am_e84, List.forall_mem_cons.mpr ⟨am_e85, List.forall_mem_cons.mpr ⟨am_e86, List.forall_mem_cons.mpr ⟨am_e87, List.forall_mem_cons.mpr ⟨am_e88, List.forall_mem_cons.mpr ⟨am_e89, List.forall_mem_cons.mpr ⟨am_e90, List.forall_mem_cons.mpr ⟨am_e91, List.forall_mem_cons.mpr ⟨am_e92, List.forall_mem_cons.mpr ⟨am_e93, List.forall_mem_cons.mpr ⟨am_e94, List.forall_mem_cons.mpr ⟨am_e95, fun _ h => absurd h List.not_mem_nil⟩⟩⟩⟩⟩⟩⟩⟩⟩⟩⟩⟩⟩⟩⟩⟩⟩⟩⟩⟩⟩⟩⟩⟩
def am_zl4 : List (am_M × List (List (Nat × Instr × Nat))) := [(am_m96, am_c96), (am_m97, am_c97), (am_m98, am_c98), (am_m99, am_c99), (am_m100, am_c100), (am_m101, am_c101), (am_m102, am_c102), (am_m103, am_c103), (am_m104, am_c104), (am_m105, am_c105), (am_m106, am_c106), (am_m107, am_c107), (am_m108, am_c108), (am_m109, am_c109), (am_m110, am_c110), (am_m111, am_c111), (am_m112, am_c112), (am_m113, am_c113), (am_m114, am_c114), (am_m115, am_c115), (am_m116, am_c116), (am_m117, am_c117), (am_m118, am_c118), (am_m119, am_c119)]
theorem am_za4 : ∀ x ∈ am_zl4, am_dch x.2 (am_wb x.1.2.1) := List.forall_mem_cons.mpr ⟨am_e96, List.forall_mem_cons.mpr ⟨am_e97, List.forall_mem_cons.mpr ⟨am_e98, List.forall_mem_cons.mpr ⟨am_e99, List.forall_mem_cons.mpr ⟨am_e100, List.forall_mem_cons.mpr ⟨am_e101, List.forall_mem_cons.mpr ⟨am_e102, List.forall_mem_cons.mpr ⟨am_e103, List.forall_mem_cons.mpr ⟨am_e104, List.forall_mem_cons.mpr ⟨am_e105, List.forall_mem_cons.mpr ⟨am_e106, List.forall_mem_cons.mpr ⟨am_e107, List.forall_mem_cons.mpr ⟨am_e108, List.forall_mem_cons.mpr ⟨am_e109, List.forall_mem_cons.mpr ⟨am_e110, List.forall_mem_cons.mpr ⟨am_e111, List.forall_mem_cons.mpr ⟨am_e112, List.forall_mem_cons.mpr ⟨am_e113, List.forall_mem_cons.mpr ⟨am_e114, List.forall_mem_cons.mpr ⟨am_e115, List.forall_mem_cons.mpr ⟨am_e116, List.forall_mem_cons.mpr ⟨am_e117, List.forall_mem_cons.mpr ⟨am_e118, List.forall_mem_cons.mpr ⟨am_e119, fun _ h => absurd h List.not_mem_nil⟩⟩⟩⟩⟩⟩⟩⟩⟩⟩⟩⟩⟩⟩⟩⟩⟩⟩⟩⟩⟩⟩⟩⟩
def am_zl5 : List (am_M × List (List (Nat × Instr × Nat))) := [(am_m120, am_c120), (am_m121, am_c121), (am_m122, am_c122), (am_m123, am_c123), (am_m124, am_c124), (am_m125, am_c125), (am_m126, am_c126), (am_m127, am_c127), (am_m128, am_c128), (am_m129, am_c129), (am_m130, am_c130), (am_m131, am_c131), (am_m132, am_c132), (am_m133, am_c133), (am_m134, am_c134), (am_m135, am_c135), (am_m136, am_c136), (am_m137, am_c137), (am_m138, am_c138), (am_m139, am_c139), (am_m140, am_c140), (am_m141, am_c141), (am_m142, am_c142), (am_m143, am_c143)]
theorem am_za5 : ∀ x ∈ am_zl5, am_dch x.2 (am_wb x.1.2.1) := List.forall_mem_cons.mpr ⟨am_e120, List.forall_mem_cons.mpr ⟨am_e121, List.forall_mem_cons.mpr ⟨am_e122, List.forall_mem_cons.mpr ⟨am_e123, List.forall_mem_cons.mpr ⟨am_e124, List.forall_mem_cons.mpr ⟨am_e125, List.forall_mem_cons.mpr ⟨am_e126, List.forall_mem_cons.mpr ⟨am_e127, List.forall_mem_cons.mpr ⟨am_e128, List.forall_mem_cons.mpr ⟨am_e129, List.forall_mem_cons.mpr ⟨am_e130, List.forall_mem_cons.mpr ⟨am_e131, List.forall_mem_cons.mpr ⟨am_e132, List.forall_mem_cons.mpr ⟨am_e133, List.forall_mem_cons.mpr ⟨am_e134, List.forall_mem_cons.mpr ⟨am_e135, List.forall_mem_cons.mpr ⟨am_e136, List.forall_mem_cons.mpr ⟨am_e137, List.forall_mem_cons.mpr ⟨am_e138, List.forall_mem_cons.mpr ⟨am_e139, List.forall_mem_cons.mpr ⟨am_e140, List.forall_mem_cons.mpr ⟨am_e141, List.forall_mem_cons.mpr ⟨am_e142, List.forall_mem_cons.mpr ⟨am_e143, fun _ h => absurd h List.not_mem_nil⟩⟩⟩⟩⟩⟩⟩⟩⟩⟩⟩⟩⟩⟩⟩⟩⟩⟩⟩⟩⟩⟩⟩⟩
def am_zl6 : List (am_M × List (List (Nat × Instr × Nat))) := [(am_m144, am_c144), (am_m145, am_c145), (am_m146, am_c146), (am_m147, am_c147), (am_m148, am_c148), (am_m149, am_c149), (am_m150, am_c150), (am_m151, am_c151), (am_m152, am_c152), (am_m153, am_c153), (am_m154, am_c154), (am_m155, am_c155), (am_m156, am_c156), (am_m157, am_c157), (am_m158, am_c158), (am_m159, am_c159), (am_m160, am_c160), (am_m161, am_c161), (am_m162, am_c162), (am_m163, am_c163), (am_m164, am_c164), (am_m165, am_c165), (am_m166, am_c166), (am_m167, am_c167)]
theorem am_za6 : ∀ x ∈ am_zl6, am_dch x.2 (am_wb x.1.2.1) := List.forall_mem_cons.mpr ⟨am_e144, List.forall_mem_cons.mpr ⟨am_e145, List.forall_mem_cons.mpr ⟨am_e146, List.forall_mem_cons.mpr ⟨am_e147, List.forall_mem_cons.mpr ⟨am_e148, List.forall_mem_cons.mpr ⟨am_e149, List.forall_mem_cons.mpr ⟨am_e150, List.forall_mem_cons.mpr ⟨am_e151, List.forall_mem_cons.mpr ⟨am_e152, List.forall_mem_cons.mpr ⟨am_e153, List.forall_mem_cons.mpr ⟨am_e154, List.forall_mem_cons.mpr ⟨am_e155, List.forall_mem_cons.mpr ⟨am_e156, List.forall_mem_cons.mpr ⟨am_e157, List.forall_mem_cons.mpr ⟨am_e158, List.forall_mem_cons.mpr ⟨am_e159, List.forall_mem_cons.mpr ⟨am_e160, List.forall_mem_cons.mpr ⟨am_e161, List.forall_mem_cons.mpr ⟨am_e162, List.forall_mem_cons.mpr ⟨am_e163, List.forall_mem_cons.mpr ⟨am_e164, List.forall_mem_cons.mpr ⟨am_e165, List.forall_mem_cons.mpr ⟨am_e166, List.forall_mem_cons.mpr ⟨am_e167, fun _ h => absurd h List.not_mem_nil⟩⟩⟩⟩⟩⟩⟩⟩⟩⟩⟩⟩⟩⟩⟩⟩⟩⟩⟩⟩⟩⟩⟩⟩
def am_zl7 : List (am_M × List (List (Nat × Instr × Nat))) := [(am_m168, am_c168), (am_m169, am_c169), (am_m170, am_c170), (am_m171, am_c171), (am_m172, am_c172), (am_m173, am_c173), (am_m174, am_c174), (am_m175, am_c175), (am_m176, am_c176), (am_m177, am_c177), (am_m178, am_c178), (am_m179, am_c179), (am_m180, am_c180), (am_m181, am_c181), (am_m182, am_c182), (am_m183, am_c183), (am_m184, am_c184), (am_m185, am_c185), (am_m186, am_c186), (am_m187, am_c187), (am_m188, am_c188), (am_m189, am_c189), (am_m190, am_c190), (am_m191, am_c191)]
theorem am_za7 : ∀ x ∈ am_zl7, am_dch x.2 (am_wb x.1.2.1) := List.forall_mem_cons.mpr ⟨am_e168, List.forall_mem_cons.mpr ⟨am_e169, List.forall_mem_cons.mpr ⟨am_e170, List.forall_mem_cons.mpr ⟨am_e171, List.forall_mem_cons.mpr ⟨am_e172, List.forall_mem_cons.mpr ⟨am_e173, List.forall_mem_cons.mpr ⟨am_e174, List.forall_mem_cons.mpr ⟨am_e175, List.forall_mem_cons.mpr ⟨am_e176, List.forall_mem_cons.mpr ⟨am_e177, List.forall_mem_cons.mpr ⟨am_e178, List.forall_mem_cons.mpr ⟨am_e179, List.forall_mem_cons.mpr ⟨am_e180, List.forall_mem_cons.mpr ⟨am_e181, List.forall_mem_cons.mpr ⟨am_e182, List.forall_mem_cons.mpr ⟨am_e183, List.forall_mem_cons.mpr ⟨am_e184, List.forall_mem_cons.mpr ⟨am_e185, List.forall_mem_cons.mpr ⟨am_e186, List.forall_mem_cons.mpr ⟨am_e187, List.forall_mem_cons.mpr ⟨am_e188, List.forall_mem_cons.mpr ⟨am_e189, List.forall_mem_cons.mpr ⟨am_e190, List.forall_mem_cons.mpr ⟨am_e191, fun _ h => absurd h List.not_mem_nil⟩⟩⟩⟩⟩⟩⟩⟩⟩⟩⟩⟩⟩⟩⟩⟩⟩⟩⟩⟩⟩⟩⟩⟩
def am_zl8 : List (am_M × List (List (Nat × Instr × Nat))) := [(am_m192, am_c192), (am_m193, am_c193), (am_m194, am_c194), (am_m195, am_c195), (am_m196, am_c196), (am_m197, am_c197), (am_m198, am_c198), (am_m199, am_c199), (am_m200, am_c200), (am_m201, am_c201), (am_m202, am_c202), (am_m203, am_c203), (am_m204, am_c204), (am_m205, am_c205), (am_m206, am_c206), (am_m207, am_c207), (am_m208, am_c208), (am_m209, am_c209), (am_m210, am_c210), (am_m211, am_c211), (am_m212, am_c212), (am_m213, am_c213), (am_m214, am_c214), (am_m215, am_c215)]
theorem am_za8 : ∀ x ∈ am_zl8, am_dch x.2 (am_wb x.1.2.1) := List.forall_mem_cons.mpr ⟨am_e192, List.forall_mem_cons.mpr ⟨am_e193, List.forall_mem_cons.mpr ⟨am_e194, List.forall_mem_cons.mpr ⟨am_e195, List.forall_mem_cons.mpr ⟨am_e196, List.forall_mem_cons.mpr ⟨am_e197, List.forall_mem_cons.mpr ⟨am_e198, List.forall_mem_cons.mpr ⟨am_e199, List.forall_mem_cons.mpr ⟨am_e200, List.forall_mem_cons.mpr ⟨am_e201, List.forall_mem_cons.mpr ⟨am_e202, List.forall_mem_cons.mpr ⟨am_e203, List.forall_mem_cons.mpr ⟨am_e204, List.forall_mem_cons.mpr ⟨am_e205, List.forall_mem_cons.mpr ⟨am_e206, List.forall_mem_cons.mpr ⟨am_e207, List.forall_mem_cons.mpr ⟨am_e208, List.forall_mem_cons.mpr ⟨am_e209, List.forall_mem_cons.mpr ⟨am_e210, List.forall_mem_cons.mpr ⟨am_e211, List.forall_mem_cons.mpr ⟨am_e212, List.forall_mem_cons.mpr ⟨am_e213, List.forall_mem_cons.mpr ⟨am_e214, List.forall_mem_cons.mpr ⟨am_e215, fun _ h => absurd h List.not_mem_nil⟩⟩⟩⟩⟩⟩⟩⟩⟩⟩⟩⟩⟩⟩⟩⟩⟩⟩⟩⟩⟩⟩⟩⟩
def am_zl9 : List (am_M × List (List (Nat × Instr × Nat))) := [(am_m216, am_c216), (am_m217, am_c217), (am_m218, am_c218), (am_m219, am_c219), (am_m220, am_c220), (am_m221, am_c221), (am_m222, am_c222), (am_m223, am_c223), (am_m224, am_c224), (am_m225, am_c225), (am_m226, am_c226), (am_m227, am_c227), (am_m228, am_c228), (am_m229, am_c229), (am_m230, am_c230), (am_m231, am_c231), (am_m232, am_c232), (am_m233, am_c233), (am_m234, am_c234), (am_m235, am_c235), (am_m236, am_c236), (am_m237, am_c237), (am_m238, am_c238), (am_m239, am_c239)]
theorem am_za9 : ∀ x ∈ am_zl9, am_dch x.2 (am_wb x.1.2.1) := List.forall_mem_cons.mpr ⟨am_e216, List.forall_mem_cons.mpr ⟨am_e217, List.forall_mem_cons.mpr ⟨am_e218, List.forall_mem_cons.mpr ⟨am_e219, List.forall_mem_cons.mpr ⟨am_e220, List.forall_mem_cons.mpr ⟨am_e221, List.forall_mem_cons.mpr ⟨am_e222, List.forall_mem_cons.mpr ⟨am_e223, List.forall_mem_cons.mpr ⟨am_e224, List.forall_mem_cons.mpr ⟨am_e225, List.forall_mem_cons.mpr ⟨am_e226, List.forall_mem_cons.mpr ⟨am_e227, List.forall_mem_cons.mpr ⟨am_e228, List.forall_mem_cons.mpr ⟨am_e229, List.forall_mem_cons.mpr ⟨am_e230, List.forall_mem_cons.mpr ⟨am_e231, List.forall_mem_cons.mpr ⟨am_e232, List.forall_mem_cons.mpr ⟨am_e233, List.forall_mem_cons.mpr ⟨am_e234, List.forall_mem_cons.mpr ⟨am_e235, List.forall_mem_cons.mpr ⟨am_e236, List.forall_mem_cons.mpr ⟨am_e237, List.forall_mem_cons.mpr ⟨am_e238, List.forall_mem_cons.mpr ⟨am_e239, fun _ h => absurd h List.not_mem_nil⟩⟩⟩⟩⟩⟩⟩⟩⟩⟩⟩⟩⟩⟩⟩⟩⟩⟩⟩⟩⟩⟩⟩⟩
def am_zl10 : List (am_M × List (List (Nat × Instr × Nat))) := [(am_m240, am_c240), (am_m241, am_c241), (am_m242, am_c242), (am_m243, am_c243), (am_m244, am_c244), (am_m245, am_c245), (am_m246, am_c246), (am_m247, am_c247), (am_m248, am_c248), (am_m249, am_c249), (am_m250, am_c250), (am_m251, am_c251), (am_m252, am_c252), (am_m253, am_c253), (am_m254, am_c254), (am_m255, am_c255), (am_m256, am_c256), (am_m257, am_c257), (am_m258, am_c258), (am_m259, am_c259), (am_m260, am_c260), (am_m261, am_c261), (am_m262, am_c262), (am_m263, am_c263)]
theorem am_za10 : ∀ x ∈ am_zl10, am_dch x.2 (am_wb x.1.2.1) := List.forall_mem_cons.mpr ⟨am_e240, List.forall_mem_cons.mpr ⟨am_e241, List.forall_mem_cons.mpr ⟨am_e242, List.forall_mem_cons.mpr ⟨am_e243, List.forall_mem_cons.mpr ⟨am_e244, List.forall_mem_cons.mpr ⟨am_e245, List.forall_mem_cons.mpr ⟨am_e246, List.forall_mem_cons.mpr ⟨am_e247, List.forall_mem_cons.mpr ⟨am_e248, List.forall_mem_cons.mpr ⟨am_e249, List.forall_mem_cons.mpr ⟨am_e250, List.forall_mem_cons.mpr ⟨am_e251, List.forall_mem_cons.mpr ⟨am_e252, List.forall_mem_cons.mpr ⟨am_e253, List.forall_mem_cons.mpr ⟨am_e254, List.forall_mem_cons.mpr ⟨am_e255, List.forall_mem_cons.mpr ⟨am_e256, List.forall_mem_cons.mpr ⟨am_e257, List.forall_mem_cons.mpr ⟨am_e258, List.forall_mem_cons.mpr ⟨am_e259, List.forall_mem_cons.mpr ⟨am_e260, List.forall_mem_cons.mpr ⟨am_e261, List.forall_mem_cons.mpr ⟨am_e262, List.forall_mem_cons.mpr ⟨am_e263, fun _ h => absurd h List.not_mem_nil⟩⟩⟩⟩⟩⟩⟩⟩⟩⟩⟩⟩⟩⟩⟩⟩⟩⟩⟩⟩⟩⟩⟩⟩
def am_zl11 : List (am_M × List (List (Nat × Instr × Nat))) := [(am_m264, am_c264), (am_m265, am_c265), (am_m266, am_c266), (am_m267, am_c267), (am_m268, am_c268), (am_m269, am_c269), (am_m270, am_c270), (am_m271, am_c271), (am_m272, am_c272), (am_m273, am_c273), (am_m274, am_c274), (am_m275, am_c275), (am_m276, am_c276), (am_m277, am_c277), (am_m278, am_c278), (am_m279, am_c279), (am_m280, am_c280), (am_m281, am_c281), (am_m282, am_c282), (am_m283, am_c283), (am_m284, am_c284), (am_m285, am_c285), (am_m286, am_c286), (am_m287, am_c287)]
theorem am_za11 : ∀ x ∈ am_zl11, am_dch x.2 (am_wb x.1.2.1) := List.forall_mem_cons.mpr ⟨am_e264, List.forall_mem_cons.mpr ⟨am_e265, List.forall_mem_cons.mpr ⟨am_e266, List.forall_mem_cons.mpr ⟨am_e267, List.forall_mem_cons.mpr ⟨am_e268, List.forall_mem_cons.mpr ⟨am_e269, List.forall_mem_cons.mpr ⟨am_e270, List.forall_mem_cons.mpr ⟨am_e271, List.forall_mem_cons.mpr ⟨am_e272, List.forall_mem_cons.mpr ⟨am_e273, List.forall_mem_cons.mpr ⟨am_e274, List.forall_mem_cons.mpr ⟨am_e275, List.forall_mem_cons.mpr ⟨am_e276, List.forall_mem_cons.mpr ⟨am_e277, List.forall_mem_cons.mpr ⟨am_e278, List.forall_mem_cons.mpr ⟨am_e279, List.forall_mem_cons.mpr ⟨am_e280, List.forall_mem_cons.mpr ⟨am_e281, List.forall_mem_cons.mpr ⟨am_e282, List.forall_mem_cons.mpr ⟨am_e283, List.forall_mem_cons.mpr ⟨am_e284, List.forall_mem_cons.mpr ⟨am_e285, List.forall_mem_cons.mpr ⟨am_e286, List.forall_mem_cons.mpr ⟨am_e287, fun _ h => absurd h List.not_mem_nil⟩⟩⟩⟩⟩⟩⟩⟩⟩⟩⟩⟩⟩⟩⟩⟩⟩⟩⟩⟩⟩⟩⟩⟩
def am_zz : List (am_M × List (List (Nat × Instr × Nat))) := am_zl0 ++ (am_zl1 ++ (am_zl2 ++ (am_zl3 ++ (am_zl4 ++ (am_zl5 ++ (am_zl6 ++ (am_zl7 ++ (am_zl8 ++ (am_zl9 ++ (am_zl10 ++ (am_zl11)))))))))))
theorem am_zza : ∀ x ∈ am_zz, am_dch x.2 (am_wb x.1.2.1) := List.forall_mem_append.mpr ⟨am_za0, List.forall_mem_append.mpr ⟨am_za1, List.forall_mem_append.mpr ⟨am_za2, List.forall_mem_append.mpr ⟨am_za3, List.forall_mem_append.mpr ⟨am_za4, List.forall_mem_append.mpr ⟨am_za5, List.forall_mem_append.mpr ⟨am_za6, List.forall_mem_append.mpr ⟨am_za7, List.forall_mem_append.mpr ⟨am_za8, List.forall_mem_append.mpr ⟨am_za9, List.forall_mem_append.mpr ⟨am_za10, am_za11⟩⟩⟩⟩⟩⟩⟩⟩⟩⟩⟩
set_option maxRecDepth 100000 in
theorem am_zz_eq : am_zz = am_me.zip am_co := rfl
theorem am_code_ok (mn : Nat) (q : am_M) (hq : am_me[mn]? = some q) : am_dch (am_co.getD mn []) (am_wb q.2.1) := by
  have hl : mn < 288 := by rw [← am_me_len]; exact (List.getElem?_eq_some_iff.mp hq).1
  have hc : am_co[mn]? = some (am_co.getD mn []) := by
    have h2 : am_co.length = 289 := by decide +kernel
    rw [List.getD_eq_getElem?_getD, List.getElem?_eq_getElem (by omega)]
    rfl
  have h1 : am_zz[mn]? = some (q, am_co.getD mn []) := by rw [am_zz_eq, List.getElem?_zip_eq_some]; exact ⟨hq, hc⟩
  exact am_zza _ (List.mem_of_getElem? h1)

