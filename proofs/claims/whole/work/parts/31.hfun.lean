/-! Heaps by functions: every int of every cell is I cell place, every long J cell place, the few references that change R cell place; the shape is fixed. -/
abbrev am_SH : Type := (FieldType × Bool × Nat) ⊕ ((Nat × List Value) ⊕ List (Option Nat))
abbrev hI : Type := Nat → Nat → Int32
abbrev hJ : Type := Nat → Nat → Int64
abbrev hR : Type := Nat → Nat → Nat
def am_fv (I : hI) (J : hJ) (R : hR) (a k : Nat) (v : Value) : Value := match v with
  | .int _ => .int (I a k)
  | .long _ => .long (J a k)
  | .retAddr _ => .ref (R a k)
  | v => v
def am_cell (I : hI) (J : hJ) (R : hR) (a : Nat) (s : am_SH) : am_E := match s with
  | .inl (t, false, n) => .inl (t, .inl ((List.range n).map (I a)))
  | .inl (t, true, n) => .inl (t, .inr (.inl ((List.range n).map (J a))))
  | .inr (.inl (c, ts)) => .inr (c, ts.mapIdx (am_fv I J R a))
  | .inr (.inr l) => .inl (.object "RopeWalk$Law", .inr (.inr l))
def am_shL : List am_SH := [.inr (.inl (11, [.ref 1, .int 0, .ref 2, .retAddr 0, .int 0, .int 0, .ref 63, .ref 70, .ref 77, .int 0, .ref 84, .ref 88, .ref 96, .ref 102, .ref 109])),
  .inl (.int, false, 700),
  .inr (.inl (8, [.ref 3, .ref 6, .retAddr 0, .int 0, .int 0])),
  .inr (.inl (9, [.ref 4, .retAddr 0, .int 0, .int 0, .int 0, .int 0, .int 0, .int 0, .int 0])),
  .inl (.int, false, 21),
  .inl (.int, false, 0),
  .inr (.inl (4, [.ref 7, .ref 8, .int 0, .int 0, .int 0, .int 0, .int 0])),
  .inl (.int, false, 72),
  .inl (.int, false, 72),
  .inr (.inl (10, [.int 0, .ref 10, .ref 12, .ref 13, .ref 14, .ref 16, .ref 17, .ref 18, .ref 19, .ref 20, .ref 22, .int 0, .ref 23, .ref 24, .ref 25, .int 0, .int 0, .int 0, .ref 26])),
  .inr (.inl (5, [.ref 11, .int 0])),
  .inl (.int, false, 6),
  .inl (.int, false, 6),
  .inl (.int, false, 6),
  .inr (.inl (5, [.ref 15, .int 0])),
  .inl (.int, false, 8),
  .inl (.int, false, 8),
  .inl (.int, false, 8),
  .inl (.int, false, 8),
  .inl (.int, false, 8),
  .inr (.inl (5, [.ref 21, .int 0])),
  .inl (.int, false, 5),
  .inl (.int, false, 5),
  .inl (.int, false, 10),
  .inl (.int, false, 10),
  .inl (.int, false, 10),
  .inr (.inr [some 27, some 30, some 33]),
  .inr (.inl (3, [.int 0, .ref 28, .ref 29])),
  .inl (.int, false, 64),
  .inl (.int, false, 64),
  .inr (.inl (3, [.int 0, .ref 31, .ref 32])),
  .inl (.int, false, 64),
  .inl (.int, false, 64),
  .inr (.inl (3, [.int 0, .ref 34, .ref 35])),
  .inl (.int, false, 64),
  .inl (.int, false, 64),
  .inr (.inl (10, [.int 0, .ref 37, .ref 39, .ref 40, .ref 41, .ref 43, .ref 44, .ref 45, .ref 46, .ref 47, .ref 49, .int 0, .ref 50, .ref 51, .ref 52, .int 0, .int 0, .int 0, .ref 53])),
  .inr (.inl (5, [.ref 38, .int 0])),
  .inl (.int, false, 6),
  .inl (.int, false, 6),
  .inl (.int, false, 6),
  .inr (.inl (5, [.ref 42, .int 0])),
  .inl (.int, false, 8),
  .inl (.int, false, 8),
  .inl (.int, false, 8),
  .inl (.int, false, 8),
  .inl (.int, false, 8),
  .inr (.inl (5, [.ref 48, .int 0])),
  .inl (.int, false, 5),
  .inl (.int, false, 5),
  .inl (.int, false, 10),
  .inl (.int, false, 10),
  .inl (.int, false, 10),
  .inr (.inr [some 54, some 57, some 60]),
  .inr (.inl (3, [.int 0, .ref 55, .ref 56])),
  .inl (.int, false, 64),
  .inl (.int, false, 64),
  .inr (.inl (3, [.int 0, .ref 58, .ref 59])),
  .inl (.int, false, 64),
  .inl (.int, false, 64),
  .inr (.inl (3, [.int 0, .ref 61, .ref 62])),
  .inl (.int, false, 64),
  .inl (.int, false, 64),
  .inr (.inl (7, [.int 0, .long 0, .int 0, .ref 64, .ref 65, .ref 66, .ref 67, .ref 68, .ref 69])),
  .inl (.int, false, 8),
  .inl (.int, false, 8),
  .inl (.int, false, 8),
  .inl (.int, false, 5),
  .inl (.int, false, 5),
  .inl (.int, false, 5),
  .inr (.inl (7, [.int 0, .long 0, .int 0, .ref 71, .ref 72, .ref 73, .ref 74, .ref 75, .ref 76])),
  .inl (.int, false, 8),
  .inl (.int, false, 8),
  .inl (.int, false, 8),
  .inl (.int, false, 5),
  .inl (.int, false, 5),
  .inl (.int, false, 5),
  .inr (.inl (7, [.int 0, .long 0, .int 0, .ref 78, .ref 79, .ref 80, .ref 81, .ref 82, .ref 83])),
  .inl (.int, false, 8),
  .inl (.int, false, 8),
  .inl (.int, false, 8),
  .inl (.int, false, 5),
  .inl (.int, false, 5),
  .inl (.int, false, 5),
  .inr (.inl (2, [.ref 85, .ref 86, .ref 87, .retAddr 0, .int 0, .int 0, .int 0, .int 0, .int 0, .int 0, .int 0, .int 0, .int 0])),
  .inl (.long, true, 7),
  .inl (.long, true, 64),
  .inl (.int, false, 10),
  .inr (.inl (6, [.int 0, .int 0, .ref 89, .ref 90, .ref 91, .ref 92, .ref 93, .ref 94, .ref 95])),
  .inl (.int, false, 24),
  .inl (.int, false, 24),
  .inl (.boolean, false, 24),
  .inl (.int, false, 24),
  .inl (.boolean, false, 24),
  .inl (.boolean, false, 6),
  .inl (.int, false, 300),
  .inr (.inl (1, [.int 0, .ref 97, .ref 98, .ref 99, .ref 100, .ref 101])),
  .inl (.int, false, 20),
  .inl (.int, false, 20),
  .inl (.int, false, 20),
  .inl (.int, false, 20),
  .inl (.int, false, 20),
  .inr (.inl (0, [.ref 103, .ref 104, .int 0, .ref 105, .ref 106, .int 0, .ref 107, .ref 108, .int 0, .int 0, .int 0, .int 0])),
  .inl (.int, false, 5),
  .inl (.int, false, 5),
  .inl (.int, false, 5),
  .inl (.int, false, 5),
  .inl (.int, false, 5),
  .inl (.int, false, 5),
  .inl (.boolean, false, 1024),
  .inr (.inl (12, [.ref 111, .int 0, .int 0, .ref 112, .int 0, .int 0, .int 0, .int 0, .int 0, .int 0, .int 0, .int 0, .int 0, .int 0, .int 0, .int 0, .int 0, .int 0, .int 0, .int 0, .int 0, .int 0, .ref 113, .ref 114, .ref 115, .ref 116, .ref 117, .ref 118, .ref 119, .ref 120, .ref 121, .ref 122, .ref 123, .ref 124, .ref 125, .ref 126, .ref 127, .ref 128, .ref 129, .ref 130, .ref 131, .ref 132, .ref 133, .ref 134, .ref 135, .int 0, .int 0, .int 0, .int 0, .int 0, .int 0, .ref 136, .ref 137, .int 0, .ref 138, .ref 139, .ref 140, .ref 141, .ref 142, .ref 143, .ref 144, .ref 145, .long 0, .int 0, .int 0, .int 0, .int 0, .int 0, .int 0, .int 0, .int 0, .int 0, .int 0, .ref 146, .int 0, .ref 147, .ref 148, .int 0, .int 0, .int 0, .int 0, .ref 149, .ref 150, .ref 151, .int 0, .ref 152, .int 0, .ref 153, .ref 154, .long 0])),
  .inl (.int, false, 700),
  .inl (.int, false, 106),
  .inl (.boolean, false, 2),
  .inl (.int, false, 4),
  .inl (.int, false, 12),
  .inl (.int, false, 12),
  .inl (.int, false, 12),
  .inl (.int, false, 16),
  .inl (.int, false, 16),
  .inl (.int, false, 16),
  .inl (.int, false, 16),
  .inl (.int, false, 16),
  .inl (.int, false, 10),
  .inl (.int, false, 10),
  .inl (.int, false, 20),
  .inl (.int, false, 20),
  .inl (.int, false, 20),
  .inl (.boolean, false, 6),
  .inl (.int, false, 6),
  .inl (.int, false, 6),
  .inl (.int, false, 128),
  .inl (.int, false, 128),
  .inl (.int, false, 128),
  .inl (.int, false, 96),
  .inl (.int, false, 96),
  .inl (.long, true, 7),
  .inl (.long, true, 64),
  .inl (.int, false, 16),
  .inl (.int, false, 16),
  .inl (.int, false, 16),
  .inl (.int, false, 10),
  .inl (.int, false, 10),
  .inl (.int, false, 10),
  .inl (.int, false, 2),
  .inl (.int, false, 2),
  .inl (.int, false, 5),
  .inl (.int, false, 5),
  .inl (.int, false, 5),
  .inl (.int, false, 72),
  .inl (.boolean, false, 24),
  .inl (.int, false, 5),
  .inl (.int, false, 680),
  .inl (.int, false, 34),
  .inl (.int, false, 7),
  .inl (.long, true, 1)]
theorem sp0 : am_shL[0]? = some (.inr (.inl (11, [.ref 1, .int 0, .ref 2, .retAddr 0, .int 0, .int 0, .ref 63, .ref 70, .ref 77, .int 0, .ref 84, .ref 88, .ref 96, .ref 102, .ref 109]))) := rfl
theorem sp1 : am_shL[1]? = some (.inl (.int, false, 700)) := rfl
theorem sp2 : am_shL[2]? = some (.inr (.inl (8, [.ref 3, .ref 6, .retAddr 0, .int 0, .int 0]))) := rfl
theorem sp3 : am_shL[3]? = some (.inr (.inl (9, [.ref 4, .retAddr 0, .int 0, .int 0, .int 0, .int 0, .int 0, .int 0, .int 0]))) := rfl
theorem sp4 : am_shL[4]? = some (.inl (.int, false, 21)) := rfl
theorem sp5 : am_shL[5]? = some (.inl (.int, false, 0)) := rfl
theorem sp6 : am_shL[6]? = some (.inr (.inl (4, [.ref 7, .ref 8, .int 0, .int 0, .int 0, .int 0, .int 0]))) := rfl
theorem sp7 : am_shL[7]? = some (.inl (.int, false, 72)) := rfl
theorem sp8 : am_shL[8]? = some (.inl (.int, false, 72)) := rfl
theorem sp9 : am_shL[9]? = some (.inr (.inl (10, [.int 0, .ref 10, .ref 12, .ref 13, .ref 14, .ref 16, .ref 17, .ref 18, .ref 19, .ref 20, .ref 22, .int 0, .ref 23, .ref 24, .ref 25, .int 0, .int 0, .int 0, .ref 26]))) := rfl
theorem sp10 : am_shL[10]? = some (.inr (.inl (5, [.ref 11, .int 0]))) := rfl
theorem sp11 : am_shL[11]? = some (.inl (.int, false, 6)) := rfl
theorem sp12 : am_shL[12]? = some (.inl (.int, false, 6)) := rfl
theorem sp13 : am_shL[13]? = some (.inl (.int, false, 6)) := rfl
theorem sp14 : am_shL[14]? = some (.inr (.inl (5, [.ref 15, .int 0]))) := rfl
theorem sp15 : am_shL[15]? = some (.inl (.int, false, 8)) := rfl
theorem sp16 : am_shL[16]? = some (.inl (.int, false, 8)) := rfl
theorem sp17 : am_shL[17]? = some (.inl (.int, false, 8)) := rfl
theorem sp18 : am_shL[18]? = some (.inl (.int, false, 8)) := rfl
theorem sp19 : am_shL[19]? = some (.inl (.int, false, 8)) := rfl
theorem sp20 : am_shL[20]? = some (.inr (.inl (5, [.ref 21, .int 0]))) := rfl
theorem sp21 : am_shL[21]? = some (.inl (.int, false, 5)) := rfl
theorem sp22 : am_shL[22]? = some (.inl (.int, false, 5)) := rfl
theorem sp23 : am_shL[23]? = some (.inl (.int, false, 10)) := rfl
theorem sp24 : am_shL[24]? = some (.inl (.int, false, 10)) := rfl
theorem sp25 : am_shL[25]? = some (.inl (.int, false, 10)) := rfl
theorem sp26 : am_shL[26]? = some (.inr (.inr [some 27, some 30, some 33])) := rfl
theorem sp27 : am_shL[27]? = some (.inr (.inl (3, [.int 0, .ref 28, .ref 29]))) := rfl
theorem sp28 : am_shL[28]? = some (.inl (.int, false, 64)) := rfl
theorem sp29 : am_shL[29]? = some (.inl (.int, false, 64)) := rfl
theorem sp30 : am_shL[30]? = some (.inr (.inl (3, [.int 0, .ref 31, .ref 32]))) := rfl
theorem sp31 : am_shL[31]? = some (.inl (.int, false, 64)) := rfl
theorem sp32 : am_shL[32]? = some (.inl (.int, false, 64)) := rfl
theorem sp33 : am_shL[33]? = some (.inr (.inl (3, [.int 0, .ref 34, .ref 35]))) := rfl
theorem sp34 : am_shL[34]? = some (.inl (.int, false, 64)) := rfl
theorem sp35 : am_shL[35]? = some (.inl (.int, false, 64)) := rfl
theorem sp36 : am_shL[36]? = some (.inr (.inl (10, [.int 0, .ref 37, .ref 39, .ref 40, .ref 41, .ref 43, .ref 44, .ref 45, .ref 46, .ref 47, .ref 49, .int 0, .ref 50, .ref 51, .ref 52, .int 0, .int 0, .int 0, .ref 53]))) := rfl
theorem sp37 : am_shL[37]? = some (.inr (.inl (5, [.ref 38, .int 0]))) := rfl
theorem sp38 : am_shL[38]? = some (.inl (.int, false, 6)) := rfl
theorem sp39 : am_shL[39]? = some (.inl (.int, false, 6)) := rfl
theorem sp40 : am_shL[40]? = some (.inl (.int, false, 6)) := rfl
theorem sp41 : am_shL[41]? = some (.inr (.inl (5, [.ref 42, .int 0]))) := rfl
theorem sp42 : am_shL[42]? = some (.inl (.int, false, 8)) := rfl
theorem sp43 : am_shL[43]? = some (.inl (.int, false, 8)) := rfl
theorem sp44 : am_shL[44]? = some (.inl (.int, false, 8)) := rfl
theorem sp45 : am_shL[45]? = some (.inl (.int, false, 8)) := rfl
theorem sp46 : am_shL[46]? = some (.inl (.int, false, 8)) := rfl
theorem sp47 : am_shL[47]? = some (.inr (.inl (5, [.ref 48, .int 0]))) := rfl
theorem sp48 : am_shL[48]? = some (.inl (.int, false, 5)) := rfl
theorem sp49 : am_shL[49]? = some (.inl (.int, false, 5)) := rfl
theorem sp50 : am_shL[50]? = some (.inl (.int, false, 10)) := rfl
theorem sp51 : am_shL[51]? = some (.inl (.int, false, 10)) := rfl
theorem sp52 : am_shL[52]? = some (.inl (.int, false, 10)) := rfl
theorem sp53 : am_shL[53]? = some (.inr (.inr [some 54, some 57, some 60])) := rfl
theorem sp54 : am_shL[54]? = some (.inr (.inl (3, [.int 0, .ref 55, .ref 56]))) := rfl
theorem sp55 : am_shL[55]? = some (.inl (.int, false, 64)) := rfl
theorem sp56 : am_shL[56]? = some (.inl (.int, false, 64)) := rfl
theorem sp57 : am_shL[57]? = some (.inr (.inl (3, [.int 0, .ref 58, .ref 59]))) := rfl
theorem sp58 : am_shL[58]? = some (.inl (.int, false, 64)) := rfl
theorem sp59 : am_shL[59]? = some (.inl (.int, false, 64)) := rfl
theorem sp60 : am_shL[60]? = some (.inr (.inl (3, [.int 0, .ref 61, .ref 62]))) := rfl
theorem sp61 : am_shL[61]? = some (.inl (.int, false, 64)) := rfl
theorem sp62 : am_shL[62]? = some (.inl (.int, false, 64)) := rfl
theorem sp63 : am_shL[63]? = some (.inr (.inl (7, [.int 0, .long 0, .int 0, .ref 64, .ref 65, .ref 66, .ref 67, .ref 68, .ref 69]))) := rfl
theorem sp64 : am_shL[64]? = some (.inl (.int, false, 8)) := rfl
theorem sp65 : am_shL[65]? = some (.inl (.int, false, 8)) := rfl
theorem sp66 : am_shL[66]? = some (.inl (.int, false, 8)) := rfl
theorem sp67 : am_shL[67]? = some (.inl (.int, false, 5)) := rfl
theorem sp68 : am_shL[68]? = some (.inl (.int, false, 5)) := rfl
theorem sp69 : am_shL[69]? = some (.inl (.int, false, 5)) := rfl
theorem sp70 : am_shL[70]? = some (.inr (.inl (7, [.int 0, .long 0, .int 0, .ref 71, .ref 72, .ref 73, .ref 74, .ref 75, .ref 76]))) := rfl
theorem sp71 : am_shL[71]? = some (.inl (.int, false, 8)) := rfl
theorem sp72 : am_shL[72]? = some (.inl (.int, false, 8)) := rfl
theorem sp73 : am_shL[73]? = some (.inl (.int, false, 8)) := rfl
theorem sp74 : am_shL[74]? = some (.inl (.int, false, 5)) := rfl
theorem sp75 : am_shL[75]? = some (.inl (.int, false, 5)) := rfl
theorem sp76 : am_shL[76]? = some (.inl (.int, false, 5)) := rfl
theorem sp77 : am_shL[77]? = some (.inr (.inl (7, [.int 0, .long 0, .int 0, .ref 78, .ref 79, .ref 80, .ref 81, .ref 82, .ref 83]))) := rfl
theorem sp78 : am_shL[78]? = some (.inl (.int, false, 8)) := rfl
theorem sp79 : am_shL[79]? = some (.inl (.int, false, 8)) := rfl
theorem sp80 : am_shL[80]? = some (.inl (.int, false, 8)) := rfl
theorem sp81 : am_shL[81]? = some (.inl (.int, false, 5)) := rfl
theorem sp82 : am_shL[82]? = some (.inl (.int, false, 5)) := rfl
theorem sp83 : am_shL[83]? = some (.inl (.int, false, 5)) := rfl
theorem sp84 : am_shL[84]? = some (.inr (.inl (2, [.ref 85, .ref 86, .ref 87, .retAddr 0, .int 0, .int 0, .int 0, .int 0, .int 0, .int 0, .int 0, .int 0, .int 0]))) := rfl
theorem sp85 : am_shL[85]? = some (.inl (.long, true, 7)) := rfl
theorem sp86 : am_shL[86]? = some (.inl (.long, true, 64)) := rfl
theorem sp87 : am_shL[87]? = some (.inl (.int, false, 10)) := rfl
theorem sp88 : am_shL[88]? = some (.inr (.inl (6, [.int 0, .int 0, .ref 89, .ref 90, .ref 91, .ref 92, .ref 93, .ref 94, .ref 95]))) := rfl
theorem sp89 : am_shL[89]? = some (.inl (.int, false, 24)) := rfl
theorem sp90 : am_shL[90]? = some (.inl (.int, false, 24)) := rfl
theorem sp91 : am_shL[91]? = some (.inl (.boolean, false, 24)) := rfl
theorem sp92 : am_shL[92]? = some (.inl (.int, false, 24)) := rfl
theorem sp93 : am_shL[93]? = some (.inl (.boolean, false, 24)) := rfl
theorem sp94 : am_shL[94]? = some (.inl (.boolean, false, 6)) := rfl
theorem sp95 : am_shL[95]? = some (.inl (.int, false, 300)) := rfl
theorem sp96 : am_shL[96]? = some (.inr (.inl (1, [.int 0, .ref 97, .ref 98, .ref 99, .ref 100, .ref 101]))) := rfl
theorem sp97 : am_shL[97]? = some (.inl (.int, false, 20)) := rfl
theorem sp98 : am_shL[98]? = some (.inl (.int, false, 20)) := rfl
theorem sp99 : am_shL[99]? = some (.inl (.int, false, 20)) := rfl
theorem sp100 : am_shL[100]? = some (.inl (.int, false, 20)) := rfl
theorem sp101 : am_shL[101]? = some (.inl (.int, false, 20)) := rfl
theorem sp102 : am_shL[102]? = some (.inr (.inl (0, [.ref 103, .ref 104, .int 0, .ref 105, .ref 106, .int 0, .ref 107, .ref 108, .int 0, .int 0, .int 0, .int 0]))) := rfl
theorem sp103 : am_shL[103]? = some (.inl (.int, false, 5)) := rfl
theorem sp104 : am_shL[104]? = some (.inl (.int, false, 5)) := rfl
theorem sp105 : am_shL[105]? = some (.inl (.int, false, 5)) := rfl
theorem sp106 : am_shL[106]? = some (.inl (.int, false, 5)) := rfl
theorem sp107 : am_shL[107]? = some (.inl (.int, false, 5)) := rfl
theorem sp108 : am_shL[108]? = some (.inl (.int, false, 5)) := rfl
theorem sp109 : am_shL[109]? = some (.inl (.boolean, false, 1024)) := rfl
theorem sp110 : am_shL[110]? = some (.inr (.inl (12, [.ref 111, .int 0, .int 0, .ref 112, .int 0, .int 0, .int 0, .int 0, .int 0, .int 0, .int 0, .int 0, .int 0, .int 0, .int 0, .int 0, .int 0, .int 0, .int 0, .int 0, .int 0, .int 0, .ref 113, .ref 114, .ref 115, .ref 116, .ref 117, .ref 118, .ref 119, .ref 120, .ref 121, .ref 122, .ref 123, .ref 124, .ref 125, .ref 126, .ref 127, .ref 128, .ref 129, .ref 130, .ref 131, .ref 132, .ref 133, .ref 134, .ref 135, .int 0, .int 0, .int 0, .int 0, .int 0, .int 0, .ref 136, .ref 137, .int 0, .ref 138, .ref 139, .ref 140, .ref 141, .ref 142, .ref 143, .ref 144, .ref 145, .long 0, .int 0, .int 0, .int 0, .int 0, .int 0, .int 0, .int 0, .int 0, .int 0, .int 0, .ref 146, .int 0, .ref 147, .ref 148, .int 0, .int 0, .int 0, .int 0, .ref 149, .ref 150, .ref 151, .int 0, .ref 152, .int 0, .ref 153, .ref 154, .long 0]))) := rfl
theorem sp111 : am_shL[111]? = some (.inl (.int, false, 700)) := rfl
theorem sp112 : am_shL[112]? = some (.inl (.int, false, 106)) := rfl
theorem sp113 : am_shL[113]? = some (.inl (.boolean, false, 2)) := rfl
theorem sp114 : am_shL[114]? = some (.inl (.int, false, 4)) := rfl
theorem sp115 : am_shL[115]? = some (.inl (.int, false, 12)) := rfl
theorem sp116 : am_shL[116]? = some (.inl (.int, false, 12)) := rfl
theorem sp117 : am_shL[117]? = some (.inl (.int, false, 12)) := rfl
theorem sp118 : am_shL[118]? = some (.inl (.int, false, 16)) := rfl
theorem sp119 : am_shL[119]? = some (.inl (.int, false, 16)) := rfl
theorem sp120 : am_shL[120]? = some (.inl (.int, false, 16)) := rfl
theorem sp121 : am_shL[121]? = some (.inl (.int, false, 16)) := rfl
theorem sp122 : am_shL[122]? = some (.inl (.int, false, 16)) := rfl
theorem sp123 : am_shL[123]? = some (.inl (.int, false, 10)) := rfl
theorem sp124 : am_shL[124]? = some (.inl (.int, false, 10)) := rfl
theorem sp125 : am_shL[125]? = some (.inl (.int, false, 20)) := rfl
theorem sp126 : am_shL[126]? = some (.inl (.int, false, 20)) := rfl
theorem sp127 : am_shL[127]? = some (.inl (.int, false, 20)) := rfl
theorem sp128 : am_shL[128]? = some (.inl (.boolean, false, 6)) := rfl
theorem sp129 : am_shL[129]? = some (.inl (.int, false, 6)) := rfl
theorem sp130 : am_shL[130]? = some (.inl (.int, false, 6)) := rfl
theorem sp131 : am_shL[131]? = some (.inl (.int, false, 128)) := rfl
theorem sp132 : am_shL[132]? = some (.inl (.int, false, 128)) := rfl
theorem sp133 : am_shL[133]? = some (.inl (.int, false, 128)) := rfl
theorem sp134 : am_shL[134]? = some (.inl (.int, false, 96)) := rfl
theorem sp135 : am_shL[135]? = some (.inl (.int, false, 96)) := rfl
theorem sp136 : am_shL[136]? = some (.inl (.long, true, 7)) := rfl
theorem sp137 : am_shL[137]? = some (.inl (.long, true, 64)) := rfl
theorem sp138 : am_shL[138]? = some (.inl (.int, false, 16)) := rfl
theorem sp139 : am_shL[139]? = some (.inl (.int, false, 16)) := rfl
theorem sp140 : am_shL[140]? = some (.inl (.int, false, 16)) := rfl
theorem sp141 : am_shL[141]? = some (.inl (.int, false, 10)) := rfl
theorem sp142 : am_shL[142]? = some (.inl (.int, false, 10)) := rfl
theorem sp143 : am_shL[143]? = some (.inl (.int, false, 10)) := rfl
theorem sp144 : am_shL[144]? = some (.inl (.int, false, 2)) := rfl
theorem sp145 : am_shL[145]? = some (.inl (.int, false, 2)) := rfl
theorem sp146 : am_shL[146]? = some (.inl (.int, false, 5)) := rfl
theorem sp147 : am_shL[147]? = some (.inl (.int, false, 5)) := rfl
theorem sp148 : am_shL[148]? = some (.inl (.int, false, 5)) := rfl
theorem sp149 : am_shL[149]? = some (.inl (.int, false, 72)) := rfl
theorem sp150 : am_shL[150]? = some (.inl (.boolean, false, 24)) := rfl
theorem sp151 : am_shL[151]? = some (.inl (.int, false, 5)) := rfl
theorem sp152 : am_shL[152]? = some (.inl (.int, false, 680)) := rfl
theorem sp153 : am_shL[153]? = some (.inl (.int, false, 34)) := rfl
theorem sp154 : am_shL[154]? = some (.inl (.int, false, 7)) := rfl
theorem sp155 : am_shL[155]? = some (.inl (.long, true, 1)) := rfl
def am_hp (I : hI) (J : hJ) (R : hR) : am_H := am_shL.mapIdx (am_cell I J R)
def am_u {α : Type} (I : Nat → Nat → α) (a k : Nat) (x : α) : Nat → Nat → α := fun b j => if b = a ∧ j = k then x else I b j
theorem am_u_ne {α : Type} {I : Nat → Nat → α} {a k b : Nat} {x : α} (h : b ≠ a) : am_u I a k x b = I b := by
  funext j
  unfold am_u
  rw [if_neg (fun z => h z.1)]
theorem am_u_at {α : Type} {I : Nat → Nat → α} {a k : Nat} {x : α} : am_u I a k x a k = x := by
  unfold am_u
  rw [if_pos ⟨rfl, rfl⟩]
theorem am_u_nk {α : Type} {I : Nat → Nat → α} {a k b j : Nat} {x : α} (h : j ≠ k) : am_u I a k x b j = I b j := by
  unfold am_u
  rw [if_neg (fun z => h z.2)]
theorem am_hp_len (I : hI) (J : hJ) (R : hR) : (am_hp I J R).length = 156 := by
  unfold am_hp
  rw [List.length_mapIdx]
  rfl
theorem am_hp_get {I : hI} {J : hJ} {R : hR} {a : Nat} {s : am_SH} (h : am_shL[a]? = some s) : (am_hp I J R)[a]? = some (am_cell I J R a s) := by
  unfold am_hp
  rw [List.getElem?_mapIdx, h]
  rfl
theorem am_cell_I {I : hI} {J : hJ} {R : hR} {a b k : Nat} {x : Int32} (s : am_SH) (h : b ≠ a) : am_cell (am_u I a k x) J R b s = am_cell I J R b s := by
  have e := am_u_ne (I := I) (k := k) (x := x) h
  rcases s with ⟨t, l, n⟩ | ⟨c, ts⟩ | l
  · cases l
    · show (Sum.inl (t, Sum.inl ((List.range n).map (am_u I a k x b))) : am_E) = _
      rw [e]; rfl
    · rfl
  · show (Sum.inr (c, ts.mapIdx (am_fv (am_u I a k x) J R b)) : am_E) = Sum.inr (c, ts.mapIdx (am_fv I J R b))
    have e2 : am_fv (am_u I a k x) J R b = am_fv I J R b := by
      funext j v
      unfold am_fv
      rw [e]
    rw [e2]
  · rfl
theorem am_cell_J {I : hI} {J : hJ} {R : hR} {a b k : Nat} {x : Int64} (s : am_SH) (h : b ≠ a) : am_cell I (am_u J a k x) R b s = am_cell I J R b s := by
  have e := am_u_ne (I := J) (k := k) (x := x) h
  rcases s with ⟨t, l, n⟩ | ⟨c, ts⟩ | l
  · cases l
    · rfl
    · show (Sum.inl (t, Sum.inr (Sum.inl ((List.range n).map (am_u J a k x b)))) : am_E) = _
      rw [e]; rfl
  · show (Sum.inr (c, ts.mapIdx (am_fv I (am_u J a k x) R b)) : am_E) = Sum.inr (c, ts.mapIdx (am_fv I J R b))
    have e2 : am_fv I (am_u J a k x) R b = am_fv I J R b := by
      funext j v
      unfold am_fv
      rw [e]
    rw [e2]
  · rfl
theorem am_cell_R {I : hI} {J : hJ} {R : hR} {a b k : Nat} {x : Nat} (s : am_SH) (h : b ≠ a) : am_cell I J (am_u R a k x) b s = am_cell I J R b s := by
  have e := am_u_ne (I := R) (k := k) (x := x) h
  rcases s with ⟨t, l, n⟩ | ⟨c, ts⟩ | l
  · cases l <;> rfl
  · show (Sum.inr (c, ts.mapIdx (am_fv I J (am_u R a k x) b)) : am_E) = Sum.inr (c, ts.mapIdx (am_fv I J R b))
    have e2 : am_fv I J (am_u R a k x) b = am_fv I J R b := by
      funext j v
      unfold am_fv
      rw [e]
    rw [e2]
  · rfl
theorem am_hp_set {I I' : hI} {J J' : hJ} {R R' : hR} {a : Nat} {s : am_SH} {c : am_E} (h : am_shL[a]? = some s) (h1 : am_cell I' J' R' a s = c) (h2 : ∀ b s, b ≠ a → am_cell I' J' R' b s = am_cell I J R b s) : (am_hp I J R).set a c = am_hp I' J' R' := by
  refine List.ext_getElem? fun i => ?_
  rw [List.getElem?_set]
  unfold am_hp
  rw [List.getElem?_mapIdx, List.getElem?_mapIdx]
  by_cases e : a = i
  · subst e
    rw [if_pos rfl, List.length_mapIdx]
    have hl : a < am_shL.length := (List.getElem?_eq_some_iff.mp h).1
    rw [if_pos hl, h, ← h1]
    rfl
  · rw [if_neg e]
    cases am_shL[i]? with
    | none => rfl
    | some s1 => exact congrArg some (h2 i s1 (fun z => e z.symm)).symm
theorem am_rg_set {α : Type} (f : Nat → Nat → α) (a k n : Nat) (x : α) : (List.range n).map (am_u f a k x a) = ((List.range n).map (f a)).set k x := by
  refine List.ext_getElem? fun i => ?_
  rw [List.getElem?_set, List.getElem?_map, List.getElem?_map]
  by_cases hi : i < n
  · rw [List.getElem?_range hi]
    by_cases e : k = i
    · subst e
      rw [if_pos rfl, List.length_map, List.length_range, if_pos hi]
      exact congrArg some am_u_at
    · rw [if_neg e]
      exact congrArg some (am_u_nk (fun z => e z.symm))
  · rw [List.getElem?_eq_none (by rw [List.length_range]; omega)]
    by_cases e : k = i
    · subst e
      rw [if_pos rfl, List.length_map, List.length_range, if_neg hi]
      rfl
    · rw [if_neg e]
      rfl
theorem am_mi_set {f g : Nat → Value → Value} {ts : List Value} {k : Nat} {t : Value} (ht : ts[k]? = some t) (h : ∀ j v, j ≠ k → g j v = f j v) : ts.mapIdx g = (ts.mapIdx f).set k (g k t) := by
  refine List.ext_getElem? fun i => ?_
  rw [List.getElem?_set, List.getElem?_mapIdx, List.getElem?_mapIdx]
  by_cases e : k = i
  · subst e
    rw [if_pos rfl, List.length_mapIdx, if_pos (List.getElem?_eq_some_iff.mp ht).1, ht]
    rfl
  · rw [if_neg e]
    cases ts[i]? with
    | none => rfl
    | some v => exact congrArg some (h i v (fun z => e z.symm))
theorem am_setA {I : hI} {J : hJ} {R : hR} {a k n : Nat} {t : FieldType} {x : Int32} (h : am_shL[a]? = some (.inl (t, false, n))) : (am_hp I J R).set a (.inl (t, .inl (((List.range n).map (I a)).set k x))) = am_hp (am_u I a k x) J R := by
  refine am_hp_set h ?_ (fun b s e => am_cell_I s e)
  show (Sum.inl (t, Sum.inl ((List.range n).map (am_u I a k x a))) : am_E) = _
  rw [am_rg_set]
theorem am_setL {I : hI} {J : hJ} {R : hR} {a k n : Nat} {t : FieldType} {x : Int64} (h : am_shL[a]? = some (.inl (t, true, n))) : (am_hp I J R).set a (.inl (t, .inr (.inl (((List.range n).map (J a)).set k x)))) = am_hp I (am_u J a k x) R := by
  refine am_hp_set h ?_ (fun b s e => am_cell_J s e)
  show (Sum.inl (t, Sum.inr (Sum.inl ((List.range n).map (am_u J a k x a)))) : am_E) = _
  rw [am_rg_set]
theorem am_setF {I : hI} {J : hJ} {R : hR} {a k c : Nat} {ts : List Value} {x y : Int32} (h : am_shL[a]? = some (.inr (.inl (c, ts)))) (ht : ts[k]? = some (.int y)) : (am_hp I J R).set a (.inr (c, (ts.mapIdx (am_fv I J R a)).set k (.int x))) = am_hp (am_u I a k x) J R := by
  refine am_hp_set h ?_ (fun b s e => am_cell_I s e)
  show (Sum.inr (c, ts.mapIdx (am_fv (am_u I a k x) J R a)) : am_E) = _
  rw [am_mi_set (f := am_fv I J R a) ht (fun j v hj => by unfold am_fv; rw [am_u_nk hj])]
  show (Sum.inr (c, (ts.mapIdx (am_fv I J R a)).set k (.int (am_u I a k x a k))) : am_E) = _
  rw [am_u_at]
theorem am_setG {I : hI} {J : hJ} {R : hR} {a k c : Nat} {ts : List Value} {x y : Int64} (h : am_shL[a]? = some (.inr (.inl (c, ts)))) (ht : ts[k]? = some (.long y)) : (am_hp I J R).set a (.inr (c, (ts.mapIdx (am_fv I J R a)).set k (.long x))) = am_hp I (am_u J a k x) R := by
  refine am_hp_set h ?_ (fun b s e => am_cell_J s e)
  show (Sum.inr (c, ts.mapIdx (am_fv I (am_u J a k x) R a)) : am_E) = _
  rw [am_mi_set (f := am_fv I J R a) ht (fun j v hj => by unfold am_fv; rw [am_u_nk hj])]
  show (Sum.inr (c, (ts.mapIdx (am_fv I J R a)).set k (.long (am_u J a k x a k))) : am_E) = _
  rw [am_u_at]
theorem am_setR {I : hI} {J : hJ} {R : hR} {a k c : Nat} {ts : List Value} {x y : Nat} (h : am_shL[a]? = some (.inr (.inl (c, ts)))) (ht : ts[k]? = some (.retAddr y)) : (am_hp I J R).set a (.inr (c, (ts.mapIdx (am_fv I J R a)).set k (.ref x))) = am_hp I J (am_u R a k x) := by
  refine am_hp_set h ?_ (fun b s e => am_cell_R s e)
  show (Sum.inr (c, ts.mapIdx (am_fv I J (am_u R a k x) a)) : am_E) = _
  rw [am_mi_set (f := am_fv I J R a) ht (fun j v hj => by unfold am_fv; rw [am_u_nk hj])]
  show (Sum.inr (c, (ts.mapIdx (am_fv I J R a)).set k (.ref (am_u R a k x a k))) : am_E) = _
  rw [am_u_at]
