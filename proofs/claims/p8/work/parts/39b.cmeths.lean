/-! EACH METHOD BY ITS NUMBER (printed by wip/p2/gen_meths.py) -/
def aj_m0 : aj_M := (⟨"DimShelf", "<init>", "()V"⟩, aj_bc 189, 1, none, 0, aj_lk0, "DimShelf")
set_option maxRecDepth 100000 in
theorem aj_m0_at : aj_mt[0]? = some aj_m0 := rfl
theorem aj_d0 : aj_ctOK aj_c0 aj_m0.2.1 := by
  unfold aj_m0
  dsimp only
  exact aj_dk0
def aj_m1 : aj_M := (⟨"DimShelf$Shelf", "<init>", "()V"⟩, aj_bc 197, 1, none, 0, aj_lk1, "DimShelf$Shelf")
set_option maxRecDepth 100000 in
theorem aj_m1_at : aj_mt[1]? = some aj_m1 := rfl
theorem aj_d1 : aj_ctOK aj_c1 aj_m1.2.1 := by
  unfold aj_m1
  dsimp only
  exact aj_dk1
def aj_m2 : aj_M := (⟨"DimShelf$Shelf", "empty", "()V"⟩, aj_bc 204, 1, none, 0, aj_lk1, "DimShelf$Shelf")
set_option maxRecDepth 100000 in
theorem aj_m2_at : aj_mt[2]? = some aj_m2 := rfl
theorem aj_d2 : aj_ctOK aj_c2 aj_m2.2.1 := by
  unfold aj_m2
  dsimp only
  exact aj_dk2
def aj_m3 : aj_M := (⟨"DimShelf$Shelf", "settle", "()V"⟩, aj_bc 208, 5, none, 0, aj_lk1, "DimShelf$Shelf")
set_option maxRecDepth 100000 in
theorem aj_m3_at : aj_mt[3]? = some aj_m3 := rfl
theorem aj_d3 : aj_ctOK aj_c3 aj_m3.2.1 := by
  unfold aj_m3
  dsimp only
  exact aj_dk3
def aj_m4 : aj_M := (⟨"DimShelf$Shelf", "sizeOf", "(I)I"⟩, aj_bc 212, 2, (some (FieldType.int)), 1, aj_lk1, "DimShelf$Shelf")
set_option maxRecDepth 100000 in
theorem aj_m4_at : aj_mt[4]? = some aj_m4 := rfl
theorem aj_d4 : aj_ctOK aj_c4 aj_m4.2.1 := by
  unfold aj_m4
  dsimp only
  exact aj_dk4
def aj_m5 : aj_M := (⟨"DimShelf$Shelf", "setCell", "(III)V"⟩, aj_bc 216, 5, none, 3, aj_lk1, "DimShelf$Shelf")
set_option maxRecDepth 100000 in
theorem aj_m5_at : aj_mt[5]? = some aj_m5 := rfl
theorem aj_d5 : aj_ctOK aj_c5 aj_m5.2.1 := by
  unfold aj_m5
  dsimp only
  exact aj_dk5
def aj_m6 : aj_M := (⟨"DimShelf$Shelf", "hold", "()V"⟩, aj_bc 220, 2, none, 0, aj_lk1, "DimShelf$Shelf")
set_option maxRecDepth 100000 in
theorem aj_m6_at : aj_mt[6]? = some aj_m6 := rfl
theorem aj_d6 : aj_ctOK aj_c6 aj_m6.2.1 := by
  unfold aj_m6
  dsimp only
  exact aj_dk6
def aj_m7 : aj_M := (⟨"DimShelf$Tokens", "<init>", "()V"⟩, aj_bc 298, 1, none, 0, aj_lk2, "DimShelf$Tokens")
set_option maxRecDepth 100000 in
theorem aj_m7_at : aj_mt[7]? = some aj_m7 := rfl
theorem aj_d7 : aj_ctOK aj_c7 aj_m7.2.1 := by
  unfold aj_m7
  dsimp only
  exact aj_dk7
def aj_m8 : aj_M := (⟨"DimShelf$Plan", "<init>", "()V"⟩, aj_bc 317, 1, none, 0, aj_lk3, "DimShelf$Plan")
set_option maxRecDepth 100000 in
theorem aj_m8_at : aj_mt[8]? = some aj_m8 := rfl
theorem aj_d8 : aj_ctOK aj_c8 aj_m8.2.1 := by
  unfold aj_m8
  dsimp only
  exact aj_dk8
def aj_m9 : aj_M := (⟨"DimShelf$Parser", "<init>", "(LDimShelf$Tokens;LDimShelf$Plan;)V"⟩, aj_bc 353, 3, none, 2, aj_lk4, "DimShelf$Parser")
set_option maxRecDepth 100000 in
theorem aj_m9_at : aj_mt[9]? = some aj_m9 := rfl
theorem aj_d9 : aj_ctOK aj_c9 aj_m9.2.1 := by
  unfold aj_m9
  dsimp only
  exact aj_dk9
def aj_m10 : aj_M := (⟨"DimShelf$Checker", "<init>", "(LDimShelf$Tokens;LDimShelf$Plan;)V"⟩, aj_bc 408, 3, none, 2, aj_lk5, "DimShelf$Checker")
set_option maxRecDepth 100000 in
theorem aj_m10_at : aj_mt[10]? = some aj_m10 := rfl
theorem aj_d10 : aj_ctOK aj_c10 aj_m10.2.1 := by
  unfold aj_m10
  dsimp only
  exact aj_dk10
def aj_m11 : aj_M := (⟨"DimShelf$Worker", "<init>", "(LDimShelf$Tokens;LDimShelf$Plan;)V"⟩, aj_bc 442, 3, none, 2, aj_lk6, "DimShelf$Worker")
set_option maxRecDepth 100000 in
theorem aj_m11_at : aj_mt[11]? = some aj_m11 := rfl
theorem aj_d11 : aj_ctOK aj_c11 aj_m11.2.1 := by
  unfold aj_m11
  dsimp only
  exact aj_dk11
def aj_m12 : aj_M := (⟨"DimShelf$Grouper", "<init>", "()V"⟩, aj_bc 448, 1, none, 0, aj_lk7, "DimShelf$Grouper")
set_option maxRecDepth 100000 in
theorem aj_m12_at : aj_mt[12]? = some aj_m12 := rfl
theorem aj_d12 : aj_ctOK aj_c12 aj_m12.2.1 := by
  unfold aj_m12
  dsimp only
  exact aj_dk12
def aj_m13 : aj_M := (⟨"DimShelf$Rows", "<init>", "()V"⟩, aj_bc 479, 1, none, 0, aj_lk8, "DimShelf$Rows")
set_option maxRecDepth 100000 in
theorem aj_m13_at : aj_mt[13]? = some aj_m13 := rfl
theorem aj_d13 : aj_ctOK aj_c13 aj_m13.2.1 := by
  unfold aj_m13
  dsimp only
  exact aj_dk13
def aj_m14 : aj_M := (⟨"DimShelf$Listing", "<init>", "()V"⟩, aj_bc 556, 1, none, 0, aj_lk9, "DimShelf$Listing")
set_option maxRecDepth 100000 in
theorem aj_m14_at : aj_mt[14]? = some aj_m14 := rfl
theorem aj_d14 : aj_ctOK aj_c14 aj_m14.2.1 := by
  unfold aj_m14
  dsimp only
  exact aj_dk14
def aj_m15 : aj_M := (⟨"DimShelf$Reason", "<init>", "()V"⟩, aj_bc 600, 1, none, 0, aj_lk10, "DimShelf$Reason")
set_option maxRecDepth 100000 in
theorem aj_m15_at : aj_mt[15]? = some aj_m15 := rfl
theorem aj_d15 : aj_ctOK aj_c15 aj_m15.2.1 := by
  unfold aj_m15
  dsimp only
  exact aj_dk15
def aj_m16 : aj_M := (⟨"DimShelf", "feed", "(IIIII)I"⟩, aj_bc 661, 6, (some (FieldType.int)), 5, aj_lk0, "DimShelf")
set_option maxRecDepth 100000 in
theorem aj_m16_at : aj_mt[16]? = some aj_m16 := rfl
theorem aj_d16 : aj_ctOK aj_c16 aj_m16.2.1 := by
  unfold aj_m16
  dsimp only
  exact aj_dk16
def aj_m17 : aj_M := (⟨"DimShelf", "put", "(I)V"⟩, aj_bc 665, 3, none, 1, aj_lk0, "DimShelf")
set_option maxRecDepth 100000 in
theorem aj_m17_at : aj_mt[17]? = some aj_m17 := rfl
theorem aj_d17 : aj_ctOK aj_c17 aj_m17.2.1 := by
  unfold aj_m17
  dsimp only
  exact aj_dk17
def aj_m18 : aj_M := (⟨"DimShelf", "back", "(I)I"⟩, aj_bc 669, 2, (some (FieldType.int)), 1, aj_lk0, "DimShelf")
set_option maxRecDepth 100000 in
theorem aj_m18_at : aj_mt[18]? = some aj_m18 := rfl
theorem aj_d18 : aj_ctOK aj_c18 aj_m18.2.1 := by
  unfold aj_m18
  dsimp only
  exact aj_dk18
def aj_m19 : aj_M := (⟨"DimShelf", "read", "()I"⟩, aj_bc 673, 2, (some (FieldType.int)), 0, aj_lk0, "DimShelf")
set_option maxRecDepth 100000 in
theorem aj_m19_at : aj_mt[19]? = some aj_m19 := rfl
theorem aj_d19 : aj_ctOK aj_c19 aj_m19.2.1 := by
  unfold aj_m19
  dsimp only
  exact aj_dk19
def aj_m20 : aj_M := (⟨"DimShelf", "understand", "(ILDimShelf$Shelf;)V"⟩, aj_bc 678, 3, none, 2, aj_lk0, "DimShelf")
set_option maxRecDepth 100000 in
theorem aj_m20_at : aj_mt[20]? = some aj_m20 := rfl
theorem aj_d20 : aj_ctOK aj_c20 aj_m20.2.1 := by
  unfold aj_m20
  dsimp only
  exact aj_dk20
def aj_m21 : aj_M := (⟨"DimShelf$Tokens", "scan", "([CI)V"⟩, aj_bc 682, 7, none, 2, aj_lk2, "DimShelf$Tokens")
set_option maxRecDepth 100000 in
theorem aj_m21_at : aj_mt[21]? = some aj_m21 := rfl
theorem aj_d21 : aj_ctOK aj_c21 aj_m21.2.1 := by
  unfold aj_m21
  dsimp only
  exact aj_dk21
def aj_m22 : aj_M := (⟨"DimShelf$Tokens", "isBlank", "(C)Z"⟩, aj_bc 685, 1, (some (FieldType.boolean)), 1, aj_lk2, "DimShelf$Tokens")
set_option maxRecDepth 100000 in
theorem aj_m22_at : aj_mt[22]? = some aj_m22 := rfl
theorem aj_d22 : aj_ctOK aj_c22 aj_m22.2.1 := by
  unfold aj_m22
  dsimp only
  exact aj_dk22
def aj_m23 : aj_M := (⟨"DimShelf$Tokens", "scanOne", "([CII)I"⟩, aj_bc 689, 6, (some (FieldType.int)), 3, aj_lk2, "DimShelf$Tokens")
set_option maxRecDepth 100000 in
theorem aj_m23_at : aj_mt[23]? = some aj_m23 := rfl
theorem aj_d23 : aj_ctOK aj_c23 aj_m23.2.1 := by
  unfold aj_m23
  dsimp only
  exact aj_dk23
def aj_m24 : aj_M := (⟨"DimShelf$Tokens", "isLetter", "(C)Z"⟩, aj_bc 692, 1, (some (FieldType.boolean)), 1, aj_lk2, "DimShelf$Tokens")
set_option maxRecDepth 100000 in
theorem aj_m24_at : aj_mt[24]? = some aj_m24 := rfl
theorem aj_d24 : aj_ctOK aj_c24 aj_m24.2.1 := by
  unfold aj_m24
  dsimp only
  exact aj_dk24
def aj_m25 : aj_M := (⟨"DimShelf$Tokens", "scanName", "([CII)I"⟩, aj_bc 696, 7, (some (FieldType.int)), 3, aj_lk2, "DimShelf$Tokens")
set_option maxRecDepth 100000 in
theorem aj_m25_at : aj_mt[25]? = some aj_m25 := rfl
theorem aj_d25 : aj_ctOK aj_c25 aj_m25.2.1 := by
  unfold aj_m25
  dsimp only
  exact aj_dk25
def aj_m26 : aj_M := (⟨"DimShelf$Tokens", "isDigit", "(C)Z"⟩, aj_bc 699, 1, (some (FieldType.boolean)), 1, aj_lk2, "DimShelf$Tokens")
set_option maxRecDepth 100000 in
theorem aj_m26_at : aj_mt[26]? = some aj_m26 := rfl
theorem aj_d26 : aj_ctOK aj_c26 aj_m26.2.1 := by
  unfold aj_m26
  dsimp only
  exact aj_dk26
def aj_m27 : aj_M := (⟨"DimShelf$Tokens", "add", "(IIJ)V"⟩, aj_bc 703, 5, none, 3, aj_lk2, "DimShelf$Tokens")
set_option maxRecDepth 100000 in
theorem aj_m27_at : aj_mt[27]? = some aj_m27 := rfl
theorem aj_d27 : aj_ctOK aj_c27 aj_m27.2.1 := by
  unfold aj_m27
  dsimp only
  exact aj_dk27
def aj_m28 : aj_M := (⟨"DimShelf$Tokens", "kindOf", "(J)I"⟩, aj_bc 706, 3, (some (FieldType.int)), 1, aj_lk2, "DimShelf$Tokens")
set_option maxRecDepth 100000 in
theorem aj_m28_at : aj_mt[28]? = some aj_m28 := rfl
theorem aj_d28 : aj_ctOK aj_c28 aj_m28.2.1 := by
  unfold aj_m28
  dsimp only
  exact aj_dk28
def aj_m29 : aj_M := (⟨"DimShelf$Tokens", "scanNumber", "([CII)I"⟩, aj_bc 712, 7, (some (FieldType.int)), 3, aj_lk2, "DimShelf$Tokens")
set_option maxRecDepth 100000 in
theorem aj_m29_at : aj_mt[29]? = some aj_m29 := rfl
theorem aj_d29 : aj_ctOK aj_c29 aj_m29.2.1 := by
  unfold aj_m29
  dsimp only
  exact aj_dk29
def aj_m30 : aj_M := (⟨"DimShelf$Tokens", "isSign", "(I)Z"⟩, aj_bc 716, 1, (some (FieldType.boolean)), 1, aj_lk2, "DimShelf$Tokens")
set_option maxRecDepth 100000 in
theorem aj_m30_at : aj_mt[30]? = some aj_m30 := rfl
theorem aj_d30 : aj_ctOK aj_c30 aj_m30.2.1 := by
  unfold aj_m30
  dsimp only
  exact aj_dk30
def aj_m31 : aj_M := (⟨"DimShelf$Plan", "empty", "()V"⟩, aj_bc 720, 1, none, 0, aj_lk3, "DimShelf$Plan")
set_option maxRecDepth 100000 in
theorem aj_m31_at : aj_mt[31]? = some aj_m31 := rfl
theorem aj_d31 : aj_ctOK aj_c31 aj_m31.2.1 := by
  unfold aj_m31
  dsimp only
  exact aj_dk31
def aj_m32 : aj_M := (⟨"DimShelf$Parser", "parse", "(I)V"⟩, aj_bc 724, 5, none, 1, aj_lk4, "DimShelf$Parser")
set_option maxRecDepth 100000 in
theorem aj_m32_at : aj_mt[32]? = some aj_m32 := rfl
theorem aj_d32 : aj_ctOK aj_c32 aj_m32.2.1 := by
  unfold aj_m32
  dsimp only
  exact aj_dk32
def aj_m33 : aj_M := (⟨"DimShelf$Parser", "push", "(I)V"⟩, aj_bc 728, 2, none, 1, aj_lk4, "DimShelf$Parser")
set_option maxRecDepth 100000 in
theorem aj_m33_at : aj_mt[33]? = some aj_m33 := rfl
theorem aj_d33 : aj_ctOK aj_c33 aj_m33.2.1 := by
  unfold aj_m33
  dsimp only
  exact aj_dk33
def aj_m34 : aj_M := (⟨"DimShelf$Parser", "note", "(II)V"⟩, aj_bc 733, 3, none, 2, aj_lk4, "DimShelf$Parser")
set_option maxRecDepth 100000 in
theorem aj_m34_at : aj_mt[34]? = some aj_m34 := rfl
theorem aj_d34 : aj_ctOK aj_c34 aj_m34.2.1 := by
  unfold aj_m34
  dsimp only
  exact aj_dk34
def aj_m35 : aj_M := (⟨"DimShelf$Parser", "hasRoom", "(I)Z"⟩, aj_bc 737, 2, (some (FieldType.boolean)), 1, aj_lk4, "DimShelf$Parser")
set_option maxRecDepth 100000 in
theorem aj_m35_at : aj_mt[35]? = some aj_m35 := rfl
theorem aj_d35 : aj_ctOK aj_c35 aj_m35.2.1 := by
  unfold aj_m35
  dsimp only
  exact aj_dk35
def aj_m36 : aj_M := (⟨"DimShelf$Parser", "hasRoomForTable", "()Z"⟩, aj_bc 741, 1, (some (FieldType.boolean)), 0, aj_lk4, "DimShelf$Parser")
set_option maxRecDepth 100000 in
theorem aj_m36_at : aj_mt[36]? = some aj_m36 := rfl
theorem aj_d36 : aj_ctOK aj_c36 aj_m36.2.1 := by
  unfold aj_m36
  dsimp only
  exact aj_dk36
def aj_m37 : aj_M := (⟨"DimShelf$Tokens", "wordAt", "(I)J"⟩, aj_bc 745, 2, (some (FieldType.long)), 1, aj_lk2, "DimShelf$Tokens")
set_option maxRecDepth 100000 in
theorem aj_m37_at : aj_mt[37]? = some aj_m37 := rfl
theorem aj_d37 : aj_ctOK aj_c37 aj_m37.2.1 := by
  unfold aj_m37
  dsimp only
  exact aj_dk37
def aj_m38 : aj_M := (⟨"DimShelf$Parser", "hasRoomForRow", "()Z"⟩, aj_bc 749, 4, (some (FieldType.boolean)), 0, aj_lk4, "DimShelf$Parser")
set_option maxRecDepth 100000 in
theorem aj_m38_at : aj_mt[38]? = some aj_m38 := rfl
theorem aj_d38 : aj_ctOK aj_c38 aj_m38.2.1 := by
  unfold aj_m38
  dsimp only
  exact aj_dk38
def aj_m39 : aj_M := (⟨"DimShelf$Parser", "keep", "(II)V"⟩, aj_bc 753, 3, none, 2, aj_lk4, "DimShelf$Parser")
set_option maxRecDepth 100000 in
theorem aj_m39_at : aj_mt[39]? = some aj_m39 := rfl
theorem aj_d39 : aj_ctOK aj_c39 aj_m39.2.1 := by
  unfold aj_m39
  dsimp only
  exact aj_dk39
def aj_m40 : aj_M := (⟨"DimShelf$Plan", "argAt", "(I)I"⟩, aj_bc 757, 2, (some (FieldType.int)), 1, aj_lk3, "DimShelf$Plan")
set_option maxRecDepth 100000 in
theorem aj_m40_at : aj_mt[40]? = some aj_m40 := rfl
theorem aj_d40 : aj_ctOK aj_c40 aj_m40.2.1 := by
  unfold aj_m40
  dsimp only
  exact aj_dk40
def aj_m41 : aj_M := (⟨"DimShelf$Plan", "setArg", "(II)V"⟩, aj_bc 761, 3, none, 2, aj_lk3, "DimShelf$Plan")
set_option maxRecDepth 100000 in
theorem aj_m41_at : aj_mt[41]? = some aj_m41 := rfl
theorem aj_d41 : aj_ctOK aj_c41 aj_m41.2.1 := by
  unfold aj_m41
  dsimp only
  exact aj_dk41
def aj_m42 : aj_M := (⟨"DimShelf$Plan", "add", "(IIII)V"⟩, aj_bc 765, 5, none, 4, aj_lk3, "DimShelf$Plan")
set_option maxRecDepth 100000 in
theorem aj_m42_at : aj_mt[42]? = some aj_m42 := rfl
theorem aj_d42 : aj_ctOK aj_c42 aj_m42.2.1 := by
  unfold aj_m42
  dsimp only
  exact aj_dk42
def aj_m43 : aj_M := (⟨"DimShelf$Tokens", "startAt", "(I)I"⟩, aj_bc 769, 2, (some (FieldType.int)), 1, aj_lk2, "DimShelf$Tokens")
set_option maxRecDepth 100000 in
theorem aj_m43_at : aj_mt[43]? = some aj_m43 := rfl
theorem aj_d43 : aj_ctOK aj_c43 aj_m43.2.1 := by
  unfold aj_m43
  dsimp only
  exact aj_dk43
def aj_m44 : aj_M := (⟨"DimShelf$Plan", "fail", "(II)V"⟩, aj_bc 773, 3, none, 2, aj_lk3, "DimShelf$Plan")
set_option maxRecDepth 100000 in
theorem aj_m44_at : aj_mt[44]? = some aj_m44 := rfl
theorem aj_d44 : aj_ctOK aj_c44 aj_m44.2.1 := by
  unfold aj_m44
  dsimp only
  exact aj_dk44
def aj_m45 : aj_M := (⟨"DimShelf$Parser", "expand", "(I)V"⟩, aj_bc 777, 4, none, 1, aj_lk4, "DimShelf$Parser")
set_option maxRecDepth 100000 in
theorem aj_m45_at : aj_mt[45]? = some aj_m45 := rfl
theorem aj_d45 : aj_ctOK aj_c45 aj_m45.2.1 := by
  unfold aj_m45
  dsimp only
  exact aj_dk45
def aj_m46 : aj_M := (⟨"DimShelf$Tokens", "kindAt", "(I)I"⟩, aj_bc 781, 2, (some (FieldType.int)), 1, aj_lk2, "DimShelf$Tokens")
set_option maxRecDepth 100000 in
theorem aj_m46_at : aj_mt[46]? = some aj_m46 := rfl
theorem aj_d46 : aj_ctOK aj_c46 aj_m46.2.1 := by
  unfold aj_m46
  dsimp only
  exact aj_dk46
def aj_m47 : aj_M := (⟨"DimShelf$Grammar", "rule", "(II)[I"⟩, aj_bc 784, 2, (some (FieldType.array FieldType.int)), 2, aj_lk11, "DimShelf$Grammar")
set_option maxRecDepth 100000 in
theorem aj_m47_at : aj_mt[47]? = some aj_m47 := rfl
theorem aj_d47 : aj_ctOK aj_c47 aj_m47.2.1 := by
  unfold aj_m47
  dsimp only
  exact aj_dk47
def aj_m48 : aj_M := (⟨"DimShelf$Grammar", "textRule", "(I)[I"⟩, aj_bc 787, 1, (some (FieldType.array FieldType.int)), 1, aj_lk11, "DimShelf$Grammar")
set_option maxRecDepth 100000 in
theorem aj_m48_at : aj_mt[48]? = some aj_m48 := rfl
theorem aj_d48 : aj_ctOK aj_c48 aj_m48.2.1 := by
  unfold aj_m48
  dsimp only
  exact aj_dk48
def aj_m49 : aj_M := (⟨"DimShelf$Grammar", "tellRule", "(II)[I"⟩, aj_bc 802, 2, (some (FieldType.array FieldType.int)), 2, aj_lk11, "DimShelf$Grammar")
set_option maxRecDepth 100000 in
theorem aj_m49_at : aj_mt[49]? = some aj_m49 := rfl
theorem aj_d49 : aj_ctOK aj_c49 aj_m49.2.1 := by
  unfold aj_m49
  dsimp only
  exact aj_dk49
def aj_m50 : aj_M := (⟨"DimShelf$Grammar", "condRule", "(II)[I"⟩, aj_bc 823, 2, (some (FieldType.array FieldType.int)), 2, aj_lk11, "DimShelf$Grammar")
set_option maxRecDepth 100000 in
theorem aj_m50_at : aj_mt[50]? = some aj_m50 := rfl
theorem aj_d50 : aj_ctOK aj_c50 aj_m50.2.1 := by
  unfold aj_m50
  dsimp only
  exact aj_dk50
def aj_m51 : aj_M := (⟨"DimShelf$Grammar", "relationRule", "(I)[I"⟩, aj_bc 840, 1, (some (FieldType.array FieldType.int)), 1, aj_lk11, "DimShelf$Grammar")
set_option maxRecDepth 100000 in
theorem aj_m51_at : aj_mt[51]? = some aj_m51 := rfl
theorem aj_d51 : aj_ctOK aj_c51 aj_m51.2.1 := by
  unfold aj_m51
  dsimp only
  exact aj_dk51
def aj_m52 : aj_M := (⟨"DimShelf$Grammar", "queryRule", "(II)[I"⟩, aj_bc 857, 2, (some (FieldType.array FieldType.int)), 2, aj_lk11, "DimShelf$Grammar")
set_option maxRecDepth 100000 in
theorem aj_m52_at : aj_mt[52]? = some aj_m52 := rfl
theorem aj_d52 : aj_ctOK aj_c52 aj_m52.2.1 := by
  unfold aj_m52
  dsimp only
  exact aj_dk52
def aj_m53 : aj_M := (⟨"DimShelf$Grammar", "stepRule", "(I)[I"⟩, aj_bc 874, 1, (some (FieldType.array FieldType.int)), 1, aj_lk11, "DimShelf$Grammar")
set_option maxRecDepth 100000 in
theorem aj_m53_at : aj_mt[53]? = some aj_m53 := rfl
theorem aj_d53 : aj_ctOK aj_c53 aj_m53.2.1 := by
  unfold aj_m53
  dsimp only
  exact aj_dk53
def aj_m54 : aj_M := (⟨"DimShelf$Grammar", "foldRule", "(I)[I"⟩, aj_bc 897, 1, (some (FieldType.array FieldType.int)), 1, aj_lk11, "DimShelf$Grammar")
set_option maxRecDepth 100000 in
theorem aj_m54_at : aj_mt[54]? = some aj_m54 := rfl
theorem aj_d54 : aj_ctOK aj_c54 aj_m54.2.1 := by
  unfold aj_m54
  dsimp only
  exact aj_dk54
def aj_m55 : aj_M := (⟨"DimShelf$Parser", "take", "(I)V"⟩, aj_bc 909, 2, none, 1, aj_lk4, "DimShelf$Parser")
set_option maxRecDepth 100000 in
theorem aj_m55_at : aj_mt[55]? = some aj_m55 := rfl
theorem aj_d55 : aj_ctOK aj_c55 aj_m55.2.1 := by
  unfold aj_m55
  dsimp only
  exact aj_dk55
def aj_m56 : aj_M := (⟨"DimShelf$Checker", "check", "(LDimShelf$Shelf;)V"⟩, aj_bc 913, 4, none, 1, aj_lk5, "DimShelf$Checker")
set_option maxRecDepth 100000 in
theorem aj_m56_at : aj_mt[56]? = some aj_m56 := rfl
theorem aj_d56 : aj_ctOK aj_c56 aj_m56.2.1 := by
  unfold aj_m56
  dsimp only
  exact aj_dk56
def aj_m57 : aj_M := (⟨"DimShelf$Plan", "noteAt", "(I)I"⟩, aj_bc 917, 2, (some (FieldType.int)), 1, aj_lk3, "DimShelf$Plan")
set_option maxRecDepth 100000 in
theorem aj_m57_at : aj_mt[57]? = some aj_m57 := rfl
theorem aj_d57 : aj_ctOK aj_c57 aj_m57.2.1 := by
  unfold aj_m57
  dsimp only
  exact aj_dk57
def aj_m58 : aj_M := (⟨"DimShelf$Checker", "checkQuery", "(II)V"⟩, aj_bc 921, 3, none, 2, aj_lk5, "DimShelf$Checker")
set_option maxRecDepth 100000 in
theorem aj_m58_at : aj_mt[58]? = some aj_m58 := rfl
theorem aj_d58 : aj_ctOK aj_c58 aj_m58.2.1 := by
  unfold aj_m58
  dsimp only
  exact aj_dk58
def aj_m59 : aj_M := (⟨"DimShelf$Checker", "load", "(I)V"⟩, aj_bc 925, 5, none, 1, aj_lk5, "DimShelf$Checker")
set_option maxRecDepth 100000 in
theorem aj_m59_at : aj_mt[59]? = some aj_m59 := rfl
theorem aj_d59 : aj_ctOK aj_c59 aj_m59.2.1 := by
  unfold aj_m59
  dsimp only
  exact aj_dk59
def aj_m60 : aj_M := (⟨"DimShelf$Checker", "wordNear", "(I)J"⟩, aj_bc 929, 2, (some (FieldType.long)), 1, aj_lk5, "DimShelf$Checker")
set_option maxRecDepth 100000 in
theorem aj_m60_at : aj_mt[60]? = some aj_m60 := rfl
theorem aj_d60 : aj_ctOK aj_c60 aj_m60.2.1 := by
  unfold aj_m60
  dsimp only
  exact aj_dk60
def aj_m61 : aj_M := (⟨"DimShelf$Plan", "nearAt", "(I)I"⟩, aj_bc 933, 2, (some (FieldType.int)), 1, aj_lk3, "DimShelf$Plan")
set_option maxRecDepth 100000 in
theorem aj_m61_at : aj_mt[61]? = some aj_m61 := rfl
theorem aj_d61 : aj_ctOK aj_c61 aj_m61.2.1 := by
  unfold aj_m61
  dsimp only
  exact aj_dk61
def aj_m62 : aj_M := (⟨"DimShelf$Shelf", "tableNamed", "(J)I"⟩, aj_bc 938, 4, (some (FieldType.int)), 1, aj_lk1, "DimShelf$Shelf")
set_option maxRecDepth 100000 in
theorem aj_m62_at : aj_mt[62]? = some aj_m62 := rfl
theorem aj_d62 : aj_ctOK aj_c62 aj_m62.2.1 := by
  unfold aj_m62
  dsimp only
  exact aj_dk62
def aj_m63 : aj_M := (⟨"DimShelf$Shelf", "rowsOf", "(I)LDimShelf$Rows;"⟩, aj_bc 942, 2, (some (FieldType.object "DimShelf$Rows")), 1, aj_lk1, "DimShelf$Shelf")
set_option maxRecDepth 100000 in
theorem aj_m63_at : aj_mt[63]? = some aj_m63 := rfl
theorem aj_d63 : aj_ctOK aj_c63 aj_m63.2.1 := by
  unfold aj_m63
  dsimp only
  exact aj_dk63
def aj_m64 : aj_M := (⟨"DimShelf$Checker", "failNear", "(II)V"⟩, aj_bc 946, 3, none, 2, aj_lk5, "DimShelf$Checker")
set_option maxRecDepth 100000 in
theorem aj_m64_at : aj_mt[64]? = some aj_m64 := rfl
theorem aj_d64 : aj_ctOK aj_c64 aj_m64.2.1 := by
  unfold aj_m64
  dsimp only
  exact aj_dk64
def aj_m65 : aj_M := (⟨"DimShelf$Checker", "setWidth", "(II)V"⟩, aj_bc 953, 3, none, 2, aj_lk5, "DimShelf$Checker")
set_option maxRecDepth 100000 in
theorem aj_m65_at : aj_mt[65]? = some aj_m65 := rfl
theorem aj_d65 : aj_ctOK aj_c65 aj_m65.2.1 := by
  unfold aj_m65
  dsimp only
  exact aj_dk65
def aj_m66 : aj_M := (⟨"DimShelf$Shelf", "columnName", "(II)J"⟩, aj_bc 957, 4, (some (FieldType.long)), 2, aj_lk1, "DimShelf$Shelf")
set_option maxRecDepth 100000 in
theorem aj_m66_at : aj_mt[66]? = some aj_m66 := rfl
theorem aj_d66 : aj_ctOK aj_c66 aj_m66.2.1 := by
  unfold aj_m66
  dsimp only
  exact aj_dk66
def aj_m67 : aj_M := (⟨"DimShelf$Checker", "addColumn", "(IJ)V"⟩, aj_bc 961, 5, none, 2, aj_lk5, "DimShelf$Checker")
set_option maxRecDepth 100000 in
theorem aj_m67_at : aj_mt[67]? = some aj_m67 := rfl
theorem aj_d67 : aj_ctOK aj_c67 aj_m67.2.1 := by
  unfold aj_m67
  dsimp only
  exact aj_dk67
def aj_m68 : aj_M := (⟨"DimShelf$Checker", "isSameWidth", "(II)Z"⟩, aj_bc 965, 4, (some (FieldType.boolean)), 2, aj_lk5, "DimShelf$Checker")
set_option maxRecDepth 100000 in
theorem aj_m68_at : aj_mt[68]? = some aj_m68 := rfl
theorem aj_d68 : aj_ctOK aj_c68 aj_m68.2.1 := by
  unfold aj_m68
  dsimp only
  exact aj_dk68
def aj_m69 : aj_M := (⟨"DimShelf$Checker", "widthAt", "(I)I"⟩, aj_bc 969, 2, (some (FieldType.int)), 1, aj_lk5, "DimShelf$Checker")
set_option maxRecDepth 100000 in
theorem aj_m69_at : aj_mt[69]? = some aj_m69 := rfl
theorem aj_d69 : aj_ctOK aj_c69 aj_m69.2.1 := by
  unfold aj_m69
  dsimp only
  exact aj_dk69
def aj_m70 : aj_M := (⟨"DimShelf$Checker", "columnAt", "(II)J"⟩, aj_bc 973, 4, (some (FieldType.long)), 2, aj_lk5, "DimShelf$Checker")
set_option maxRecDepth 100000 in
theorem aj_m70_at : aj_mt[70]? = some aj_m70 := rfl
theorem aj_d70 : aj_ctOK aj_c70 aj_m70.2.1 := by
  unfold aj_m70
  dsimp only
  exact aj_dk70
def aj_m71 : aj_M := (⟨"DimShelf$Checker", "failLead", "(II)V"⟩, aj_bc 977, 3, none, 2, aj_lk5, "DimShelf$Checker")
set_option maxRecDepth 100000 in
theorem aj_m71_at : aj_mt[71]? = some aj_m71 := rfl
theorem aj_d71 : aj_ctOK aj_c71 aj_m71.2.1 := by
  unfold aj_m71
  dsimp only
  exact aj_dk71
def aj_m72 : aj_M := (⟨"DimShelf$Plan", "leadAt", "(I)I"⟩, aj_bc 981, 2, (some (FieldType.int)), 1, aj_lk3, "DimShelf$Plan")
set_option maxRecDepth 100000 in
theorem aj_m72_at : aj_mt[72]? = some aj_m72 := rfl
theorem aj_d72 : aj_ctOK aj_c72 aj_m72.2.1 := by
  unfold aj_m72
  dsimp only
  exact aj_dk72
def aj_m73 : aj_M := (⟨"DimShelf$Checker", "join", "(I)V"⟩, aj_bc 985, 8, none, 1, aj_lk5, "DimShelf$Checker")
set_option maxRecDepth 100000 in
theorem aj_m73_at : aj_mt[73]? = some aj_m73 := rfl
theorem aj_d73 : aj_ctOK aj_c73 aj_m73.2.1 := by
  unfold aj_m73
  dsimp only
  exact aj_dk73
def aj_m74 : aj_M := (⟨"DimShelf$Checker", "columnNamed", "(IJ)I"⟩, aj_bc 989, 5, (some (FieldType.int)), 2, aj_lk5, "DimShelf$Checker")
set_option maxRecDepth 100000 in
theorem aj_m74_at : aj_mt[74]? = some aj_m74 := rfl
theorem aj_d74 : aj_ctOK aj_c74 aj_m74.2.1 := by
  unfold aj_m74
  dsimp only
  exact aj_dk74
def aj_m75 : aj_M := (⟨"DimShelf$Checker", "pick", "(I)V"⟩, aj_bc 993, 5, none, 1, aj_lk5, "DimShelf$Checker")
set_option maxRecDepth 100000 in
theorem aj_m75_at : aj_mt[75]? = some aj_m75 := rfl
theorem aj_d75 : aj_ctOK aj_c75 aj_m75.2.1 := by
  unfold aj_m75
  dsimp only
  exact aj_dk75
def aj_m76 : aj_M := (⟨"DimShelf$Checker", "isPicked", "(J)Z"⟩, aj_bc 997, 4, (some (FieldType.boolean)), 1, aj_lk5, "DimShelf$Checker")
set_option maxRecDepth 100000 in
theorem aj_m76_at : aj_mt[76]? = some aj_m76 := rfl
theorem aj_d76 : aj_ctOK aj_c76 aj_m76.2.1 := by
  unfold aj_m76
  dsimp only
  exact aj_dk76
def aj_m77 : aj_M := (⟨"DimShelf$Checker", "usePicks", "()V"⟩, aj_bc 1001, 2, none, 0, aj_lk5, "DimShelf$Checker")
set_option maxRecDepth 100000 in
theorem aj_m77_at : aj_mt[77]? = some aj_m77 := rfl
theorem aj_d77 : aj_ctOK aj_c77 aj_m77.2.1 := by
  unfold aj_m77
  dsimp only
  exact aj_dk77
def aj_m78 : aj_M := (⟨"DimShelf$Checker", "keepNamed", "(II)V"⟩, aj_bc 1005, 3, none, 2, aj_lk5, "DimShelf$Checker")
set_option maxRecDepth 100000 in
theorem aj_m78_at : aj_mt[78]? = some aj_m78 := rfl
theorem aj_d78 : aj_ctOK aj_c78 aj_m78.2.1 := by
  unfold aj_m78
  dsimp only
  exact aj_dk78
def aj_m79 : aj_M := (⟨"DimShelf$Checker", "setColumn", "(IIJ)V"⟩, aj_bc 1010, 6, none, 3, aj_lk5, "DimShelf$Checker")
set_option maxRecDepth 100000 in
theorem aj_m79_at : aj_mt[79]? = some aj_m79 := rfl
theorem aj_d79 : aj_ctOK aj_c79 aj_m79.2.1 := by
  unfold aj_m79
  dsimp only
  exact aj_dk79
def aj_m80 : aj_M := (⟨"DimShelf$Checker", "group", "(I)V"⟩, aj_bc 1015, 2, none, 1, aj_lk5, "DimShelf$Checker")
set_option maxRecDepth 100000 in
theorem aj_m80_at : aj_mt[80]? = some aj_m80 := rfl
theorem aj_d80 : aj_ctOK aj_c80 aj_m80.2.1 := by
  unfold aj_m80
  dsimp only
  exact aj_dk80
def aj_m81 : aj_M := (⟨"DimShelf$Checker", "checkTerm", "(II)V"⟩, aj_bc 1019, 3, none, 2, aj_lk5, "DimShelf$Checker")
set_option maxRecDepth 100000 in
theorem aj_m81_at : aj_mt[81]? = some aj_m81 := rfl
theorem aj_d81 : aj_ctOK aj_c81 aj_m81.2.1 := by
  unfold aj_m81
  dsimp only
  exact aj_dk81
def aj_m82 : aj_M := (⟨"DimShelf$Checker", "intNear", "(I)I"⟩, aj_bc 1023, 2, (some (FieldType.int)), 1, aj_lk5, "DimShelf$Checker")
set_option maxRecDepth 100000 in
theorem aj_m82_at : aj_mt[82]? = some aj_m82 := rfl
theorem aj_d82 : aj_ctOK aj_c82 aj_m82.2.1 := by
  unfold aj_m82
  dsimp only
  exact aj_dk82
def aj_m83 : aj_M := (⟨"DimShelf$Tokens", "intAt", "(I)I"⟩, aj_bc 1027, 2, (some (FieldType.int)), 1, aj_lk2, "DimShelf$Tokens")
set_option maxRecDepth 100000 in
theorem aj_m83_at : aj_mt[83]? = some aj_m83 := rfl
theorem aj_d83 : aj_ctOK aj_c83 aj_m83.2.1 := by
  unfold aj_m83
  dsimp only
  exact aj_dk83
def aj_m84 : aj_M := (⟨"DimShelf$Shelf", "unknownNamed", "(J)I"⟩, aj_bc 1031, 4, (some (FieldType.int)), 1, aj_lk1, "DimShelf$Shelf")
set_option maxRecDepth 100000 in
theorem aj_m84_at : aj_mt[84]? = some aj_m84 := rfl
theorem aj_d84 : aj_ctOK aj_c84 aj_m84.2.1 := by
  unfold aj_m84
  dsimp only
  exact aj_dk84
def aj_m85 : aj_M := (⟨"DimShelf$Checker", "checkTold", "(II)V"⟩, aj_bc 1035, 3, none, 2, aj_lk5, "DimShelf$Checker")
set_option maxRecDepth 100000 in
theorem aj_m85_at : aj_mt[85]? = some aj_m85 := rfl
theorem aj_d85 : aj_ctOK aj_c85 aj_m85.2.1 := by
  unfold aj_m85
  dsimp only
  exact aj_dk85
def aj_m86 : aj_M := (⟨"DimShelf$Shelf", "startUnknown", "(J)V"⟩, aj_bc 1039, 3, none, 1, aj_lk1, "DimShelf$Shelf")
set_option maxRecDepth 100000 in
theorem aj_m86_at : aj_mt[86]? = some aj_m86 := rfl
theorem aj_d86 : aj_ctOK aj_c86 aj_m86.2.1 := by
  unfold aj_m86
  dsimp only
  exact aj_dk86
def aj_m87 : aj_M := (⟨"DimShelf$Shelf", "list", "(I)Z"⟩, aj_bc 1043, 5, (some (FieldType.boolean)), 1, aj_lk1, "DimShelf$Shelf")
set_option maxRecDepth 100000 in
theorem aj_m87_at : aj_mt[87]? = some aj_m87 := rfl
theorem aj_d87 : aj_ctOK aj_c87 aj_m87.2.1 := by
  unfold aj_m87
  dsimp only
  exact aj_dk87
def aj_m88 : aj_M := (⟨"DimShelf$Checker", "checkLast", "(I)V"⟩, aj_bc 1047, 5, none, 1, aj_lk5, "DimShelf$Checker")
set_option maxRecDepth 100000 in
theorem aj_m88_at : aj_mt[88]? = some aj_m88 := rfl
theorem aj_d88 : aj_ctOK aj_c88 aj_m88.2.1 := by
  unfold aj_m88
  dsimp only
  exact aj_dk88
def aj_m89 : aj_M := (⟨"DimShelf$Shelf", "firstListed", "()I"⟩, aj_bc 1051, 2, (some (FieldType.int)), 0, aj_lk1, "DimShelf$Shelf")
set_option maxRecDepth 100000 in
theorem aj_m89_at : aj_mt[89]? = some aj_m89 := rfl
theorem aj_d89 : aj_ctOK aj_c89 aj_m89.2.1 := by
  unfold aj_m89
  dsimp only
  exact aj_dk89
def aj_m90 : aj_M := (⟨"DimShelf$Shelf", "endUnknown", "()Z"⟩, aj_bc 1055, 2, (some (FieldType.boolean)), 0, aj_lk1, "DimShelf$Shelf")
set_option maxRecDepth 100000 in
theorem aj_m90_at : aj_mt[90]? = some aj_m90 := rfl
theorem aj_d90 : aj_ctOK aj_c90 aj_m90.2.1 := by
  unfold aj_m90
  dsimp only
  exact aj_dk90
def aj_m91 : aj_M := (⟨"DimShelf$Checker", "isNewTable", "(I)Z"⟩, aj_bc 1059, 2, (some (FieldType.boolean)), 1, aj_lk5, "DimShelf$Checker")
set_option maxRecDepth 100000 in
theorem aj_m91_at : aj_mt[91]? = some aj_m91 := rfl
theorem aj_d91 : aj_ctOK aj_c91 aj_m91.2.1 := by
  unfold aj_m91
  dsimp only
  exact aj_dk91
def aj_m92 : aj_M := (⟨"DimShelf$Shelf", "addTable", "(JZ)I"⟩, aj_bc 1063, 5, (some (FieldType.int)), 2, aj_lk1, "DimShelf$Shelf")
set_option maxRecDepth 100000 in
theorem aj_m92_at : aj_mt[92]? = some aj_m92 := rfl
theorem aj_d92 : aj_ctOK aj_c92 aj_m92.2.1 := by
  unfold aj_m92
  dsimp only
  exact aj_dk92
def aj_m93 : aj_M := (⟨"DimShelf$Shelf", "addColumn", "(J)Z"⟩, aj_bc 1068, 6, (some (FieldType.boolean)), 1, aj_lk1, "DimShelf$Shelf")
set_option maxRecDepth 100000 in
theorem aj_m93_at : aj_mt[93]? = some aj_m93 := rfl
theorem aj_d93 : aj_ctOK aj_c93 aj_m93.2.1 := by
  unfold aj_m93
  dsimp only
  exact aj_dk93
def aj_m94 : aj_M := (⟨"DimShelf$Checker", "checkRow", "(I)V"⟩, aj_bc 1074, 4, none, 1, aj_lk5, "DimShelf$Checker")
set_option maxRecDepth 100000 in
theorem aj_m94_at : aj_mt[94]? = some aj_m94 := rfl
theorem aj_d94 : aj_ctOK aj_c94 aj_m94.2.1 := by
  unfold aj_m94
  dsimp only
  exact aj_dk94
def aj_m95 : aj_M := (⟨"DimShelf$Shelf", "isAnswer", "(I)Z"⟩, aj_bc 1078, 2, (some (FieldType.boolean)), 1, aj_lk1, "DimShelf$Shelf")
set_option maxRecDepth 100000 in
theorem aj_m95_at : aj_mt[95]? = some aj_m95 := rfl
theorem aj_d95 : aj_ctOK aj_c95 aj_m95.2.1 := by
  unfold aj_m95
  dsimp only
  exact aj_dk95
def aj_m96 : aj_M := (⟨"DimShelf$Checker", "endAnswer", "(I)V"⟩, aj_bc 1082, 3, none, 1, aj_lk5, "DimShelf$Checker")
set_option maxRecDepth 100000 in
theorem aj_m96_at : aj_mt[96]? = some aj_m96 := rfl
theorem aj_d96 : aj_ctOK aj_c96 aj_m96.2.1 := by
  unfold aj_m96
  dsimp only
  exact aj_dk96
def aj_m97 : aj_M := (⟨"DimShelf$Worker", "work", "(LDimShelf$Shelf;)V"⟩, aj_bc 1086, 4, none, 1, aj_lk6, "DimShelf$Worker")
set_option maxRecDepth 100000 in
theorem aj_m97_at : aj_mt[97]? = some aj_m97 := rfl
theorem aj_d97 : aj_ctOK aj_c97 aj_m97.2.1 := by
  unfold aj_m97
  dsimp only
  exact aj_dk97
def aj_m98 : aj_M := (⟨"DimShelf$Worker", "workQuery", "(II)V"⟩, aj_bc 1092, 3, none, 2, aj_lk6, "DimShelf$Worker")
set_option maxRecDepth 100000 in
theorem aj_m98_at : aj_mt[98]? = some aj_m98 := rfl
theorem aj_d98 : aj_ctOK aj_c98 aj_m98.2.1 := by
  unfold aj_m98
  dsimp only
  exact aj_dk98
def aj_m99 : aj_M := (⟨"DimShelf$Worker", "load", "(LDimShelf$Rows;)V"⟩, aj_bc 1098, 2, none, 1, aj_lk6, "DimShelf$Worker")
set_option maxRecDepth 100000 in
theorem aj_m99_at : aj_mt[99]? = some aj_m99 := rfl
theorem aj_d99 : aj_ctOK aj_c99 aj_m99.2.1 := by
  unfold aj_m99
  dsimp only
  exact aj_dk99
def aj_m100 : aj_M := (⟨"DimShelf$Worker", "rowsAt", "(I)LDimShelf$Rows;"⟩, aj_bc 1102, 2, (some (FieldType.object "DimShelf$Rows")), 1, aj_lk6, "DimShelf$Worker")
set_option maxRecDepth 100000 in
theorem aj_m100_at : aj_mt[100]? = some aj_m100 := rfl
theorem aj_d100 : aj_ctOK aj_c100 aj_m100.2.1 := by
  unfold aj_m100
  dsimp only
  exact aj_dk100
def aj_m101 : aj_M := (⟨"DimShelf$Rows", "copyFrom", "(LDimShelf$Rows;)V"⟩, aj_bc 1106, 3, none, 1, aj_lk8, "DimShelf$Rows")
set_option maxRecDepth 100000 in
theorem aj_m101_at : aj_mt[101]? = some aj_m101 := rfl
theorem aj_d101 : aj_ctOK aj_c101 aj_m101.2.1 := by
  unfold aj_m101
  dsimp only
  exact aj_dk101
def aj_m102 : aj_M := (⟨"DimShelf$Rows", "addFrom", "(LDimShelf$Rows;I)I"⟩, aj_bc 1110, 5, (some (FieldType.int)), 2, aj_lk8, "DimShelf$Rows")
set_option maxRecDepth 100000 in
theorem aj_m102_at : aj_mt[102]? = some aj_m102 := rfl
theorem aj_d102 : aj_ctOK aj_c102 aj_m102.2.1 := by
  unfold aj_m102
  dsimp only
  exact aj_dk102
def aj_m103 : aj_M := (⟨"DimShelf$Rows", "isOpen", "(II)Z"⟩, aj_bc 1114, 4, (some (FieldType.boolean)), 2, aj_lk8, "DimShelf$Rows")
set_option maxRecDepth 100000 in
theorem aj_m103_at : aj_mt[103]? = some aj_m103 := rfl
theorem aj_d103 : aj_ctOK aj_c103 aj_m103.2.1 := by
  unfold aj_m103
  dsimp only
  exact aj_dk103
def aj_m104 : aj_M := (⟨"DimShelf$Rows", "termAt", "(II)I"⟩, aj_bc 1118, 4, (some (FieldType.int)), 2, aj_lk8, "DimShelf$Rows")
set_option maxRecDepth 100000 in
theorem aj_m104_at : aj_mt[104]? = some aj_m104 := rfl
theorem aj_d104 : aj_ctOK aj_c104 aj_m104.2.1 := by
  unfold aj_m104
  dsimp only
  exact aj_dk104
def aj_m105 : aj_M := (⟨"DimShelf$Rows", "setTerm", "(IIZI)V"⟩, aj_bc 1122, 6, none, 4, aj_lk8, "DimShelf$Rows")
set_option maxRecDepth 100000 in
theorem aj_m105_at : aj_mt[105]? = some aj_m105 := rfl
theorem aj_d105 : aj_ctOK aj_c105 aj_m105.2.1 := by
  unfold aj_m105
  dsimp only
  exact aj_dk105
def aj_m106 : aj_M := (⟨"DimShelf$Worker", "plus", "(LDimShelf$Rows;LDimShelf$Rows;I)V"⟩, aj_bc 1129, 7, none, 3, aj_lk6, "DimShelf$Worker")
set_option maxRecDepth 100000 in
theorem aj_m106_at : aj_mt[106]? = some aj_m106 := rfl
theorem aj_d106 : aj_ctOK aj_c106 aj_m106.2.1 := by
  unfold aj_m106
  dsimp only
  exact aj_dk106
def aj_m107 : aj_M := (⟨"DimShelf$Worker", "full", "(I)V"⟩, aj_bc 1133, 2, none, 1, aj_lk6, "DimShelf$Worker")
set_option maxRecDepth 100000 in
theorem aj_m107_at : aj_mt[107]? = some aj_m107 := rfl
theorem aj_d107 : aj_ctOK aj_c107 aj_m107.2.1 := by
  unfold aj_m107
  dsimp only
  exact aj_dk107
def aj_m108 : aj_M := (⟨"DimShelf$Rows", "has", "(II)Z"⟩, aj_bc 1141, 3, (some (FieldType.boolean)), 2, aj_lk8, "DimShelf$Rows")
set_option maxRecDepth 100000 in
theorem aj_m108_at : aj_mt[108]? = some aj_m108 := rfl
theorem aj_d108 : aj_ctOK aj_c108 aj_m108.2.1 := by
  unfold aj_m108
  dsimp only
  exact aj_dk108
def aj_m109 : aj_M := (⟨"DimShelf$Rows", "put", "(II)V"⟩, aj_bc 1145, 3, none, 2, aj_lk8, "DimShelf$Rows")
set_option maxRecDepth 100000 in
theorem aj_m109_at : aj_mt[109]? = some aj_m109 := rfl
theorem aj_d109 : aj_ctOK aj_c109 aj_m109.2.1 := by
  unfold aj_m109
  dsimp only
  exact aj_dk109
def aj_m110 : aj_M := (⟨"DimShelf$Rows", "drop", "(II)V"⟩, aj_bc 1149, 3, none, 2, aj_lk8, "DimShelf$Rows")
set_option maxRecDepth 100000 in
theorem aj_m110_at : aj_mt[110]? = some aj_m110 := rfl
theorem aj_d110 : aj_ctOK aj_c110 aj_m110.2.1 := by
  unfold aj_m110
  dsimp only
  exact aj_dk110
def aj_m111 : aj_M := (⟨"DimShelf$Worker", "minus", "(LDimShelf$Rows;LDimShelf$Rows;)V"⟩, aj_bc 1153, 6, none, 2, aj_lk6, "DimShelf$Worker")
set_option maxRecDepth 100000 in
theorem aj_m111_at : aj_mt[111]? = some aj_m111 := rfl
theorem aj_d111 : aj_ctOK aj_c111 aj_m111.2.1 := by
  unfold aj_m111
  dsimp only
  exact aj_dk111
def aj_m112 : aj_M := (⟨"DimShelf$Rows", "neverMeets", "(ILDimShelf$Rows;II)Z"⟩, aj_bc 1158, 7, (some (FieldType.boolean)), 4, aj_lk8, "DimShelf$Rows")
set_option maxRecDepth 100000 in
theorem aj_m112_at : aj_mt[112]? = some aj_m112 := rfl
theorem aj_d112 : aj_ctOK aj_c112 aj_m112.2.1 := by
  unfold aj_m112
  dsimp only
  exact aj_dk112
def aj_m113 : aj_M := (⟨"DimShelf$Rows", "meets", "(LDimShelf$Shelf;ILDimShelf$Rows;III)Z"⟩, aj_bc 1162, 9, (some (FieldType.boolean)), 6, aj_lk8, "DimShelf$Rows")
set_option maxRecDepth 100000 in
theorem aj_m113_at : aj_mt[113]? = some aj_m113 := rfl
theorem aj_d113 : aj_ctOK aj_c113 aj_m113.2.1 := by
  unfold aj_m113
  dsimp only
  exact aj_dk113
def aj_m114 : aj_M := (⟨"DimShelf$Rows", "cellIn", "(LDimShelf$Shelf;III)I"⟩, aj_bc 1167, 8, (some (FieldType.int)), 4, aj_lk8, "DimShelf$Rows")
set_option maxRecDepth 100000 in
theorem aj_m114_at : aj_mt[114]? = some aj_m114 := rfl
theorem aj_d114 : aj_ctOK aj_c114 aj_m114.2.1 := by
  unfold aj_m114
  dsimp only
  exact aj_dk114
def aj_m115 : aj_M := (⟨"DimShelf$Worker", "join", "(LDimShelf$Rows;LDimShelf$Rows;I)V"⟩, aj_bc 1171, 7, none, 3, aj_lk6, "DimShelf$Worker")
set_option maxRecDepth 100000 in
theorem aj_m115_at : aj_mt[115]? = some aj_m115 := rfl
theorem aj_d115 : aj_ctOK aj_c115 aj_m115.2.1 := by
  unfold aj_m115
  dsimp only
  exact aj_dk115
def aj_m116 : aj_M := (⟨"DimShelf$Rows", "clear", "(I)V"⟩, aj_bc 1175, 2, none, 1, aj_lk8, "DimShelf$Rows")
set_option maxRecDepth 100000 in
theorem aj_m116_at : aj_mt[116]? = some aj_m116 := rfl
theorem aj_d116 : aj_ctOK aj_c116 aj_m116.2.1 := by
  unfold aj_m116
  dsimp only
  exact aj_dk116
def aj_m117 : aj_M := (⟨"java/util/Arrays", "fill", "([II)V"⟩, aj_bc 1178, 4, none, 2, aj_lk12, "java/util/Arrays")
set_option maxRecDepth 100000 in
theorem aj_m117_at : aj_mt[117]? = some aj_m117 := rfl
theorem aj_d117 : aj_ctOK aj_c117 aj_m117.2.1 := by
  unfold aj_m117
  dsimp only
  exact aj_dk117
def aj_m118 : aj_M := (⟨"DimShelf$Worker", "joinRow", "(LDimShelf$Rows;ILDimShelf$Rows;II)V"⟩, aj_bc 1182, 9, none, 5, aj_lk6, "DimShelf$Worker")
set_option maxRecDepth 100000 in
theorem aj_m118_at : aj_mt[118]? = some aj_m118 := rfl
theorem aj_d118 : aj_ctOK aj_c118 aj_m118.2.1 := by
  unfold aj_m118
  dsimp only
  exact aj_dk118
def aj_m119 : aj_M := (⟨"DimShelf$Rows", "newColumns", "(II)I"⟩, aj_bc 1189, 5, (some (FieldType.int)), 2, aj_lk8, "DimShelf$Rows")
set_option maxRecDepth 100000 in
theorem aj_m119_at : aj_mt[119]? = some aj_m119 := rfl
theorem aj_d119 : aj_ctOK aj_c119 aj_m119.2.1 := by
  unfold aj_m119
  dsimp only
  exact aj_dk119
def aj_m120 : aj_M := (⟨"DimShelf$Worker", "useScratch", "()V"⟩, aj_bc 1193, 3, none, 0, aj_lk6, "DimShelf$Worker")
set_option maxRecDepth 100000 in
theorem aj_m120_at : aj_mt[120]? = some aj_m120 := rfl
theorem aj_d120 : aj_ctOK aj_c120 aj_m120.2.1 := by
  unfold aj_m120
  dsimp only
  exact aj_dk120
def aj_m121 : aj_M := (⟨"DimShelf$Worker", "test", "(LDimShelf$Rows;)V"⟩, aj_bc 1197, 4, none, 1, aj_lk6, "DimShelf$Worker")
set_option maxRecDepth 100000 in
theorem aj_m121_at : aj_mt[121]? = some aj_m121 := rfl
theorem aj_d121 : aj_ctOK aj_c121 aj_m121.2.1 := by
  unfold aj_m121
  dsimp only
  exact aj_dk121
def aj_m122 : aj_M := (⟨"DimShelf$Worker", "compares", "(LDimShelf$Rows;II)Z"⟩, aj_bc 1201, 6, (some (FieldType.boolean)), 3, aj_lk6, "DimShelf$Worker")
set_option maxRecDepth 100000 in
theorem aj_m122_at : aj_mt[122]? = some aj_m122 := rfl
theorem aj_d122 : aj_ctOK aj_c122 aj_m122.2.1 := by
  unfold aj_m122
  dsimp only
  exact aj_dk122
def aj_m123 : aj_M := (⟨"DimShelf$Worker", "sideIn", "(IILDimShelf$Rows;II)I"⟩, aj_bc 1205, 6, (some (FieldType.int)), 5, aj_lk6, "DimShelf$Worker")
set_option maxRecDepth 100000 in
theorem aj_m123_at : aj_mt[123]? = some aj_m123 := rfl
theorem aj_d123 : aj_ctOK aj_c123 aj_m123.2.1 := by
  unfold aj_m123
  dsimp only
  exact aj_dk123
def aj_m124 : aj_M := (⟨"DimShelf$Shelf", "valueIn", "(II)I"⟩, aj_bc 1209, 4, (some (FieldType.int)), 2, aj_lk1, "DimShelf$Shelf")
set_option maxRecDepth 100000 in
theorem aj_m124_at : aj_mt[124]? = some aj_m124 := rfl
theorem aj_d124 : aj_ctOK aj_c124 aj_m124.2.1 := by
  unfold aj_m124
  dsimp only
  exact aj_dk124
def aj_m125 : aj_M := (⟨"DimShelf$Grouper", "pick", "(I)V"⟩, aj_bc 1214, 2, none, 1, aj_lk7, "DimShelf$Grouper")
set_option maxRecDepth 100000 in
theorem aj_m125_at : aj_mt[125]? = some aj_m125 := rfl
theorem aj_d125 : aj_ctOK aj_c125 aj_m125.2.1 := by
  unfold aj_m125
  dsimp only
  exact aj_dk125
def aj_m126 : aj_M := (⟨"DimShelf$Grouper", "project", "(LDimShelf$Rows;)V"⟩, aj_bc 1218, 4, none, 1, aj_lk7, "DimShelf$Grouper")
set_option maxRecDepth 100000 in
theorem aj_m126_at : aj_mt[126]? = some aj_m126 := rfl
theorem aj_d126 : aj_ctOK aj_c126 aj_m126.2.1 := by
  unfold aj_m126
  dsimp only
  exact aj_dk126
def aj_m127 : aj_M := (⟨"DimShelf$Grouper", "group", "(LDimShelf$Shelf;LDimShelf$Rows;LDimShelf$Rows;)Z"⟩, aj_bc 1225, 5, (some (FieldType.boolean)), 3, aj_lk7, "DimShelf$Grouper")
set_option maxRecDepth 100000 in
theorem aj_m127_at : aj_mt[127]? = some aj_m127 := rfl
theorem aj_d127 : aj_ctOK aj_c127 aj_m127.2.1 := by
  unfold aj_m127
  dsimp only
  exact aj_dk127
def aj_m128 : aj_M := (⟨"DimShelf$Grouper", "groupIn", "(LDimShelf$Shelf;LDimShelf$Rows;LDimShelf$Rows;I)Z"⟩, aj_bc 1233, 9, (some (FieldType.boolean)), 4, aj_lk7, "DimShelf$Grouper")
set_option maxRecDepth 100000 in
theorem aj_m128_at : aj_mt[128]? = some aj_m128 := rfl
theorem aj_d128 : aj_ctOK aj_c128 aj_m128.2.1 := by
  unfold aj_m128
  dsimp only
  exact aj_dk128
def aj_m129 : aj_M := (⟨"DimShelf$Rows", "lineUp", "(LDimShelf$Shelf;I[I)I"⟩, aj_bc 1237, 9, (some (FieldType.int)), 3, aj_lk8, "DimShelf$Rows")
set_option maxRecDepth 100000 in
theorem aj_m129_at : aj_mt[129]? = some aj_m129 := rfl
theorem aj_d129 : aj_ctOK aj_c129 aj_m129.2.1 := by
  unfold aj_m129
  dsimp only
  exact aj_dk129
def aj_m130 : aj_M := (⟨"DimShelf$Rows", "against", "(LDimShelf$Shelf;IILDimShelf$Rows;II)I"⟩, aj_bc 1241, 10, (some (FieldType.int)), 6, aj_lk8, "DimShelf$Rows")
set_option maxRecDepth 100000 in
theorem aj_m130_at : aj_mt[130]? = some aj_m130 := rfl
theorem aj_d130 : aj_ctOK aj_c130 aj_m130.2.1 := by
  unfold aj_m130
  dsimp only
  exact aj_dk130
def aj_m131 : aj_M := (⟨"DimShelf$Grouper", "isFirst", "(LDimShelf$Shelf;LDimShelf$Rows;II)Z"⟩, aj_bc 1245, 6, (some (FieldType.boolean)), 4, aj_lk7, "DimShelf$Grouper")
set_option maxRecDepth 100000 in
theorem aj_m131_at : aj_mt[131]? = some aj_m131 := rfl
theorem aj_d131 : aj_ctOK aj_c131 aj_m131.2.1 := by
  unfold aj_m131
  dsimp only
  exact aj_dk131
def aj_m132 : aj_M := (⟨"DimShelf$Grouper", "isAlike", "(LDimShelf$Shelf;LDimShelf$Rows;III)Z"⟩, aj_bc 1249, 7, (some (FieldType.boolean)), 5, aj_lk7, "DimShelf$Grouper")
set_option maxRecDepth 100000 in
theorem aj_m132_at : aj_mt[132]? = some aj_m132 := rfl
theorem aj_d132 : aj_ctOK aj_c132 aj_m132.2.1 := by
  unfold aj_m132
  dsimp only
  exact aj_dk132
def aj_m133 : aj_M := (⟨"DimShelf$Grouper", "tally", "(LDimShelf$Shelf;LDimShelf$Rows;III)I"⟩, aj_bc 1254, 9, (some (FieldType.int)), 5, aj_lk7, "DimShelf$Grouper")
set_option maxRecDepth 100000 in
theorem aj_m133_at : aj_mt[133]? = some aj_m133 := rfl
theorem aj_d133 : aj_ctOK aj_c133 aj_m133.2.1 := by
  unfold aj_m133
  dsimp only
  exact aj_dk133
def aj_m134 : aj_M := (⟨"DimShelf$Grouper", "start", "(I)I"⟩, aj_bc 1258, 2, (some (FieldType.int)), 1, aj_lk7, "DimShelf$Grouper")
set_option maxRecDepth 100000 in
theorem aj_m134_at : aj_mt[134]? = some aj_m134 := rfl
theorem aj_d134 : aj_ctOK aj_c134 aj_m134.2.1 := by
  unfold aj_m134
  dsimp only
  exact aj_dk134
def aj_m135 : aj_M := (⟨"DimShelf$Grouper", "more", "(II)I"⟩, aj_bc 1262, 3, (some (FieldType.int)), 2, aj_lk7, "DimShelf$Grouper")
set_option maxRecDepth 100000 in
theorem aj_m135_at : aj_mt[135]? = some aj_m135 := rfl
theorem aj_d135 : aj_ctOK aj_c135 aj_m135.2.1 := by
  unfold aj_m135
  dsimp only
  exact aj_dk135
def aj_m136 : aj_M := (⟨"DimShelf$Grouper", "find", "(LDimShelf$Rows;)I"⟩, aj_bc 1269, 3, (some (FieldType.int)), 1, aj_lk7, "DimShelf$Grouper")
set_option maxRecDepth 100000 in
theorem aj_m136_at : aj_mt[136]? = some aj_m136 := rfl
theorem aj_d136 : aj_ctOK aj_c136 aj_m136.2.1 := by
  unfold aj_m136
  dsimp only
  exact aj_dk136
def aj_m137 : aj_M := (⟨"DimShelf$Grouper", "isTuple", "(LDimShelf$Rows;I)Z"⟩, aj_bc 1273, 4, (some (FieldType.boolean)), 2, aj_lk7, "DimShelf$Grouper")
set_option maxRecDepth 100000 in
theorem aj_m137_at : aj_mt[137]? = some aj_m137 := rfl
theorem aj_d137 : aj_ctOK aj_c137 aj_m137.2.1 := by
  unfold aj_m137
  dsimp only
  exact aj_dk137
def aj_m138 : aj_M := (⟨"DimShelf$Grouper", "sort", "(LDimShelf$Shelf;LDimShelf$Rows;)V"⟩, aj_bc 1277, 5, none, 2, aj_lk7, "DimShelf$Grouper")
set_option maxRecDepth 100000 in
theorem aj_m138_at : aj_mt[138]? = some aj_m138 := rfl
theorem aj_d138 : aj_ctOK aj_c138 aj_m138.2.1 := by
  unfold aj_m138
  dsimp only
  exact aj_dk138
def aj_m139 : aj_M := (⟨"DimShelf$Rows", "change", "(III)V"⟩, aj_bc 1282, 7, none, 3, aj_lk8, "DimShelf$Rows")
set_option maxRecDepth 100000 in
theorem aj_m139_at : aj_mt[139]? = some aj_m139 := rfl
theorem aj_d139 : aj_ctOK aj_c139 aj_m139.2.1 := by
  unfold aj_m139
  dsimp only
  exact aj_dk139
def aj_m140 : aj_M := (⟨"DimShelf$Worker", "workCond", "(II)V"⟩, aj_bc 1286, 4, none, 2, aj_lk6, "DimShelf$Worker")
set_option maxRecDepth 100000 in
theorem aj_m140_at : aj_mt[140]? = some aj_m140 := rfl
theorem aj_d140 : aj_ctOK aj_c140 aj_m140.2.1 := by
  unfold aj_m140
  dsimp only
  exact aj_dk140
def aj_m141 : aj_M := (⟨"DimShelf$Worker", "setSide", "(II)V"⟩, aj_bc 1290, 3, none, 2, aj_lk6, "DimShelf$Worker")
set_option maxRecDepth 100000 in
theorem aj_m141_at : aj_mt[141]? = some aj_m141 := rfl
theorem aj_d141 : aj_ctOK aj_c141 aj_m141.2.1 := by
  unfold aj_m141
  dsimp only
  exact aj_dk141
def aj_m142 : aj_M := (⟨"DimShelf$Worker", "judged", "(III)I"⟩, aj_bc 1294, 4, (some (FieldType.int)), 3, aj_lk6, "DimShelf$Worker")
set_option maxRecDepth 100000 in
theorem aj_m142_at : aj_mt[142]? = some aj_m142 := rfl
theorem aj_d142 : aj_ctOK aj_c142 aj_m142.2.1 := by
  unfold aj_m142
  dsimp only
  exact aj_dk142
def aj_m143 : aj_M := (⟨"DimShelf$Worker", "workTold", "(II)V"⟩, aj_bc 1298, 3, none, 2, aj_lk6, "DimShelf$Worker")
set_option maxRecDepth 100000 in
theorem aj_m143_at : aj_mt[143]? = some aj_m143 := rfl
theorem aj_d143 : aj_ctOK aj_c143 aj_m143.2.1 := by
  unfold aj_m143
  dsimp only
  exact aj_dk143
def aj_m144 : aj_M := (⟨"DimShelf$Worker", "startRow", "(LDimShelf$Rows;)V"⟩, aj_bc 1302, 3, none, 1, aj_lk6, "DimShelf$Worker")
set_option maxRecDepth 100000 in
theorem aj_m144_at : aj_mt[144]? = some aj_m144 := rfl
theorem aj_d144 : aj_ctOK aj_c144 aj_m144.2.1 := by
  unfold aj_m144
  dsimp only
  exact aj_dk144
def aj_m145 : aj_M := (⟨"DimShelf$Worker", "addTerm", "(LDimShelf$Rows;)V"⟩, aj_bc 1306, 2, none, 1, aj_lk6, "DimShelf$Worker")
set_option maxRecDepth 100000 in
theorem aj_m145_at : aj_mt[145]? = some aj_m145 := rfl
theorem aj_d145 : aj_ctOK aj_c145 aj_m145.2.1 := by
  unfold aj_m145
  dsimp only
  exact aj_dk145
def aj_m146 : aj_M := (⟨"DimShelf$Worker", "limitRow", "(LDimShelf$Rows;)V"⟩, aj_bc 1310, 3, none, 1, aj_lk6, "DimShelf$Worker")
set_option maxRecDepth 100000 in
theorem aj_m146_at : aj_mt[146]? = some aj_m146 := rfl
theorem aj_d146 : aj_ctOK aj_c146 aj_m146.2.1 := by
  unfold aj_m146
  dsimp only
  exact aj_dk146
def aj_m147 : aj_M := (⟨"DimShelf$Worker", "judgedTrue", "(I)Z"⟩, aj_bc 1314, 2, (some (FieldType.boolean)), 1, aj_lk6, "DimShelf$Worker")
set_option maxRecDepth 100000 in
theorem aj_m147_at : aj_mt[147]? = some aj_m147 := rfl
theorem aj_d147 : aj_ctOK aj_c147 aj_m147.2.1 := by
  unfold aj_m147
  dsimp only
  exact aj_dk147
def aj_m148 : aj_M := (⟨"DimShelf$Shelf", "addPart", "(LDimShelf$Worker;)V"⟩, aj_bc 1318, 3, none, 1, aj_lk1, "DimShelf$Shelf")
set_option maxRecDepth 100000 in
theorem aj_m148_at : aj_mt[148]? = some aj_m148 := rfl
theorem aj_d148 : aj_ctOK aj_c148 aj_m148.2.1 := by
  unfold aj_m148
  dsimp only
  exact aj_dk148
def aj_m149 : aj_M := (⟨"DimShelf$Worker", "endAnswer", "(LDimShelf$Rows;LDimShelf$Rows;)V"⟩, aj_bc 1323, 3, none, 2, aj_lk6, "DimShelf$Worker")
set_option maxRecDepth 100000 in
theorem aj_m149_at : aj_mt[149]? = some aj_m149 := rfl
theorem aj_d149 : aj_ctOK aj_c149 aj_m149.2.1 := by
  unfold aj_m149
  dsimp only
  exact aj_dk149
def aj_m150 : aj_M := (⟨"DimShelf", "forget", "()V"⟩, aj_bc 1327, 1, none, 0, aj_lk0, "DimShelf")
set_option maxRecDepth 100000 in
theorem aj_m150_at : aj_mt[150]? = some aj_m150 := rfl
theorem aj_d150 : aj_ctOK aj_c150 aj_m150.2.1 := by
  unfold aj_m150
  dsimp only
  exact aj_dk150
def aj_m151 : aj_M := (⟨"DimShelf$Listing", "forget", "()V"⟩, aj_bc 1331, 1, none, 0, aj_lk9, "DimShelf$Listing")
set_option maxRecDepth 100000 in
theorem aj_m151_at : aj_mt[151]? = some aj_m151 := rfl
theorem aj_d151 : aj_ctOK aj_c151 aj_m151.2.1 := by
  unfold aj_m151
  dsimp only
  exact aj_dk151
def aj_m152 : aj_M := (⟨"DimShelf$Reason", "forget", "()V"⟩, aj_bc 1335, 1, none, 0, aj_lk10, "DimShelf$Reason")
set_option maxRecDepth 100000 in
theorem aj_m152_at : aj_mt[152]? = some aj_m152 := rfl
theorem aj_d152 : aj_ctOK aj_c152 aj_m152.2.1 := by
  unfold aj_m152
  dsimp only
  exact aj_dk152
def aj_m153 : aj_M := (⟨"DimShelf", "place", "()I"⟩, aj_bc 1339, 1, (some (FieldType.int)), 0, aj_lk0, "DimShelf")
set_option maxRecDepth 100000 in
theorem aj_m153_at : aj_mt[153]? = some aj_m153 := rfl
theorem aj_d153 : aj_ctOK aj_c153 aj_m153.2.1 := by
  unfold aj_m153
  dsimp only
  exact aj_dk153
def aj_m154 : aj_M := (⟨"DimShelf", "learn", "()I"⟩, aj_bc 1343, 1, (some (FieldType.int)), 0, aj_lk0, "DimShelf")
set_option maxRecDepth 100000 in
theorem aj_m154_at : aj_mt[154]? = some aj_m154 := rfl
theorem aj_d154 : aj_ctOK aj_c154 aj_m154.2.1 := by
  unfold aj_m154
  dsimp only
  exact aj_dk154
def aj_m155 : aj_M := (⟨"DimShelf", "judged", "()Z"⟩, aj_bc 1347, 1, (some (FieldType.boolean)), 0, aj_lk0, "DimShelf")
set_option maxRecDepth 100000 in
theorem aj_m155_at : aj_mt[155]? = some aj_m155 := rfl
theorem aj_d155 : aj_ctOK aj_c155 aj_m155.2.1 := by
  unfold aj_m155
  dsimp only
  exact aj_dk155
def aj_m156 : aj_M := (⟨"DimShelf$Worker", "judge", "(LDimShelf$Shelf;)V"⟩, aj_bc 1351, 3, none, 1, aj_lk6, "DimShelf$Worker")
set_option maxRecDepth 100000 in
theorem aj_m156_at : aj_mt[156]? = some aj_m156 := rfl
theorem aj_d156 : aj_ctOK aj_c156 aj_m156.2.1 := by
  unfold aj_m156
  dsimp only
  exact aj_dk156
def aj_m157 : aj_M := (⟨"DimShelf$Shelf", "heldWith", "(LDimShelf$Worker;)I"⟩, aj_bc 1355, 4, (some (FieldType.int)), 1, aj_lk1, "DimShelf$Shelf")
set_option maxRecDepth 100000 in
theorem aj_m157_at : aj_mt[157]? = some aj_m157 := rfl
theorem aj_d157 : aj_ctOK aj_c157 aj_m157.2.1 := by
  unfold aj_m157
  dsimp only
  exact aj_dk157
def aj_m158 : aj_M := (⟨"DimShelf$Shelf", "heldWorld", "(I)I"⟩, aj_bc 1359, 2, (some (FieldType.int)), 1, aj_lk1, "DimShelf$Shelf")
set_option maxRecDepth 100000 in
theorem aj_m158_at : aj_mt[158]? = some aj_m158 := rfl
theorem aj_d158 : aj_ctOK aj_c158 aj_m158.2.1 := by
  unfold aj_m158
  dsimp only
  exact aj_dk158
def aj_m159 : aj_M := (⟨"DimShelf", "undo", "()Z"⟩, aj_bc 1364, 1, (some (FieldType.boolean)), 0, aj_lk0, "DimShelf")
set_option maxRecDepth 100000 in
theorem aj_m159_at : aj_mt[159]? = some aj_m159 := rfl
theorem aj_d159 : aj_ctOK aj_c159 aj_m159.2.1 := by
  unfold aj_m159
  dsimp only
  exact aj_dk159
def aj_m160 : aj_M := (⟨"DimShelf$Shelf", "dropPart", "()V"⟩, aj_bc 1368, 2, none, 0, aj_lk1, "DimShelf$Shelf")
set_option maxRecDepth 100000 in
theorem aj_m160_at : aj_mt[160]? = some aj_m160 := rfl
theorem aj_d160 : aj_ctOK aj_c160 aj_m160.2.1 := by
  unfold aj_m160
  dsimp only
  exact aj_dk160
def aj_m161 : aj_M := (⟨"DimShelf", "ask", "()I"⟩, aj_bc 1372, 1, (some (FieldType.int)), 0, aj_lk0, "DimShelf")
set_option maxRecDepth 100000 in
theorem aj_m161_at : aj_mt[161]? = some aj_m161 := rfl
theorem aj_d161 : aj_ctOK aj_c161 aj_m161.2.1 := by
  unfold aj_m161
  dsimp only
  exact aj_dk161
def aj_m162 : aj_M := (⟨"DimShelf$Shelf", "keepAsked", "(LDimShelf$Worker;)V"⟩, aj_bc 1376, 3, none, 1, aj_lk1, "DimShelf$Shelf")
set_option maxRecDepth 100000 in
theorem aj_m162_at : aj_mt[162]? = some aj_m162 := rfl
theorem aj_d162 : aj_ctOK aj_c162 aj_m162.2.1 := by
  unfold aj_m162
  dsimp only
  exact aj_dk162
def aj_m163 : aj_M := (⟨"DimShelf", "why", "(I)I"⟩, aj_bc 1380, 2, (some (FieldType.int)), 1, aj_lk0, "DimShelf")
set_option maxRecDepth 100000 in
theorem aj_m163_at : aj_mt[163]? = some aj_m163 := rfl
theorem aj_d163 : aj_ctOK aj_c163 aj_m163.2.1 := by
  unfold aj_m163
  dsimp only
  exact aj_dk163
def aj_m164 : aj_M := (⟨"DimShelf$Reason", "part", "(LDimShelf$Shelf;I)I"⟩, aj_bc 1384, 5, (some (FieldType.int)), 2, aj_lk10, "DimShelf$Reason")
set_option maxRecDepth 100000 in
theorem aj_m164_at : aj_mt[164]? = some aj_m164 := rfl
theorem aj_d164 : aj_ctOK aj_c164 aj_m164.2.1 := by
  unfold aj_m164
  dsimp only
  exact aj_dk164
def aj_m165 : aj_M := (⟨"DimShelf$Reason", "find", "(LDimShelf$Shelf;)V"⟩, aj_bc 1388, 4, none, 1, aj_lk10, "DimShelf$Reason")
set_option maxRecDepth 100000 in
theorem aj_m165_at : aj_mt[165]? = some aj_m165 := rfl
theorem aj_d165 : aj_ctOK aj_c165 aj_m165.2.1 := by
  unfold aj_m165
  dsimp only
  exact aj_dk165
def aj_m166 : aj_M := (⟨"DimShelf$Shelf", "isAsked", "(I)Z"⟩, aj_bc 1392, 2, (some (FieldType.boolean)), 1, aj_lk1, "DimShelf$Shelf")
set_option maxRecDepth 100000 in
theorem aj_m166_at : aj_mt[166]? = some aj_m166 := rfl
theorem aj_d166 : aj_ctOK aj_c166 aj_m166.2.1 := by
  unfold aj_m166
  dsimp only
  exact aj_dk166
def aj_m167 : aj_M := (⟨"DimShelf$Shelf", "brokenIn", "(I)I"⟩, aj_bc 1396, 2, (some (FieldType.int)), 1, aj_lk1, "DimShelf$Shelf")
set_option maxRecDepth 100000 in
theorem aj_m167_at : aj_mt[167]? = some aj_m167 := rfl
theorem aj_d167 : aj_ctOK aj_c167 aj_m167.2.1 := by
  unfold aj_m167
  dsimp only
  exact aj_dk167
def aj_m168 : aj_M := (⟨"DimShelf$Reason", "keep", "(I)V"⟩, aj_bc 1400, 4, none, 1, aj_lk10, "DimShelf$Reason")
set_option maxRecDepth 100000 in
theorem aj_m168_at : aj_mt[168]? = some aj_m168 := rfl
theorem aj_d168 : aj_ctOK aj_c168 aj_m168.2.1 := by
  unfold aj_m168
  dsimp only
  exact aj_dk168
def aj_m169 : aj_M := (⟨"DimShelf$Reason", "hits", "([IIIIII)Z"⟩, aj_bc 1403, 12, (some (FieldType.boolean)), 6, aj_lk10, "DimShelf$Reason")
set_option maxRecDepth 100000 in
theorem aj_m169_at : aj_mt[169]? = some aj_m169 := rfl
theorem aj_d169 : aj_ctOK aj_c169 aj_m169.2.1 := by
  unfold aj_m169
  dsimp only
  exact aj_dk169
def aj_m170 : aj_M := (⟨"java/lang/Integer", "bitCount", "(I)I"⟩, aj_bc 1406, 1, (some (FieldType.int)), 1, aj_lk13, "java/lang/Integer")
set_option maxRecDepth 100000 in
theorem aj_m170_at : aj_mt[170]? = some aj_m170 := rfl
theorem aj_d170 : aj_ctOK aj_c170 aj_m170.2.1 := by
  unfold aj_m170
  dsimp only
  exact aj_dk170
def aj_m171 : aj_M := (⟨"DimShelf$Reason", "choose", "(II)V"⟩, aj_bc 1413, 7, none, 2, aj_lk10, "DimShelf$Reason")
set_option maxRecDepth 100000 in
theorem aj_m171_at : aj_mt[171]? = some aj_m171 := rfl
theorem aj_d171 : aj_ctOK aj_c171 aj_m171.2.1 := by
  unfold aj_m171
  dsimp only
  exact aj_dk171
def aj_m172 : aj_M := (⟨"DimShelf", "value", "(II)I"⟩, aj_bc 1417, 4, (some (FieldType.int)), 2, aj_lk0, "DimShelf")
set_option maxRecDepth 100000 in
theorem aj_m172_at : aj_mt[172]? = some aj_m172 := rfl
theorem aj_d172 : aj_ctOK aj_c172 aj_m172.2.1 := by
  unfold aj_m172
  dsimp only
  exact aj_dk172
def aj_m173 : aj_M := (⟨"DimShelf", "table", "(II)I"⟩, aj_bc 1424, 4, (some (FieldType.int)), 2, aj_lk0, "DimShelf")
set_option maxRecDepth 100000 in
theorem aj_m173_at : aj_mt[173]? = some aj_m173 := rfl
theorem aj_d173 : aj_ctOK aj_c173 aj_m173.2.1 := by
  unfold aj_m173
  dsimp only
  exact aj_dk173
def aj_m174 : aj_M := (⟨"DimShelf$Listing", "gather", "(LDimShelf$Shelf;I)V"⟩, aj_bc 1430, 5, none, 2, aj_lk9, "DimShelf$Listing")
set_option maxRecDepth 100000 in
theorem aj_m174_at : aj_mt[174]? = some aj_m174 := rfl
theorem aj_d174 : aj_ctOK aj_c174 aj_m174.2.1 := by
  unfold aj_m174
  dsimp only
  exact aj_dk174
def aj_m175 : aj_M := (⟨"DimShelf$Listing", "collect", "(LDimShelf$Shelf;LDimShelf$Rows;)V"⟩, aj_bc 1435, 7, none, 2, aj_lk9, "DimShelf$Listing")
set_option maxRecDepth 100000 in
theorem aj_m175_at : aj_mt[175]? = some aj_m175 := rfl
theorem aj_d175 : aj_ctOK aj_c175 aj_m175.2.1 := by
  unfold aj_m175
  dsimp only
  exact aj_dk175
def aj_m176 : aj_M := (⟨"DimShelf$Listing", "makeRoom", "(I)V"⟩, aj_bc 1443, 4, none, 1, aj_lk9, "DimShelf$Listing")
set_option maxRecDepth 100000 in
theorem aj_m176_at : aj_mt[176]? = some aj_m176 := rfl
theorem aj_d176 : aj_ctOK aj_c176 aj_m176.2.1 := by
  unfold aj_m176
  dsimp only
  exact aj_dk176
def aj_m177 : aj_M := (⟨"java/util/Arrays", "copyOf", "([II)[I"⟩, aj_bc 1446, 3, (some (FieldType.array FieldType.int)), 2, aj_lk12, "java/util/Arrays")
set_option maxRecDepth 100000 in
theorem aj_m177_at : aj_mt[177]? = some aj_m177 := rfl
theorem aj_d177 : aj_ctOK aj_c177 aj_m177.2.1 := by
  unfold aj_m177
  dsimp only
  exact aj_dk177
def aj_m178 : aj_M := (⟨"DimShelf$Listing", "put", "([III)V"⟩, aj_bc 1459, 3, none, 3, aj_lk9, "DimShelf$Listing")
set_option maxRecDepth 100000 in
theorem aj_m178_at : aj_mt[178]? = some aj_m178 := rfl
theorem aj_d178 : aj_ctOK aj_c178 aj_m178.2.1 := by
  unfold aj_m178
  dsimp only
  exact aj_dk178
def aj_m179 : aj_M := (⟨"DimShelf$Listing", "mergeRuns", "(LDimShelf$Shelf;LDimShelf$Rows;)V"⟩, aj_bc 1463, 9, none, 2, aj_lk9, "DimShelf$Listing")
set_option maxRecDepth 100000 in
theorem aj_m179_at : aj_mt[179]? = some aj_m179 := rfl
theorem aj_d179 : aj_ctOK aj_c179 aj_m179.2.1 := by
  unfold aj_m179
  dsimp only
  exact aj_dk179
def aj_m180 : aj_M := (⟨"DimShelf$Listing", "mergeTwo", "(LDimShelf$Shelf;LDimShelf$Rows;IIII)I"⟩, aj_bc 1467, 14, (some (FieldType.int)), 6, aj_lk9, "DimShelf$Listing")
set_option maxRecDepth 100000 in
theorem aj_m180_at : aj_mt[180]? = some aj_m180 := rfl
theorem aj_d180 : aj_ctOK aj_c180 aj_m180.2.1 := by
  unfold aj_m180
  dsimp only
  exact aj_dk180
def aj_m181 : aj_M := (⟨"DimShelf$Listing", "ref", "(I)I"⟩, aj_bc 1471, 2, (some (FieldType.int)), 1, aj_lk9, "DimShelf$Listing")
set_option maxRecDepth 100000 in
theorem aj_m181_at : aj_mt[181]? = some aj_m181 := rfl
theorem aj_d181 : aj_ctOK aj_c181 aj_m181.2.1 := by
  unfold aj_m181
  dsimp only
  exact aj_dk181
def aj_m182 : aj_M := (⟨"DimShelf$Listing", "rowOf", "(I)I"⟩, aj_bc 1474, 1, (some (FieldType.int)), 1, aj_lk9, "DimShelf$Listing")
set_option maxRecDepth 100000 in
theorem aj_m182_at : aj_mt[182]? = some aj_m182 := rfl
theorem aj_d182 : aj_ctOK aj_c182 aj_m182.2.1 := by
  unfold aj_m182
  dsimp only
  exact aj_dk182
def aj_m183 : aj_M := (⟨"DimShelf$Listing", "worldOf", "(I)I"⟩, aj_bc 1477, 1, (some (FieldType.int)), 1, aj_lk9, "DimShelf$Listing")
set_option maxRecDepth 100000 in
theorem aj_m183_at : aj_mt[183]? = some aj_m183 := rfl
theorem aj_d183 : aj_ctOK aj_c183 aj_m183.2.1 := by
  unfold aj_m183
  dsimp only
  exact aj_dk183
def aj_m184 : aj_M := (⟨"DimShelf$Listing", "worldsOf", "(I)I"⟩, aj_bc 1481, 1, (some (FieldType.int)), 1, aj_lk9, "DimShelf$Listing")
set_option maxRecDepth 100000 in
theorem aj_m184_at : aj_mt[184]? = some aj_m184 := rfl
theorem aj_d184 : aj_ctOK aj_c184 aj_m184.2.1 := by
  unfold aj_m184
  dsimp only
  exact aj_dk184
def aj_m185 : aj_M := (⟨"DimShelf$Listing", "findSure", "(I)V"⟩, aj_bc 1485, 3, none, 1, aj_lk9, "DimShelf$Listing")
set_option maxRecDepth 100000 in
theorem aj_m185_at : aj_mt[185]? = some aj_m185 := rfl
theorem aj_d185 : aj_ctOK aj_c185 aj_m185.2.1 := by
  unfold aj_m185
  dsimp only
  exact aj_dk185
def aj_m186 : aj_M := (⟨"DimShelf", "term", "(IIII)I"⟩, aj_bc 1489, 6, (some (FieldType.int)), 4, aj_lk0, "DimShelf")
set_option maxRecDepth 100000 in
theorem aj_m186_at : aj_mt[186]? = some aj_m186 := rfl
theorem aj_d186 : aj_ctOK aj_c186 aj_m186.2.1 := by
  unfold aj_m186
  dsimp only
  exact aj_dk186
def aj_m187 : aj_M := (⟨"DimShelf", "many", "(II)I"⟩, aj_bc 1495, 6, (some (FieldType.int)), 2, aj_lk0, "DimShelf")
set_option maxRecDepth 100000 in
theorem aj_m187_at : aj_mt[187]? = some aj_m187 := rfl
theorem aj_d187 : aj_ctOK aj_c187 aj_m187.2.1 := by
  unfold aj_m187
  dsimp only
  exact aj_dk187
def aj_m188 : aj_M := (⟨"DimShelf", "holds", "(III)Z"⟩, aj_bc 1500, 6, (some (FieldType.boolean)), 3, aj_lk0, "DimShelf")
set_option maxRecDepth 100000 in
theorem aj_m188_at : aj_mt[188]? = some aj_m188 := rfl
theorem aj_d188 : aj_ctOK aj_c188 aj_m188.2.1 := by
  unfold aj_m188
  dsimp only
  exact aj_dk188
def aj_m189 : aj_M := (⟨"DimShelf", "size", "(II)I"⟩, aj_bc 1504, 5, (some (FieldType.int)), 2, aj_lk0, "DimShelf")
set_option maxRecDepth 100000 in
theorem aj_m189_at : aj_mt[189]? = some aj_m189 := rfl
theorem aj_d189 : aj_ctOK aj_c189 aj_m189.2.1 := by
  unfold aj_m189
  dsimp only
  exact aj_dk189
def aj_m190 : aj_M := (⟨"DimShelf", "cell", "(IIII)I"⟩, aj_bc 1509, 8, (some (FieldType.int)), 4, aj_lk0, "DimShelf")
set_option maxRecDepth 100000 in
theorem aj_m190_at : aj_mt[190]? = some aj_m190 := rfl
theorem aj_d190 : aj_ctOK aj_c190 aj_m190.2.1 := by
  unfold aj_m190
  dsimp only
  exact aj_dk190
def aj_m191 : aj_M := (⟨"DimShelf", "sure", "(III)I"⟩, aj_bc 1514, 4, (some (FieldType.int)), 3, aj_lk0, "DimShelf")
set_option maxRecDepth 100000 in
theorem aj_m191_at : aj_mt[191]? = some aj_m191 := rfl
theorem aj_d191 : aj_ctOK aj_c191 aj_m191.2.1 := by
  unfold aj_m191
  dsimp only
  exact aj_dk191
def aj_m192 : aj_M := (⟨"DimShelf$Listing", "sureRef", "(I)I"⟩, aj_bc 1518, 2, (some (FieldType.int)), 1, aj_lk9, "DimShelf$Listing")
set_option maxRecDepth 100000 in
theorem aj_m192_at : aj_mt[192]? = some aj_m192 := rfl
theorem aj_d192 : aj_ctOK aj_c192 aj_m192.2.1 := by
  unfold aj_m192
  dsimp only
  exact aj_dk192
def aj_m193 : aj_M := (⟨"DimShelf", "listedCell", "(LDimShelf$Rows;II)I"⟩, aj_bc 1522, 4, (some (FieldType.int)), 3, aj_lk0, "DimShelf")
set_option maxRecDepth 100000 in
theorem aj_m193_at : aj_mt[193]? = some aj_m193 := rfl
theorem aj_d193 : aj_ctOK aj_c193 aj_m193.2.1 := by
  unfold aj_m193
  dsimp only
  exact aj_dk193
def aj_m194 : aj_M := (⟨"DimShelf", "maybe", "(III)I"⟩, aj_bc 1528, 4, (some (FieldType.int)), 3, aj_lk0, "DimShelf")
set_option maxRecDepth 100000 in
theorem aj_m194_at : aj_mt[194]? = some aj_m194 := rfl
theorem aj_d194 : aj_ctOK aj_c194 aj_m194.2.1 := by
  unfold aj_m194
  dsimp only
  exact aj_dk194
def aj_m195 : aj_M := (⟨"DimShelf", "often", "(II)I"⟩, aj_bc 1533, 4, (some (FieldType.int)), 2, aj_lk0, "DimShelf")
set_option maxRecDepth 100000 in
theorem aj_m195_at : aj_mt[195]? = some aj_m195 := rfl
theorem aj_d195 : aj_ctOK aj_c195 aj_m195.2.1 := by
  unfold aj_m195
  dsimp only
  exact aj_dk195
def aj_m196 : aj_M := (⟨"DimShelf", "same", "(II)I"⟩, aj_bc 1538, 6, (some (FieldType.int)), 2, aj_lk0, "DimShelf")
set_option maxRecDepth 100000 in
theorem aj_m196_at : aj_mt[196]? = some aj_m196 := rfl
theorem aj_d196 : aj_ctOK aj_c196 aj_m196.2.1 := by
  unfold aj_m196
  dsimp only
  exact aj_dk196
def aj_m197 : aj_M := (⟨"DimShelf", "agree", "(LDimShelf$Rows;LDimShelf$Rows;I)Z"⟩, aj_bc 1542, 6, (some (FieldType.boolean)), 3, aj_lk0, "DimShelf")
set_option maxRecDepth 100000 in
theorem aj_m197_at : aj_mt[197]? = some aj_m197 := rfl
theorem aj_d197 : aj_ctOK aj_c197 aj_m197.2.1 := by
  unfold aj_m197
  dsimp only
  exact aj_dk197
def aj_m198 : aj_M := (⟨"DimShelf", "count", "(I)I"⟩, aj_bc 1547, 2, (some (FieldType.int)), 1, aj_lk0, "DimShelf")
set_option maxRecDepth 100000 in
theorem aj_m198_at : aj_mt[198]? = some aj_m198 := rfl
theorem aj_d198 : aj_ctOK aj_c198 aj_m198.2.1 := by
  unfold aj_m198
  dsimp only
  exact aj_dk198
