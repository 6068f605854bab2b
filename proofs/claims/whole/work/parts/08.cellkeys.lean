def f_X10_asked (S : VX10)  : Option (Int32) :=
 (f_X9_latest S.1).bind fun r1 =>
 some r1
def f_X10_rowRefusal (S : VX10) (v1 : Int32) : Option (Int32 × VX10) :=
 (f_X6_isNumber S.2.1 v1).bind fun r1 =>
 if r1 = 0 then
 some ((-1), S)
 else
 (f_X6_isThere S.2.1 v1).bind fun r3 =>
 if r3 = 0 then
 (f_X9_found S.1 1).bind fun r5 =>
 some (r5.1, (r5.2, S.2.1, S.2.2.1, S.2.2.2.1, S.2.2.2.2.1, S.2.2.2.2.2.1, S.2.2.2.2.2.2.1, S.2.2.2.2.2.2.2.1, S.2.2.2.2.2.2.2.2.1, S.2.2.2.2.2.2.2.2.2))
 else
 some (0, S)
def f_X10_placeRefusal (S : VX10) (v1 : Int32) (v2 : Int32) : Option (Int32 × VX10) :=
 (f_X10_rowRefusal S v1).bind fun r1 =>
 if r1.1 = 0 then
 (f_X6_isPlace r1.2.2.1 v1 v2).bind fun r3 =>
 if r3 = 0 then
 (f_X9_found r1.2.1 2).bind fun r5 =>
 some (r5.1, (r5.2, r1.2.2.1, r1.2.2.2.1, r1.2.2.2.2.1, r1.2.2.2.2.2.1, r1.2.2.2.2.2.2.1, r1.2.2.2.2.2.2.2.1, r1.2.2.2.2.2.2.2.2.1, r1.2.2.2.2.2.2.2.2.2.1, r1.2.2.2.2.2.2.2.2.2.2))
 else
 some (0, r1.2)
 else
 some (r1.1, r1.2)
def f_X10_at (S : VX10) (v1 : Int32) (v2 : Int32) : Option (Int32 × VX10) :=
 (f_X10_placeRefusal S v1 v2).bind fun r1 =>
 if r1.1 = 0 then
 (f_X6_get r1.2.2.1 v1 v2).bind fun r3 =>
 (f_X9_tell r1.2.1 r3).bind fun r5 =>
 some (1, (r5, r1.2.2.1, r1.2.2.2.1, r1.2.2.2.2.1, r1.2.2.2.2.2.1, r1.2.2.2.2.2.2.1, r1.2.2.2.2.2.2.2.1, r1.2.2.2.2.2.2.2.2.1, r1.2.2.2.2.2.2.2.2.2.1, r1.2.2.2.2.2.2.2.2.2.2))
 else
 some (r1.1, r1.2)
def f_X10_getsOut (S : VX10) (v1 : Int32) : Option (Int32 × VX10) :=
 (f_X4_fill S.2.2.2.2.2.2.1 S.2.2.2.2.1 v1).bind fun r1 =>
 (f_X4_has r1 v1).bind fun r3 =>
 if r3 = 0 ∨ r3 = 1 then
 some (r3, (S.1, S.2.1, S.2.2.1, S.2.2.2.1, S.2.2.2.2.1, S.2.2.2.2.2.1, r1, S.2.2.2.2.2.2.2.1, S.2.2.2.2.2.2.2.2.1, S.2.2.2.2.2.2.2.2.2))
 else none
def f_X10_band (S : VX10) (v1 : Int32) : Option (Int32 × VX10) :=
 (f_X2_isSet S.2.2.2.2.1 v1).bind fun r1 =>
 if r1 = 0 then
 some ((-1), S)
 else
 if v1 = 0 then
 some ((-1), S)
 else
 (f_X10_getsOut S v1).bind fun r3 =>
 if r3.1 = 0 then
 some ((-9), r3.2)
 else
 (f_X4_favoursOf r3.2.2.2.2.2.2.2.1 v1).bind fun r5 =>
 some (r5, r3.2)
def f_X10_bands_26  : Nat → VX10 → Int32 → Int32 → Int32 → Int32 → Option (Int32 × VX10)
 | 0, _, _, _, _, _ => none
 | n + 1, S, v1, v2, v3, v4 =>
 (f_X2_everyone S.2.2.2.2.1).bind fun r1 =>
 if r1 < v4 then
 (f_X9_tell S.1 v3).bind fun r3 =>
 some (v2, (r3, S.2.1, S.2.2.1, S.2.2.2.1, S.2.2.2.2.1, S.2.2.2.2.2.1, S.2.2.2.2.2.2.1, S.2.2.2.2.2.2.2.1, S.2.2.2.2.2.2.2.2.1, S.2.2.2.2.2.2.2.2.2))
 else
 (f_J6_bitCount_0f7a4 v4).bind fun r5 =>
 if r5 = v1 then
 (f_X10_getsOut S v4).bind fun r7 =>
 if r7.1 = 0 then
 f_X10_bands_26 n r7.2 v1 v2 v3 (v4 + 1)
 else
 if v2 = 0 then
 f_X10_bands_26 n r7.2 v1 (v2 + 1) v4 (v4 + 1)
 else
 f_X10_bands_26 n r7.2 v1 (v2 + 1) v3 (v4 + 1)
 else
 f_X10_bands_26 n S v1 v2 v3 (v4 + 1)
def f_X10_bands (S : VX10) (v1 : Int32) : Option (Int32 × VX10) :=
 if v1 < 1 then
 some ((-1), S)
 else
 (f_X2_cells S.2.2.2.2.1).bind fun r9 =>
 if v1 ≤ r9 then
 f_X10_bands_26 4096 S v1 0 (-9) 1
 else
 some ((-1), S)
def f_X10_bell (S : VX10)  : Option (Int32 × VX10) :=
 (f_X1_howManyOut S.2.2.2.2.2.1).bind fun r1 =>
 (f_X1_allIn S.2.2.2.2.2.1).bind fun r3 =>
 some (r1, (S.1, S.2.1, S.2.2.1, S.2.2.2.1, S.2.2.2.2.1, r3, S.2.2.2.2.2.2.1, S.2.2.2.2.2.2.2.1, S.2.2.2.2.2.2.2.2.1, S.2.2.2.2.2.2.2.2.2))
def f_X10_can (S : VX10) (v1 : Int32) : Option (Int32) :=
 (f_X2_isCell S.2.2.2.2.1 v1).bind fun r1 =>
 if r1 = 0 then
 some (-1)
 else
 (f_X1_hasOut S.2.2.2.2.2.1 v1).bind fun r3 =>
 if r3 = 0 then
 (f_X1_whoIsOut S.2.2.2.2.2.1).bind fun r5 =>
 (f_X2_everyone S.2.2.2.2.1).bind fun r7 =>
 (f_X2_favoursFor S.2.2.2.2.1 v1 r5 r7).bind fun r9 =>
 some r9
 else
 some (-4)
def f_X10_copy_60  (S : VX10)  : Option (Int32 × VX10) :=
 (f_X9_found S.1 1).bind fun r1 =>
 some (r1.1, (r1.2, S.2.1, S.2.2.1, S.2.2.2.1, S.2.2.2.2.1, S.2.2.2.2.2.1, S.2.2.2.2.2.2.1, S.2.2.2.2.2.2.2.1, S.2.2.2.2.2.2.2.2.1, S.2.2.2.2.2.2.2.2.2))
def f_X10_copy_98  (S : VX10)  : Option (Int32 × VX10) :=
 (f_X9_found S.1 2).bind fun r3 =>
 some (r3.1, (r3.2, S.2.1, S.2.2.1, S.2.2.2.1, S.2.2.2.2.1, S.2.2.2.2.2.1, S.2.2.2.2.2.2.1, S.2.2.2.2.2.2.2.1, S.2.2.2.2.2.2.2.2.1, S.2.2.2.2.2.2.2.2.2))
def f_X10_copy (S : VX10) (v1 : Int32) (v2 : Int32) (v3 : Int32) (v4 : Int32) (v5 : Int32) : Option (Int32 × VX10) :=
 (f_X6_isNumber S.2.1 v1).bind fun r5 =>
 if r5 = 0 then
 some ((-1), S)
 else
 (f_X6_isNumber S.2.1 v3).bind fun r7 =>
 if r7 = 0 then
 some ((-1), S)
 else
 if 0 ≤ v5 then
 (f_X6_isThere S.2.1 v1).bind fun r9 =>
 if r9 = 0 then
 f_X10_copy_60 S
 else
 (f_X6_isThere S.2.1 v3).bind fun r11 =>
 if r11 = 0 then
 f_X10_copy_60 S
 else
 (f_X6_hasPlaces S.2.1 v1 v2 v5).bind fun r13 =>
 if r13 = 0 then
 f_X10_copy_98 S
 else
 (f_X6_hasPlaces S.2.1 v3 v4 v5).bind fun r15 =>
 if r15 = 0 then
 f_X10_copy_98 S
 else
 (f_X6_move S.2.1 v1 v2 v3 v4 v5).bind fun r17 =>
 some (1, (S.1, r17, S.2.2.1, S.2.2.2.1, S.2.2.2.2.1, S.2.2.2.2.2.1, S.2.2.2.2.2.2.1, S.2.2.2.2.2.2.2.1, S.2.2.2.2.2.2.2.2.1, S.2.2.2.2.2.2.2.2.2))
 else
 (f_X9_found S.1 5).bind fun r19 =>
 some (r19.1, (r19.2, S.2.1, S.2.2.1, S.2.2.2.1, S.2.2.2.2.1, S.2.2.2.2.2.1, S.2.2.2.2.2.2.1, S.2.2.2.2.2.2.2.1, S.2.2.2.2.2.2.2.2.1, S.2.2.2.2.2.2.2.2.2))
def f_X10_count (S : VX10) (v1 : Int32) : Option (Int32) :=
 if v1 = 0 then
 (f_X2_cells S.2.2.2.2.1).bind fun r1 =>
 some r1
 else
 if v1 = 1 then
 (f_X1_howManyOut S.2.2.2.2.2.1).bind fun r3 =>
 some r3
 else
 if v1 = 2 then
 (f_X2_doorsOf S.2.2.2.2.1 1).bind fun r5 =>
 some r5
 else
 if v1 = 3 then
 (f_X2_doorsOf S.2.2.2.2.1 3).bind fun r7 =>
 some r7
 else
 if v1 = 4 then
 (f_X2_quarrels S.2.2.2.2.1).bind fun r9 =>
 some r9
 else
 if v1 = 5 then
 (f_X7_size S.2.2.2.2.2.2.2.2.2).bind fun r11 =>
 some r11
 else
 if v1 = 6 then
 (f_X6_howMany S.2.1).bind fun r13 =>
 some r13
 else
 if v1 = 7 then
 (f_X8_howMany S.2.2.1).bind fun r15 =>
 some r15
 else
 some (-1)
def f_X10_isFavours  (v0 : Int32) : Option (Int32) :=
 if v0 < 0 then
 some 0
 else
 if 99 < v0 then
 some 0
 else
 some 1
def f_X10_reachAll (S : VX10)  : Option (VX10) :=
 (f_X2_everyone S.2.2.2.2.1).bind fun r1 =>
 (f_X4_fill S.2.2.2.2.2.2.1 S.2.2.2.2.1 r1).bind fun r3 =>
 some (S.1, S.2.1, S.2.2.1, S.2.2.2.1, S.2.2.2.2.1, S.2.2.2.2.2.1, r3, S.2.2.2.2.2.2.2.1, S.2.2.2.2.2.2.2.2.1, S.2.2.2.2.2.2.2.2.2)
def f_X10_fitsNight (S : VX10) (v1 : Int32) (v2 : Int32) : Option (Int32) :=
 (f_X4_has S.2.2.2.2.2.2.1 v1).bind fun r1 =>
 if r1 = 0 then
 some 0
 else
 (f_X4_favoursOf S.2.2.2.2.2.2.1 v1).bind fun r3 =>
 if v2 < r3 then
 some 0
 else
 (f_X7_fit S.2.2.2.2.2.2.2.2.2 v1).bind fun r5 =>
 if r5 = 0 then
 some 0
 else
 some 1
def f_X10_culprits_29  : Nat → VX10 → Int32 → Int32 → Int32 → Int32 → Int32 → Option (Int32 × VX10)
 | 0, _, _, _, _, _, _ => none
 | n + 1, S, v1, v2, v3, v4, v5 =>
 (f_X2_everyone S.2.2.2.2.1).bind fun r1 =>
 if r1 < v5 then
 if v4 = 0 then
 some ((-9), S)
 else
 (f_X9_tell S.1 v3).bind fun r3 =>
 some (v2, (r3, S.2.1, S.2.2.1, S.2.2.2.1, S.2.2.2.2.1, S.2.2.2.2.2.1, S.2.2.2.2.2.2.1, S.2.2.2.2.2.2.2.1, S.2.2.2.2.2.2.2.2.1, S.2.2.2.2.2.2.2.2.2))
 else
 (f_X10_fitsNight S v5 v1).bind fun r5 =>
 if r5 = 0 then
 f_X10_culprits_29 n S v1 v2 v3 v4 (v5 + 1)
 else
 f_X10_culprits_29 n S v1 (v2 ||| v5) (v3 &&& v5) 1 (v5 + 1)
def f_X10_culprits (S : VX10) (v1 : Int32) : Option (Int32 × VX10) :=
 (f_X10_isFavours v1).bind fun r7 =>
 if r7 = 0 then
 some ((-1), S)
 else
 (f_X10_reachAll S).bind fun r9 =>
 (f_X2_everyone r9.2.2.2.2.1).bind fun r11 =>
 f_X10_culprits_29 4096 r9 v1 0 r11 0 0
def f_X10_deals_83  : Nat → VX10 → Int32 → Int32 → Int32 → Option (Int32 × VX10)
 | 0, _, _, _, _ => none
 | n + 1, S, v2, v3, v4 =>
 (f_X2_cells S.2.2.2.2.1).bind fun r1 =>
 if r1 ≤ v4 then
 some (v3, S)
 else
 (f_X0_firstKeeperOf S.2.2.2.2.2.2.2.2.1 v4).bind fun r3 =>
 (f_X6_set S.2.1 v2 v4 r3).bind fun r5 =>
 f_X10_deals_83 n (S.1, r5, S.2.2.1, S.2.2.2.1, S.2.2.2.2.1, S.2.2.2.2.2.1, S.2.2.2.2.2.2.1, S.2.2.2.2.2.2.2.1, S.2.2.2.2.2.2.2.2.1, S.2.2.2.2.2.2.2.2.2) v2 v3 (v4 + 1)
def f_X10_deals (S : VX10) (v1 : Int32) (v2 : Int32) : Option (Int32 × VX10) :=
 if v1 < 1 then
 some ((-1), S)
 else
 if 5 < v1 then
 some ((-1), S)
 else
 (f_X2_cells S.2.2.2.2.1).bind fun r7 =>
 if r7 < v1 then
 some ((-1), S)
 else
 (f_X6_isNumber S.2.1 v2).bind fun r9 =>
 if r9 = 0 then
 some ((-1), S)
 else
 (f_X2_cells S.2.2.2.2.1).bind fun r11 =>
 if r11 ≤ 5 then
 (f_X0_dealAll S.2.2.2.2.2.2.2.2.1 S.2.2.2.2.1 v1).bind fun r13 =>
 if r13.1 ≤ 0 then
 some (r13.1, (S.1, S.2.1, S.2.2.1, S.2.2.2.1, S.2.2.2.2.1, S.2.2.2.2.2.1, S.2.2.2.2.2.2.1, S.2.2.2.2.2.2.2.1, r13.2, S.2.2.2.2.2.2.2.2.2))
 else
 (f_X2_cells S.2.2.2.2.1).bind fun r15 =>
 (f_X6_make S.2.1 v2 r15).bind fun r17 =>
 f_X10_deals_83 4096 (S.1, r17, S.2.2.1, S.2.2.2.1, S.2.2.2.2.1, S.2.2.2.2.2.1, S.2.2.2.2.2.2.1, S.2.2.2.2.2.2.2.1, r13.2, S.2.2.2.2.2.2.2.2.2) v2 r13.1 0
 else
 some ((-6), S)
def f_X10_dealt_101  : Nat → VX10 → Int32 → Int32 → Option (Int32 × VX10)
 | 0, _, _, _ => none
 | n + 1, S, v1, v3 =>
 (f_X2_cells S.2.2.2.2.1).bind fun r1 =>
 if r1 ≤ v3 then
 some (1, S)
 else
 (f_X2_isOf S.2.2.2.2.1 v3 2).bind fun r3 =>
 if r3 = 0 then
 (f_X6_get S.2.1 v1 v3).bind fun r5 =>
 (f_X2_setKeeper S.2.2.2.2.1 v3 r5).bind fun r7 =>
 f_X10_dealt_101 n (S.1, S.2.1, S.2.2.1, S.2.2.2.1, r7, S.2.2.2.2.2.1, S.2.2.2.2.2.2.1, S.2.2.2.2.2.2.2.1, S.2.2.2.2.2.2.2.2.1, S.2.2.2.2.2.2.2.2.2) v1 (v3 + 1)
 else
 f_X10_dealt_101 n S v1 (v3 + 1)
def f_X10_dealt_41  : Nat → VX10 → Int32 → Int32 → Option (Int32 × VX10)
 | 0, _, _, _ => none
 | n + 1, S, v1, v3 =>
 (f_X2_cells S.2.2.2.2.1).bind fun r9 =>
 if r9 ≤ v3 then
 f_X10_dealt_101 4096 S v1 0
 else
 (f_X2_isOf S.2.2.2.2.1 v3 2).bind fun r11 =>
 if r11 = 0 then
 (f_X6_get S.2.1 v1 v3).bind fun r13 =>
 (f_X2_mayKeep S.2.2.2.2.1 v3 r13).bind fun r15 =>
 if r15 = 0 then
 (f_X9_found S.1 3).bind fun r17 =>
 some (r17.1, (r17.2, S.2.1, S.2.2.1, S.2.2.2.1, S.2.2.2.2.1, S.2.2.2.2.2.1, S.2.2.2.2.2.2.1, S.2.2.2.2.2.2.2.1, S.2.2.2.2.2.2.2.2.1, S.2.2.2.2.2.2.2.2.2))
 else
 f_X10_dealt_41 n S v1 (v3 + 1)
 else
 f_X10_dealt_41 n S v1 (v3 + 1)
def f_X10_dealt (S : VX10) (v1 : Int32) : Option (Int32 × VX10) :=
 (f_X10_rowRefusal S v1).bind fun r19 =>
 if r19.1 = 0 then
 (f_X6_sizeOf r19.2.2.1 v1).bind fun r21 =>
 (f_X2_cells r19.2.2.2.2.2.1).bind fun r23 =>
 if r21 = r23 then
 f_X10_dealt_41 4096 r19.2 v1 0
 else
 (f_X9_found r19.2.1 5).bind fun r25 =>
 some (r25.1, (r25.2, r19.2.2.1, r19.2.2.2.1, r19.2.2.2.2.1, r19.2.2.2.2.2.1, r19.2.2.2.2.2.2.1, r19.2.2.2.2.2.2.2.1, r19.2.2.2.2.2.2.2.2.1, r19.2.2.2.2.2.2.2.2.2.1, r19.2.2.2.2.2.2.2.2.2.2))
 else
 some (r19.1, r19.2)
def f_X10_digest_6  : Nat → VX10 → Int64 → Int32 → Option (Int64)
 | 0, _, _, _ => none
 | n + 1, S, v1, v3 =>
 if 8 ≤ v3 then
 (f_X1_whoIsOut S.2.2.2.2.2.1).bind fun r1 =>
 (f_X1_favours S.2.2.2.2.2.1).bind fun r3 =>
 (f_X2_mix S.2.2.2.2.1 ((31 * ((31 * v1) + r1.toInt64)) + r3.toInt64)).bind fun r5 =>
 (f_X7_mix S.2.2.2.2.2.2.2.2.2 r5).bind fun r7 =>
 (f_X1_mixKept S.2.2.2.2.2.1 r7).bind fun r9 =>
 (f_X6_mix S.2.1 r9).bind fun r11 =>
 (f_X8_mix S.2.2.1 r11).bind fun r13 =>
 some r13
 else
 (f_X10_count S v3).bind fun r15 =>
 f_X10_digest_6 n S ((31 * v1) + r15.toInt64) (v3 + 1)
def f_X10_digest (S : VX10)  : Option (Int64) :=
 f_X10_digest_6 4096 S 17 0
def f_X10_door (S : VX10) (v1 : Int32) (v2 : Int32) : Option (Int32 × VX10) :=
 (f_X2_isCell S.2.2.2.2.1 v1).bind fun r1 =>
 if r1 = 0 then
 some ((-1), S)
 else
 if v2 < 0 then
 some ((-1), S)
 else
 if v2 < 4 then
 (f_X2_doorAnswer S.2.2.2.2.1 v1 v2).bind fun r3 =>
 (f_X9_tell S.1 r3).bind fun r5 =>
 some (1, (r5, S.2.1, S.2.2.1, S.2.2.2.1, S.2.2.2.2.1, S.2.2.2.2.2.1, S.2.2.2.2.2.2.1, S.2.2.2.2.2.2.2.1, S.2.2.2.2.2.2.2.2.1, S.2.2.2.2.2.2.2.2.2))
 else
 some ((-1), S)
def f_X10_ever (S : VX10)  : Option (Int32 × VX10) :=
 (f_X10_reachAll S).bind fun r1 =>
 (f_X4_inSome r1.2.2.2.2.2.2.1).bind fun r3 =>
 (f_X2_everyone r1.2.2.2.2.1).bind fun r5 =>
 (f_X9_tell r1.1 (r5 &&& (r3 ^^^ ((-1) : Int32)))).bind fun r7 =>
 some (r3, (r7, r1.2.1, r1.2.2.1, r1.2.2.2.1, r1.2.2.2.2.1, r1.2.2.2.2.2.1, r1.2.2.2.2.2.2.1, r1.2.2.2.2.2.2.2.1, r1.2.2.2.2.2.2.2.2.1, r1.2.2.2.2.2.2.2.2.2))
def f_X10_textRefusal (S : VX10) (v1 : Int32) : Option (Int32 × VX10) :=
 (f_X8_isNumber S.2.2.1 v1).bind fun r1 =>
 if r1 = 0 then
 some ((-1), S)
 else
 (f_X8_isThere S.2.2.1 v1).bind fun r3 =>
 if r3 = 0 then
 (f_X9_found S.1 1).bind fun r5 =>
 some (r5.1, (r5.2, S.2.1, S.2.2.1, S.2.2.2.1, S.2.2.2.2.1, S.2.2.2.2.2.1, S.2.2.2.2.2.2.1, S.2.2.2.2.2.2.2.1, S.2.2.2.2.2.2.2.2.1, S.2.2.2.2.2.2.2.2.2))
 else
 some (0, S)
def f_X10_fault (S : VX10) (v1 : Int32) : Option (Int32 × VX10) :=
 (f_X10_textRefusal S v1).bind fun r1 =>
 if r1.1 = 0 then
 (f_X5_read r1.2.2.2.2.1 r1.2.2.2.1 v1).bind fun r3 =>
 some (r3.1, (r1.2.1, r1.2.2.1, r1.2.2.2.1, r3.2, r1.2.2.2.2.2.1, r1.2.2.2.2.2.2.1, r1.2.2.2.2.2.2.2.1, r1.2.2.2.2.2.2.2.2.1, r1.2.2.2.2.2.2.2.2.2.1, r1.2.2.2.2.2.2.2.2.2.2))
 else
 some (r1.1, r1.2)
def f_X10_finding (S : VX10)  : Option (Int32) :=
 (f_X9_latestFinding S.1).bind fun r1 =>
 some r1
def f_X10_findings (S : VX10) (v1 : Int32) : Option (Int32) :=
 if v1 < 1 then
 some (-1)
 else
 if v1 ≤ 5 then
 (f_X9_howOften S.1 v1).bind fun r1 =>
 some r1
 else
 some (-1)
def f_X10_foes (S : VX10) (v1 : Int32) : Option (Int32) :=
 (f_X2_isCell S.2.2.2.2.1 v1).bind fun r1 =>
 if r1 = 0 then
 some (-1)
 else
 (f_X2_foesOf S.2.2.2.2.1 v1).bind fun r3 =>
 some r3
def f_X10_forget (S : VX10) (v1 : Int32) : Option (Int32 × VX10) :=
 if v1 < 0 then
 some ((-1), S)
 else
 (f_X7_size S.2.2.2.2.2.2.2.2.2).bind fun r1 =>
 if v1 ≤ r1 then
 (f_X7_dropFrom S.2.2.2.2.2.2.2.2.2 v1).bind fun r3 =>
 some (r3.1, (S.1, S.2.1, S.2.2.1, S.2.2.2.1, S.2.2.2.2.1, S.2.2.2.2.2.1, S.2.2.2.2.2.2.1, S.2.2.2.2.2.2.2.1, S.2.2.2.2.2.2.2.2.1, r3.2))
 else
 some ((-1), S)
def f_X10_ill_98 (r_62 : VX10 → Int32 → Int32 → Int32 → Int32 → Option (Int32 × VX10)) (S : VX10) (v2 : Int32) (v3 : Int32) (v4 : Int32) (v5 : Int32) (t0 : Int32) : Option (Int32 × VX10) :=
 if t0 = (-9) then
 r_62 S v2 v3 v4 (v5 + 1)
 else
 if v3 = (-9) then
 r_62 S v2 t0 v5 (v5 + 1)
 else
 if v3 ≤ t0 then
 r_62 S v2 v3 v4 (v5 + 1)
 else
 r_62 S v2 t0 v5 (v5 + 1)
def f_X10_ill_62  : Nat → VX10 → Int32 → Int32 → Int32 → Int32 → Option (Int32 × VX10)
 | 0, _, _, _, _, _ => none
 | n + 1, S, v2, v3, v4, v5 =>
 (f_X2_cells S.2.2.2.2.1).bind fun r1 =>
 if r1 ≤ v5 then
 if v3 = (-9) then
 some (v3, S)
 else
 (f_X9_tell S.1 v4).bind fun r3 =>
 some (v3, (r3, S.2.1, S.2.2.1, S.2.2.2.1, S.2.2.2.2.1, S.2.2.2.2.2.1, S.2.2.2.2.2.2.1, S.2.2.2.2.2.2.2.1, S.2.2.2.2.2.2.2.2.1, S.2.2.2.2.2.2.2.2.2))
 else
 if ((v2 >>> (v5 &&& 31)) &&& (1 : Int32)) = 1 then
 (f_X4_leastFor S.2.2.2.2.2.2.1 v5).bind fun r5 =>
 f_X10_ill_98 (f_X10_ill_62 n) S v2 v3 v4 v5 r5
 else
 f_X10_ill_98 (f_X10_ill_62 n) S v2 v3 v4 v5 (-9)
def f_X10_ill (S : VX10) (v1 : Int32) : Option (Int32 × VX10) :=
 (f_X2_isCell S.2.2.2.2.1 v1).bind fun r7 =>
 if r7 = 0 then
 some ((-1), S)
 else
 (f_X10_reachAll S).bind fun r9 =>
 (f_X2_everyone r9.2.2.2.2.1).bind fun r11 =>
 (f_X2_foesOf r9.2.2.2.2.1 v1).bind fun r13 =>
 (f_X2_sprungOnes r9.2.2.2.2.1).bind fun r15 =>
 f_X10_ill_62 4096 r9 (((r11 &&& (r13 ^^^ ((-1) : Int32))) &&& (r15 ^^^ ((-1) : Int32))) &&& (((1 : Int32) <<< (v1 &&& 31)) ^^^ ((-1) : Int32))) (-9) (-9) 0
def f_X10_isYesOrNo  (v0 : Int32) : Option (Int32) :=
 if v0 = 0 then
 some 1
 else
 if v0 = 1 then
 some 1
 else
 some 0
def f_X10_jail (S : VX10) (v1 : Int32) : Option (Int32 × VX10) :=
 (f_X10_textRefusal S v1).bind fun r1 =>
 if r1.1 = 0 then
 (f_X5_read r1.2.2.2.2.1 r1.2.2.2.1 v1).bind fun r3 =>
 if r3.1 = (-9) then
 (f_X5_draft r3.2).bind fun r5 =>
 (f_X2_become r1.2.2.2.2.2.1 r3.2.1).bind fun r7 =>
 (f_X1_clear r1.2.2.2.2.2.2.1).bind fun r9 =>
 (f_X7_dropFrom r1.2.2.2.2.2.2.2.2.2.2 0).bind fun r11 =>
 (f_X2_cells r7).bind fun r13 =>
 some (r13, (r1.2.1, r1.2.2.1, r1.2.2.2.1, r3.2, r7, r9, r1.2.2.2.2.2.2.2.1, r1.2.2.2.2.2.2.2.2.1, r1.2.2.2.2.2.2.2.2.2.1, r11.2))
 else
 some ((-4), (r1.2.1, r1.2.2.1, r1.2.2.2.1, r3.2, r1.2.2.2.2.2.1, r1.2.2.2.2.2.2.1, r1.2.2.2.2.2.2.2.1, r1.2.2.2.2.2.2.2.2.1, r1.2.2.2.2.2.2.2.2.2.1, r1.2.2.2.2.2.2.2.2.2.2))
 else
 some (r1.1, r1.2)
def f_X10_keep (S : VX10) (v1 : Int32) : Option (Int32 × VX10) :=
 (f_X1_isNumber S.2.2.2.2.2.1 v1).bind fun r1 =>
 if r1 = 0 then
 some ((-1), S)
 else
 (f_X1_store S.2.2.2.2.2.1 v1).bind fun r3 =>
 (f_X1_howManyOut r3).bind fun r5 =>
 some (r5, (S.1, S.2.1, S.2.2.1, S.2.2.2.1, S.2.2.2.2.1, r3, S.2.2.2.2.2.2.1, S.2.2.2.2.2.2.2.1, S.2.2.2.2.2.2.2.2.1, S.2.2.2.2.2.2.2.2.2))
def f_X10_key (S : VX10) (v1 : Int32) (v2 : Int32) : Option (Int32 × VX10) :=
 (f_X2_isCell S.2.2.2.2.1 v1).bind fun r1 =>
 if r1 = 0 then
 some ((-1), S)
 else
 (f_X2_isCell S.2.2.2.2.1 v2).bind fun r3 =>
 if r3 = 0 then
 some ((-1), S)
 else
 if v1 = v2 then
 some ((-1), S)
 else
 (f_X2_mayKeep S.2.2.2.2.1 v1 v2).bind fun r5 =>
 if r5 = 0 then
 (f_X9_found S.1 3).bind fun r11 =>
 some (r11.1, (r11.2, S.2.1, S.2.2.1, S.2.2.2.1, S.2.2.2.2.1, S.2.2.2.2.2.1, S.2.2.2.2.2.2.1, S.2.2.2.2.2.2.2.1, S.2.2.2.2.2.2.2.2.1, S.2.2.2.2.2.2.2.2.2))
 else
 (f_X2_keeperOf S.2.2.2.2.1 v1).bind fun r7 =>
 (f_X2_setKeeper S.2.2.2.2.1 v1 v2).bind fun r9 =>
 some (r7, (S.1, S.2.1, S.2.2.1, S.2.2.2.1, r9, S.2.2.2.2.2.1, S.2.2.2.2.2.2.1, S.2.2.2.2.2.2.2.1, S.2.2.2.2.2.2.2.2.1, S.2.2.2.2.2.2.2.2.2))
def f_X10_lay (S : VX10) (v1 : Int32) (v2 : Int32) (v3 : Int32) : Option (Int32 × VX10) :=
 (f_X10_placeRefusal S v1 v2).bind fun r1 =>
 if r1.1 = 0 then
 (f_X6_get r1.2.2.1 v1 v2).bind fun r3 =>
 (f_X9_tell r1.2.1 r3).bind fun r5 =>
 (f_X6_set r1.2.2.1 v1 v2 v3).bind fun r7 =>
 some (1, (r5, r7, r1.2.2.2.1, r1.2.2.2.2.1, r1.2.2.2.2.2.1, r1.2.2.2.2.2.2.1, r1.2.2.2.2.2.2.2.1, r1.2.2.2.2.2.2.2.2.1, r1.2.2.2.2.2.2.2.2.2.1, r1.2.2.2.2.2.2.2.2.2.2))
 else
 some (r1.1, r1.2)
def f_X10_least (S : VX10) (v1 : Int32) : Option (Int32 × VX10) :=
 (f_X2_isSet S.2.2.2.2.1 v1).bind fun r1 =>
 if r1 = 0 then
 some ((-1), S)
 else
 (f_X10_reachAll S).bind fun r3 =>
 (f_X4_cheapestWith r3.2.2.2.2.2.2.1 v1).bind fun r5 =>
 if r5 = (-9) then
 some ((-9), r3)
 else
 (f_X9_tell r3.1 r5).bind fun r7 =>
 (f_X4_favoursOf r3.2.2.2.2.2.2.1 r5).bind fun r9 =>
 some (r9, (r7, r3.2.1, r3.2.2.1, r3.2.2.2.1, r3.2.2.2.2.1, r3.2.2.2.2.2.1, r3.2.2.2.2.2.2.1, r3.2.2.2.2.2.2.2.1, r3.2.2.2.2.2.2.2.2.1, r3.2.2.2.2.2.2.2.2.2))
def f_X10_let (S : VX10) (v1 : Int32) : Option (Int32 × VX10) :=
 (f_X10_can S v1).bind fun r1 =>
 if r1 < 0 then
 some (r1, S)
 else
 (f_X1_addOut S.2.2.2.2.2.1 v1 r1).bind fun r3 =>
 some (r1, (S.1, S.2.1, S.2.2.1, S.2.2.2.1, S.2.2.2.2.1, r3, S.2.2.2.2.2.2.1, S.2.2.2.2.2.2.2.1, S.2.2.2.2.2.2.2.2.1, S.2.2.2.2.2.2.2.2.2))
def f_X10_letRowOut_83  (S : VX10) (v3 : Int32) (v4 : Int32) : Option (Int32 × VX10) :=
 (f_X9_tell S.1 v3).bind fun r1 =>
 some (v4, (r1, S.2.1, S.2.2.1, S.2.2.2.1, S.2.2.2.2.1, S.2.2.2.2.2.1, S.2.2.2.2.2.2.1, S.2.2.2.2.2.2.2.1, S.2.2.2.2.2.2.2.2.1, S.2.2.2.2.2.2.2.2.2))
def f_X10_letRowOut_10  : Nat → VX10 → Int32 → Int32 → Int32 → Int32 → Int32 → Option (Int32 × VX10)
 | 0, _, _, _, _, _, _ => none
 | n + 1, S, v1, v2, v3, v4, v5 =>
 (f_X6_sizeOf S.2.1 v1).bind fun r3 =>
 if r3 ≤ v5 then
 f_X10_letRowOut_83 S v3 v4
 else
 (f_X6_get S.2.1 v1 v5).bind fun r5 =>
 (f_X2_everyone S.2.2.2.2.1).bind fun r7 =>
 (f_X2_favoursFor S.2.2.2.2.1 r5 v2 r7).bind fun r9 =>
 if 0 ≤ r9 then
 f_X10_letRowOut_10 n S v1 (v2 ||| ((1 : Int32) <<< (r5 &&& 31))) (v3 + r9) (v4 + 1) (v5 + 1)
 else
 f_X10_letRowOut_83 S v3 v4
def f_X10_letRowOut (S : VX10) (v1 : Int32) : Option (Int32 × VX10) :=
 f_X10_letRowOut_10 4096 S v1 0 0 0 0
def f_X10_tellsUnlikeCells_4  : Nat → VX10 → Int32 → Int32 → Int32 → Option (Int32)
 | 0, _, _, _, _ => none
 | n + 1, S, v1, v2, v3 =>
 (f_X6_sizeOf S.2.1 v1).bind fun r1 =>
 if r1 ≤ v3 then
 some 1
 else
 (f_X6_get S.2.1 v1 v3).bind fun r3 =>
 (f_X2_isCell S.2.2.2.2.1 r3).bind fun r5 =>
 if r5 = 0 then
 some 0
 else
 if ((v2 >>> (r3 &&& 31)) &&& (1 : Int32)) = 1 then
 some 0
 else
 f_X10_tellsUnlikeCells_4 n S v1 (v2 ||| ((1 : Int32) <<< (r3 &&& 31))) (v3 + 1)
def f_X10_tellsUnlikeCells (S : VX10) (v1 : Int32) : Option (Int32) :=
 f_X10_tellsUnlikeCells_4 4096 S v1 0 0
def f_X10_lets (S : VX10) (v1 : Int32) : Option (Int32 × VX10) :=
 (f_X10_rowRefusal S v1).bind fun r1 =>
 if r1.1 = 0 then
 (f_X6_sizeOf r1.2.2.1 v1).bind fun r3 =>
 (f_X2_cells r1.2.2.2.2.2.1).bind fun r5 =>
 if r3 ≤ r5 then
 (f_X10_tellsUnlikeCells r1.2 v1).bind fun r7 =>
 if r7 = 0 then
 (f_X9_found r1.2.1 3).bind fun r11 =>
 some (r11.1, (r11.2, r1.2.2.1, r1.2.2.2.1, r1.2.2.2.2.1, r1.2.2.2.2.2.1, r1.2.2.2.2.2.2.1, r1.2.2.2.2.2.2.2.1, r1.2.2.2.2.2.2.2.2.1, r1.2.2.2.2.2.2.2.2.2.1, r1.2.2.2.2.2.2.2.2.2.2))
 else
 (f_X10_letRowOut r1.2 v1).bind fun r9 =>
 some (r9.1, r9.2)
 else
 (f_X9_found r1.2.1 5).bind fun r13 =>
 some (r13.1, (r13.2, r1.2.2.1, r1.2.2.2.1, r1.2.2.2.2.1, r1.2.2.2.2.2.1, r1.2.2.2.2.2.2.1, r1.2.2.2.2.2.2.2.1, r1.2.2.2.2.2.2.2.2.1, r1.2.2.2.2.2.2.2.2.2.1, r1.2.2.2.2.2.2.2.2.2.2))
 else
 some (r1.1, r1.2)
def f_X10_lower (S : VX10)  : Option (Int64) :=
 (f_X9_lowerNumber S.1).bind fun r1 =>
 some r1
def f_X10_mark (S : VX10) (v1 : Int32) (v2 : Int32) : Option (Int32 × VX10) :=
 (f_X2_isCell S.2.2.2.2.1 v1).bind fun r1 =>
 if r1 = 0 then
 some ((-1), S)
 else
 if v2 ≤ 0 then
 some ((-1), S)
 else
 if v2 ≤ 5 then
 (f_X2_isOf S.2.2.2.2.1 v1 v2).bind fun r3 =>
 if r3 = 0 then
 (f_X9_found S.1 3).bind fun r7 =>
 some (r7.1, (r7.2, S.2.1, S.2.2.1, S.2.2.2.1, S.2.2.2.2.1, S.2.2.2.2.2.1, S.2.2.2.2.2.2.1, S.2.2.2.2.2.2.2.1, S.2.2.2.2.2.2.2.2.1, S.2.2.2.2.2.2.2.2.2))
 else
 (f_X2_markOf S.2.2.2.2.1 v1 v2).bind fun r5 =>
 some (r5, S)
 else
 some ((-1), S)
def f_X10_mean (S : VX10) (v1 : Int32) : Option (Int32 × VX10) :=
 (f_X10_rowRefusal S v1).bind fun r1 =>
 if r1.1 = 0 then
 (f_X6_sizeOf r1.2.2.1 v1).bind fun r3 =>
 if 1 ≤ r3 then
 (f_X6_sumOf r1.2.2.1 v1).bind fun r5 =>
 if r3.toInt64 = 0 then none else
 (f_X9_tell r1.2.1 ((r5 / r3.toInt64).toInt32)).bind fun r8 =>
 some (1, (r8, r1.2.2.1, r1.2.2.2.1, r1.2.2.2.2.1, r1.2.2.2.2.2.1, r1.2.2.2.2.2.2.1, r1.2.2.2.2.2.2.2.1, r1.2.2.2.2.2.2.2.2.1, r1.2.2.2.2.2.2.2.2.2.1, r1.2.2.2.2.2.2.2.2.2.2))
 else
 (f_X9_found r1.2.1 4).bind fun r10 =>
 some (r10.1, (r10.2, r1.2.2.1, r1.2.2.2.1, r1.2.2.2.2.1, r1.2.2.2.2.2.1, r1.2.2.2.2.2.2.1, r1.2.2.2.2.2.2.2.1, r1.2.2.2.2.2.2.2.2.1, r1.2.2.2.2.2.2.2.2.2.1, r1.2.2.2.2.2.2.2.2.2.2))
 else
 some (r1.1, r1.2)
def f_X10_most (S : VX10)  : Option (Int32 × VX10) :=
 (f_X10_reachAll S).bind fun r1 =>
 (f_X4_greatest r1.2.2.2.2.2.2.1).bind fun r3 =>
 (f_X4_favoursOf r1.2.2.2.2.2.2.1 r3).bind fun r5 =>
 (f_X9_tell r1.1 r5).bind fun r7 =>
 some (r3, (r7, r1.2.1, r1.2.2.1, r1.2.2.2.1, r1.2.2.2.2.1, r1.2.2.2.2.2.1, r1.2.2.2.2.2.2.1, r1.2.2.2.2.2.2.2.1, r1.2.2.2.2.2.2.2.2.1, r1.2.2.2.2.2.2.2.2.2))
def f_X10_odds_32  : Nat → VX10 → Int32 → Int32 → Int32 → Int32 → Int32 → Option (Int32 × VX10)
 | 0, _, _, _, _, _, _ => none
 | n + 1, S, v1, v2, v3, v4, v5 =>
 (f_X2_everyone S.2.2.2.2.1).bind fun r1 =>
 if r1 < v5 then
 if v3 = 0 then
 (f_X9_found S.1 4).bind fun r5 =>
 some (r5.1, (r5.2, S.2.1, S.2.2.1, S.2.2.2.1, S.2.2.2.2.1, S.2.2.2.2.2.1, S.2.2.2.2.2.2.1, S.2.2.2.2.2.2.2.1, S.2.2.2.2.2.2.2.2.1, S.2.2.2.2.2.2.2.2.2))
 else
 (f_X9_tellFraction S.1 v4 v3).bind fun r3 =>
 some (v4, (r3, S.2.1, S.2.2.1, S.2.2.2.1, S.2.2.2.2.1, S.2.2.2.2.2.1, S.2.2.2.2.2.2.1, S.2.2.2.2.2.2.2.1, S.2.2.2.2.2.2.2.2.1, S.2.2.2.2.2.2.2.2.2))
 else
 (f_X10_fitsNight S v5 v1).bind fun r7 =>
 if r7 = 0 then
 f_X10_odds_32 n S v1 v2 v3 v4 (v5 + 1)
 else
 f_X10_odds_32 n S v1 v2 (v3 + 1) (v4 + ((v5 >>> (v2 &&& 31)) &&& (1 : Int32))) (v5 + 1)
def f_X10_odds (S : VX10) (v1 : Int32) (v2 : Int32) : Option (Int32 × VX10) :=
 (f_X10_isFavours v1).bind fun r9 =>
 if r9 = 0 then
 some ((-1), S)
 else
 (f_X2_isCell S.2.2.2.2.1 v2).bind fun r11 =>
 if r11 = 0 then
 some ((-1), S)
 else
 (f_X10_reachAll S).bind fun r13 =>
 f_X10_odds_32 4096 r13 v1 v2 0 0 0
def f_X10_on (S : VX10) (v1 : Int32) : Option (Int32 × VX10) :=
 (f_X1_isNumber S.2.2.2.2.2.1 v1).bind fun r1 =>
 if r1 = 0 then
 some ((-1), S)
 else
 (f_X1_isKept S.2.2.2.2.2.1 v1).bind fun r3 =>
 if r3 = 0 then
 (f_X9_found S.1 1).bind fun r9 =>
 some (r9.1, (r9.2, S.2.1, S.2.2.1, S.2.2.2.1, S.2.2.2.2.1, S.2.2.2.2.2.1, S.2.2.2.2.2.2.1, S.2.2.2.2.2.2.2.1, S.2.2.2.2.2.2.2.2.1, S.2.2.2.2.2.2.2.2.2))
 else
 (f_X1_restore S.2.2.2.2.2.1 v1).bind fun r5 =>
 (f_X1_howManyOut r5).bind fun r7 =>
 some (r7, (S.1, S.2.1, S.2.2.1, S.2.2.2.1, S.2.2.2.2.1, r5, S.2.2.2.2.2.2.1, S.2.2.2.2.2.2.2.1, S.2.2.2.2.2.2.2.2.1, S.2.2.2.2.2.2.2.2.2))
def f_X10_order_65  : Nat → VX10 → Int32 → Int32 → Int32 → Int32 → Option (Int32 × VX10)
 | 0, _, _, _, _, _ => none
 | n + 1, S, v2, v3, v4, v5 =>
 if v4 ≤ v5 then
 some (v3, S)
 else
 (f_X3_stepAt S.2.2.2.2.2.2.2.1 v5).bind fun r1 =>
 (f_X6_set S.2.1 v2 v5 r1).bind fun r3 =>
 f_X10_order_65 n (S.1, r3, S.2.2.1, S.2.2.2.1, S.2.2.2.2.1, S.2.2.2.2.2.1, S.2.2.2.2.2.2.1, S.2.2.2.2.2.2.2.1, S.2.2.2.2.2.2.2.2.1, S.2.2.2.2.2.2.2.2.2) v2 v3 v4 (v5 + 1)
def f_X10_order (S : VX10) (v1 : Int32) (v2 : Int32) : Option (Int32 × VX10) :=
 (f_X2_isSet S.2.2.2.2.1 v1).bind fun r5 =>
 if r5 = 0 then
 some ((-1), S)
 else
 (f_X6_isNumber S.2.1 v2).bind fun r7 =>
 if r7 = 0 then
 some ((-1), S)
 else
 (f_X3_findFirst S.2.2.2.2.2.2.2.1 S.2.2.2.2.1 v1).bind fun r9 =>
 if r9.1 = (-9) then
 some ((-9), (S.1, S.2.1, S.2.2.1, S.2.2.2.1, S.2.2.2.2.1, S.2.2.2.2.2.1, S.2.2.2.2.2.2.1, r9.2, S.2.2.2.2.2.2.2.2.1, S.2.2.2.2.2.2.2.2.2))
 else
 (f_J6_bitCount_0f7a4 v1).bind fun r11 =>
 (f_X6_make S.2.1 v2 r11).bind fun r13 =>
 f_X10_order_65 4096 (S.1, r13, S.2.2.1, S.2.2.2.1, S.2.2.2.2.1, S.2.2.2.2.2.1, S.2.2.2.2.2.2.1, r9.2, S.2.2.2.2.2.2.2.2.1, S.2.2.2.2.2.2.2.2.2) v2 r9.1 r11 0
def f_X10_out (S : VX10)  : Option (Int32 × VX10) :=
 (f_X1_favours S.2.2.2.2.2.1).bind fun r1 =>
 (f_X9_tell S.1 r1).bind fun r3 =>
 (f_X1_whoIsOut S.2.2.2.2.2.1).bind fun r5 =>
 some (r5, (r3, S.2.1, S.2.2.1, S.2.2.2.1, S.2.2.2.2.1, S.2.2.2.2.2.1, S.2.2.2.2.2.2.1, S.2.2.2.2.2.2.2.1, S.2.2.2.2.2.2.2.2.1, S.2.2.2.2.2.2.2.2.2))
def f_X10_put (S : VX10) (v1 : Int32) (v2 : Int32) (v3 : Int32) : Option (Int32 × VX10) :=
 (f_X10_textRefusal S v1).bind fun r1 =>
 if r1.1 = 0 then
 (f_X8_isPlace r1.2.2.2.1 v1 v2).bind fun r3 =>
 if r3 = 0 then
 (f_X9_found r1.2.1 2).bind fun r9 =>
 some (r9.1, (r9.2, r1.2.2.1, r1.2.2.2.1, r1.2.2.2.2.1, r1.2.2.2.2.2.1, r1.2.2.2.2.2.2.1, r1.2.2.2.2.2.2.2.1, r1.2.2.2.2.2.2.2.2.1, r1.2.2.2.2.2.2.2.2.2.1, r1.2.2.2.2.2.2.2.2.2.2))
 else
 (f_X8_get r1.2.2.2.1 v1 v2).bind fun r5 =>
 (f_X8_set r1.2.2.2.1 v1 v2 v3.toInt8.toInt32).bind fun r7 =>
 some ((r5 + (1000 : Int32)), (r1.2.1, r1.2.2.1, r7, r1.2.2.2.2.1, r1.2.2.2.2.2.1, r1.2.2.2.2.2.2.1, r1.2.2.2.2.2.2.2.1, r1.2.2.2.2.2.2.2.2.1, r1.2.2.2.2.2.2.2.2.2.1, r1.2.2.2.2.2.2.2.2.2.2))
 else
 some (r1.1, r1.2)
def f_X10_quarrel (S : VX10) (v1 : Int32) (v2 : Int32) (v3 : Int32) : Option (Int32 × VX10) :=
 (f_X2_isCell S.2.2.2.2.1 v1).bind fun r1 =>
 if r1 = 0 then
 some ((-1), S)
 else
 (f_X2_isCell S.2.2.2.2.1 v2).bind fun r3 =>
 if r3 = 0 then
 some ((-1), S)
 else
 if v1 = v2 then
 some ((-1), S)
 else
 (f_X10_isYesOrNo v3).bind fun r5 =>
 if r5 = 0 then
 some ((-1), S)
 else
 (f_X2_foesOf S.2.2.2.2.1 v1).bind fun r7 =>
 (f_X2_setQuarrel S.2.2.2.2.1 v1 v2 v3).bind fun r9 =>
 some (((r7 >>> (v2 &&& 31)) &&& (1 : Int32)), (S.1, S.2.1, S.2.2.1, S.2.2.2.1, r9, S.2.2.2.2.2.1, S.2.2.2.2.2.2.1, S.2.2.2.2.2.2.2.1, S.2.2.2.2.2.2.2.2.1, S.2.2.2.2.2.2.2.2.2))
def f_X10_reached (S : VX10)  : Option (Int32 × VX10) :=
 (f_X10_reachAll S).bind fun r1 =>
 (f_X4_greatest r1.2.2.2.2.2.2.1).bind fun r3 =>
 (f_J6_bitCount_0f7a4 r3).bind fun r5 =>
 (f_X9_tell r1.1 r5).bind fun r7 =>
 (f_X4_howMany r1.2.2.2.2.2.2.1).bind fun r9 =>
 some (r9, (r7, r1.2.1, r1.2.2.1, r1.2.2.2.1, r1.2.2.2.2.1, r1.2.2.2.2.2.1, r1.2.2.2.2.2.2.1, r1.2.2.2.2.2.2.2.1, r1.2.2.2.2.2.2.2.2.1, r1.2.2.2.2.2.2.2.2.2))
def f_X10_ring (S : VX10) (v1 : Int32) : Option (Int32 × VX10) :=
 (f_X2_isCell S.2.2.2.2.1 v1).bind fun r1 =>
 if r1 = 0 then
 some ((-1), S)
 else
 (f_X2_farFrom S.2.2.2.2.1 v1).bind fun r3 =>
 (f_X2_metFrom S.2.2.2.2.1 r3).bind fun r5 =>
 (f_X9_tell S.1 r5).bind fun r7 =>
 (f_X2_metFrom S.2.2.2.2.1 v1).bind fun r9 =>
 some (r9, (r7, S.2.1, S.2.2.1, S.2.2.2.1, S.2.2.2.2.1, S.2.2.2.2.2.1, S.2.2.2.2.2.2.1, S.2.2.2.2.2.2.2.1, S.2.2.2.2.2.2.2.2.1, S.2.2.2.2.2.2.2.2.2))
def f_X10_row (S : VX10) (v1 : Int32) (v2 : Int32) : Option (Int32 × VX10) :=
 (f_X6_isNumber S.2.1 v1).bind fun r1 =>
 if r1 = 0 then
 some ((-1), S)
 else
 if v2 ≤ 60 then
 if 0 ≤ v2 then
 (f_X6_make S.2.1 v1 v2).bind fun r3 =>
 some (v2, (S.1, r3, S.2.2.1, S.2.2.2.1, S.2.2.2.2.1, S.2.2.2.2.2.1, S.2.2.2.2.2.2.1, S.2.2.2.2.2.2.2.1, S.2.2.2.2.2.2.2.2.1, S.2.2.2.2.2.2.2.2.2))
 else
 (f_X9_found S.1 5).bind fun r5 =>
 some (r5.1, (r5.2, S.2.1, S.2.2.1, S.2.2.2.1, S.2.2.2.2.1, S.2.2.2.2.2.1, S.2.2.2.2.2.2.1, S.2.2.2.2.2.2.2.1, S.2.2.2.2.2.2.2.2.1, S.2.2.2.2.2.2.2.2.2))
 else
 some ((-1), S)
def f_X10_saw (S : VX10) (v1 : Int32) (v2 : Int32) : Option (Int32 × VX10) :=
 (f_X2_isCell S.2.2.2.2.1 v1).bind fun r1 =>
 if r1 = 0 then
 some ((-1), S)
 else
 (f_X10_isYesOrNo v2).bind fun r3 =>
 if r3 = 0 then
 some ((-1), S)
 else
 (f_X7_isFull S.2.2.2.2.2.2.2.2.2).bind fun r5 =>
 if r5 = 0 then
 (f_X7_add S.2.2.2.2.2.2.2.2.2 v1 v2).bind fun r7 =>
 some (r7.1, (S.1, S.2.1, S.2.2.1, S.2.2.2.1, S.2.2.2.2.1, S.2.2.2.2.2.1, S.2.2.2.2.2.2.1, S.2.2.2.2.2.2.2.1, S.2.2.2.2.2.2.2.2.1, r7.2))
 else
 some ((-2), S)
def f_X10_tear (S : VX10) (v1 : Int32) : Option (Int32 × VX10) :=
 (f_X10_rowRefusal S v1).bind fun r1 =>
 if r1.1 = 0 then
 (f_X6_remove r1.2.2.1 v1).bind fun r3 =>
 some (1, (r1.2.1, r3, r1.2.2.2.1, r1.2.2.2.2.1, r1.2.2.2.2.2.1, r1.2.2.2.2.2.2.1, r1.2.2.2.2.2.2.2.1, r1.2.2.2.2.2.2.2.2.1, r1.2.2.2.2.2.2.2.2.2.1, r1.2.2.2.2.2.2.2.2.2.2))
 else
 some (r1.1, r1.2)
def f_X10_text (S : VX10) (v1 : Int32) (v2 : Int32) : Option (Int32 × VX10) :=
 (f_X8_isNumber S.2.2.1 v1).bind fun r1 =>
 if r1 = 0 then
 some ((-1), S)
 else
 if v2 ≤ 100 then
 if 0 ≤ v2 then
 (f_X8_make S.2.2.1 v1 v2).bind fun r3 =>
 some (v2, (S.1, S.2.1, r3, S.2.2.2.1, S.2.2.2.2.1, S.2.2.2.2.2.1, S.2.2.2.2.2.2.1, S.2.2.2.2.2.2.2.1, S.2.2.2.2.2.2.2.2.1, S.2.2.2.2.2.2.2.2.2))
 else
 (f_X9_found S.1 5).bind fun r5 =>
 some (r5.1, (r5.2, S.2.1, S.2.2.1, S.2.2.2.1, S.2.2.2.2.1, S.2.2.2.2.2.1, S.2.2.2.2.2.2.1, S.2.2.2.2.2.2.2.1, S.2.2.2.2.2.2.2.2.1, S.2.2.2.2.2.2.2.2.2))
 else
 some ((-1), S)
def f_X10_trades_2  : Nat → VX10 → Int32 → Option (Int32 × VX10)
 | 0, _, _ => none
 | n + 1, S, v1 =>
 if 20 ≤ v1 then
 some (v1, S)
 else
 (f_X0_tradeOnce S.2.2.2.2.2.2.2.2.1 S.2.2.2.2.1).bind fun r1 =>
 if r1.1 = 0 then
 some (v1, (S.1, S.2.1, S.2.2.1, S.2.2.2.1, r1.2.2, S.2.2.2.2.2.1, S.2.2.2.2.2.2.1, S.2.2.2.2.2.2.2.1, r1.2.1, S.2.2.2.2.2.2.2.2.2))
 else
 f_X10_trades_2 n (S.1, S.2.1, S.2.2.1, S.2.2.2.1, r1.2.2, S.2.2.2.2.2.1, S.2.2.2.2.2.2.1, S.2.2.2.2.2.2.2.1, r1.2.1, S.2.2.2.2.2.2.2.2.2) (v1 + 1)
def f_X10_trades (S : VX10)  : Option (Int32 × VX10) :=
 f_X10_trades_2 4096 S 0
def f_X10_upper (S : VX10)  : Option (Int64) :=
 (f_X9_upperNumber S.1).bind fun r1 =>
 some r1
def f_X10_ways (S : VX10) (v1 : Int32) : Option (Int32 × VX10) :=
 (f_X2_isSet S.2.2.2.2.1 v1).bind fun r1 =>
 if r1 = 0 then
 some ((-1), S)
 else
 (f_X3_howMany S.2.2.2.2.2.2.2.1 S.2.2.2.2.1 v1).bind fun r3 =>
 some (r3.1, (S.1, S.2.1, S.2.2.1, S.2.2.2.1, S.2.2.2.2.1, S.2.2.2.2.2.1, S.2.2.2.2.2.2.1, r3.2, S.2.2.2.2.2.2.2.2.1, S.2.2.2.2.2.2.2.2.2))
def f_X10_without (S : VX10) (v1 : Int32) : Option (Int32 × VX10) :=
 (f_X2_isCell S.2.2.2.2.1 v1).bind fun r1 =>
 if r1 = 0 then
 some ((-1), S)
 else
 (f_X10_reachAll S).bind fun r3 =>
 (f_X4_howMany r3.2.2.2.2.2.2.1).bind fun r5 =>
 (f_X4_inSome r3.2.2.2.2.2.2.1).bind fun r7 =>
 (f_X2_everyone r3.2.2.2.2.1).bind fun r9 =>
 (f_X4_fill r3.2.2.2.2.2.2.1 r3.2.2.2.2.1 (r9 &&& (((1 : Int32) <<< (v1 &&& 31)) ^^^ ((-1) : Int32)))).bind fun r11 =>
 (f_X4_inSome r11).bind fun r13 =>
 (f_X9_tell r3.1 ((r7 &&& (r13 ^^^ ((-1) : Int32))) &&& (r9 &&& (((1 : Int32) <<< (v1 &&& 31)) ^^^ ((-1) : Int32))))).bind fun r15 =>
 (f_X4_howMany r11).bind fun r17 =>
 some ((r5 - r17), (r15, r3.2.1, r3.2.2.1, r3.2.2.2.1, r3.2.2.2.2.1, r3.2.2.2.2.2.1, r11, r3.2.2.2.2.2.2.2.1, r3.2.2.2.2.2.2.2.2.1, r3.2.2.2.2.2.2.2.2.2))
theorem zc_X10_asked : zC yX10_asked wsX10_asked cX10_asked 1 (some .int) 0 := ⟨⟨_, rfl⟩, by decide +kernel, by decide +kernel, by decide +kernel, by decide +kernel⟩
theorem m_X10_asked_0 : (.fieldLink RX10 10 "CellKeys" "told" "LCellKeys$Told;" : Cond) ∈ wsX10_asked := by decide +kernel
theorem in_X10_asked_X10 : ∀ w ∈ u_ws RX10 TX10 10, w ∈ wsX10_asked := by decide +kernel
set_option maxHeartbeats 4000000 in
set_option maxRecDepth 100000 in
theorem c_X10_asked (l : Launch) (G : zG) (q : Nat → Nat) (o : Nat) (S : VX10)  (y : Int32) (hf : f_X10_asked S = some y) : zMet l yX10_asked wsX10_asked 1 20 G [.ref (q (o + 0))] [bX10 G q o, bX9 G q (o + 1) S.1.1 S.1.2.1 S.1.2.2.1 S.1.2.2.2.1 S.1.2.2.2.2, bX6 G q (o + 3) S.2.1.1 S.2.1.2, bX8 G q (o + 12) S.2.2.1.1 S.2.2.1.2, bX5 G q (o + 19) S.2.2.2.1.2.1 S.2.2.2.1.2.2.1 S.2.2.2.1.2.2.2.1 S.2.2.2.1.2.2.2.2, bX2 G q ((o + 19) + 2) S.2.2.2.1.1.1 S.2.2.2.1.1.2.1 S.2.2.2.1.1.2.2.1 S.2.2.2.1.1.2.2.2.1 S.2.2.2.1.1.2.2.2.2.1 S.2.2.2.1.1.2.2.2.2.2.1 S.2.2.2.1.1.2.2.2.2.2.2.1 S.2.2.2.1.1.2.2.2.2.2.2.2, bX2 G q (o + 27) S.2.2.2.2.1.1 S.2.2.2.2.1.2.1 S.2.2.2.2.1.2.2.1 S.2.2.2.2.1.2.2.2.1 S.2.2.2.2.1.2.2.2.2.1 S.2.2.2.2.1.2.2.2.2.2.1 S.2.2.2.2.1.2.2.2.2.2.2.1 S.2.2.2.2.1.2.2.2.2.2.2.2, bX1 G q (o + 33) S.2.2.2.2.2.1.1 S.2.2.2.2.2.1.2.1 S.2.2.2.2.2.1.2.2.1 S.2.2.2.2.2.1.2.2.2, bX4 G q (o + 36) S.2.2.2.2.2.2.1.1 S.2.2.2.2.2.2.1.2, bX3 G q (o + 38) S.2.2.2.2.2.2.2.1.1 S.2.2.2.2.2.2.2.1.2.1 S.2.2.2.2.2.2.2.1.2.2.1 S.2.2.2.2.2.2.2.1.2.2.2, bX0 G q (o + 43) S.2.2.2.2.2.2.2.2.1.2.2.1 S.2.2.2.2.2.2.2.2.1.2.2.2, bX2 G q ((o + 43) + 3) S.2.2.2.2.2.2.2.2.1.1.1 S.2.2.2.2.2.2.2.2.1.1.2.1 S.2.2.2.2.2.2.2.2.1.1.2.2.1 S.2.2.2.2.2.2.2.2.1.1.2.2.2.1 S.2.2.2.2.2.2.2.2.1.1.2.2.2.2.1 S.2.2.2.2.2.2.2.2.1.1.2.2.2.2.2.1 S.2.2.2.2.2.2.2.2.1.1.2.2.2.2.2.2.1 S.2.2.2.2.2.2.2.2.1.1.2.2.2.2.2.2.2, bX4 G q ((o + 43) + 9) S.2.2.2.2.2.2.2.2.1.2.1.1 S.2.2.2.2.2.2.2.2.1.2.1.2, bX7 G q (o + 54) S.2.2.2.2.2.2.2.2.2.1 S.2.2.2.2.2.2.2.2.2.2.1 S.2.2.2.2.2.2.2.2.2.2.2] (some (.int y)) [bX10 G q o, bX9 G q (o + 1) S.1.1 S.1.2.1 S.1.2.2.1 S.1.2.2.2.1 S.1.2.2.2.2, bX6 G q (o + 3) S.2.1.1 S.2.1.2, bX8 G q (o + 12) S.2.2.1.1 S.2.2.1.2, bX5 G q (o + 19) S.2.2.2.1.2.1 S.2.2.2.1.2.2.1 S.2.2.2.1.2.2.2.1 S.2.2.2.1.2.2.2.2, bX2 G q ((o + 19) + 2) S.2.2.2.1.1.1 S.2.2.2.1.1.2.1 S.2.2.2.1.1.2.2.1 S.2.2.2.1.1.2.2.2.1 S.2.2.2.1.1.2.2.2.2.1 S.2.2.2.1.1.2.2.2.2.2.1 S.2.2.2.1.1.2.2.2.2.2.2.1 S.2.2.2.1.1.2.2.2.2.2.2.2, bX2 G q (o + 27) S.2.2.2.2.1.1 S.2.2.2.2.1.2.1 S.2.2.2.2.1.2.2.1 S.2.2.2.2.1.2.2.2.1 S.2.2.2.2.1.2.2.2.2.1 S.2.2.2.2.1.2.2.2.2.2.1 S.2.2.2.2.1.2.2.2.2.2.2.1 S.2.2.2.2.1.2.2.2.2.2.2.2, bX1 G q (o + 33) S.2.2.2.2.2.1.1 S.2.2.2.2.2.1.2.1 S.2.2.2.2.2.1.2.2.1 S.2.2.2.2.2.1.2.2.2, bX4 G q (o + 36) S.2.2.2.2.2.2.1.1 S.2.2.2.2.2.2.1.2, bX3 G q (o + 38) S.2.2.2.2.2.2.2.1.1 S.2.2.2.2.2.2.2.1.2.1 S.2.2.2.2.2.2.2.1.2.2.1 S.2.2.2.2.2.2.2.1.2.2.2, bX0 G q (o + 43) S.2.2.2.2.2.2.2.2.1.2.2.1 S.2.2.2.2.2.2.2.2.1.2.2.2, bX2 G q ((o + 43) + 3) S.2.2.2.2.2.2.2.2.1.1.1 S.2.2.2.2.2.2.2.2.1.1.2.1 S.2.2.2.2.2.2.2.2.1.1.2.2.1 S.2.2.2.2.2.2.2.2.1.1.2.2.2.1 S.2.2.2.2.2.2.2.2.1.1.2.2.2.2.1 S.2.2.2.2.2.2.2.2.1.1.2.2.2.2.2.1 S.2.2.2.2.2.2.2.2.1.1.2.2.2.2.2.2.1 S.2.2.2.2.2.2.2.2.1.1.2.2.2.2.2.2.2, bX4 G q ((o + 43) + 9) S.2.2.2.2.2.2.2.2.1.2.1.1 S.2.2.2.2.2.2.2.2.1.2.1.2, bX7 G q (o + 54) S.2.2.2.2.2.2.2.2.2.1 S.2.2.2.2.2.2.2.2.2.2.1 S.2.2.2.2.2.2.2.2.2.2.2] := by
  refine z_met zc_X10_asked (Nat.le_of_ble_eq_true rfl) ?_
  intro p e s m below meth c A ls hZ hl hw
  have hl : lv_has ls 1 [(0, .ref (q (o + 0)))] := hl
  obtain ⟨hS0, hr, hlk, hK, hA, hT⟩ := id hZ
  have hx := hS0.1
  have hb := hS0.2.1
  have hml := hS0.2.2.1
  have hown : s.vm.findClass RX10 = some m.cls := hS0.2.2.2.1
  have hts := hS0.2.2.2.2
  unfold f_X10_asked at hf
  refine lv_aload_n hx hb dX10_asked_0 rfl (lv_at hl 0 rfl) ?_
  refine z_get hS0 in_X10_asked_X10 hK hw 0 0 rfl rfl rfl (by decide) (hts _ m_X10_asked_0) (v := .ref (q ((o + 1) + 0))) rfl dX10_asked_1 ?_
  obtain ⟨r1, e2, hf⟩ := z_bd hf
  refine z_callV1 (As := []) (rest := []) (bs' := [bX10 G q o, bX9 G q (o + 1) S.1.1 S.1.2.1 S.1.2.2.1 S.1.2.2.2.1 S.1.2.2.2.2, bX6 G q (o + 3) S.2.1.1 S.2.1.2, bX8 G q (o + 12) S.2.2.1.1 S.2.2.1.2, bX5 G q (o + 19) S.2.2.2.1.2.1 S.2.2.2.1.2.2.1 S.2.2.2.1.2.2.2.1 S.2.2.2.1.2.2.2.2, bX2 G q ((o + 19) + 2) S.2.2.2.1.1.1 S.2.2.2.1.1.2.1 S.2.2.2.1.1.2.2.1 S.2.2.2.1.1.2.2.2.1 S.2.2.2.1.1.2.2.2.2.1 S.2.2.2.1.1.2.2.2.2.2.1 S.2.2.2.1.1.2.2.2.2.2.2.1 S.2.2.2.1.1.2.2.2.2.2.2.2, bX2 G q (o + 27) S.2.2.2.2.1.1 S.2.2.2.2.1.2.1 S.2.2.2.2.1.2.2.1 S.2.2.2.2.1.2.2.2.1 S.2.2.2.2.1.2.2.2.2.1 S.2.2.2.2.1.2.2.2.2.2.1 S.2.2.2.2.1.2.2.2.2.2.2.1 S.2.2.2.2.1.2.2.2.2.2.2.2, bX1 G q (o + 33) S.2.2.2.2.2.1.1 S.2.2.2.2.2.1.2.1 S.2.2.2.2.2.1.2.2.1 S.2.2.2.2.2.1.2.2.2, bX4 G q (o + 36) S.2.2.2.2.2.2.1.1 S.2.2.2.2.2.2.1.2, bX3 G q (o + 38) S.2.2.2.2.2.2.2.1.1 S.2.2.2.2.2.2.2.1.2.1 S.2.2.2.2.2.2.2.1.2.2.1 S.2.2.2.2.2.2.2.1.2.2.2, bX0 G q (o + 43) S.2.2.2.2.2.2.2.2.1.2.2.1 S.2.2.2.2.2.2.2.2.1.2.2.2, bX2 G q ((o + 43) + 3) S.2.2.2.2.2.2.2.2.1.1.1 S.2.2.2.2.2.2.2.2.1.1.2.1 S.2.2.2.2.2.2.2.2.1.1.2.2.1 S.2.2.2.2.2.2.2.2.1.1.2.2.2.1 S.2.2.2.2.2.2.2.2.1.1.2.2.2.2.1 S.2.2.2.2.2.2.2.2.1.1.2.2.2.2.2.1 S.2.2.2.2.2.2.2.2.1.1.2.2.2.2.2.2.1 S.2.2.2.2.2.2.2.2.1.1.2.2.2.2.2.2.2, bX4 G q ((o + 43) + 9) S.2.2.2.2.2.2.2.2.1.2.1.1 S.2.2.2.2.2.2.2.2.1.2.1.2, bX7 G q (o + 54) S.2.2.2.2.2.2.2.2.2.1 S.2.2.2.2.2.2.2.2.2.2.1 S.2.2.2.2.2.2.2.2.2.2.2]) hS0 (c_X9_latest l G q (o + 1) S.1 r1 e2) zc_X9_latest rfl gX10_asked_X9_latest ⟨Nat.le_of_ble_eq_true rfl, Nat.le_of_ble_eq_true rfl⟩ hK hA hT hw (is := [1]) rfl rfl rfl rfl rfl rfl rfl hl.1 rfl (Nat.le_of_ble_eq_true rfl) dX10_asked_4 (fun H locs hw => ?_)
  cases hf
  exact z_iret hx hb hr hlk hw dX10_asked_7
theorem zc_X10_rowRefusal : zC yX10_rowRefusal wsX10_rowRefusal cX10_rowRefusal 2 (some .int) 1 := ⟨⟨_, rfl⟩, by decide +kernel, by decide +kernel, by decide +kernel, by decide +kernel⟩
theorem m_X10_rowRefusal_0 : (.fieldLink RX10 19 "CellKeys" "rows" "LCellKeys$Rows;" : Cond) ∈ wsX10_rowRefusal := by decide +kernel
theorem in_X10_rowRefusal_X10 : ∀ w ∈ u_ws RX10 TX10 10, w ∈ wsX10_rowRefusal := by decide +kernel
theorem m_X10_rowRefusal_1 : (.fieldLink RX10 10 "CellKeys" "told" "LCellKeys$Told;" : Cond) ∈ wsX10_rowRefusal := by decide +kernel
set_option maxHeartbeats 4000000 in
set_option maxRecDepth 100000 in
theorem c_X10_rowRefusal (l : Launch) (G : zG) (q : Nat → Nat) (o : Nat) (S : VX10) (v1 : Int32) (y : Int32 × VX10) (hf : f_X10_rowRefusal S v1 = some y) : zMet l yX10_rowRefusal wsX10_rowRefusal 3 63 G [.ref (q (o + 0)), .int v1] [bX10 G q o, bX9 G q (o + 1) S.1.1 S.1.2.1 S.1.2.2.1 S.1.2.2.2.1 S.1.2.2.2.2, bX6 G q (o + 3) S.2.1.1 S.2.1.2, bX8 G q (o + 12) S.2.2.1.1 S.2.2.1.2, bX5 G q (o + 19) S.2.2.2.1.2.1 S.2.2.2.1.2.2.1 S.2.2.2.1.2.2.2.1 S.2.2.2.1.2.2.2.2, bX2 G q ((o + 19) + 2) S.2.2.2.1.1.1 S.2.2.2.1.1.2.1 S.2.2.2.1.1.2.2.1 S.2.2.2.1.1.2.2.2.1 S.2.2.2.1.1.2.2.2.2.1 S.2.2.2.1.1.2.2.2.2.2.1 S.2.2.2.1.1.2.2.2.2.2.2.1 S.2.2.2.1.1.2.2.2.2.2.2.2, bX2 G q (o + 27) S.2.2.2.2.1.1 S.2.2.2.2.1.2.1 S.2.2.2.2.1.2.2.1 S.2.2.2.2.1.2.2.2.1 S.2.2.2.2.1.2.2.2.2.1 S.2.2.2.2.1.2.2.2.2.2.1 S.2.2.2.2.1.2.2.2.2.2.2.1 S.2.2.2.2.1.2.2.2.2.2.2.2, bX1 G q (o + 33) S.2.2.2.2.2.1.1 S.2.2.2.2.2.1.2.1 S.2.2.2.2.2.1.2.2.1 S.2.2.2.2.2.1.2.2.2, bX4 G q (o + 36) S.2.2.2.2.2.2.1.1 S.2.2.2.2.2.2.1.2, bX3 G q (o + 38) S.2.2.2.2.2.2.2.1.1 S.2.2.2.2.2.2.2.1.2.1 S.2.2.2.2.2.2.2.1.2.2.1 S.2.2.2.2.2.2.2.1.2.2.2, bX0 G q (o + 43) S.2.2.2.2.2.2.2.2.1.2.2.1 S.2.2.2.2.2.2.2.2.1.2.2.2, bX2 G q ((o + 43) + 3) S.2.2.2.2.2.2.2.2.1.1.1 S.2.2.2.2.2.2.2.2.1.1.2.1 S.2.2.2.2.2.2.2.2.1.1.2.2.1 S.2.2.2.2.2.2.2.2.1.1.2.2.2.1 S.2.2.2.2.2.2.2.2.1.1.2.2.2.2.1 S.2.2.2.2.2.2.2.2.1.1.2.2.2.2.2.1 S.2.2.2.2.2.2.2.2.1.1.2.2.2.2.2.2.1 S.2.2.2.2.2.2.2.2.1.1.2.2.2.2.2.2.2, bX4 G q ((o + 43) + 9) S.2.2.2.2.2.2.2.2.1.2.1.1 S.2.2.2.2.2.2.2.2.1.2.1.2, bX7 G q (o + 54) S.2.2.2.2.2.2.2.2.2.1 S.2.2.2.2.2.2.2.2.2.2.1 S.2.2.2.2.2.2.2.2.2.2.2] (some (.int y.1)) [bX10 G q o, bX9 G q (o + 1) y.2.1.1 y.2.1.2.1 y.2.1.2.2.1 y.2.1.2.2.2.1 y.2.1.2.2.2.2, bX6 G q (o + 3) y.2.2.1.1 y.2.2.1.2, bX8 G q (o + 12) y.2.2.2.1.1 y.2.2.2.1.2, bX5 G q (o + 19) y.2.2.2.2.1.2.1 y.2.2.2.2.1.2.2.1 y.2.2.2.2.1.2.2.2.1 y.2.2.2.2.1.2.2.2.2, bX2 G q ((o + 19) + 2) y.2.2.2.2.1.1.1 y.2.2.2.2.1.1.2.1 y.2.2.2.2.1.1.2.2.1 y.2.2.2.2.1.1.2.2.2.1 y.2.2.2.2.1.1.2.2.2.2.1 y.2.2.2.2.1.1.2.2.2.2.2.1 y.2.2.2.2.1.1.2.2.2.2.2.2.1 y.2.2.2.2.1.1.2.2.2.2.2.2.2, bX2 G q (o + 27) y.2.2.2.2.2.1.1 y.2.2.2.2.2.1.2.1 y.2.2.2.2.2.1.2.2.1 y.2.2.2.2.2.1.2.2.2.1 y.2.2.2.2.2.1.2.2.2.2.1 y.2.2.2.2.2.1.2.2.2.2.2.1 y.2.2.2.2.2.1.2.2.2.2.2.2.1 y.2.2.2.2.2.1.2.2.2.2.2.2.2, bX1 G q (o + 33) y.2.2.2.2.2.2.1.1 y.2.2.2.2.2.2.1.2.1 y.2.2.2.2.2.2.1.2.2.1 y.2.2.2.2.2.2.1.2.2.2, bX4 G q (o + 36) y.2.2.2.2.2.2.2.1.1 y.2.2.2.2.2.2.2.1.2, bX3 G q (o + 38) y.2.2.2.2.2.2.2.2.1.1 y.2.2.2.2.2.2.2.2.1.2.1 y.2.2.2.2.2.2.2.2.1.2.2.1 y.2.2.2.2.2.2.2.2.1.2.2.2, bX0 G q (o + 43) y.2.2.2.2.2.2.2.2.2.1.2.2.1 y.2.2.2.2.2.2.2.2.2.1.2.2.2, bX2 G q ((o + 43) + 3) y.2.2.2.2.2.2.2.2.2.1.1.1 y.2.2.2.2.2.2.2.2.2.1.1.2.1 y.2.2.2.2.2.2.2.2.2.1.1.2.2.1 y.2.2.2.2.2.2.2.2.2.1.1.2.2.2.1 y.2.2.2.2.2.2.2.2.2.1.1.2.2.2.2.1 y.2.2.2.2.2.2.2.2.2.1.1.2.2.2.2.2.1 y.2.2.2.2.2.2.2.2.2.1.1.2.2.2.2.2.2.1 y.2.2.2.2.2.2.2.2.2.1.1.2.2.2.2.2.2.2, bX4 G q ((o + 43) + 9) y.2.2.2.2.2.2.2.2.2.1.2.1.1 y.2.2.2.2.2.2.2.2.2.1.2.1.2, bX7 G q (o + 54) y.2.2.2.2.2.2.2.2.2.2.1 y.2.2.2.2.2.2.2.2.2.2.2.1 y.2.2.2.2.2.2.2.2.2.2.2.2] := by
  refine z_met zc_X10_rowRefusal (Nat.le_of_ble_eq_true rfl) ?_
  intro p e s m below meth c A ls hZ hl hw
  have hl : lv_has ls 2 [(0, .ref (q (o + 0))), (1, .int v1)] := hl
  obtain ⟨hS0, hr, hlk, hK, hA, hT⟩ := id hZ
  have hx := hS0.1
  have hb := hS0.2.1
  have hml := hS0.2.2.1
  have hown : s.vm.findClass RX10 = some m.cls := hS0.2.2.2.1
  have hts := hS0.2.2.2.2
  unfold f_X10_rowRefusal at hf
  refine lv_aload_n hx hb dX10_rowRefusal_0 rfl (lv_at hl 0 rfl) ?_
  refine z_get hS0 in_X10_rowRefusal_X10 hK hw 0 1 rfl rfl rfl (by decide) (hts _ m_X10_rowRefusal_0) (v := .ref (q ((o + 3) + 0))) rfl dX10_rowRefusal_1 ?_
  refine lv_iload_n hx hb dX10_rowRefusal_4 rfl (lv_at hl 1 rfl) ?_
  obtain ⟨r1, e2, hf⟩ := z_bd hf
  refine z_callV1 (As := [.int v1]) (rest := []) (bs' := [bX10 G q o, bX9 G q (o + 1) S.1.1 S.1.2.1 S.1.2.2.1 S.1.2.2.2.1 S.1.2.2.2.2, bX6 G q (o + 3) S.2.1.1 S.2.1.2, bX8 G q (o + 12) S.2.2.1.1 S.2.2.1.2, bX5 G q (o + 19) S.2.2.2.1.2.1 S.2.2.2.1.2.2.1 S.2.2.2.1.2.2.2.1 S.2.2.2.1.2.2.2.2, bX2 G q ((o + 19) + 2) S.2.2.2.1.1.1 S.2.2.2.1.1.2.1 S.2.2.2.1.1.2.2.1 S.2.2.2.1.1.2.2.2.1 S.2.2.2.1.1.2.2.2.2.1 S.2.2.2.1.1.2.2.2.2.2.1 S.2.2.2.1.1.2.2.2.2.2.2.1 S.2.2.2.1.1.2.2.2.2.2.2.2, bX2 G q (o + 27) S.2.2.2.2.1.1 S.2.2.2.2.1.2.1 S.2.2.2.2.1.2.2.1 S.2.2.2.2.1.2.2.2.1 S.2.2.2.2.1.2.2.2.2.1 S.2.2.2.2.1.2.2.2.2.2.1 S.2.2.2.2.1.2.2.2.2.2.2.1 S.2.2.2.2.1.2.2.2.2.2.2.2, bX1 G q (o + 33) S.2.2.2.2.2.1.1 S.2.2.2.2.2.1.2.1 S.2.2.2.2.2.1.2.2.1 S.2.2.2.2.2.1.2.2.2, bX4 G q (o + 36) S.2.2.2.2.2.2.1.1 S.2.2.2.2.2.2.1.2, bX3 G q (o + 38) S.2.2.2.2.2.2.2.1.1 S.2.2.2.2.2.2.2.1.2.1 S.2.2.2.2.2.2.2.1.2.2.1 S.2.2.2.2.2.2.2.1.2.2.2, bX0 G q (o + 43) S.2.2.2.2.2.2.2.2.1.2.2.1 S.2.2.2.2.2.2.2.2.1.2.2.2, bX2 G q ((o + 43) + 3) S.2.2.2.2.2.2.2.2.1.1.1 S.2.2.2.2.2.2.2.2.1.1.2.1 S.2.2.2.2.2.2.2.2.1.1.2.2.1 S.2.2.2.2.2.2.2.2.1.1.2.2.2.1 S.2.2.2.2.2.2.2.2.1.1.2.2.2.2.1 S.2.2.2.2.2.2.2.2.1.1.2.2.2.2.2.1 S.2.2.2.2.2.2.2.2.1.1.2.2.2.2.2.2.1 S.2.2.2.2.2.2.2.2.1.1.2.2.2.2.2.2.2, bX4 G q ((o + 43) + 9) S.2.2.2.2.2.2.2.2.1.2.1.1 S.2.2.2.2.2.2.2.2.1.2.1.2, bX7 G q (o + 54) S.2.2.2.2.2.2.2.2.2.1 S.2.2.2.2.2.2.2.2.2.2.1 S.2.2.2.2.2.2.2.2.2.2.2]) hS0 (c_X6_isNumber l G q (o + 3) S.2.1 v1 r1 e2) zc_X6_isNumber rfl gX10_rowRefusal_X6_isNumber ⟨Nat.le_of_ble_eq_true rfl, Nat.le_of_ble_eq_true rfl⟩ hK hA hT hw (is := [2]) rfl rfl rfl rfl rfl rfl rfl hl.1 rfl (Nat.le_of_ble_eq_true rfl) dX10_rowRefusal_5 (fun H locs hw => ?_)
  refine lv_if_ne (tgt := 13) hx hb dX10_rowRefusal_8 rfl (fun hc => ?_) (fun hc => ?_)
  · have hf := z_f hc hf
    refine lv_aload_n hx hb dX10_rowRefusal_13 rfl (lv_at hl 0 rfl) ?_
    refine z_get hS0 in_X10_rowRefusal_X10 hK hw 0 1 rfl rfl rfl (by decide) (hts _ m_X10_rowRefusal_0) (v := .ref (q ((o + 3) + 0))) rfl dX10_rowRefusal_14 ?_
    refine lv_iload_n hx hb dX10_rowRefusal_17 rfl (lv_at hl 1 rfl) ?_
    obtain ⟨r3, e4, hf⟩ := z_bd hf
    refine z_callV1 (As := [.int v1]) (rest := []) (bs' := [bX10 G q o, bX9 G q (o + 1) S.1.1 S.1.2.1 S.1.2.2.1 S.1.2.2.2.1 S.1.2.2.2.2, bX6 G q (o + 3) S.2.1.1 S.2.1.2, bX8 G q (o + 12) S.2.2.1.1 S.2.2.1.2, bX5 G q (o + 19) S.2.2.2.1.2.1 S.2.2.2.1.2.2.1 S.2.2.2.1.2.2.2.1 S.2.2.2.1.2.2.2.2, bX2 G q ((o + 19) + 2) S.2.2.2.1.1.1 S.2.2.2.1.1.2.1 S.2.2.2.1.1.2.2.1 S.2.2.2.1.1.2.2.2.1 S.2.2.2.1.1.2.2.2.2.1 S.2.2.2.1.1.2.2.2.2.2.1 S.2.2.2.1.1.2.2.2.2.2.2.1 S.2.2.2.1.1.2.2.2.2.2.2.2, bX2 G q (o + 27) S.2.2.2.2.1.1 S.2.2.2.2.1.2.1 S.2.2.2.2.1.2.2.1 S.2.2.2.2.1.2.2.2.1 S.2.2.2.2.1.2.2.2.2.1 S.2.2.2.2.1.2.2.2.2.2.1 S.2.2.2.2.1.2.2.2.2.2.2.1 S.2.2.2.2.1.2.2.2.2.2.2.2, bX1 G q (o + 33) S.2.2.2.2.2.1.1 S.2.2.2.2.2.1.2.1 S.2.2.2.2.2.1.2.2.1 S.2.2.2.2.2.1.2.2.2, bX4 G q (o + 36) S.2.2.2.2.2.2.1.1 S.2.2.2.2.2.2.1.2, bX3 G q (o + 38) S.2.2.2.2.2.2.2.1.1 S.2.2.2.2.2.2.2.1.2.1 S.2.2.2.2.2.2.2.1.2.2.1 S.2.2.2.2.2.2.2.1.2.2.2, bX0 G q (o + 43) S.2.2.2.2.2.2.2.2.1.2.2.1 S.2.2.2.2.2.2.2.2.1.2.2.2, bX2 G q ((o + 43) + 3) S.2.2.2.2.2.2.2.2.1.1.1 S.2.2.2.2.2.2.2.2.1.1.2.1 S.2.2.2.2.2.2.2.2.1.1.2.2.1 S.2.2.2.2.2.2.2.2.1.1.2.2.2.1 S.2.2.2.2.2.2.2.2.1.1.2.2.2.2.1 S.2.2.2.2.2.2.2.2.1.1.2.2.2.2.2.1 S.2.2.2.2.2.2.2.2.1.1.2.2.2.2.2.2.1 S.2.2.2.2.2.2.2.2.1.1.2.2.2.2.2.2.2, bX4 G q ((o + 43) + 9) S.2.2.2.2.2.2.2.2.1.2.1.1 S.2.2.2.2.2.2.2.2.1.2.1.2, bX7 G q (o + 54) S.2.2.2.2.2.2.2.2.2.1 S.2.2.2.2.2.2.2.2.2.2.1 S.2.2.2.2.2.2.2.2.2.2.2]) hS0 (c_X6_isThere l G q (o + 3) S.2.1 v1 r3 e4) zc_X6_isThere rfl gX10_rowRefusal_X6_isThere ⟨Nat.le_of_ble_eq_true rfl, Nat.le_of_ble_eq_true rfl⟩ hK hA hT hw (is := [2]) rfl rfl rfl rfl rfl rfl rfl hl.1 rfl (Nat.le_of_ble_eq_true rfl) dX10_rowRefusal_18 (fun H locs hw => ?_)
    refine lv_if_eq (tgt := 28) hx hb dX10_rowRefusal_21 rfl (fun hc => ?_) (fun hc => ?_)
    · have hf := z_t hc hf
      refine lv_aload_n hx hb dX10_rowRefusal_28 rfl (lv_at hl 0 rfl) ?_
      refine z_get hS0 in_X10_rowRefusal_X10 hK hw 0 0 rfl rfl rfl (by decide) (hts _ m_X10_rowRefusal_1) (v := .ref (q ((o + 1) + 0))) rfl dX10_rowRefusal_29 ?_
      refine lv_iconst (v := 1) hx hb dX10_rowRefusal_32 rfl ?_
      obtain ⟨r5, e6, hf⟩ := z_bd hf
      refine z_callV1 (As := [.int 1]) (rest := []) (bs' := [bX10 G q o, bX9 G q (o + 1) r5.2.1 r5.2.2.1 r5.2.2.2.1 r5.2.2.2.2.1 r5.2.2.2.2.2, bX6 G q (o + 3) S.2.1.1 S.2.1.2, bX8 G q (o + 12) S.2.2.1.1 S.2.2.1.2, bX5 G q (o + 19) S.2.2.2.1.2.1 S.2.2.2.1.2.2.1 S.2.2.2.1.2.2.2.1 S.2.2.2.1.2.2.2.2, bX2 G q ((o + 19) + 2) S.2.2.2.1.1.1 S.2.2.2.1.1.2.1 S.2.2.2.1.1.2.2.1 S.2.2.2.1.1.2.2.2.1 S.2.2.2.1.1.2.2.2.2.1 S.2.2.2.1.1.2.2.2.2.2.1 S.2.2.2.1.1.2.2.2.2.2.2.1 S.2.2.2.1.1.2.2.2.2.2.2.2, bX2 G q (o + 27) S.2.2.2.2.1.1 S.2.2.2.2.1.2.1 S.2.2.2.2.1.2.2.1 S.2.2.2.2.1.2.2.2.1 S.2.2.2.2.1.2.2.2.2.1 S.2.2.2.2.1.2.2.2.2.2.1 S.2.2.2.2.1.2.2.2.2.2.2.1 S.2.2.2.2.1.2.2.2.2.2.2.2, bX1 G q (o + 33) S.2.2.2.2.2.1.1 S.2.2.2.2.2.1.2.1 S.2.2.2.2.2.1.2.2.1 S.2.2.2.2.2.1.2.2.2, bX4 G q (o + 36) S.2.2.2.2.2.2.1.1 S.2.2.2.2.2.2.1.2, bX3 G q (o + 38) S.2.2.2.2.2.2.2.1.1 S.2.2.2.2.2.2.2.1.2.1 S.2.2.2.2.2.2.2.1.2.2.1 S.2.2.2.2.2.2.2.1.2.2.2, bX0 G q (o + 43) S.2.2.2.2.2.2.2.2.1.2.2.1 S.2.2.2.2.2.2.2.2.1.2.2.2, bX2 G q ((o + 43) + 3) S.2.2.2.2.2.2.2.2.1.1.1 S.2.2.2.2.2.2.2.2.1.1.2.1 S.2.2.2.2.2.2.2.2.1.1.2.2.1 S.2.2.2.2.2.2.2.2.1.1.2.2.2.1 S.2.2.2.2.2.2.2.2.1.1.2.2.2.2.1 S.2.2.2.2.2.2.2.2.1.1.2.2.2.2.2.1 S.2.2.2.2.2.2.2.2.1.1.2.2.2.2.2.2.1 S.2.2.2.2.2.2.2.2.1.1.2.2.2.2.2.2.2, bX4 G q ((o + 43) + 9) S.2.2.2.2.2.2.2.2.1.2.1.1 S.2.2.2.2.2.2.2.2.1.2.1.2, bX7 G q (o + 54) S.2.2.2.2.2.2.2.2.2.1 S.2.2.2.2.2.2.2.2.2.2.1 S.2.2.2.2.2.2.2.2.2.2.2]) hS0 (c_X9_found l G q (o + 1) S.1 1 r5 e6) zc_X9_found rfl gX10_rowRefusal_X9_found ⟨Nat.le_of_ble_eq_true rfl, Nat.le_of_ble_eq_true rfl⟩ hK hA hT hw (is := [1]) rfl rfl rfl rfl rfl rfl rfl hl.1 rfl (Nat.le_of_ble_eq_true rfl) dX10_rowRefusal_33 (fun H locs hw => ?_)
      cases hf
      exact z_iret hx hb hr hlk hw dX10_rowRefusal_36
    · have hf := z_f hc hf
      refine lv_iconst (v := 0) hx hb dX10_rowRefusal_24 rfl ?_
      refine lv_goto (tgt := 36) hx hb dX10_rowRefusal_25 rfl ?_
      cases hf
      exact z_iret hx hb hr hlk hw dX10_rowRefusal_36
  · have hf := z_t hc hf
    refine lv_iconst (v := (-1)) hx hb dX10_rowRefusal_11 rfl ?_
    cases hf
    exact z_iret hx hb hr hlk hw dX10_rowRefusal_12
theorem zc_X10_placeRefusal : zC yX10_placeRefusal wsX10_placeRefusal cX10_placeRefusal 4 (some .int) 2 := ⟨⟨_, rfl⟩, by decide +kernel, by decide +kernel, by decide +kernel, by decide +kernel⟩
theorem m_X10_placeRefusal_0 : (.fieldLink RX10 19 "CellKeys" "rows" "LCellKeys$Rows;" : Cond) ∈ wsX10_placeRefusal := by decide +kernel
theorem in_X10_placeRefusal_X10 : ∀ w ∈ u_ws RX10 TX10 10, w ∈ wsX10_placeRefusal := by decide +kernel
theorem m_X10_placeRefusal_1 : (.fieldLink RX10 10 "CellKeys" "told" "LCellKeys$Told;" : Cond) ∈ wsX10_placeRefusal := by decide +kernel
set_option maxHeartbeats 4000000 in
set_option maxRecDepth 100000 in
theorem c_X10_placeRefusal (l : Launch) (G : zG) (q : Nat → Nat) (o : Nat) (S : VX10) (v1 : Int32) (v2 : Int32) (y : Int32 × VX10) (hf : f_X10_placeRefusal S v1 v2 = some y) : zMet l yX10_placeRefusal wsX10_placeRefusal 4 84 G [.ref (q (o + 0)), .int v1, .int v2] [bX10 G q o, bX9 G q (o + 1) S.1.1 S.1.2.1 S.1.2.2.1 S.1.2.2.2.1 S.1.2.2.2.2, bX6 G q (o + 3) S.2.1.1 S.2.1.2, bX8 G q (o + 12) S.2.2.1.1 S.2.2.1.2, bX5 G q (o + 19) S.2.2.2.1.2.1 S.2.2.2.1.2.2.1 S.2.2.2.1.2.2.2.1 S.2.2.2.1.2.2.2.2, bX2 G q ((o + 19) + 2) S.2.2.2.1.1.1 S.2.2.2.1.1.2.1 S.2.2.2.1.1.2.2.1 S.2.2.2.1.1.2.2.2.1 S.2.2.2.1.1.2.2.2.2.1 S.2.2.2.1.1.2.2.2.2.2.1 S.2.2.2.1.1.2.2.2.2.2.2.1 S.2.2.2.1.1.2.2.2.2.2.2.2, bX2 G q (o + 27) S.2.2.2.2.1.1 S.2.2.2.2.1.2.1 S.2.2.2.2.1.2.2.1 S.2.2.2.2.1.2.2.2.1 S.2.2.2.2.1.2.2.2.2.1 S.2.2.2.2.1.2.2.2.2.2.1 S.2.2.2.2.1.2.2.2.2.2.2.1 S.2.2.2.2.1.2.2.2.2.2.2.2, bX1 G q (o + 33) S.2.2.2.2.2.1.1 S.2.2.2.2.2.1.2.1 S.2.2.2.2.2.1.2.2.1 S.2.2.2.2.2.1.2.2.2, bX4 G q (o + 36) S.2.2.2.2.2.2.1.1 S.2.2.2.2.2.2.1.2, bX3 G q (o + 38) S.2.2.2.2.2.2.2.1.1 S.2.2.2.2.2.2.2.1.2.1 S.2.2.2.2.2.2.2.1.2.2.1 S.2.2.2.2.2.2.2.1.2.2.2, bX0 G q (o + 43) S.2.2.2.2.2.2.2.2.1.2.2.1 S.2.2.2.2.2.2.2.2.1.2.2.2, bX2 G q ((o + 43) + 3) S.2.2.2.2.2.2.2.2.1.1.1 S.2.2.2.2.2.2.2.2.1.1.2.1 S.2.2.2.2.2.2.2.2.1.1.2.2.1 S.2.2.2.2.2.2.2.2.1.1.2.2.2.1 S.2.2.2.2.2.2.2.2.1.1.2.2.2.2.1 S.2.2.2.2.2.2.2.2.1.1.2.2.2.2.2.1 S.2.2.2.2.2.2.2.2.1.1.2.2.2.2.2.2.1 S.2.2.2.2.2.2.2.2.1.1.2.2.2.2.2.2.2, bX4 G q ((o + 43) + 9) S.2.2.2.2.2.2.2.2.1.2.1.1 S.2.2.2.2.2.2.2.2.1.2.1.2, bX7 G q (o + 54) S.2.2.2.2.2.2.2.2.2.1 S.2.2.2.2.2.2.2.2.2.2.1 S.2.2.2.2.2.2.2.2.2.2.2] (some (.int y.1)) [bX10 G q o, bX9 G q (o + 1) y.2.1.1 y.2.1.2.1 y.2.1.2.2.1 y.2.1.2.2.2.1 y.2.1.2.2.2.2, bX6 G q (o + 3) y.2.2.1.1 y.2.2.1.2, bX8 G q (o + 12) y.2.2.2.1.1 y.2.2.2.1.2, bX5 G q (o + 19) y.2.2.2.2.1.2.1 y.2.2.2.2.1.2.2.1 y.2.2.2.2.1.2.2.2.1 y.2.2.2.2.1.2.2.2.2, bX2 G q ((o + 19) + 2) y.2.2.2.2.1.1.1 y.2.2.2.2.1.1.2.1 y.2.2.2.2.1.1.2.2.1 y.2.2.2.2.1.1.2.2.2.1 y.2.2.2.2.1.1.2.2.2.2.1 y.2.2.2.2.1.1.2.2.2.2.2.1 y.2.2.2.2.1.1.2.2.2.2.2.2.1 y.2.2.2.2.1.1.2.2.2.2.2.2.2, bX2 G q (o + 27) y.2.2.2.2.2.1.1 y.2.2.2.2.2.1.2.1 y.2.2.2.2.2.1.2.2.1 y.2.2.2.2.2.1.2.2.2.1 y.2.2.2.2.2.1.2.2.2.2.1 y.2.2.2.2.2.1.2.2.2.2.2.1 y.2.2.2.2.2.1.2.2.2.2.2.2.1 y.2.2.2.2.2.1.2.2.2.2.2.2.2, bX1 G q (o + 33) y.2.2.2.2.2.2.1.1 y.2.2.2.2.2.2.1.2.1 y.2.2.2.2.2.2.1.2.2.1 y.2.2.2.2.2.2.1.2.2.2, bX4 G q (o + 36) y.2.2.2.2.2.2.2.1.1 y.2.2.2.2.2.2.2.1.2, bX3 G q (o + 38) y.2.2.2.2.2.2.2.2.1.1 y.2.2.2.2.2.2.2.2.1.2.1 y.2.2.2.2.2.2.2.2.1.2.2.1 y.2.2.2.2.2.2.2.2.1.2.2.2, bX0 G q (o + 43) y.2.2.2.2.2.2.2.2.2.1.2.2.1 y.2.2.2.2.2.2.2.2.2.1.2.2.2, bX2 G q ((o + 43) + 3) y.2.2.2.2.2.2.2.2.2.1.1.1 y.2.2.2.2.2.2.2.2.2.1.1.2.1 y.2.2.2.2.2.2.2.2.2.1.1.2.2.1 y.2.2.2.2.2.2.2.2.2.1.1.2.2.2.1 y.2.2.2.2.2.2.2.2.2.1.1.2.2.2.2.1 y.2.2.2.2.2.2.2.2.2.1.1.2.2.2.2.2.1 y.2.2.2.2.2.2.2.2.2.1.1.2.2.2.2.2.2.1 y.2.2.2.2.2.2.2.2.2.1.1.2.2.2.2.2.2.2, bX4 G q ((o + 43) + 9) y.2.2.2.2.2.2.2.2.2.1.2.1.1 y.2.2.2.2.2.2.2.2.2.1.2.1.2, bX7 G q (o + 54) y.2.2.2.2.2.2.2.2.2.2.1 y.2.2.2.2.2.2.2.2.2.2.2.1 y.2.2.2.2.2.2.2.2.2.2.2.2] := by
  refine z_met zc_X10_placeRefusal (Nat.le_of_ble_eq_true rfl) ?_
  intro p e s m below meth c A ls hZ hl hw
  have hl : lv_has ls 4 [(0, .ref (q (o + 0))), (1, .int v1), (2, .int v2)] := hl
  obtain ⟨hS0, hr, hlk, hK, hA, hT⟩ := id hZ
  have hx := hS0.1
  have hb := hS0.2.1
  have hml := hS0.2.2.1
  have hown : s.vm.findClass RX10 = some m.cls := hS0.2.2.2.1
  have hts := hS0.2.2.2.2
  unfold f_X10_placeRefusal at hf
  refine lv_aload_n hx hb dX10_placeRefusal_0 rfl (lv_at hl 0 rfl) ?_
  refine lv_iload_n hx hb dX10_placeRefusal_1 rfl (lv_at hl 1 rfl) ?_
  obtain ⟨r1, e2, hf⟩ := z_bd hf
  refine z_callV1 (As := [.int v1]) (rest := []) (bs' := [bX10 G q o, bX9 G q (o + 1) r1.2.1.1 r1.2.1.2.1 r1.2.1.2.2.1 r1.2.1.2.2.2.1 r1.2.1.2.2.2.2, bX6 G q (o + 3) r1.2.2.1.1 r1.2.2.1.2, bX8 G q (o + 12) r1.2.2.2.1.1 r1.2.2.2.1.2, bX5 G q (o + 19) r1.2.2.2.2.1.2.1 r1.2.2.2.2.1.2.2.1 r1.2.2.2.2.1.2.2.2.1 r1.2.2.2.2.1.2.2.2.2, bX2 G q ((o + 19) + 2) r1.2.2.2.2.1.1.1 r1.2.2.2.2.1.1.2.1 r1.2.2.2.2.1.1.2.2.1 r1.2.2.2.2.1.1.2.2.2.1 r1.2.2.2.2.1.1.2.2.2.2.1 r1.2.2.2.2.1.1.2.2.2.2.2.1 r1.2.2.2.2.1.1.2.2.2.2.2.2.1 r1.2.2.2.2.1.1.2.2.2.2.2.2.2, bX2 G q (o + 27) r1.2.2.2.2.2.1.1 r1.2.2.2.2.2.1.2.1 r1.2.2.2.2.2.1.2.2.1 r1.2.2.2.2.2.1.2.2.2.1 r1.2.2.2.2.2.1.2.2.2.2.1 r1.2.2.2.2.2.1.2.2.2.2.2.1 r1.2.2.2.2.2.1.2.2.2.2.2.2.1 r1.2.2.2.2.2.1.2.2.2.2.2.2.2, bX1 G q (o + 33) r1.2.2.2.2.2.2.1.1 r1.2.2.2.2.2.2.1.2.1 r1.2.2.2.2.2.2.1.2.2.1 r1.2.2.2.2.2.2.1.2.2.2, bX4 G q (o + 36) r1.2.2.2.2.2.2.2.1.1 r1.2.2.2.2.2.2.2.1.2, bX3 G q (o + 38) r1.2.2.2.2.2.2.2.2.1.1 r1.2.2.2.2.2.2.2.2.1.2.1 r1.2.2.2.2.2.2.2.2.1.2.2.1 r1.2.2.2.2.2.2.2.2.1.2.2.2, bX0 G q (o + 43) r1.2.2.2.2.2.2.2.2.2.1.2.2.1 r1.2.2.2.2.2.2.2.2.2.1.2.2.2, bX2 G q ((o + 43) + 3) r1.2.2.2.2.2.2.2.2.2.1.1.1 r1.2.2.2.2.2.2.2.2.2.1.1.2.1 r1.2.2.2.2.2.2.2.2.2.1.1.2.2.1 r1.2.2.2.2.2.2.2.2.2.1.1.2.2.2.1 r1.2.2.2.2.2.2.2.2.2.1.1.2.2.2.2.1 r1.2.2.2.2.2.2.2.2.2.1.1.2.2.2.2.2.1 r1.2.2.2.2.2.2.2.2.2.1.1.2.2.2.2.2.2.1 r1.2.2.2.2.2.2.2.2.2.1.1.2.2.2.2.2.2.2, bX4 G q ((o + 43) + 9) r1.2.2.2.2.2.2.2.2.2.1.2.1.1 r1.2.2.2.2.2.2.2.2.2.1.2.1.2, bX7 G q (o + 54) r1.2.2.2.2.2.2.2.2.2.2.1 r1.2.2.2.2.2.2.2.2.2.2.2.1 r1.2.2.2.2.2.2.2.2.2.2.2.2]) hS0 (c_X10_rowRefusal l G q o S v1 r1 e2) zc_X10_rowRefusal rfl gX10_placeRefusal_X10_rowRefusal ⟨Nat.le_of_ble_eq_true rfl, Nat.le_of_ble_eq_true rfl⟩ hK hA hT hw (is := [0, 1, 2, 3, 4, 5, 6, 7, 8, 9, 10, 11, 12, 13]) rfl rfl rfl rfl rfl rfl rfl hl.1 rfl (Nat.le_of_ble_eq_true rfl) dX10_placeRefusal_2 (fun H locs hw => ?_)
  refine lv_istore_n (lv' := [(3, .int r1.1), (0, .ref (q (o + 0))), (1, .int v1), (2, .int v2)]) hx hb dX10_placeRefusal_5 rfl hl (by decide) rfl (fun ls hl => ?_)
  refine lv_iload_n hx hb dX10_placeRefusal_6 rfl (lv_at hl 0 rfl) ?_
  refine lv_if_eq (tgt := 12) hx hb dX10_placeRefusal_7 rfl (fun hc => ?_) (fun hc => ?_)
  · have hf := z_t hc hf
    refine lv_aload_n hx hb dX10_placeRefusal_12 rfl (lv_at hl 1 rfl) ?_
    refine z_get hS0 in_X10_placeRefusal_X10 hK hw 0 1 rfl rfl rfl (by decide) (hts _ m_X10_placeRefusal_0) (v := .ref (q ((o + 3) + 0))) rfl dX10_placeRefusal_13 ?_
    refine lv_iload_n hx hb dX10_placeRefusal_16 rfl (lv_at hl 2 rfl) ?_
    refine lv_iload_n hx hb dX10_placeRefusal_17 rfl (lv_at hl 3 rfl) ?_
    obtain ⟨r3, e4, hf⟩ := z_bd hf
    refine z_callV1 (As := [.int v1, .int v2]) (rest := []) (bs' := [bX10 G q o, bX9 G q (o + 1) r1.2.1.1 r1.2.1.2.1 r1.2.1.2.2.1 r1.2.1.2.2.2.1 r1.2.1.2.2.2.2, bX6 G q (o + 3) r1.2.2.1.1 r1.2.2.1.2, bX8 G q (o + 12) r1.2.2.2.1.1 r1.2.2.2.1.2, bX5 G q (o + 19) r1.2.2.2.2.1.2.1 r1.2.2.2.2.1.2.2.1 r1.2.2.2.2.1.2.2.2.1 r1.2.2.2.2.1.2.2.2.2, bX2 G q ((o + 19) + 2) r1.2.2.2.2.1.1.1 r1.2.2.2.2.1.1.2.1 r1.2.2.2.2.1.1.2.2.1 r1.2.2.2.2.1.1.2.2.2.1 r1.2.2.2.2.1.1.2.2.2.2.1 r1.2.2.2.2.1.1.2.2.2.2.2.1 r1.2.2.2.2.1.1.2.2.2.2.2.2.1 r1.2.2.2.2.1.1.2.2.2.2.2.2.2, bX2 G q (o + 27) r1.2.2.2.2.2.1.1 r1.2.2.2.2.2.1.2.1 r1.2.2.2.2.2.1.2.2.1 r1.2.2.2.2.2.1.2.2.2.1 r1.2.2.2.2.2.1.2.2.2.2.1 r1.2.2.2.2.2.1.2.2.2.2.2.1 r1.2.2.2.2.2.1.2.2.2.2.2.2.1 r1.2.2.2.2.2.1.2.2.2.2.2.2.2, bX1 G q (o + 33) r1.2.2.2.2.2.2.1.1 r1.2.2.2.2.2.2.1.2.1 r1.2.2.2.2.2.2.1.2.2.1 r1.2.2.2.2.2.2.1.2.2.2, bX4 G q (o + 36) r1.2.2.2.2.2.2.2.1.1 r1.2.2.2.2.2.2.2.1.2, bX3 G q (o + 38) r1.2.2.2.2.2.2.2.2.1.1 r1.2.2.2.2.2.2.2.2.1.2.1 r1.2.2.2.2.2.2.2.2.1.2.2.1 r1.2.2.2.2.2.2.2.2.1.2.2.2, bX0 G q (o + 43) r1.2.2.2.2.2.2.2.2.2.1.2.2.1 r1.2.2.2.2.2.2.2.2.2.1.2.2.2, bX2 G q ((o + 43) + 3) r1.2.2.2.2.2.2.2.2.2.1.1.1 r1.2.2.2.2.2.2.2.2.2.1.1.2.1 r1.2.2.2.2.2.2.2.2.2.1.1.2.2.1 r1.2.2.2.2.2.2.2.2.2.1.1.2.2.2.1 r1.2.2.2.2.2.2.2.2.2.1.1.2.2.2.2.1 r1.2.2.2.2.2.2.2.2.2.1.1.2.2.2.2.2.1 r1.2.2.2.2.2.2.2.2.2.1.1.2.2.2.2.2.2.1 r1.2.2.2.2.2.2.2.2.2.1.1.2.2.2.2.2.2.2, bX4 G q ((o + 43) + 9) r1.2.2.2.2.2.2.2.2.2.1.2.1.1 r1.2.2.2.2.2.2.2.2.2.1.2.1.2, bX7 G q (o + 54) r1.2.2.2.2.2.2.2.2.2.2.1 r1.2.2.2.2.2.2.2.2.2.2.2.1 r1.2.2.2.2.2.2.2.2.2.2.2.2]) hS0 (c_X6_isPlace l G q (o + 3) r1.2.2.1 v1 v2 r3 e4) zc_X6_isPlace rfl gX10_placeRefusal_X6_isPlace ⟨Nat.le_of_ble_eq_true rfl, Nat.le_of_ble_eq_true rfl⟩ hK hA hT hw (is := [2]) rfl rfl rfl rfl rfl rfl rfl hl.1 rfl (Nat.le_of_ble_eq_true rfl) dX10_placeRefusal_18 (fun H locs hw => ?_)
    refine lv_if_eq (tgt := 28) hx hb dX10_placeRefusal_21 rfl (fun hc => ?_) (fun hc => ?_)
    · have hf := z_t hc hf
      refine lv_aload_n hx hb dX10_placeRefusal_28 rfl (lv_at hl 1 rfl) ?_
      refine z_get hS0 in_X10_placeRefusal_X10 hK hw 0 0 rfl rfl rfl (by decide) (hts _ m_X10_placeRefusal_1) (v := .ref (q ((o + 1) + 0))) rfl dX10_placeRefusal_29 ?_
      refine lv_iconst (v := 2) hx hb dX10_placeRefusal_32 rfl ?_
      obtain ⟨r5, e6, hf⟩ := z_bd hf
      refine z_callV1 (As := [.int 2]) (rest := []) (bs' := [bX10 G q o, bX9 G q (o + 1) r5.2.1 r5.2.2.1 r5.2.2.2.1 r5.2.2.2.2.1 r5.2.2.2.2.2, bX6 G q (o + 3) r1.2.2.1.1 r1.2.2.1.2, bX8 G q (o + 12) r1.2.2.2.1.1 r1.2.2.2.1.2, bX5 G q (o + 19) r1.2.2.2.2.1.2.1 r1.2.2.2.2.1.2.2.1 r1.2.2.2.2.1.2.2.2.1 r1.2.2.2.2.1.2.2.2.2, bX2 G q ((o + 19) + 2) r1.2.2.2.2.1.1.1 r1.2.2.2.2.1.1.2.1 r1.2.2.2.2.1.1.2.2.1 r1.2.2.2.2.1.1.2.2.2.1 r1.2.2.2.2.1.1.2.2.2.2.1 r1.2.2.2.2.1.1.2.2.2.2.2.1 r1.2.2.2.2.1.1.2.2.2.2.2.2.1 r1.2.2.2.2.1.1.2.2.2.2.2.2.2, bX2 G q (o + 27) r1.2.2.2.2.2.1.1 r1.2.2.2.2.2.1.2.1 r1.2.2.2.2.2.1.2.2.1 r1.2.2.2.2.2.1.2.2.2.1 r1.2.2.2.2.2.1.2.2.2.2.1 r1.2.2.2.2.2.1.2.2.2.2.2.1 r1.2.2.2.2.2.1.2.2.2.2.2.2.1 r1.2.2.2.2.2.1.2.2.2.2.2.2.2, bX1 G q (o + 33) r1.2.2.2.2.2.2.1.1 r1.2.2.2.2.2.2.1.2.1 r1.2.2.2.2.2.2.1.2.2.1 r1.2.2.2.2.2.2.1.2.2.2, bX4 G q (o + 36) r1.2.2.2.2.2.2.2.1.1 r1.2.2.2.2.2.2.2.1.2, bX3 G q (o + 38) r1.2.2.2.2.2.2.2.2.1.1 r1.2.2.2.2.2.2.2.2.1.2.1 r1.2.2.2.2.2.2.2.2.1.2.2.1 r1.2.2.2.2.2.2.2.2.1.2.2.2, bX0 G q (o + 43) r1.2.2.2.2.2.2.2.2.2.1.2.2.1 r1.2.2.2.2.2.2.2.2.2.1.2.2.2, bX2 G q ((o + 43) + 3) r1.2.2.2.2.2.2.2.2.2.1.1.1 r1.2.2.2.2.2.2.2.2.2.1.1.2.1 r1.2.2.2.2.2.2.2.2.2.1.1.2.2.1 r1.2.2.2.2.2.2.2.2.2.1.1.2.2.2.1 r1.2.2.2.2.2.2.2.2.2.1.1.2.2.2.2.1 r1.2.2.2.2.2.2.2.2.2.1.1.2.2.2.2.2.1 r1.2.2.2.2.2.2.2.2.2.1.1.2.2.2.2.2.2.1 r1.2.2.2.2.2.2.2.2.2.1.1.2.2.2.2.2.2.2, bX4 G q ((o + 43) + 9) r1.2.2.2.2.2.2.2.2.2.1.2.1.1 r1.2.2.2.2.2.2.2.2.2.1.2.1.2, bX7 G q (o + 54) r1.2.2.2.2.2.2.2.2.2.2.1 r1.2.2.2.2.2.2.2.2.2.2.2.1 r1.2.2.2.2.2.2.2.2.2.2.2.2]) hS0 (c_X9_found l G q (o + 1) r1.2.1 2 r5 e6) zc_X9_found rfl gX10_placeRefusal_X9_found ⟨Nat.le_of_ble_eq_true rfl, Nat.le_of_ble_eq_true rfl⟩ hK hA hT hw (is := [1]) rfl rfl rfl rfl rfl rfl rfl hl.1 rfl (Nat.le_of_ble_eq_true rfl) dX10_placeRefusal_33 (fun H locs hw => ?_)
      cases hf
      exact z_iret hx hb hr hlk hw dX10_placeRefusal_36
    · have hf := z_f hc hf
      refine lv_iconst (v := 0) hx hb dX10_placeRefusal_24 rfl ?_
      refine lv_goto (tgt := 36) hx hb dX10_placeRefusal_25 rfl ?_
      cases hf
      exact z_iret hx hb hr hlk hw dX10_placeRefusal_36
  · have hf := z_f hc hf
    refine lv_iload_n hx hb dX10_placeRefusal_10 rfl (lv_at hl 0 rfl) ?_
    cases hf
    exact z_iret hx hb hr hlk hw dX10_placeRefusal_11
theorem zc_X10_at : zC yX10_at wsX10_at cX10_at 4 (some .int) 2 := ⟨⟨_, rfl⟩, by decide +kernel, by decide +kernel, by decide +kernel, by decide +kernel⟩
theorem m_X10_at_0 : (.fieldLink RX10 10 "CellKeys" "told" "LCellKeys$Told;" : Cond) ∈ wsX10_at := by decide +kernel
theorem in_X10_at_X10 : ∀ w ∈ u_ws RX10 TX10 10, w ∈ wsX10_at := by decide +kernel
theorem m_X10_at_1 : (.fieldLink RX10 19 "CellKeys" "rows" "LCellKeys$Rows;" : Cond) ∈ wsX10_at := by decide +kernel
set_option maxHeartbeats 4000000 in
set_option maxRecDepth 100000 in
theorem c_X10_at (l : Launch) (G : zG) (q : Nat → Nat) (o : Nat) (S : VX10) (v1 : Int32) (v2 : Int32) (y : Int32 × VX10) (hf : f_X10_at S v1 v2 = some y) : zMet l yX10_at wsX10_at 5 107 G [.ref (q (o + 0)), .int v1, .int v2] [bX10 G q o, bX9 G q (o + 1) S.1.1 S.1.2.1 S.1.2.2.1 S.1.2.2.2.1 S.1.2.2.2.2, bX6 G q (o + 3) S.2.1.1 S.2.1.2, bX8 G q (o + 12) S.2.2.1.1 S.2.2.1.2, bX5 G q (o + 19) S.2.2.2.1.2.1 S.2.2.2.1.2.2.1 S.2.2.2.1.2.2.2.1 S.2.2.2.1.2.2.2.2, bX2 G q ((o + 19) + 2) S.2.2.2.1.1.1 S.2.2.2.1.1.2.1 S.2.2.2.1.1.2.2.1 S.2.2.2.1.1.2.2.2.1 S.2.2.2.1.1.2.2.2.2.1 S.2.2.2.1.1.2.2.2.2.2.1 S.2.2.2.1.1.2.2.2.2.2.2.1 S.2.2.2.1.1.2.2.2.2.2.2.2, bX2 G q (o + 27) S.2.2.2.2.1.1 S.2.2.2.2.1.2.1 S.2.2.2.2.1.2.2.1 S.2.2.2.2.1.2.2.2.1 S.2.2.2.2.1.2.2.2.2.1 S.2.2.2.2.1.2.2.2.2.2.1 S.2.2.2.2.1.2.2.2.2.2.2.1 S.2.2.2.2.1.2.2.2.2.2.2.2, bX1 G q (o + 33) S.2.2.2.2.2.1.1 S.2.2.2.2.2.1.2.1 S.2.2.2.2.2.1.2.2.1 S.2.2.2.2.2.1.2.2.2, bX4 G q (o + 36) S.2.2.2.2.2.2.1.1 S.2.2.2.2.2.2.1.2, bX3 G q (o + 38) S.2.2.2.2.2.2.2.1.1 S.2.2.2.2.2.2.2.1.2.1 S.2.2.2.2.2.2.2.1.2.2.1 S.2.2.2.2.2.2.2.1.2.2.2, bX0 G q (o + 43) S.2.2.2.2.2.2.2.2.1.2.2.1 S.2.2.2.2.2.2.2.2.1.2.2.2, bX2 G q ((o + 43) + 3) S.2.2.2.2.2.2.2.2.1.1.1 S.2.2.2.2.2.2.2.2.1.1.2.1 S.2.2.2.2.2.2.2.2.1.1.2.2.1 S.2.2.2.2.2.2.2.2.1.1.2.2.2.1 S.2.2.2.2.2.2.2.2.1.1.2.2.2.2.1 S.2.2.2.2.2.2.2.2.1.1.2.2.2.2.2.1 S.2.2.2.2.2.2.2.2.1.1.2.2.2.2.2.2.1 S.2.2.2.2.2.2.2.2.1.1.2.2.2.2.2.2.2, bX4 G q ((o + 43) + 9) S.2.2.2.2.2.2.2.2.1.2.1.1 S.2.2.2.2.2.2.2.2.1.2.1.2, bX7 G q (o + 54) S.2.2.2.2.2.2.2.2.2.1 S.2.2.2.2.2.2.2.2.2.2.1 S.2.2.2.2.2.2.2.2.2.2.2] (some (.int y.1)) [bX10 G q o, bX9 G q (o + 1) y.2.1.1 y.2.1.2.1 y.2.1.2.2.1 y.2.1.2.2.2.1 y.2.1.2.2.2.2, bX6 G q (o + 3) y.2.2.1.1 y.2.2.1.2, bX8 G q (o + 12) y.2.2.2.1.1 y.2.2.2.1.2, bX5 G q (o + 19) y.2.2.2.2.1.2.1 y.2.2.2.2.1.2.2.1 y.2.2.2.2.1.2.2.2.1 y.2.2.2.2.1.2.2.2.2, bX2 G q ((o + 19) + 2) y.2.2.2.2.1.1.1 y.2.2.2.2.1.1.2.1 y.2.2.2.2.1.1.2.2.1 y.2.2.2.2.1.1.2.2.2.1 y.2.2.2.2.1.1.2.2.2.2.1 y.2.2.2.2.1.1.2.2.2.2.2.1 y.2.2.2.2.1.1.2.2.2.2.2.2.1 y.2.2.2.2.1.1.2.2.2.2.2.2.2, bX2 G q (o + 27) y.2.2.2.2.2.1.1 y.2.2.2.2.2.1.2.1 y.2.2.2.2.2.1.2.2.1 y.2.2.2.2.2.1.2.2.2.1 y.2.2.2.2.2.1.2.2.2.2.1 y.2.2.2.2.2.1.2.2.2.2.2.1 y.2.2.2.2.2.1.2.2.2.2.2.2.1 y.2.2.2.2.2.1.2.2.2.2.2.2.2, bX1 G q (o + 33) y.2.2.2.2.2.2.1.1 y.2.2.2.2.2.2.1.2.1 y.2.2.2.2.2.2.1.2.2.1 y.2.2.2.2.2.2.1.2.2.2, bX4 G q (o + 36) y.2.2.2.2.2.2.2.1.1 y.2.2.2.2.2.2.2.1.2, bX3 G q (o + 38) y.2.2.2.2.2.2.2.2.1.1 y.2.2.2.2.2.2.2.2.1.2.1 y.2.2.2.2.2.2.2.2.1.2.2.1 y.2.2.2.2.2.2.2.2.1.2.2.2, bX0 G q (o + 43) y.2.2.2.2.2.2.2.2.2.1.2.2.1 y.2.2.2.2.2.2.2.2.2.1.2.2.2, bX2 G q ((o + 43) + 3) y.2.2.2.2.2.2.2.2.2.1.1.1 y.2.2.2.2.2.2.2.2.2.1.1.2.1 y.2.2.2.2.2.2.2.2.2.1.1.2.2.1 y.2.2.2.2.2.2.2.2.2.1.1.2.2.2.1 y.2.2.2.2.2.2.2.2.2.1.1.2.2.2.2.1 y.2.2.2.2.2.2.2.2.2.1.1.2.2.2.2.2.1 y.2.2.2.2.2.2.2.2.2.1.1.2.2.2.2.2.2.1 y.2.2.2.2.2.2.2.2.2.1.1.2.2.2.2.2.2.2, bX4 G q ((o + 43) + 9) y.2.2.2.2.2.2.2.2.2.1.2.1.1 y.2.2.2.2.2.2.2.2.2.1.2.1.2, bX7 G q (o + 54) y.2.2.2.2.2.2.2.2.2.2.1 y.2.2.2.2.2.2.2.2.2.2.2.1 y.2.2.2.2.2.2.2.2.2.2.2.2] := by
  refine z_met zc_X10_at (Nat.le_of_ble_eq_true rfl) ?_
  intro p e s m below meth c A ls hZ hl hw
  have hl : lv_has ls 4 [(0, .ref (q (o + 0))), (1, .int v1), (2, .int v2)] := hl
  obtain ⟨hS0, hr, hlk, hK, hA, hT⟩ := id hZ
  have hx := hS0.1
  have hb := hS0.2.1
  have hml := hS0.2.2.1
  have hown : s.vm.findClass RX10 = some m.cls := hS0.2.2.2.1
  have hts := hS0.2.2.2.2
  unfold f_X10_at at hf
  refine lv_aload_n hx hb dX10_at_0 rfl (lv_at hl 0 rfl) ?_
  refine lv_iload_n hx hb dX10_at_1 rfl (lv_at hl 1 rfl) ?_
  refine lv_iload_n hx hb dX10_at_2 rfl (lv_at hl 2 rfl) ?_
  obtain ⟨r1, e2, hf⟩ := z_bd hf
  refine z_callV1 (As := [.int v1, .int v2]) (rest := []) (bs' := [bX10 G q o, bX9 G q (o + 1) r1.2.1.1 r1.2.1.2.1 r1.2.1.2.2.1 r1.2.1.2.2.2.1 r1.2.1.2.2.2.2, bX6 G q (o + 3) r1.2.2.1.1 r1.2.2.1.2, bX8 G q (o + 12) r1.2.2.2.1.1 r1.2.2.2.1.2, bX5 G q (o + 19) r1.2.2.2.2.1.2.1 r1.2.2.2.2.1.2.2.1 r1.2.2.2.2.1.2.2.2.1 r1.2.2.2.2.1.2.2.2.2, bX2 G q ((o + 19) + 2) r1.2.2.2.2.1.1.1 r1.2.2.2.2.1.1.2.1 r1.2.2.2.2.1.1.2.2.1 r1.2.2.2.2.1.1.2.2.2.1 r1.2.2.2.2.1.1.2.2.2.2.1 r1.2.2.2.2.1.1.2.2.2.2.2.1 r1.2.2.2.2.1.1.2.2.2.2.2.2.1 r1.2.2.2.2.1.1.2.2.2.2.2.2.2, bX2 G q (o + 27) r1.2.2.2.2.2.1.1 r1.2.2.2.2.2.1.2.1 r1.2.2.2.2.2.1.2.2.1 r1.2.2.2.2.2.1.2.2.2.1 r1.2.2.2.2.2.1.2.2.2.2.1 r1.2.2.2.2.2.1.2.2.2.2.2.1 r1.2.2.2.2.2.1.2.2.2.2.2.2.1 r1.2.2.2.2.2.1.2.2.2.2.2.2.2, bX1 G q (o + 33) r1.2.2.2.2.2.2.1.1 r1.2.2.2.2.2.2.1.2.1 r1.2.2.2.2.2.2.1.2.2.1 r1.2.2.2.2.2.2.1.2.2.2, bX4 G q (o + 36) r1.2.2.2.2.2.2.2.1.1 r1.2.2.2.2.2.2.2.1.2, bX3 G q (o + 38) r1.2.2.2.2.2.2.2.2.1.1 r1.2.2.2.2.2.2.2.2.1.2.1 r1.2.2.2.2.2.2.2.2.1.2.2.1 r1.2.2.2.2.2.2.2.2.1.2.2.2, bX0 G q (o + 43) r1.2.2.2.2.2.2.2.2.2.1.2.2.1 r1.2.2.2.2.2.2.2.2.2.1.2.2.2, bX2 G q ((o + 43) + 3) r1.2.2.2.2.2.2.2.2.2.1.1.1 r1.2.2.2.2.2.2.2.2.2.1.1.2.1 r1.2.2.2.2.2.2.2.2.2.1.1.2.2.1 r1.2.2.2.2.2.2.2.2.2.1.1.2.2.2.1 r1.2.2.2.2.2.2.2.2.2.1.1.2.2.2.2.1 r1.2.2.2.2.2.2.2.2.2.1.1.2.2.2.2.2.1 r1.2.2.2.2.2.2.2.2.2.1.1.2.2.2.2.2.2.1 r1.2.2.2.2.2.2.2.2.2.1.1.2.2.2.2.2.2.2, bX4 G q ((o + 43) + 9) r1.2.2.2.2.2.2.2.2.2.1.2.1.1 r1.2.2.2.2.2.2.2.2.2.1.2.1.2, bX7 G q (o + 54) r1.2.2.2.2.2.2.2.2.2.2.1 r1.2.2.2.2.2.2.2.2.2.2.2.1 r1.2.2.2.2.2.2.2.2.2.2.2.2]) hS0 (c_X10_placeRefusal l G q o S v1 v2 r1 e2) zc_X10_placeRefusal rfl gX10_at_X10_placeRefusal ⟨Nat.le_of_ble_eq_true rfl, Nat.le_of_ble_eq_true rfl⟩ hK hA hT hw (is := [0, 1, 2, 3, 4, 5, 6, 7, 8, 9, 10, 11, 12, 13]) rfl rfl rfl rfl rfl rfl rfl hl.1 rfl (Nat.le_of_ble_eq_true rfl) dX10_at_3 (fun H locs hw => ?_)
  refine lv_istore_n (lv' := [(3, .int r1.1), (0, .ref (q (o + 0))), (1, .int v1), (2, .int v2)]) hx hb dX10_at_6 rfl hl (by decide) rfl (fun ls hl => ?_)
  refine lv_iload_n hx hb dX10_at_7 rfl (lv_at hl 0 rfl) ?_
  refine lv_if_eq (tgt := 13) hx hb dX10_at_8 rfl (fun hc => ?_) (fun hc => ?_)
  · have hf := z_t hc hf
    refine lv_aload_n hx hb dX10_at_13 rfl (lv_at hl 1 rfl) ?_
    refine z_get hS0 in_X10_at_X10 hK hw 0 0 rfl rfl rfl (by decide) (hts _ m_X10_at_0) (v := .ref (q ((o + 1) + 0))) rfl dX10_at_14 ?_
    refine lv_aload_n hx hb dX10_at_17 rfl (lv_at hl 1 rfl) ?_
    refine z_get hS0 in_X10_at_X10 hK hw 0 1 rfl rfl rfl (by decide) (hts _ m_X10_at_1) (v := .ref (q ((o + 3) + 0))) rfl dX10_at_18 ?_
    refine lv_iload_n hx hb dX10_at_21 rfl (lv_at hl 2 rfl) ?_
    refine lv_iload_n hx hb dX10_at_22 rfl (lv_at hl 3 rfl) ?_
    obtain ⟨r3, e4, hf⟩ := z_bd hf
    refine z_callV1 (As := [.int v1, .int v2]) (rest := [.ref (q ((o + 1) + 0))]) (bs' := [bX10 G q o, bX9 G q (o + 1) r1.2.1.1 r1.2.1.2.1 r1.2.1.2.2.1 r1.2.1.2.2.2.1 r1.2.1.2.2.2.2, bX6 G q (o + 3) r1.2.2.1.1 r1.2.2.1.2, bX8 G q (o + 12) r1.2.2.2.1.1 r1.2.2.2.1.2, bX5 G q (o + 19) r1.2.2.2.2.1.2.1 r1.2.2.2.2.1.2.2.1 r1.2.2.2.2.1.2.2.2.1 r1.2.2.2.2.1.2.2.2.2, bX2 G q ((o + 19) + 2) r1.2.2.2.2.1.1.1 r1.2.2.2.2.1.1.2.1 r1.2.2.2.2.1.1.2.2.1 r1.2.2.2.2.1.1.2.2.2.1 r1.2.2.2.2.1.1.2.2.2.2.1 r1.2.2.2.2.1.1.2.2.2.2.2.1 r1.2.2.2.2.1.1.2.2.2.2.2.2.1 r1.2.2.2.2.1.1.2.2.2.2.2.2.2, bX2 G q (o + 27) r1.2.2.2.2.2.1.1 r1.2.2.2.2.2.1.2.1 r1.2.2.2.2.2.1.2.2.1 r1.2.2.2.2.2.1.2.2.2.1 r1.2.2.2.2.2.1.2.2.2.2.1 r1.2.2.2.2.2.1.2.2.2.2.2.1 r1.2.2.2.2.2.1.2.2.2.2.2.2.1 r1.2.2.2.2.2.1.2.2.2.2.2.2.2, bX1 G q (o + 33) r1.2.2.2.2.2.2.1.1 r1.2.2.2.2.2.2.1.2.1 r1.2.2.2.2.2.2.1.2.2.1 r1.2.2.2.2.2.2.1.2.2.2, bX4 G q (o + 36) r1.2.2.2.2.2.2.2.1.1 r1.2.2.2.2.2.2.2.1.2, bX3 G q (o + 38) r1.2.2.2.2.2.2.2.2.1.1 r1.2.2.2.2.2.2.2.2.1.2.1 r1.2.2.2.2.2.2.2.2.1.2.2.1 r1.2.2.2.2.2.2.2.2.1.2.2.2, bX0 G q (o + 43) r1.2.2.2.2.2.2.2.2.2.1.2.2.1 r1.2.2.2.2.2.2.2.2.2.1.2.2.2, bX2 G q ((o + 43) + 3) r1.2.2.2.2.2.2.2.2.2.1.1.1 r1.2.2.2.2.2.2.2.2.2.1.1.2.1 r1.2.2.2.2.2.2.2.2.2.1.1.2.2.1 r1.2.2.2.2.2.2.2.2.2.1.1.2.2.2.1 r1.2.2.2.2.2.2.2.2.2.1.1.2.2.2.2.1 r1.2.2.2.2.2.2.2.2.2.1.1.2.2.2.2.2.1 r1.2.2.2.2.2.2.2.2.2.1.1.2.2.2.2.2.2.1 r1.2.2.2.2.2.2.2.2.2.1.1.2.2.2.2.2.2.2, bX4 G q ((o + 43) + 9) r1.2.2.2.2.2.2.2.2.2.1.2.1.1 r1.2.2.2.2.2.2.2.2.2.1.2.1.2, bX7 G q (o + 54) r1.2.2.2.2.2.2.2.2.2.2.1 r1.2.2.2.2.2.2.2.2.2.2.2.1 r1.2.2.2.2.2.2.2.2.2.2.2.2]) hS0 (c_X6_get l G q (o + 3) r1.2.2.1 v1 v2 r3 e4) zc_X6_get rfl gX10_at_X6_get ⟨Nat.le_of_ble_eq_true rfl, Nat.le_of_ble_eq_true rfl⟩ hK hA hT hw (is := [2]) rfl rfl rfl rfl rfl rfl rfl hl.1 rfl (Nat.le_of_ble_eq_true rfl) dX10_at_23 (fun H locs hw => ?_)
    obtain ⟨r5, e6, hf⟩ := z_bd hf
    refine z_callV0 (As := [.int r3]) (rest := []) (bs' := [bX10 G q o, bX9 G q (o + 1) r5.1 r5.2.1 r5.2.2.1 r5.2.2.2.1 r5.2.2.2.2, bX6 G q (o + 3) r1.2.2.1.1 r1.2.2.1.2, bX8 G q (o + 12) r1.2.2.2.1.1 r1.2.2.2.1.2, bX5 G q (o + 19) r1.2.2.2.2.1.2.1 r1.2.2.2.2.1.2.2.1 r1.2.2.2.2.1.2.2.2.1 r1.2.2.2.2.1.2.2.2.2, bX2 G q ((o + 19) + 2) r1.2.2.2.2.1.1.1 r1.2.2.2.2.1.1.2.1 r1.2.2.2.2.1.1.2.2.1 r1.2.2.2.2.1.1.2.2.2.1 r1.2.2.2.2.1.1.2.2.2.2.1 r1.2.2.2.2.1.1.2.2.2.2.2.1 r1.2.2.2.2.1.1.2.2.2.2.2.2.1 r1.2.2.2.2.1.1.2.2.2.2.2.2.2, bX2 G q (o + 27) r1.2.2.2.2.2.1.1 r1.2.2.2.2.2.1.2.1 r1.2.2.2.2.2.1.2.2.1 r1.2.2.2.2.2.1.2.2.2.1 r1.2.2.2.2.2.1.2.2.2.2.1 r1.2.2.2.2.2.1.2.2.2.2.2.1 r1.2.2.2.2.2.1.2.2.2.2.2.2.1 r1.2.2.2.2.2.1.2.2.2.2.2.2.2, bX1 G q (o + 33) r1.2.2.2.2.2.2.1.1 r1.2.2.2.2.2.2.1.2.1 r1.2.2.2.2.2.2.1.2.2.1 r1.2.2.2.2.2.2.1.2.2.2, bX4 G q (o + 36) r1.2.2.2.2.2.2.2.1.1 r1.2.2.2.2.2.2.2.1.2, bX3 G q (o + 38) r1.2.2.2.2.2.2.2.2.1.1 r1.2.2.2.2.2.2.2.2.1.2.1 r1.2.2.2.2.2.2.2.2.1.2.2.1 r1.2.2.2.2.2.2.2.2.1.2.2.2, bX0 G q (o + 43) r1.2.2.2.2.2.2.2.2.2.1.2.2.1 r1.2.2.2.2.2.2.2.2.2.1.2.2.2, bX2 G q ((o + 43) + 3) r1.2.2.2.2.2.2.2.2.2.1.1.1 r1.2.2.2.2.2.2.2.2.2.1.1.2.1 r1.2.2.2.2.2.2.2.2.2.1.1.2.2.1 r1.2.2.2.2.2.2.2.2.2.1.1.2.2.2.1 r1.2.2.2.2.2.2.2.2.2.1.1.2.2.2.2.1 r1.2.2.2.2.2.2.2.2.2.1.1.2.2.2.2.2.1 r1.2.2.2.2.2.2.2.2.2.1.1.2.2.2.2.2.2.1 r1.2.2.2.2.2.2.2.2.2.1.1.2.2.2.2.2.2.2, bX4 G q ((o + 43) + 9) r1.2.2.2.2.2.2.2.2.2.1.2.1.1 r1.2.2.2.2.2.2.2.2.2.1.2.1.2, bX7 G q (o + 54) r1.2.2.2.2.2.2.2.2.2.2.1 r1.2.2.2.2.2.2.2.2.2.2.2.1 r1.2.2.2.2.2.2.2.2.2.2.2.2]) hS0 (c_X9_tell l G q (o + 1) r1.2.1 r3 r5 e6) zc_X9_tell rfl gX10_at_X9_tell ⟨Nat.le_of_ble_eq_true rfl, Nat.le_of_ble_eq_true rfl⟩ hK hA hT hw (is := [1]) rfl rfl rfl rfl rfl rfl rfl hl.1 rfl (Nat.le_of_ble_eq_true rfl) dX10_at_26 (fun H locs hw => ?_)
    refine lv_iconst (v := 1) hx hb dX10_at_29 rfl ?_
    cases hf
    exact z_iret hx hb hr hlk hw dX10_at_30
  · have hf := z_f hc hf
    refine lv_iload_n hx hb dX10_at_11 rfl (lv_at hl 0 rfl) ?_
    cases hf
    exact z_iret hx hb hr hlk hw dX10_at_12
theorem zc_X10_getsOut : zC yX10_getsOut wsX10_getsOut cX10_getsOut 2 (some .boolean) 1 := ⟨⟨_, rfl⟩, by decide +kernel, by decide +kernel, by decide +kernel, by decide +kernel⟩
theorem m_X10_getsOut_0 : (.fieldLink RX10 54 "CellKeys" "reach" "LCellKeys$Reach;" : Cond) ∈ wsX10_getsOut := by decide +kernel
theorem in_X10_getsOut_X10 : ∀ w ∈ u_ws RX10 TX10 10, w ∈ wsX10_getsOut := by decide +kernel
theorem m_X10_getsOut_1 : (.fieldLink RX10 40 "CellKeys" "jail" "LCellKeys$Jail;" : Cond) ∈ wsX10_getsOut := by decide +kernel
set_option maxHeartbeats 4000000 in
set_option maxRecDepth 100000 in
theorem c_X10_getsOut (l : Launch) (G : zG) (q : Nat → Nat) (o : Nat) (S : VX10) (v1 : Int32) (y : Int32 × VX10) (hf : f_X10_getsOut S v1 = some y) : zMet l yX10_getsOut wsX10_getsOut 4 107 G [.ref (q (o + 0)), .int v1] [bX10 G q o, bX9 G q (o + 1) S.1.1 S.1.2.1 S.1.2.2.1 S.1.2.2.2.1 S.1.2.2.2.2, bX6 G q (o + 3) S.2.1.1 S.2.1.2, bX8 G q (o + 12) S.2.2.1.1 S.2.2.1.2, bX5 G q (o + 19) S.2.2.2.1.2.1 S.2.2.2.1.2.2.1 S.2.2.2.1.2.2.2.1 S.2.2.2.1.2.2.2.2, bX2 G q ((o + 19) + 2) S.2.2.2.1.1.1 S.2.2.2.1.1.2.1 S.2.2.2.1.1.2.2.1 S.2.2.2.1.1.2.2.2.1 S.2.2.2.1.1.2.2.2.2.1 S.2.2.2.1.1.2.2.2.2.2.1 S.2.2.2.1.1.2.2.2.2.2.2.1 S.2.2.2.1.1.2.2.2.2.2.2.2, bX2 G q (o + 27) S.2.2.2.2.1.1 S.2.2.2.2.1.2.1 S.2.2.2.2.1.2.2.1 S.2.2.2.2.1.2.2.2.1 S.2.2.2.2.1.2.2.2.2.1 S.2.2.2.2.1.2.2.2.2.2.1 S.2.2.2.2.1.2.2.2.2.2.2.1 S.2.2.2.2.1.2.2.2.2.2.2.2, bX1 G q (o + 33) S.2.2.2.2.2.1.1 S.2.2.2.2.2.1.2.1 S.2.2.2.2.2.1.2.2.1 S.2.2.2.2.2.1.2.2.2, bX4 G q (o + 36) S.2.2.2.2.2.2.1.1 S.2.2.2.2.2.2.1.2, bX3 G q (o + 38) S.2.2.2.2.2.2.2.1.1 S.2.2.2.2.2.2.2.1.2.1 S.2.2.2.2.2.2.2.1.2.2.1 S.2.2.2.2.2.2.2.1.2.2.2, bX0 G q (o + 43) S.2.2.2.2.2.2.2.2.1.2.2.1 S.2.2.2.2.2.2.2.2.1.2.2.2, bX2 G q ((o + 43) + 3) S.2.2.2.2.2.2.2.2.1.1.1 S.2.2.2.2.2.2.2.2.1.1.2.1 S.2.2.2.2.2.2.2.2.1.1.2.2.1 S.2.2.2.2.2.2.2.2.1.1.2.2.2.1 S.2.2.2.2.2.2.2.2.1.1.2.2.2.2.1 S.2.2.2.2.2.2.2.2.1.1.2.2.2.2.2.1 S.2.2.2.2.2.2.2.2.1.1.2.2.2.2.2.2.1 S.2.2.2.2.2.2.2.2.1.1.2.2.2.2.2.2.2, bX4 G q ((o + 43) + 9) S.2.2.2.2.2.2.2.2.1.2.1.1 S.2.2.2.2.2.2.2.2.1.2.1.2, bX7 G q (o + 54) S.2.2.2.2.2.2.2.2.2.1 S.2.2.2.2.2.2.2.2.2.2.1 S.2.2.2.2.2.2.2.2.2.2.2] (some (.int y.1)) [bX10 G q o, bX9 G q (o + 1) y.2.1.1 y.2.1.2.1 y.2.1.2.2.1 y.2.1.2.2.2.1 y.2.1.2.2.2.2, bX6 G q (o + 3) y.2.2.1.1 y.2.2.1.2, bX8 G q (o + 12) y.2.2.2.1.1 y.2.2.2.1.2, bX5 G q (o + 19) y.2.2.2.2.1.2.1 y.2.2.2.2.1.2.2.1 y.2.2.2.2.1.2.2.2.1 y.2.2.2.2.1.2.2.2.2, bX2 G q ((o + 19) + 2) y.2.2.2.2.1.1.1 y.2.2.2.2.1.1.2.1 y.2.2.2.2.1.1.2.2.1 y.2.2.2.2.1.1.2.2.2.1 y.2.2.2.2.1.1.2.2.2.2.1 y.2.2.2.2.1.1.2.2.2.2.2.1 y.2.2.2.2.1.1.2.2.2.2.2.2.1 y.2.2.2.2.1.1.2.2.2.2.2.2.2, bX2 G q (o + 27) y.2.2.2.2.2.1.1 y.2.2.2.2.2.1.2.1 y.2.2.2.2.2.1.2.2.1 y.2.2.2.2.2.1.2.2.2.1 y.2.2.2.2.2.1.2.2.2.2.1 y.2.2.2.2.2.1.2.2.2.2.2.1 y.2.2.2.2.2.1.2.2.2.2.2.2.1 y.2.2.2.2.2.1.2.2.2.2.2.2.2, bX1 G q (o + 33) y.2.2.2.2.2.2.1.1 y.2.2.2.2.2.2.1.2.1 y.2.2.2.2.2.2.1.2.2.1 y.2.2.2.2.2.2.1.2.2.2, bX4 G q (o + 36) y.2.2.2.2.2.2.2.1.1 y.2.2.2.2.2.2.2.1.2, bX3 G q (o + 38) y.2.2.2.2.2.2.2.2.1.1 y.2.2.2.2.2.2.2.2.1.2.1 y.2.2.2.2.2.2.2.2.1.2.2.1 y.2.2.2.2.2.2.2.2.1.2.2.2, bX0 G q (o + 43) y.2.2.2.2.2.2.2.2.2.1.2.2.1 y.2.2.2.2.2.2.2.2.2.1.2.2.2, bX2 G q ((o + 43) + 3) y.2.2.2.2.2.2.2.2.2.1.1.1 y.2.2.2.2.2.2.2.2.2.1.1.2.1 y.2.2.2.2.2.2.2.2.2.1.1.2.2.1 y.2.2.2.2.2.2.2.2.2.1.1.2.2.2.1 y.2.2.2.2.2.2.2.2.2.1.1.2.2.2.2.1 y.2.2.2.2.2.2.2.2.2.1.1.2.2.2.2.2.1 y.2.2.2.2.2.2.2.2.2.1.1.2.2.2.2.2.2.1 y.2.2.2.2.2.2.2.2.2.1.1.2.2.2.2.2.2.2, bX4 G q ((o + 43) + 9) y.2.2.2.2.2.2.2.2.2.1.2.1.1 y.2.2.2.2.2.2.2.2.2.1.2.1.2, bX7 G q (o + 54) y.2.2.2.2.2.2.2.2.2.2.1 y.2.2.2.2.2.2.2.2.2.2.2.1 y.2.2.2.2.2.2.2.2.2.2.2.2] := by
  refine z_met zc_X10_getsOut (Nat.le_of_ble_eq_true rfl) ?_
  intro p e s m below meth c A ls hZ hl hw
  have hl : lv_has ls 2 [(0, .ref (q (o + 0))), (1, .int v1)] := hl
  obtain ⟨hS0, hr, hlk, hK, hA, hT⟩ := id hZ
  have hx := hS0.1
  have hb := hS0.2.1
  have hml := hS0.2.2.1
  have hown : s.vm.findClass RX10 = some m.cls := hS0.2.2.2.1
  have hts := hS0.2.2.2.2
  unfold f_X10_getsOut at hf
  refine lv_aload_n hx hb dX10_getsOut_0 rfl (lv_at hl 0 rfl) ?_
  refine z_get hS0 in_X10_getsOut_X10 hK hw 0 6 rfl rfl rfl (by decide) (hts _ m_X10_getsOut_0) (v := .ref (q ((o + 36) + 0))) rfl dX10_getsOut_1 ?_
  refine lv_aload_n hx hb dX10_getsOut_4 rfl (lv_at hl 0 rfl) ?_
  refine z_get hS0 in_X10_getsOut_X10 hK hw 0 4 rfl rfl rfl (by decide) (hts _ m_X10_getsOut_1) (v := .ref (q ((o + 27) + 0))) rfl dX10_getsOut_5 ?_
  refine lv_iload_n hx hb dX10_getsOut_8 rfl (lv_at hl 1 rfl) ?_
  obtain ⟨r1, e2, hf⟩ := z_bd hf
  refine z_callV0 (As := [.ref (q ((o + 27) + 0)), .int v1]) (rest := []) (bs' := [bX10 G q o, bX9 G q (o + 1) S.1.1 S.1.2.1 S.1.2.2.1 S.1.2.2.2.1 S.1.2.2.2.2, bX6 G q (o + 3) S.2.1.1 S.2.1.2, bX8 G q (o + 12) S.2.2.1.1 S.2.2.1.2, bX5 G q (o + 19) S.2.2.2.1.2.1 S.2.2.2.1.2.2.1 S.2.2.2.1.2.2.2.1 S.2.2.2.1.2.2.2.2, bX2 G q ((o + 19) + 2) S.2.2.2.1.1.1 S.2.2.2.1.1.2.1 S.2.2.2.1.1.2.2.1 S.2.2.2.1.1.2.2.2.1 S.2.2.2.1.1.2.2.2.2.1 S.2.2.2.1.1.2.2.2.2.2.1 S.2.2.2.1.1.2.2.2.2.2.2.1 S.2.2.2.1.1.2.2.2.2.2.2.2, bX2 G q (o + 27) S.2.2.2.2.1.1 S.2.2.2.2.1.2.1 S.2.2.2.2.1.2.2.1 S.2.2.2.2.1.2.2.2.1 S.2.2.2.2.1.2.2.2.2.1 S.2.2.2.2.1.2.2.2.2.2.1 S.2.2.2.2.1.2.2.2.2.2.2.1 S.2.2.2.2.1.2.2.2.2.2.2.2, bX1 G q (o + 33) S.2.2.2.2.2.1.1 S.2.2.2.2.2.1.2.1 S.2.2.2.2.2.1.2.2.1 S.2.2.2.2.2.1.2.2.2, bX4 G q (o + 36) r1.1 r1.2, bX3 G q (o + 38) S.2.2.2.2.2.2.2.1.1 S.2.2.2.2.2.2.2.1.2.1 S.2.2.2.2.2.2.2.1.2.2.1 S.2.2.2.2.2.2.2.1.2.2.2, bX0 G q (o + 43) S.2.2.2.2.2.2.2.2.1.2.2.1 S.2.2.2.2.2.2.2.2.1.2.2.2, bX2 G q ((o + 43) + 3) S.2.2.2.2.2.2.2.2.1.1.1 S.2.2.2.2.2.2.2.2.1.1.2.1 S.2.2.2.2.2.2.2.2.1.1.2.2.1 S.2.2.2.2.2.2.2.2.1.1.2.2.2.1 S.2.2.2.2.2.2.2.2.1.1.2.2.2.2.1 S.2.2.2.2.2.2.2.2.1.1.2.2.2.2.2.1 S.2.2.2.2.2.2.2.2.1.1.2.2.2.2.2.2.1 S.2.2.2.2.2.2.2.2.1.1.2.2.2.2.2.2.2, bX4 G q ((o + 43) + 9) S.2.2.2.2.2.2.2.2.1.2.1.1 S.2.2.2.2.2.2.2.2.1.2.1.2, bX7 G q (o + 54) S.2.2.2.2.2.2.2.2.2.1 S.2.2.2.2.2.2.2.2.2.2.1 S.2.2.2.2.2.2.2.2.2.2.2]) hS0 (c_X4_fill l G q (o + 36) q (o + 27) S.2.2.2.2.2.2.1 S.2.2.2.2.1 v1 r1 e2) zc_X4_fill rfl gX10_getsOut_X4_fill ⟨Nat.le_of_ble_eq_true rfl, Nat.le_of_ble_eq_true rfl⟩ hK hA hT hw (is := [8, 6]) rfl rfl rfl rfl rfl rfl rfl hl.1 rfl (Nat.le_of_ble_eq_true rfl) dX10_getsOut_9 (fun H locs hw => ?_)
  refine lv_aload_n hx hb dX10_getsOut_12 rfl (lv_at hl 0 rfl) ?_
  refine z_get hS0 in_X10_getsOut_X10 hK hw 0 6 rfl rfl rfl (by decide) (hts _ m_X10_getsOut_0) (v := .ref (q ((o + 36) + 0))) rfl dX10_getsOut_13 ?_
  refine lv_iload_n hx hb dX10_getsOut_16 rfl (lv_at hl 1 rfl) ?_
  obtain ⟨r3, e4, hf⟩ := z_bd hf
  refine z_callV1 (As := [.int v1]) (rest := []) (bs' := [bX10 G q o, bX9 G q (o + 1) S.1.1 S.1.2.1 S.1.2.2.1 S.1.2.2.2.1 S.1.2.2.2.2, bX6 G q (o + 3) S.2.1.1 S.2.1.2, bX8 G q (o + 12) S.2.2.1.1 S.2.2.1.2, bX5 G q (o + 19) S.2.2.2.1.2.1 S.2.2.2.1.2.2.1 S.2.2.2.1.2.2.2.1 S.2.2.2.1.2.2.2.2, bX2 G q ((o + 19) + 2) S.2.2.2.1.1.1 S.2.2.2.1.1.2.1 S.2.2.2.1.1.2.2.1 S.2.2.2.1.1.2.2.2.1 S.2.2.2.1.1.2.2.2.2.1 S.2.2.2.1.1.2.2.2.2.2.1 S.2.2.2.1.1.2.2.2.2.2.2.1 S.2.2.2.1.1.2.2.2.2.2.2.2, bX2 G q (o + 27) S.2.2.2.2.1.1 S.2.2.2.2.1.2.1 S.2.2.2.2.1.2.2.1 S.2.2.2.2.1.2.2.2.1 S.2.2.2.2.1.2.2.2.2.1 S.2.2.2.2.1.2.2.2.2.2.1 S.2.2.2.2.1.2.2.2.2.2.2.1 S.2.2.2.2.1.2.2.2.2.2.2.2, bX1 G q (o + 33) S.2.2.2.2.2.1.1 S.2.2.2.2.2.1.2.1 S.2.2.2.2.2.1.2.2.1 S.2.2.2.2.2.1.2.2.2, bX4 G q (o + 36) r1.1 r1.2, bX3 G q (o + 38) S.2.2.2.2.2.2.2.1.1 S.2.2.2.2.2.2.2.1.2.1 S.2.2.2.2.2.2.2.1.2.2.1 S.2.2.2.2.2.2.2.1.2.2.2, bX0 G q (o + 43) S.2.2.2.2.2.2.2.2.1.2.2.1 S.2.2.2.2.2.2.2.2.1.2.2.2, bX2 G q ((o + 43) + 3) S.2.2.2.2.2.2.2.2.1.1.1 S.2.2.2.2.2.2.2.2.1.1.2.1 S.2.2.2.2.2.2.2.2.1.1.2.2.1 S.2.2.2.2.2.2.2.2.1.1.2.2.2.1 S.2.2.2.2.2.2.2.2.1.1.2.2.2.2.1 S.2.2.2.2.2.2.2.2.1.1.2.2.2.2.2.1 S.2.2.2.2.2.2.2.2.1.1.2.2.2.2.2.2.1 S.2.2.2.2.2.2.2.2.1.1.2.2.2.2.2.2.2, bX4 G q ((o + 43) + 9) S.2.2.2.2.2.2.2.2.1.2.1.1 S.2.2.2.2.2.2.2.2.1.2.1.2, bX7 G q (o + 54) S.2.2.2.2.2.2.2.2.2.1 S.2.2.2.2.2.2.2.2.2.2.1 S.2.2.2.2.2.2.2.2.2.2.2]) hS0 (c_X4_has l G q (o + 36) r1 v1 r3 e4) zc_X4_has rfl gX10_getsOut_X4_has ⟨Nat.le_of_ble_eq_true rfl, Nat.le_of_ble_eq_true rfl⟩ hK hA hT hw (is := [8]) rfl rfl rfl rfl rfl rfl rfl hl.1 rfl (Nat.le_of_ble_eq_true rfl) dX10_getsOut_17 (fun H locs hw => ?_)
  obtain ⟨g5, hf⟩ := z_gd hf
  cases hf
  exact z_zret hx hb hr (z_nb g5) hlk hw dX10_getsOut_20
theorem zc_X10_band : zC yX10_band wsX10_band cX10_band 2 (some .int) 1 := ⟨⟨_, rfl⟩, by decide +kernel, by decide +kernel, by decide +kernel, by decide +kernel⟩
theorem m_X10_band_0 : (.fieldLink RX10 40 "CellKeys" "jail" "LCellKeys$Jail;" : Cond) ∈ wsX10_band := by decide +kernel
theorem in_X10_band_X10 : ∀ w ∈ u_ws RX10 TX10 10, w ∈ wsX10_band := by decide +kernel
theorem m_X10_band_1 : (.fieldLink RX10 54 "CellKeys" "reach" "LCellKeys$Reach;" : Cond) ∈ wsX10_band := by decide +kernel
set_option maxHeartbeats 4000000 in
set_option maxRecDepth 100000 in
theorem c_X10_band (l : Launch) (G : zG) (q : Nat → Nat) (o : Nat) (S : VX10) (v1 : Int32) (y : Int32 × VX10) (hf : f_X10_band S v1 = some y) : zMet l yX10_band wsX10_band 5 128 G [.ref (q (o + 0)), .int v1] [bX10 G q o, bX9 G q (o + 1) S.1.1 S.1.2.1 S.1.2.2.1 S.1.2.2.2.1 S.1.2.2.2.2, bX6 G q (o + 3) S.2.1.1 S.2.1.2, bX8 G q (o + 12) S.2.2.1.1 S.2.2.1.2, bX5 G q (o + 19) S.2.2.2.1.2.1 S.2.2.2.1.2.2.1 S.2.2.2.1.2.2.2.1 S.2.2.2.1.2.2.2.2, bX2 G q ((o + 19) + 2) S.2.2.2.1.1.1 S.2.2.2.1.1.2.1 S.2.2.2.1.1.2.2.1 S.2.2.2.1.1.2.2.2.1 S.2.2.2.1.1.2.2.2.2.1 S.2.2.2.1.1.2.2.2.2.2.1 S.2.2.2.1.1.2.2.2.2.2.2.1 S.2.2.2.1.1.2.2.2.2.2.2.2, bX2 G q (o + 27) S.2.2.2.2.1.1 S.2.2.2.2.1.2.1 S.2.2.2.2.1.2.2.1 S.2.2.2.2.1.2.2.2.1 S.2.2.2.2.1.2.2.2.2.1 S.2.2.2.2.1.2.2.2.2.2.1 S.2.2.2.2.1.2.2.2.2.2.2.1 S.2.2.2.2.1.2.2.2.2.2.2.2, bX1 G q (o + 33) S.2.2.2.2.2.1.1 S.2.2.2.2.2.1.2.1 S.2.2.2.2.2.1.2.2.1 S.2.2.2.2.2.1.2.2.2, bX4 G q (o + 36) S.2.2.2.2.2.2.1.1 S.2.2.2.2.2.2.1.2, bX3 G q (o + 38) S.2.2.2.2.2.2.2.1.1 S.2.2.2.2.2.2.2.1.2.1 S.2.2.2.2.2.2.2.1.2.2.1 S.2.2.2.2.2.2.2.1.2.2.2, bX0 G q (o + 43) S.2.2.2.2.2.2.2.2.1.2.2.1 S.2.2.2.2.2.2.2.2.1.2.2.2, bX2 G q ((o + 43) + 3) S.2.2.2.2.2.2.2.2.1.1.1 S.2.2.2.2.2.2.2.2.1.1.2.1 S.2.2.2.2.2.2.2.2.1.1.2.2.1 S.2.2.2.2.2.2.2.2.1.1.2.2.2.1 S.2.2.2.2.2.2.2.2.1.1.2.2.2.2.1 S.2.2.2.2.2.2.2.2.1.1.2.2.2.2.2.1 S.2.2.2.2.2.2.2.2.1.1.2.2.2.2.2.2.1 S.2.2.2.2.2.2.2.2.1.1.2.2.2.2.2.2.2, bX4 G q ((o + 43) + 9) S.2.2.2.2.2.2.2.2.1.2.1.1 S.2.2.2.2.2.2.2.2.1.2.1.2, bX7 G q (o + 54) S.2.2.2.2.2.2.2.2.2.1 S.2.2.2.2.2.2.2.2.2.2.1 S.2.2.2.2.2.2.2.2.2.2.2] (some (.int y.1)) [bX10 G q o, bX9 G q (o + 1) y.2.1.1 y.2.1.2.1 y.2.1.2.2.1 y.2.1.2.2.2.1 y.2.1.2.2.2.2, bX6 G q (o + 3) y.2.2.1.1 y.2.2.1.2, bX8 G q (o + 12) y.2.2.2.1.1 y.2.2.2.1.2, bX5 G q (o + 19) y.2.2.2.2.1.2.1 y.2.2.2.2.1.2.2.1 y.2.2.2.2.1.2.2.2.1 y.2.2.2.2.1.2.2.2.2, bX2 G q ((o + 19) + 2) y.2.2.2.2.1.1.1 y.2.2.2.2.1.1.2.1 y.2.2.2.2.1.1.2.2.1 y.2.2.2.2.1.1.2.2.2.1 y.2.2.2.2.1.1.2.2.2.2.1 y.2.2.2.2.1.1.2.2.2.2.2.1 y.2.2.2.2.1.1.2.2.2.2.2.2.1 y.2.2.2.2.1.1.2.2.2.2.2.2.2, bX2 G q (o + 27) y.2.2.2.2.2.1.1 y.2.2.2.2.2.1.2.1 y.2.2.2.2.2.1.2.2.1 y.2.2.2.2.2.1.2.2.2.1 y.2.2.2.2.2.1.2.2.2.2.1 y.2.2.2.2.2.1.2.2.2.2.2.1 y.2.2.2.2.2.1.2.2.2.2.2.2.1 y.2.2.2.2.2.1.2.2.2.2.2.2.2, bX1 G q (o + 33) y.2.2.2.2.2.2.1.1 y.2.2.2.2.2.2.1.2.1 y.2.2.2.2.2.2.1.2.2.1 y.2.2.2.2.2.2.1.2.2.2, bX4 G q (o + 36) y.2.2.2.2.2.2.2.1.1 y.2.2.2.2.2.2.2.1.2, bX3 G q (o + 38) y.2.2.2.2.2.2.2.2.1.1 y.2.2.2.2.2.2.2.2.1.2.1 y.2.2.2.2.2.2.2.2.1.2.2.1 y.2.2.2.2.2.2.2.2.1.2.2.2, bX0 G q (o + 43) y.2.2.2.2.2.2.2.2.2.1.2.2.1 y.2.2.2.2.2.2.2.2.2.1.2.2.2, bX2 G q ((o + 43) + 3) y.2.2.2.2.2.2.2.2.2.1.1.1 y.2.2.2.2.2.2.2.2.2.1.1.2.1 y.2.2.2.2.2.2.2.2.2.1.1.2.2.1 y.2.2.2.2.2.2.2.2.2.1.1.2.2.2.1 y.2.2.2.2.2.2.2.2.2.1.1.2.2.2.2.1 y.2.2.2.2.2.2.2.2.2.1.1.2.2.2.2.2.1 y.2.2.2.2.2.2.2.2.2.1.1.2.2.2.2.2.2.1 y.2.2.2.2.2.2.2.2.2.1.1.2.2.2.2.2.2.2, bX4 G q ((o + 43) + 9) y.2.2.2.2.2.2.2.2.2.1.2.1.1 y.2.2.2.2.2.2.2.2.2.1.2.1.2, bX7 G q (o + 54) y.2.2.2.2.2.2.2.2.2.2.1 y.2.2.2.2.2.2.2.2.2.2.2.1 y.2.2.2.2.2.2.2.2.2.2.2.2] := by
  refine z_met zc_X10_band (Nat.le_of_ble_eq_true rfl) ?_
  intro p e s m below meth c A ls hZ hl hw
  have hl : lv_has ls 2 [(0, .ref (q (o + 0))), (1, .int v1)] := hl
  obtain ⟨hS0, hr, hlk, hK, hA, hT⟩ := id hZ
  have hx := hS0.1
  have hb := hS0.2.1
  have hml := hS0.2.2.1
  have hown : s.vm.findClass RX10 = some m.cls := hS0.2.2.2.1
  have hts := hS0.2.2.2.2
  unfold f_X10_band at hf
  refine lv_aload_n hx hb dX10_band_0 rfl (lv_at hl 0 rfl) ?_
  refine z_get hS0 in_X10_band_X10 hK hw 0 4 rfl rfl rfl (by decide) (hts _ m_X10_band_0) (v := .ref (q ((o + 27) + 0))) rfl dX10_band_1 ?_
  refine lv_iload_n hx hb dX10_band_4 rfl (lv_at hl 1 rfl) ?_
  obtain ⟨r1, e2, hf⟩ := z_bd hf
  refine z_callV1 (As := [.int v1]) (rest := []) (bs' := [bX10 G q o, bX9 G q (o + 1) S.1.1 S.1.2.1 S.1.2.2.1 S.1.2.2.2.1 S.1.2.2.2.2, bX6 G q (o + 3) S.2.1.1 S.2.1.2, bX8 G q (o + 12) S.2.2.1.1 S.2.2.1.2, bX5 G q (o + 19) S.2.2.2.1.2.1 S.2.2.2.1.2.2.1 S.2.2.2.1.2.2.2.1 S.2.2.2.1.2.2.2.2, bX2 G q ((o + 19) + 2) S.2.2.2.1.1.1 S.2.2.2.1.1.2.1 S.2.2.2.1.1.2.2.1 S.2.2.2.1.1.2.2.2.1 S.2.2.2.1.1.2.2.2.2.1 S.2.2.2.1.1.2.2.2.2.2.1 S.2.2.2.1.1.2.2.2.2.2.2.1 S.2.2.2.1.1.2.2.2.2.2.2.2, bX2 G q (o + 27) S.2.2.2.2.1.1 S.2.2.2.2.1.2.1 S.2.2.2.2.1.2.2.1 S.2.2.2.2.1.2.2.2.1 S.2.2.2.2.1.2.2.2.2.1 S.2.2.2.2.1.2.2.2.2.2.1 S.2.2.2.2.1.2.2.2.2.2.2.1 S.2.2.2.2.1.2.2.2.2.2.2.2, bX1 G q (o + 33) S.2.2.2.2.2.1.1 S.2.2.2.2.2.1.2.1 S.2.2.2.2.2.1.2.2.1 S.2.2.2.2.2.1.2.2.2, bX4 G q (o + 36) S.2.2.2.2.2.2.1.1 S.2.2.2.2.2.2.1.2, bX3 G q (o + 38) S.2.2.2.2.2.2.2.1.1 S.2.2.2.2.2.2.2.1.2.1 S.2.2.2.2.2.2.2.1.2.2.1 S.2.2.2.2.2.2.2.1.2.2.2, bX0 G q (o + 43) S.2.2.2.2.2.2.2.2.1.2.2.1 S.2.2.2.2.2.2.2.2.1.2.2.2, bX2 G q ((o + 43) + 3) S.2.2.2.2.2.2.2.2.1.1.1 S.2.2.2.2.2.2.2.2.1.1.2.1 S.2.2.2.2.2.2.2.2.1.1.2.2.1 S.2.2.2.2.2.2.2.2.1.1.2.2.2.1 S.2.2.2.2.2.2.2.2.1.1.2.2.2.2.1 S.2.2.2.2.2.2.2.2.1.1.2.2.2.2.2.1 S.2.2.2.2.2.2.2.2.1.1.2.2.2.2.2.2.1 S.2.2.2.2.2.2.2.2.1.1.2.2.2.2.2.2.2, bX4 G q ((o + 43) + 9) S.2.2.2.2.2.2.2.2.1.2.1.1 S.2.2.2.2.2.2.2.2.1.2.1.2, bX7 G q (o + 54) S.2.2.2.2.2.2.2.2.2.1 S.2.2.2.2.2.2.2.2.2.2.1 S.2.2.2.2.2.2.2.2.2.2.2]) hS0 (c_X2_isSet l G q (o + 27) S.2.2.2.2.1 v1 r1 e2) zc_X2_isSet rfl gX10_band_X2_isSet ⟨Nat.le_of_ble_eq_true rfl, Nat.le_of_ble_eq_true rfl⟩ hK hA hT hw (is := [6]) rfl rfl rfl rfl rfl rfl rfl hl.1 rfl (Nat.le_of_ble_eq_true rfl) dX10_band_5 (fun H locs hw => ?_)
  refine lv_if_eq (tgt := 15) hx hb dX10_band_8 rfl (fun hc => ?_) (fun hc => ?_)
  · have hf := z_t hc hf
    refine lv_iconst (v := (-1)) hx hb dX10_band_15 rfl ?_
    cases hf
    exact z_iret hx hb hr hlk hw dX10_band_16
  · have hf := z_f hc hf
    refine lv_iload_n hx hb dX10_band_11 rfl (lv_at hl 1 rfl) ?_
    refine lv_if_ne (tgt := 17) hx hb dX10_band_12 rfl (fun hc => ?_) (fun hc => ?_)
    · have hf := z_f hc hf
      refine lv_aload_n hx hb dX10_band_17 rfl (lv_at hl 0 rfl) ?_
      refine lv_iload_n hx hb dX10_band_18 rfl (lv_at hl 1 rfl) ?_
      obtain ⟨r3, e4, hf⟩ := z_bd hf
      refine z_callV1 (As := [.int v1]) (rest := []) (bs' := [bX10 G q o, bX9 G q (o + 1) r3.2.1.1 r3.2.1.2.1 r3.2.1.2.2.1 r3.2.1.2.2.2.1 r3.2.1.2.2.2.2, bX6 G q (o + 3) r3.2.2.1.1 r3.2.2.1.2, bX8 G q (o + 12) r3.2.2.2.1.1 r3.2.2.2.1.2, bX5 G q (o + 19) r3.2.2.2.2.1.2.1 r3.2.2.2.2.1.2.2.1 r3.2.2.2.2.1.2.2.2.1 r3.2.2.2.2.1.2.2.2.2, bX2 G q ((o + 19) + 2) r3.2.2.2.2.1.1.1 r3.2.2.2.2.1.1.2.1 r3.2.2.2.2.1.1.2.2.1 r3.2.2.2.2.1.1.2.2.2.1 r3.2.2.2.2.1.1.2.2.2.2.1 r3.2.2.2.2.1.1.2.2.2.2.2.1 r3.2.2.2.2.1.1.2.2.2.2.2.2.1 r3.2.2.2.2.1.1.2.2.2.2.2.2.2, bX2 G q (o + 27) r3.2.2.2.2.2.1.1 r3.2.2.2.2.2.1.2.1 r3.2.2.2.2.2.1.2.2.1 r3.2.2.2.2.2.1.2.2.2.1 r3.2.2.2.2.2.1.2.2.2.2.1 r3.2.2.2.2.2.1.2.2.2.2.2.1 r3.2.2.2.2.2.1.2.2.2.2.2.2.1 r3.2.2.2.2.2.1.2.2.2.2.2.2.2, bX1 G q (o + 33) r3.2.2.2.2.2.2.1.1 r3.2.2.2.2.2.2.1.2.1 r3.2.2.2.2.2.2.1.2.2.1 r3.2.2.2.2.2.2.1.2.2.2, bX4 G q (o + 36) r3.2.2.2.2.2.2.2.1.1 r3.2.2.2.2.2.2.2.1.2, bX3 G q (o + 38) r3.2.2.2.2.2.2.2.2.1.1 r3.2.2.2.2.2.2.2.2.1.2.1 r3.2.2.2.2.2.2.2.2.1.2.2.1 r3.2.2.2.2.2.2.2.2.1.2.2.2, bX0 G q (o + 43) r3.2.2.2.2.2.2.2.2.2.1.2.2.1 r3.2.2.2.2.2.2.2.2.2.1.2.2.2, bX2 G q ((o + 43) + 3) r3.2.2.2.2.2.2.2.2.2.1.1.1 r3.2.2.2.2.2.2.2.2.2.1.1.2.1 r3.2.2.2.2.2.2.2.2.2.1.1.2.2.1 r3.2.2.2.2.2.2.2.2.2.1.1.2.2.2.1 r3.2.2.2.2.2.2.2.2.2.1.1.2.2.2.2.1 r3.2.2.2.2.2.2.2.2.2.1.1.2.2.2.2.2.1 r3.2.2.2.2.2.2.2.2.2.1.1.2.2.2.2.2.2.1 r3.2.2.2.2.2.2.2.2.2.1.1.2.2.2.2.2.2.2, bX4 G q ((o + 43) + 9) r3.2.2.2.2.2.2.2.2.2.1.2.1.1 r3.2.2.2.2.2.2.2.2.2.1.2.1.2, bX7 G q (o + 54) r3.2.2.2.2.2.2.2.2.2.2.1 r3.2.2.2.2.2.2.2.2.2.2.2.1 r3.2.2.2.2.2.2.2.2.2.2.2.2]) hS0 (c_X10_getsOut l G q o S v1 r3 e4) zc_X10_getsOut rfl gX10_band_X10_getsOut ⟨Nat.le_of_ble_eq_true rfl, Nat.le_of_ble_eq_true rfl⟩ hK hA hT hw (is := [0, 1, 2, 3, 4, 5, 6, 7, 8, 9, 10, 11, 12, 13]) rfl rfl rfl rfl rfl rfl rfl hl.1 rfl (Nat.le_of_ble_eq_true rfl) dX10_band_19 (fun H locs hw => ?_)
      refine lv_if_eq (tgt := 36) hx hb dX10_band_22 rfl (fun hc => ?_) (fun hc => ?_)
      · have hf := z_t hc hf
        refine lv_bipush (v := (-9)) hx hb dX10_band_36 rfl ?_
        cases hf
        exact z_iret hx hb hr hlk hw dX10_band_38
      · have hf := z_f hc hf
        refine lv_aload_n hx hb dX10_band_25 rfl (lv_at hl 0 rfl) ?_
        refine z_get hS0 in_X10_band_X10 hK hw 0 6 rfl rfl rfl (by decide) (hts _ m_X10_band_1) (v := .ref (q ((o + 36) + 0))) rfl dX10_band_26 ?_
        refine lv_iload_n hx hb dX10_band_29 rfl (lv_at hl 1 rfl) ?_
        obtain ⟨r5, e6, hf⟩ := z_bd hf
        refine z_callV1 (As := [.int v1]) (rest := []) (bs' := [bX10 G q o, bX9 G q (o + 1) r3.2.1.1 r3.2.1.2.1 r3.2.1.2.2.1 r3.2.1.2.2.2.1 r3.2.1.2.2.2.2, bX6 G q (o + 3) r3.2.2.1.1 r3.2.2.1.2, bX8 G q (o + 12) r3.2.2.2.1.1 r3.2.2.2.1.2, bX5 G q (o + 19) r3.2.2.2.2.1.2.1 r3.2.2.2.2.1.2.2.1 r3.2.2.2.2.1.2.2.2.1 r3.2.2.2.2.1.2.2.2.2, bX2 G q ((o + 19) + 2) r3.2.2.2.2.1.1.1 r3.2.2.2.2.1.1.2.1 r3.2.2.2.2.1.1.2.2.1 r3.2.2.2.2.1.1.2.2.2.1 r3.2.2.2.2.1.1.2.2.2.2.1 r3.2.2.2.2.1.1.2.2.2.2.2.1 r3.2.2.2.2.1.1.2.2.2.2.2.2.1 r3.2.2.2.2.1.1.2.2.2.2.2.2.2, bX2 G q (o + 27) r3.2.2.2.2.2.1.1 r3.2.2.2.2.2.1.2.1 r3.2.2.2.2.2.1.2.2.1 r3.2.2.2.2.2.1.2.2.2.1 r3.2.2.2.2.2.1.2.2.2.2.1 r3.2.2.2.2.2.1.2.2.2.2.2.1 r3.2.2.2.2.2.1.2.2.2.2.2.2.1 r3.2.2.2.2.2.1.2.2.2.2.2.2.2, bX1 G q (o + 33) r3.2.2.2.2.2.2.1.1 r3.2.2.2.2.2.2.1.2.1 r3.2.2.2.2.2.2.1.2.2.1 r3.2.2.2.2.2.2.1.2.2.2, bX4 G q (o + 36) r3.2.2.2.2.2.2.2.1.1 r3.2.2.2.2.2.2.2.1.2, bX3 G q (o + 38) r3.2.2.2.2.2.2.2.2.1.1 r3.2.2.2.2.2.2.2.2.1.2.1 r3.2.2.2.2.2.2.2.2.1.2.2.1 r3.2.2.2.2.2.2.2.2.1.2.2.2, bX0 G q (o + 43) r3.2.2.2.2.2.2.2.2.2.1.2.2.1 r3.2.2.2.2.2.2.2.2.2.1.2.2.2, bX2 G q ((o + 43) + 3) r3.2.2.2.2.2.2.2.2.2.1.1.1 r3.2.2.2.2.2.2.2.2.2.1.1.2.1 r3.2.2.2.2.2.2.2.2.2.1.1.2.2.1 r3.2.2.2.2.2.2.2.2.2.1.1.2.2.2.1 r3.2.2.2.2.2.2.2.2.2.1.1.2.2.2.2.1 r3.2.2.2.2.2.2.2.2.2.1.1.2.2.2.2.2.1 r3.2.2.2.2.2.2.2.2.2.1.1.2.2.2.2.2.2.1 r3.2.2.2.2.2.2.2.2.2.1.1.2.2.2.2.2.2.2, bX4 G q ((o + 43) + 9) r3.2.2.2.2.2.2.2.2.2.1.2.1.1 r3.2.2.2.2.2.2.2.2.2.1.2.1.2, bX7 G q (o + 54) r3.2.2.2.2.2.2.2.2.2.2.1 r3.2.2.2.2.2.2.2.2.2.2.2.1 r3.2.2.2.2.2.2.2.2.2.2.2.2]) hS0 (c_X4_favoursOf l G q (o + 36) r3.2.2.2.2.2.2.2.1 v1 r5 e6) zc_X4_favoursOf rfl gX10_band_X4_favoursOf ⟨Nat.le_of_ble_eq_true rfl, Nat.le_of_ble_eq_true rfl⟩ hK hA hT hw (is := [8]) rfl rfl rfl rfl rfl rfl rfl hl.1 rfl (Nat.le_of_ble_eq_true rfl) dX10_band_30 (fun H locs hw => ?_)
        refine lv_goto (tgt := 38) hx hb dX10_band_33 rfl ?_
        cases hf
        exact z_iret hx hb hr hlk hw dX10_band_38
    · have hf := z_t hc hf
      refine lv_iconst (v := (-1)) hx hb dX10_band_15 rfl ?_
      cases hf
      exact z_iret hx hb hr hlk hw dX10_band_16
theorem zc_X10_bands : zC yX10_bands wsX10_bands cX10_bands 5 (some .int) 1 := ⟨⟨_, rfl⟩, by decide +kernel, by decide +kernel, by decide +kernel, by decide +kernel⟩
theorem m_X10_bands_0 : (.fieldLink RX10 40 "CellKeys" "jail" "LCellKeys$Jail;" : Cond) ∈ wsX10_bands := by decide +kernel
theorem in_X10_bands_X10 : ∀ w ∈ u_ws RX10 TX10 10, w ∈ wsX10_bands := by decide +kernel
theorem m_X10_bands_1 : (.fieldLink RX10 10 "CellKeys" "told" "LCellKeys$Told;" : Cond) ∈ wsX10_bands := by decide +kernel
set_option maxHeartbeats 4000000 in
set_option maxRecDepth 100000 in
theorem k_X10_bands_26 {p : Program} {l : Launch} {e : Env} {s : State} {m : MethodId} {args : Array Value} {below : List Frame} {meth : Method} {c : Code} {A : Nat → Prop} {G : zG} {q : Nat → Nat} {o : Nat}  (hZ : zZ p s m args meth c A G cX10_bands 5 RX10 wsX10_bands (some .int)) (y : Int32 × VX10)  (n : Nat) : ∀ (S : VX10) (v1 : Int32) (v2 : Int32) (v3 : Int32) (v4 : Int32) (H : Heap) (locs : List Loc) (ls : Array Slot), f_X10_bands_26 n S v1 v2 v3 v4 = some y → zH G A s.heap [bX10 G q o, bX9 G q (o + 1) S.1.1 S.1.2.1 S.1.2.2.1 S.1.2.2.2.1 S.1.2.2.2.2, bX6 G q (o + 3) S.2.1.1 S.2.1.2, bX8 G q (o + 12) S.2.2.1.1 S.2.2.1.2, bX5 G q (o + 19) S.2.2.2.1.2.1 S.2.2.2.1.2.2.1 S.2.2.2.1.2.2.2.1 S.2.2.2.1.2.2.2.2, bX2 G q ((o + 19) + 2) S.2.2.2.1.1.1 S.2.2.2.1.1.2.1 S.2.2.2.1.1.2.2.1 S.2.2.2.1.1.2.2.2.1 S.2.2.2.1.1.2.2.2.2.1 S.2.2.2.1.1.2.2.2.2.2.1 S.2.2.2.1.1.2.2.2.2.2.2.1 S.2.2.2.1.1.2.2.2.2.2.2.2, bX2 G q (o + 27) S.2.2.2.2.1.1 S.2.2.2.2.1.2.1 S.2.2.2.2.1.2.2.1 S.2.2.2.2.1.2.2.2.1 S.2.2.2.2.1.2.2.2.2.1 S.2.2.2.2.1.2.2.2.2.2.1 S.2.2.2.2.1.2.2.2.2.2.2.1 S.2.2.2.2.1.2.2.2.2.2.2.2, bX1 G q (o + 33) S.2.2.2.2.2.1.1 S.2.2.2.2.2.1.2.1 S.2.2.2.2.2.1.2.2.1 S.2.2.2.2.2.1.2.2.2, bX4 G q (o + 36) S.2.2.2.2.2.2.1.1 S.2.2.2.2.2.2.1.2, bX3 G q (o + 38) S.2.2.2.2.2.2.2.1.1 S.2.2.2.2.2.2.2.1.2.1 S.2.2.2.2.2.2.2.1.2.2.1 S.2.2.2.2.2.2.2.1.2.2.2, bX0 G q (o + 43) S.2.2.2.2.2.2.2.2.1.2.2.1 S.2.2.2.2.2.2.2.2.1.2.2.2, bX2 G q ((o + 43) + 3) S.2.2.2.2.2.2.2.2.1.1.1 S.2.2.2.2.2.2.2.2.1.1.2.1 S.2.2.2.2.2.2.2.2.1.1.2.2.1 S.2.2.2.2.2.2.2.2.1.1.2.2.2.1 S.2.2.2.2.2.2.2.2.1.1.2.2.2.2.1 S.2.2.2.2.2.2.2.2.1.1.2.2.2.2.2.1 S.2.2.2.2.2.2.2.2.1.1.2.2.2.2.2.2.1 S.2.2.2.2.2.2.2.2.1.1.2.2.2.2.2.2.2, bX4 G q ((o + 43) + 9) S.2.2.2.2.2.2.2.2.1.2.1.1 S.2.2.2.2.2.2.2.2.1.2.1.2, bX7 G q (o + 54) S.2.2.2.2.2.2.2.2.2.1 S.2.2.2.2.2.2.2.2.2.2.1 S.2.2.2.2.2.2.2.2.2.2.2] H locs → lv_has ls 5 [(0, .ref (q (o + 0))), (1, .int v1), (2, .int v2), (3, .int v3), (4, .int v4)] → W p l e { frames := 5, cells := 0, slots := 0, locals := 128 } s m args below meth c H locs 0 0 (MQ below (zQ (some (.int y.1)) (zPost G [bX10 G q o, bX9 G q (o + 1) y.2.1.1 y.2.1.2.1 y.2.1.2.2.1 y.2.1.2.2.2.1 y.2.1.2.2.2.2, bX6 G q (o + 3) y.2.2.1.1 y.2.2.1.2, bX8 G q (o + 12) y.2.2.2.1.1 y.2.2.2.1.2, bX5 G q (o + 19) y.2.2.2.2.1.2.1 y.2.2.2.2.1.2.2.1 y.2.2.2.2.1.2.2.2.1 y.2.2.2.2.1.2.2.2.2, bX2 G q ((o + 19) + 2) y.2.2.2.2.1.1.1 y.2.2.2.2.1.1.2.1 y.2.2.2.2.1.1.2.2.1 y.2.2.2.2.1.1.2.2.2.1 y.2.2.2.2.1.1.2.2.2.2.1 y.2.2.2.2.1.1.2.2.2.2.2.1 y.2.2.2.2.1.1.2.2.2.2.2.2.1 y.2.2.2.2.1.1.2.2.2.2.2.2.2, bX2 G q (o + 27) y.2.2.2.2.2.1.1 y.2.2.2.2.2.1.2.1 y.2.2.2.2.2.1.2.2.1 y.2.2.2.2.2.1.2.2.2.1 y.2.2.2.2.2.1.2.2.2.2.1 y.2.2.2.2.2.1.2.2.2.2.2.1 y.2.2.2.2.2.1.2.2.2.2.2.2.1 y.2.2.2.2.2.1.2.2.2.2.2.2.2, bX1 G q (o + 33) y.2.2.2.2.2.2.1.1 y.2.2.2.2.2.2.1.2.1 y.2.2.2.2.2.2.1.2.2.1 y.2.2.2.2.2.2.1.2.2.2, bX4 G q (o + 36) y.2.2.2.2.2.2.2.1.1 y.2.2.2.2.2.2.2.1.2, bX3 G q (o + 38) y.2.2.2.2.2.2.2.2.1.1 y.2.2.2.2.2.2.2.2.1.2.1 y.2.2.2.2.2.2.2.2.1.2.2.1 y.2.2.2.2.2.2.2.2.1.2.2.2, bX0 G q (o + 43) y.2.2.2.2.2.2.2.2.2.1.2.2.1 y.2.2.2.2.2.2.2.2.2.1.2.2.2, bX2 G q ((o + 43) + 3) y.2.2.2.2.2.2.2.2.2.1.1.1 y.2.2.2.2.2.2.2.2.2.1.1.2.1 y.2.2.2.2.2.2.2.2.2.1.1.2.2.1 y.2.2.2.2.2.2.2.2.2.1.1.2.2.2.1 y.2.2.2.2.2.2.2.2.2.1.1.2.2.2.2.1 y.2.2.2.2.2.2.2.2.2.1.1.2.2.2.2.2.1 y.2.2.2.2.2.2.2.2.2.1.1.2.2.2.2.2.2.1 y.2.2.2.2.2.2.2.2.2.1.1.2.2.2.2.2.2.2, bX4 G q ((o + 43) + 9) y.2.2.2.2.2.2.2.2.2.1.2.1.1 y.2.2.2.2.2.2.2.2.2.1.2.1.2, bX7 G q (o + 54) y.2.2.2.2.2.2.2.2.2.2.1 y.2.2.2.2.2.2.2.2.2.2.2.1 y.2.2.2.2.2.2.2.2.2.2.2.2]) A) args s 0 0 A) (F0 m 26 ls []) := by
  obtain ⟨hS0, hr, hlk, hK, hA, hT⟩ := id hZ
  have hx := hS0.1
  have hb := hS0.2.1
  have hml := hS0.2.2.1
  have hown : s.vm.findClass RX10 = some m.cls := hS0.2.2.2.1
  have hts := hS0.2.2.2.2
  induction n with
  | zero =>
    intro S v1 v2 v3 v4 H locs ls hf hw hl
    unfold f_X10_bands_26 at hf
    cases hf
  | succ n ih =>
    intro S v1 v2 v3 v4 H locs ls hf hw hl
    unfold f_X10_bands_26 at hf
    refine lv_iload hx hb dX10_bands_26 (lv_at hl 4 rfl) ?_
    refine lv_aload_n hx hb dX10_bands_28 rfl (lv_at hl 0 rfl) ?_
    refine z_get hS0 in_X10_bands_X10 hK hw 0 4 rfl rfl rfl (by decide) (hts _ m_X10_bands_0) (v := .ref (q ((o + 27) + 0))) rfl dX10_bands_29 ?_
    obtain ⟨r1, e2, hf⟩ := z_bd hf
    refine z_callV1 (As := []) (rest := [.int v4]) (bs' := [bX10 G q o, bX9 G q (o + 1) S.1.1 S.1.2.1 S.1.2.2.1 S.1.2.2.2.1 S.1.2.2.2.2, bX6 G q (o + 3) S.2.1.1 S.2.1.2, bX8 G q (o + 12) S.2.2.1.1 S.2.2.1.2, bX5 G q (o + 19) S.2.2.2.1.2.1 S.2.2.2.1.2.2.1 S.2.2.2.1.2.2.2.1 S.2.2.2.1.2.2.2.2, bX2 G q ((o + 19) + 2) S.2.2.2.1.1.1 S.2.2.2.1.1.2.1 S.2.2.2.1.1.2.2.1 S.2.2.2.1.1.2.2.2.1 S.2.2.2.1.1.2.2.2.2.1 S.2.2.2.1.1.2.2.2.2.2.1 S.2.2.2.1.1.2.2.2.2.2.2.1 S.2.2.2.1.1.2.2.2.2.2.2.2, bX2 G q (o + 27) S.2.2.2.2.1.1 S.2.2.2.2.1.2.1 S.2.2.2.2.1.2.2.1 S.2.2.2.2.1.2.2.2.1 S.2.2.2.2.1.2.2.2.2.1 S.2.2.2.2.1.2.2.2.2.2.1 S.2.2.2.2.1.2.2.2.2.2.2.1 S.2.2.2.2.1.2.2.2.2.2.2.2, bX1 G q (o + 33) S.2.2.2.2.2.1.1 S.2.2.2.2.2.1.2.1 S.2.2.2.2.2.1.2.2.1 S.2.2.2.2.2.1.2.2.2, bX4 G q (o + 36) S.2.2.2.2.2.2.1.1 S.2.2.2.2.2.2.1.2, bX3 G q (o + 38) S.2.2.2.2.2.2.2.1.1 S.2.2.2.2.2.2.2.1.2.1 S.2.2.2.2.2.2.2.1.2.2.1 S.2.2.2.2.2.2.2.1.2.2.2, bX0 G q (o + 43) S.2.2.2.2.2.2.2.2.1.2.2.1 S.2.2.2.2.2.2.2.2.1.2.2.2, bX2 G q ((o + 43) + 3) S.2.2.2.2.2.2.2.2.1.1.1 S.2.2.2.2.2.2.2.2.1.1.2.1 S.2.2.2.2.2.2.2.2.1.1.2.2.1 S.2.2.2.2.2.2.2.2.1.1.2.2.2.1 S.2.2.2.2.2.2.2.2.1.1.2.2.2.2.1 S.2.2.2.2.2.2.2.2.1.1.2.2.2.2.2.1 S.2.2.2.2.2.2.2.2.1.1.2.2.2.2.2.2.1 S.2.2.2.2.2.2.2.2.1.1.2.2.2.2.2.2.2, bX4 G q ((o + 43) + 9) S.2.2.2.2.2.2.2.2.1.2.1.1 S.2.2.2.2.2.2.2.2.1.2.1.2, bX7 G q (o + 54) S.2.2.2.2.2.2.2.2.2.1 S.2.2.2.2.2.2.2.2.2.2.1 S.2.2.2.2.2.2.2.2.2.2.2]) hS0 (c_X2_everyone l G q (o + 27) S.2.2.2.2.1 r1 e2) zc_X2_everyone rfl gX10_bands_X2_everyone ⟨Nat.le_of_ble_eq_true rfl, Nat.le_of_ble_eq_true rfl⟩ hK hA hT hw (is := [6]) rfl rfl rfl rfl rfl rfl rfl hl.1 rfl (Nat.le_of_ble_eq_true rfl) dX10_bands_32 (fun H locs hw => ?_)
    refine lv_icmp_gt (tgt := 76) hx hb dX10_bands_35 rfl (fun hc => ?_) (fun hc => ?_)
    · have hf := z_t hc hf
      refine lv_aload_n hx hb dX10_bands_76 rfl (lv_at hl 0 rfl) ?_
      refine z_get hS0 in_X10_bands_X10 hK hw 0 0 rfl rfl rfl (by decide) (hts _ m_X10_bands_1) (v := .ref (q ((o + 1) + 0))) rfl dX10_bands_77 ?_
      refine lv_iload_n hx hb dX10_bands_80 rfl (lv_at hl 3 rfl) ?_
      obtain ⟨r3, e4, hf⟩ := z_bd hf
      refine z_callV0 (As := [.int v3]) (rest := []) (bs' := [bX10 G q o, bX9 G q (o + 1) r3.1 r3.2.1 r3.2.2.1 r3.2.2.2.1 r3.2.2.2.2, bX6 G q (o + 3) S.2.1.1 S.2.1.2, bX8 G q (o + 12) S.2.2.1.1 S.2.2.1.2, bX5 G q (o + 19) S.2.2.2.1.2.1 S.2.2.2.1.2.2.1 S.2.2.2.1.2.2.2.1 S.2.2.2.1.2.2.2.2, bX2 G q ((o + 19) + 2) S.2.2.2.1.1.1 S.2.2.2.1.1.2.1 S.2.2.2.1.1.2.2.1 S.2.2.2.1.1.2.2.2.1 S.2.2.2.1.1.2.2.2.2.1 S.2.2.2.1.1.2.2.2.2.2.1 S.2.2.2.1.1.2.2.2.2.2.2.1 S.2.2.2.1.1.2.2.2.2.2.2.2, bX2 G q (o + 27) S.2.2.2.2.1.1 S.2.2.2.2.1.2.1 S.2.2.2.2.1.2.2.1 S.2.2.2.2.1.2.2.2.1 S.2.2.2.2.1.2.2.2.2.1 S.2.2.2.2.1.2.2.2.2.2.1 S.2.2.2.2.1.2.2.2.2.2.2.1 S.2.2.2.2.1.2.2.2.2.2.2.2, bX1 G q (o + 33) S.2.2.2.2.2.1.1 S.2.2.2.2.2.1.2.1 S.2.2.2.2.2.1.2.2.1 S.2.2.2.2.2.1.2.2.2, bX4 G q (o + 36) S.2.2.2.2.2.2.1.1 S.2.2.2.2.2.2.1.2, bX3 G q (o + 38) S.2.2.2.2.2.2.2.1.1 S.2.2.2.2.2.2.2.1.2.1 S.2.2.2.2.2.2.2.1.2.2.1 S.2.2.2.2.2.2.2.1.2.2.2, bX0 G q (o + 43) S.2.2.2.2.2.2.2.2.1.2.2.1 S.2.2.2.2.2.2.2.2.1.2.2.2, bX2 G q ((o + 43) + 3) S.2.2.2.2.2.2.2.2.1.1.1 S.2.2.2.2.2.2.2.2.1.1.2.1 S.2.2.2.2.2.2.2.2.1.1.2.2.1 S.2.2.2.2.2.2.2.2.1.1.2.2.2.1 S.2.2.2.2.2.2.2.2.1.1.2.2.2.2.1 S.2.2.2.2.2.2.2.2.1.1.2.2.2.2.2.1 S.2.2.2.2.2.2.2.2.1.1.2.2.2.2.2.2.1 S.2.2.2.2.2.2.2.2.1.1.2.2.2.2.2.2.2, bX4 G q ((o + 43) + 9) S.2.2.2.2.2.2.2.2.1.2.1.1 S.2.2.2.2.2.2.2.2.1.2.1.2, bX7 G q (o + 54) S.2.2.2.2.2.2.2.2.2.1 S.2.2.2.2.2.2.2.2.2.2.1 S.2.2.2.2.2.2.2.2.2.2.2]) hS0 (c_X9_tell l G q (o + 1) S.1 v3 r3 e4) zc_X9_tell rfl gX10_bands_X9_tell ⟨Nat.le_of_ble_eq_true rfl, Nat.le_of_ble_eq_true rfl⟩ hK hA hT hw (is := [1]) rfl rfl rfl rfl rfl rfl rfl hl.1 rfl (Nat.le_of_ble_eq_true rfl) dX10_bands_81 (fun H locs hw => ?_)
      refine lv_iload_n hx hb dX10_bands_84 rfl (lv_at hl 2 rfl) ?_
      cases hf
      exact z_iret hx hb hr hlk hw dX10_bands_85
    · have hf := z_f hc hf
      refine lv_iload hx hb dX10_bands_38 (lv_at hl 4 rfl) ?_
      obtain ⟨r5, e6, hf⟩ := z_bd hf
      refine z_callS1 (As := [.int v4]) (rest := []) (bs' := [bX10 G q o, bX9 G q (o + 1) S.1.1 S.1.2.1 S.1.2.2.1 S.1.2.2.2.1 S.1.2.2.2.2, bX6 G q (o + 3) S.2.1.1 S.2.1.2, bX8 G q (o + 12) S.2.2.1.1 S.2.2.1.2, bX5 G q (o + 19) S.2.2.2.1.2.1 S.2.2.2.1.2.2.1 S.2.2.2.1.2.2.2.1 S.2.2.2.1.2.2.2.2, bX2 G q ((o + 19) + 2) S.2.2.2.1.1.1 S.2.2.2.1.1.2.1 S.2.2.2.1.1.2.2.1 S.2.2.2.1.1.2.2.2.1 S.2.2.2.1.1.2.2.2.2.1 S.2.2.2.1.1.2.2.2.2.2.1 S.2.2.2.1.1.2.2.2.2.2.2.1 S.2.2.2.1.1.2.2.2.2.2.2.2, bX2 G q (o + 27) S.2.2.2.2.1.1 S.2.2.2.2.1.2.1 S.2.2.2.2.1.2.2.1 S.2.2.2.2.1.2.2.2.1 S.2.2.2.2.1.2.2.2.2.1 S.2.2.2.2.1.2.2.2.2.2.1 S.2.2.2.2.1.2.2.2.2.2.2.1 S.2.2.2.2.1.2.2.2.2.2.2.2, bX1 G q (o + 33) S.2.2.2.2.2.1.1 S.2.2.2.2.2.1.2.1 S.2.2.2.2.2.1.2.2.1 S.2.2.2.2.2.1.2.2.2, bX4 G q (o + 36) S.2.2.2.2.2.2.1.1 S.2.2.2.2.2.2.1.2, bX3 G q (o + 38) S.2.2.2.2.2.2.2.1.1 S.2.2.2.2.2.2.2.1.2.1 S.2.2.2.2.2.2.2.1.2.2.1 S.2.2.2.2.2.2.2.1.2.2.2, bX0 G q (o + 43) S.2.2.2.2.2.2.2.2.1.2.2.1 S.2.2.2.2.2.2.2.2.1.2.2.2, bX2 G q ((o + 43) + 3) S.2.2.2.2.2.2.2.2.1.1.1 S.2.2.2.2.2.2.2.2.1.1.2.1 S.2.2.2.2.2.2.2.2.1.1.2.2.1 S.2.2.2.2.2.2.2.2.1.1.2.2.2.1 S.2.2.2.2.2.2.2.2.1.1.2.2.2.2.1 S.2.2.2.2.2.2.2.2.1.1.2.2.2.2.2.1 S.2.2.2.2.2.2.2.2.1.1.2.2.2.2.2.2.1 S.2.2.2.2.2.2.2.2.1.1.2.2.2.2.2.2.2, bX4 G q ((o + 43) + 9) S.2.2.2.2.2.2.2.2.1.2.1.1 S.2.2.2.2.2.2.2.2.1.2.1.2, bX7 G q (o + 54) S.2.2.2.2.2.2.2.2.2.1 S.2.2.2.2.2.2.2.2.2.2.1 S.2.2.2.2.2.2.2.2.2.2.2]) hS0 (c_J6_bitCount_0f7a4 l G v4 r5 e6) zc_J6_bitCount_0f7a4 gX10_bands_J6_bitCount_0f7a4 ⟨Nat.le_of_ble_eq_true rfl, Nat.le_of_ble_eq_true rfl⟩ hK hA hT hw (is := []) rfl rfl rfl rfl rfl hl.1 rfl (Nat.le_of_ble_eq_true rfl) dX10_bands_40 (fun H locs hw => ?_)
      refine lv_iload_n hx hb dX10_bands_43 rfl (lv_at hl 1 rfl) ?_
      refine lv_icmp_ne (tgt := 70) hx hb dX10_bands_44 rfl (fun hc => ?_) (fun hc => ?_)
      · have hf := z_f hc hf
        refine lv_iinc (v := (v4 + 1)) (lv' := [(4, .int (v4 + 1)), (0, .ref (q (o + 0))), (1, .int v1), (2, .int v2), (3, .int v3)]) hx hb dX10_bands_70 hl (k := 4) rfl rfl (by decide) rfl (fun ls hl => ?_)
        refine lv_goto (tgt := 26) hx hb dX10_bands_73 rfl ?_
        exact ih _ _ _ _ _ _ _ _ hf hw (lv_sub hl [1, 2, 3, 4, 0] rfl)
      · have hf := z_t hc hf
        refine lv_aload_n hx hb dX10_bands_47 rfl (lv_at hl 0 rfl) ?_
        refine lv_iload hx hb dX10_bands_48 (lv_at hl 4 rfl) ?_
        obtain ⟨r7, e8, hf⟩ := z_bd hf
        refine z_callV1 (As := [.int v4]) (rest := []) (bs' := [bX10 G q o, bX9 G q (o + 1) r7.2.1.1 r7.2.1.2.1 r7.2.1.2.2.1 r7.2.1.2.2.2.1 r7.2.1.2.2.2.2, bX6 G q (o + 3) r7.2.2.1.1 r7.2.2.1.2, bX8 G q (o + 12) r7.2.2.2.1.1 r7.2.2.2.1.2, bX5 G q (o + 19) r7.2.2.2.2.1.2.1 r7.2.2.2.2.1.2.2.1 r7.2.2.2.2.1.2.2.2.1 r7.2.2.2.2.1.2.2.2.2, bX2 G q ((o + 19) + 2) r7.2.2.2.2.1.1.1 r7.2.2.2.2.1.1.2.1 r7.2.2.2.2.1.1.2.2.1 r7.2.2.2.2.1.1.2.2.2.1 r7.2.2.2.2.1.1.2.2.2.2.1 r7.2.2.2.2.1.1.2.2.2.2.2.1 r7.2.2.2.2.1.1.2.2.2.2.2.2.1 r7.2.2.2.2.1.1.2.2.2.2.2.2.2, bX2 G q (o + 27) r7.2.2.2.2.2.1.1 r7.2.2.2.2.2.1.2.1 r7.2.2.2.2.2.1.2.2.1 r7.2.2.2.2.2.1.2.2.2.1 r7.2.2.2.2.2.1.2.2.2.2.1 r7.2.2.2.2.2.1.2.2.2.2.2.1 r7.2.2.2.2.2.1.2.2.2.2.2.2.1 r7.2.2.2.2.2.1.2.2.2.2.2.2.2, bX1 G q (o + 33) r7.2.2.2.2.2.2.1.1 r7.2.2.2.2.2.2.1.2.1 r7.2.2.2.2.2.2.1.2.2.1 r7.2.2.2.2.2.2.1.2.2.2, bX4 G q (o + 36) r7.2.2.2.2.2.2.2.1.1 r7.2.2.2.2.2.2.2.1.2, bX3 G q (o + 38) r7.2.2.2.2.2.2.2.2.1.1 r7.2.2.2.2.2.2.2.2.1.2.1 r7.2.2.2.2.2.2.2.2.1.2.2.1 r7.2.2.2.2.2.2.2.2.1.2.2.2, bX0 G q (o + 43) r7.2.2.2.2.2.2.2.2.2.1.2.2.1 r7.2.2.2.2.2.2.2.2.2.1.2.2.2, bX2 G q ((o + 43) + 3) r7.2.2.2.2.2.2.2.2.2.1.1.1 r7.2.2.2.2.2.2.2.2.2.1.1.2.1 r7.2.2.2.2.2.2.2.2.2.1.1.2.2.1 r7.2.2.2.2.2.2.2.2.2.1.1.2.2.2.1 r7.2.2.2.2.2.2.2.2.2.1.1.2.2.2.2.1 r7.2.2.2.2.2.2.2.2.2.1.1.2.2.2.2.2.1 r7.2.2.2.2.2.2.2.2.2.1.1.2.2.2.2.2.2.1 r7.2.2.2.2.2.2.2.2.2.1.1.2.2.2.2.2.2.2, bX4 G q ((o + 43) + 9) r7.2.2.2.2.2.2.2.2.2.1.2.1.1 r7.2.2.2.2.2.2.2.2.2.1.2.1.2, bX7 G q (o + 54) r7.2.2.2.2.2.2.2.2.2.2.1 r7.2.2.2.2.2.2.2.2.2.2.2.1 r7.2.2.2.2.2.2.2.2.2.2.2.2]) hS0 (c_X10_getsOut l G q o S v4 r7 e8) zc_X10_getsOut rfl gX10_bands_X10_getsOut ⟨Nat.le_of_ble_eq_true rfl, Nat.le_of_ble_eq_true rfl⟩ hK hA hT hw (is := [0, 1, 2, 3, 4, 5, 6, 7, 8, 9, 10, 11, 12, 13]) rfl rfl rfl rfl rfl rfl rfl hl.1 rfl (Nat.le_of_ble_eq_true rfl) dX10_bands_50 (fun H locs hw => ?_)
        refine lv_if_eq (tgt := 70) hx hb dX10_bands_53 rfl (fun hc => ?_) (fun hc => ?_)
        · have hf := z_t hc hf
          refine lv_iinc (v := (v4 + 1)) (lv' := [(4, .int (v4 + 1)), (0, .ref (q (o + 0))), (1, .int v1), (2, .int v2), (3, .int v3)]) hx hb dX10_bands_70 hl (k := 4) rfl rfl (by decide) rfl (fun ls hl => ?_)
          refine lv_goto (tgt := 26) hx hb dX10_bands_73 rfl ?_
          exact ih _ _ _ _ _ _ _ _ hf hw (lv_sub hl [1, 2, 3, 4, 0] rfl)
        · have hf := z_f hc hf
          refine lv_iload_n hx hb dX10_bands_56 rfl (lv_at hl 2 rfl) ?_
          refine lv_if_ne (tgt := 65) hx hb dX10_bands_57 rfl (fun hc => ?_) (fun hc => ?_)
          · have hf := z_f hc hf
            refine lv_iload_n hx hb dX10_bands_65 rfl (lv_at hl 3 rfl) ?_
            refine lv_istore_n (lv' := [(3, .int v3), (0, .ref (q (o + 0))), (1, .int v1), (2, .int v2), (4, .int v4)]) hx hb dX10_bands_66 rfl hl (by decide) rfl (fun ls hl => ?_)
            refine lv_iinc (v := (v2 + 1)) (lv' := [(2, .int (v2 + 1)), (3, .int v3), (0, .ref (q (o + 0))), (1, .int v1), (4, .int v4)]) hx hb dX10_bands_67 hl (k := 3) rfl rfl (by decide) rfl (fun ls hl => ?_)
            refine lv_iinc (v := (v4 + 1)) (lv' := [(4, .int (v4 + 1)), (2, .int (v2 + 1)), (3, .int v3), (0, .ref (q (o + 0))), (1, .int v1)]) hx hb dX10_bands_70 hl (k := 4) rfl rfl (by decide) rfl (fun ls hl => ?_)
            refine lv_goto (tgt := 26) hx hb dX10_bands_73 rfl ?_
            exact ih _ _ _ _ _ _ _ _ hf hw (lv_sub hl [3, 4, 1, 2, 0] rfl)
          · have hf := z_t hc hf
            refine lv_iload hx hb dX10_bands_60 (lv_at hl 4 rfl) ?_
            refine lv_goto (tgt := 66) hx hb dX10_bands_62 rfl ?_
            refine lv_istore_n (lv' := [(3, .int v4), (0, .ref (q (o + 0))), (1, .int v1), (2, .int v2), (4, .int v4)]) hx hb dX10_bands_66 rfl hl (by decide) rfl (fun ls hl => ?_)
            refine lv_iinc (v := (v2 + 1)) (lv' := [(2, .int (v2 + 1)), (3, .int v4), (0, .ref (q (o + 0))), (1, .int v1), (4, .int v4)]) hx hb dX10_bands_67 hl (k := 3) rfl rfl (by decide) rfl (fun ls hl => ?_)
            refine lv_iinc (v := (v4 + 1)) (lv' := [(4, .int (v4 + 1)), (2, .int (v2 + 1)), (3, .int v4), (0, .ref (q (o + 0))), (1, .int v1)]) hx hb dX10_bands_70 hl (k := 4) rfl rfl (by decide) rfl (fun ls hl => ?_)
            refine lv_goto (tgt := 26) hx hb dX10_bands_73 rfl ?_
            exact ih _ _ _ _ _ _ _ _ hf hw (lv_sub hl [3, 4, 1, 2, 0] rfl)
set_option maxHeartbeats 4000000 in
set_option maxRecDepth 100000 in
theorem c_X10_bands (l : Launch) (G : zG) (q : Nat → Nat) (o : Nat) (S : VX10) (v1 : Int32) (y : Int32 × VX10) (hf : f_X10_bands S v1 = some y) : zMet l yX10_bands wsX10_bands 5 128 G [.ref (q (o + 0)), .int v1] [bX10 G q o, bX9 G q (o + 1) S.1.1 S.1.2.1 S.1.2.2.1 S.1.2.2.2.1 S.1.2.2.2.2, bX6 G q (o + 3) S.2.1.1 S.2.1.2, bX8 G q (o + 12) S.2.2.1.1 S.2.2.1.2, bX5 G q (o + 19) S.2.2.2.1.2.1 S.2.2.2.1.2.2.1 S.2.2.2.1.2.2.2.1 S.2.2.2.1.2.2.2.2, bX2 G q ((o + 19) + 2) S.2.2.2.1.1.1 S.2.2.2.1.1.2.1 S.2.2.2.1.1.2.2.1 S.2.2.2.1.1.2.2.2.1 S.2.2.2.1.1.2.2.2.2.1 S.2.2.2.1.1.2.2.2.2.2.1 S.2.2.2.1.1.2.2.2.2.2.2.1 S.2.2.2.1.1.2.2.2.2.2.2.2, bX2 G q (o + 27) S.2.2.2.2.1.1 S.2.2.2.2.1.2.1 S.2.2.2.2.1.2.2.1 S.2.2.2.2.1.2.2.2.1 S.2.2.2.2.1.2.2.2.2.1 S.2.2.2.2.1.2.2.2.2.2.1 S.2.2.2.2.1.2.2.2.2.2.2.1 S.2.2.2.2.1.2.2.2.2.2.2.2, bX1 G q (o + 33) S.2.2.2.2.2.1.1 S.2.2.2.2.2.1.2.1 S.2.2.2.2.2.1.2.2.1 S.2.2.2.2.2.1.2.2.2, bX4 G q (o + 36) S.2.2.2.2.2.2.1.1 S.2.2.2.2.2.2.1.2, bX3 G q (o + 38) S.2.2.2.2.2.2.2.1.1 S.2.2.2.2.2.2.2.1.2.1 S.2.2.2.2.2.2.2.1.2.2.1 S.2.2.2.2.2.2.2.1.2.2.2, bX0 G q (o + 43) S.2.2.2.2.2.2.2.2.1.2.2.1 S.2.2.2.2.2.2.2.2.1.2.2.2, bX2 G q ((o + 43) + 3) S.2.2.2.2.2.2.2.2.1.1.1 S.2.2.2.2.2.2.2.2.1.1.2.1 S.2.2.2.2.2.2.2.2.1.1.2.2.1 S.2.2.2.2.2.2.2.2.1.1.2.2.2.1 S.2.2.2.2.2.2.2.2.1.1.2.2.2.2.1 S.2.2.2.2.2.2.2.2.1.1.2.2.2.2.2.1 S.2.2.2.2.2.2.2.2.1.1.2.2.2.2.2.2.1 S.2.2.2.2.2.2.2.2.1.1.2.2.2.2.2.2.2, bX4 G q ((o + 43) + 9) S.2.2.2.2.2.2.2.2.1.2.1.1 S.2.2.2.2.2.2.2.2.1.2.1.2, bX7 G q (o + 54) S.2.2.2.2.2.2.2.2.2.1 S.2.2.2.2.2.2.2.2.2.2.1 S.2.2.2.2.2.2.2.2.2.2.2] (some (.int y.1)) [bX10 G q o, bX9 G q (o + 1) y.2.1.1 y.2.1.2.1 y.2.1.2.2.1 y.2.1.2.2.2.1 y.2.1.2.2.2.2, bX6 G q (o + 3) y.2.2.1.1 y.2.2.1.2, bX8 G q (o + 12) y.2.2.2.1.1 y.2.2.2.1.2, bX5 G q (o + 19) y.2.2.2.2.1.2.1 y.2.2.2.2.1.2.2.1 y.2.2.2.2.1.2.2.2.1 y.2.2.2.2.1.2.2.2.2, bX2 G q ((o + 19) + 2) y.2.2.2.2.1.1.1 y.2.2.2.2.1.1.2.1 y.2.2.2.2.1.1.2.2.1 y.2.2.2.2.1.1.2.2.2.1 y.2.2.2.2.1.1.2.2.2.2.1 y.2.2.2.2.1.1.2.2.2.2.2.1 y.2.2.2.2.1.1.2.2.2.2.2.2.1 y.2.2.2.2.1.1.2.2.2.2.2.2.2, bX2 G q (o + 27) y.2.2.2.2.2.1.1 y.2.2.2.2.2.1.2.1 y.2.2.2.2.2.1.2.2.1 y.2.2.2.2.2.1.2.2.2.1 y.2.2.2.2.2.1.2.2.2.2.1 y.2.2.2.2.2.1.2.2.2.2.2.1 y.2.2.2.2.2.1.2.2.2.2.2.2.1 y.2.2.2.2.2.1.2.2.2.2.2.2.2, bX1 G q (o + 33) y.2.2.2.2.2.2.1.1 y.2.2.2.2.2.2.1.2.1 y.2.2.2.2.2.2.1.2.2.1 y.2.2.2.2.2.2.1.2.2.2, bX4 G q (o + 36) y.2.2.2.2.2.2.2.1.1 y.2.2.2.2.2.2.2.1.2, bX3 G q (o + 38) y.2.2.2.2.2.2.2.2.1.1 y.2.2.2.2.2.2.2.2.1.2.1 y.2.2.2.2.2.2.2.2.1.2.2.1 y.2.2.2.2.2.2.2.2.1.2.2.2, bX0 G q (o + 43) y.2.2.2.2.2.2.2.2.2.1.2.2.1 y.2.2.2.2.2.2.2.2.2.1.2.2.2, bX2 G q ((o + 43) + 3) y.2.2.2.2.2.2.2.2.2.1.1.1 y.2.2.2.2.2.2.2.2.2.1.1.2.1 y.2.2.2.2.2.2.2.2.2.1.1.2.2.1 y.2.2.2.2.2.2.2.2.2.1.1.2.2.2.1 y.2.2.2.2.2.2.2.2.2.1.1.2.2.2.2.1 y.2.2.2.2.2.2.2.2.2.1.1.2.2.2.2.2.1 y.2.2.2.2.2.2.2.2.2.1.1.2.2.2.2.2.2.1 y.2.2.2.2.2.2.2.2.2.1.1.2.2.2.2.2.2.2, bX4 G q ((o + 43) + 9) y.2.2.2.2.2.2.2.2.2.1.2.1.1 y.2.2.2.2.2.2.2.2.2.1.2.1.2, bX7 G q (o + 54) y.2.2.2.2.2.2.2.2.2.2.1 y.2.2.2.2.2.2.2.2.2.2.2.1 y.2.2.2.2.2.2.2.2.2.2.2.2] := by
  refine z_met zc_X10_bands (Nat.le_of_ble_eq_true rfl) ?_
  intro p e s m below meth c A ls hZ hl hw
  have hl : lv_has ls 5 [(0, .ref (q (o + 0))), (1, .int v1)] := hl
  obtain ⟨hS0, hr, hlk, hK, hA, hT⟩ := id hZ
  have hx := hS0.1
  have hb := hS0.2.1
  have hml := hS0.2.2.1
  have hown : s.vm.findClass RX10 = some m.cls := hS0.2.2.2.1
  have hts := hS0.2.2.2.2
  unfold f_X10_bands at hf
  refine lv_iload_n hx hb dX10_bands_0 rfl (lv_at hl 1 rfl) ?_
  refine lv_iconst (v := 1) hx hb dX10_bands_1 rfl ?_
  refine lv_icmp_lt (tgt := 16) hx hb dX10_bands_2 rfl (fun hc => ?_) (fun hc => ?_)
  · have hf := z_t hc hf
    refine lv_iconst (v := (-1)) hx hb dX10_bands_16 rfl ?_
    cases hf
    exact z_iret hx hb hr hlk hw dX10_bands_17
  · have hf := z_f hc hf
    refine lv_iload_n hx hb dX10_bands_5 rfl (lv_at hl 1 rfl) ?_
    refine lv_aload_n hx hb dX10_bands_6 rfl (lv_at hl 0 rfl) ?_
    refine z_get hS0 in_X10_bands_X10 hK hw 0 4 rfl rfl rfl (by decide) (hts _ m_X10_bands_0) (v := .ref (q ((o + 27) + 0))) rfl dX10_bands_7 ?_
    obtain ⟨r9, e10, hf⟩ := z_bd hf
    refine z_callV1 (As := []) (rest := [.int v1]) (bs' := [bX10 G q o, bX9 G q (o + 1) S.1.1 S.1.2.1 S.1.2.2.1 S.1.2.2.2.1 S.1.2.2.2.2, bX6 G q (o + 3) S.2.1.1 S.2.1.2, bX8 G q (o + 12) S.2.2.1.1 S.2.2.1.2, bX5 G q (o + 19) S.2.2.2.1.2.1 S.2.2.2.1.2.2.1 S.2.2.2.1.2.2.2.1 S.2.2.2.1.2.2.2.2, bX2 G q ((o + 19) + 2) S.2.2.2.1.1.1 S.2.2.2.1.1.2.1 S.2.2.2.1.1.2.2.1 S.2.2.2.1.1.2.2.2.1 S.2.2.2.1.1.2.2.2.2.1 S.2.2.2.1.1.2.2.2.2.2.1 S.2.2.2.1.1.2.2.2.2.2.2.1 S.2.2.2.1.1.2.2.2.2.2.2.2, bX2 G q (o + 27) S.2.2.2.2.1.1 S.2.2.2.2.1.2.1 S.2.2.2.2.1.2.2.1 S.2.2.2.2.1.2.2.2.1 S.2.2.2.2.1.2.2.2.2.1 S.2.2.2.2.1.2.2.2.2.2.1 S.2.2.2.2.1.2.2.2.2.2.2.1 S.2.2.2.2.1.2.2.2.2.2.2.2, bX1 G q (o + 33) S.2.2.2.2.2.1.1 S.2.2.2.2.2.1.2.1 S.2.2.2.2.2.1.2.2.1 S.2.2.2.2.2.1.2.2.2, bX4 G q (o + 36) S.2.2.2.2.2.2.1.1 S.2.2.2.2.2.2.1.2, bX3 G q (o + 38) S.2.2.2.2.2.2.2.1.1 S.2.2.2.2.2.2.2.1.2.1 S.2.2.2.2.2.2.2.1.2.2.1 S.2.2.2.2.2.2.2.1.2.2.2, bX0 G q (o + 43) S.2.2.2.2.2.2.2.2.1.2.2.1 S.2.2.2.2.2.2.2.2.1.2.2.2, bX2 G q ((o + 43) + 3) S.2.2.2.2.2.2.2.2.1.1.1 S.2.2.2.2.2.2.2.2.1.1.2.1 S.2.2.2.2.2.2.2.2.1.1.2.2.1 S.2.2.2.2.2.2.2.2.1.1.2.2.2.1 S.2.2.2.2.2.2.2.2.1.1.2.2.2.2.1 S.2.2.2.2.2.2.2.2.1.1.2.2.2.2.2.1 S.2.2.2.2.2.2.2.2.1.1.2.2.2.2.2.2.1 S.2.2.2.2.2.2.2.2.1.1.2.2.2.2.2.2.2, bX4 G q ((o + 43) + 9) S.2.2.2.2.2.2.2.2.1.2.1.1 S.2.2.2.2.2.2.2.2.1.2.1.2, bX7 G q (o + 54) S.2.2.2.2.2.2.2.2.2.1 S.2.2.2.2.2.2.2.2.2.2.1 S.2.2.2.2.2.2.2.2.2.2.2]) hS0 (c_X2_cells l G q (o + 27) S.2.2.2.2.1 r9 e10) zc_X2_cells rfl gX10_bands_X2_cells ⟨Nat.le_of_ble_eq_true rfl, Nat.le_of_ble_eq_true rfl⟩ hK hA hT hw (is := [6]) rfl rfl rfl rfl rfl rfl rfl hl.1 rfl (Nat.le_of_ble_eq_true rfl) dX10_bands_10 (fun H locs hw => ?_)
    refine lv_icmp_le (tgt := 18) hx hb dX10_bands_13 rfl (fun hc => ?_) (fun hc => ?_)
    · have hf := z_t hc hf
      refine lv_iconst (v := 0) hx hb dX10_bands_18 rfl ?_
      refine lv_istore_n (lv' := [(2, .int 0), (0, .ref (q (o + 0))), (1, .int v1)]) hx hb dX10_bands_19 rfl hl (by decide) rfl (fun ls hl => ?_)
      refine lv_bipush (v := (-9)) hx hb dX10_bands_20 rfl ?_
      refine lv_istore_n (lv' := [(3, .int (-9)), (2, .int 0), (0, .ref (q (o + 0))), (1, .int v1)]) hx hb dX10_bands_22 rfl hl (by decide) rfl (fun ls hl => ?_)
      refine lv_iconst (v := 1) hx hb dX10_bands_23 rfl ?_
      refine lv_istore (lv' := [(4, .int 1), (3, .int (-9)), (2, .int 0), (0, .ref (q (o + 0))), (1, .int v1)]) hx hb dX10_bands_24 hl (by decide) rfl (fun ls hl => ?_)
      exact k_X10_bands_26 hZ _ 4096 _ _ _ _ _ _ _ _ hf hw (lv_sub hl [3, 4, 2, 1, 0] rfl)
    · have hf := z_f hc hf
      refine lv_iconst (v := (-1)) hx hb dX10_bands_16 rfl ?_
      cases hf
      exact z_iret hx hb hr hlk hw dX10_bands_17
theorem zc_X10_bell : zC yX10_bell wsX10_bell cX10_bell 2 (some .int) 0 := ⟨⟨_, rfl⟩, by decide +kernel, by decide +kernel, by decide +kernel, by decide +kernel⟩
theorem m_X10_bell_0 : (.fieldLink RX10 47 "CellKeys" "evenings" "LCellKeys$Evenings;" : Cond) ∈ wsX10_bell := by decide +kernel
theorem in_X10_bell_X10 : ∀ w ∈ u_ws RX10 TX10 10, w ∈ wsX10_bell := by decide +kernel
set_option maxHeartbeats 4000000 in
set_option maxRecDepth 100000 in
theorem c_X10_bell (l : Launch) (G : zG) (q : Nat → Nat) (o : Nat) (S : VX10)  (y : Int32 × VX10) (hf : f_X10_bell S = some y) : zMet l yX10_bell wsX10_bell 2 40 G [.ref (q (o + 0))] [bX10 G q o, bX9 G q (o + 1) S.1.1 S.1.2.1 S.1.2.2.1 S.1.2.2.2.1 S.1.2.2.2.2, bX6 G q (o + 3) S.2.1.1 S.2.1.2, bX8 G q (o + 12) S.2.2.1.1 S.2.2.1.2, bX5 G q (o + 19) S.2.2.2.1.2.1 S.2.2.2.1.2.2.1 S.2.2.2.1.2.2.2.1 S.2.2.2.1.2.2.2.2, bX2 G q ((o + 19) + 2) S.2.2.2.1.1.1 S.2.2.2.1.1.2.1 S.2.2.2.1.1.2.2.1 S.2.2.2.1.1.2.2.2.1 S.2.2.2.1.1.2.2.2.2.1 S.2.2.2.1.1.2.2.2.2.2.1 S.2.2.2.1.1.2.2.2.2.2.2.1 S.2.2.2.1.1.2.2.2.2.2.2.2, bX2 G q (o + 27) S.2.2.2.2.1.1 S.2.2.2.2.1.2.1 S.2.2.2.2.1.2.2.1 S.2.2.2.2.1.2.2.2.1 S.2.2.2.2.1.2.2.2.2.1 S.2.2.2.2.1.2.2.2.2.2.1 S.2.2.2.2.1.2.2.2.2.2.2.1 S.2.2.2.2.1.2.2.2.2.2.2.2, bX1 G q (o + 33) S.2.2.2.2.2.1.1 S.2.2.2.2.2.1.2.1 S.2.2.2.2.2.1.2.2.1 S.2.2.2.2.2.1.2.2.2, bX4 G q (o + 36) S.2.2.2.2.2.2.1.1 S.2.2.2.2.2.2.1.2, bX3 G q (o + 38) S.2.2.2.2.2.2.2.1.1 S.2.2.2.2.2.2.2.1.2.1 S.2.2.2.2.2.2.2.1.2.2.1 S.2.2.2.2.2.2.2.1.2.2.2, bX0 G q (o + 43) S.2.2.2.2.2.2.2.2.1.2.2.1 S.2.2.2.2.2.2.2.2.1.2.2.2, bX2 G q ((o + 43) + 3) S.2.2.2.2.2.2.2.2.1.1.1 S.2.2.2.2.2.2.2.2.1.1.2.1 S.2.2.2.2.2.2.2.2.1.1.2.2.1 S.2.2.2.2.2.2.2.2.1.1.2.2.2.1 S.2.2.2.2.2.2.2.2.1.1.2.2.2.2.1 S.2.2.2.2.2.2.2.2.1.1.2.2.2.2.2.1 S.2.2.2.2.2.2.2.2.1.1.2.2.2.2.2.2.1 S.2.2.2.2.2.2.2.2.1.1.2.2.2.2.2.2.2, bX4 G q ((o + 43) + 9) S.2.2.2.2.2.2.2.2.1.2.1.1 S.2.2.2.2.2.2.2.2.1.2.1.2, bX7 G q (o + 54) S.2.2.2.2.2.2.2.2.2.1 S.2.2.2.2.2.2.2.2.2.2.1 S.2.2.2.2.2.2.2.2.2.2.2] (some (.int y.1)) [bX10 G q o, bX9 G q (o + 1) y.2.1.1 y.2.1.2.1 y.2.1.2.2.1 y.2.1.2.2.2.1 y.2.1.2.2.2.2, bX6 G q (o + 3) y.2.2.1.1 y.2.2.1.2, bX8 G q (o + 12) y.2.2.2.1.1 y.2.2.2.1.2, bX5 G q (o + 19) y.2.2.2.2.1.2.1 y.2.2.2.2.1.2.2.1 y.2.2.2.2.1.2.2.2.1 y.2.2.2.2.1.2.2.2.2, bX2 G q ((o + 19) + 2) y.2.2.2.2.1.1.1 y.2.2.2.2.1.1.2.1 y.2.2.2.2.1.1.2.2.1 y.2.2.2.2.1.1.2.2.2.1 y.2.2.2.2.1.1.2.2.2.2.1 y.2.2.2.2.1.1.2.2.2.2.2.1 y.2.2.2.2.1.1.2.2.2.2.2.2.1 y.2.2.2.2.1.1.2.2.2.2.2.2.2, bX2 G q (o + 27) y.2.2.2.2.2.1.1 y.2.2.2.2.2.1.2.1 y.2.2.2.2.2.1.2.2.1 y.2.2.2.2.2.1.2.2.2.1 y.2.2.2.2.2.1.2.2.2.2.1 y.2.2.2.2.2.1.2.2.2.2.2.1 y.2.2.2.2.2.1.2.2.2.2.2.2.1 y.2.2.2.2.2.1.2.2.2.2.2.2.2, bX1 G q (o + 33) y.2.2.2.2.2.2.1.1 y.2.2.2.2.2.2.1.2.1 y.2.2.2.2.2.2.1.2.2.1 y.2.2.2.2.2.2.1.2.2.2, bX4 G q (o + 36) y.2.2.2.2.2.2.2.1.1 y.2.2.2.2.2.2.2.1.2, bX3 G q (o + 38) y.2.2.2.2.2.2.2.2.1.1 y.2.2.2.2.2.2.2.2.1.2.1 y.2.2.2.2.2.2.2.2.1.2.2.1 y.2.2.2.2.2.2.2.2.1.2.2.2, bX0 G q (o + 43) y.2.2.2.2.2.2.2.2.2.1.2.2.1 y.2.2.2.2.2.2.2.2.2.1.2.2.2, bX2 G q ((o + 43) + 3) y.2.2.2.2.2.2.2.2.2.1.1.1 y.2.2.2.2.2.2.2.2.2.1.1.2.1 y.2.2.2.2.2.2.2.2.2.1.1.2.2.1 y.2.2.2.2.2.2.2.2.2.1.1.2.2.2.1 y.2.2.2.2.2.2.2.2.2.1.1.2.2.2.2.1 y.2.2.2.2.2.2.2.2.2.1.1.2.2.2.2.2.1 y.2.2.2.2.2.2.2.2.2.1.1.2.2.2.2.2.2.1 y.2.2.2.2.2.2.2.2.2.1.1.2.2.2.2.2.2.2, bX4 G q ((o + 43) + 9) y.2.2.2.2.2.2.2.2.2.1.2.1.1 y.2.2.2.2.2.2.2.2.2.1.2.1.2, bX7 G q (o + 54) y.2.2.2.2.2.2.2.2.2.2.1 y.2.2.2.2.2.2.2.2.2.2.2.1 y.2.2.2.2.2.2.2.2.2.2.2.2] := by
  refine z_met zc_X10_bell (Nat.le_of_ble_eq_true rfl) ?_
  intro p e s m below meth c A ls hZ hl hw
  have hl : lv_has ls 2 [(0, .ref (q (o + 0)))] := hl
  obtain ⟨hS0, hr, hlk, hK, hA, hT⟩ := id hZ
  have hx := hS0.1
  have hb := hS0.2.1
  have hml := hS0.2.2.1
  have hown : s.vm.findClass RX10 = some m.cls := hS0.2.2.2.1
  have hts := hS0.2.2.2.2
  unfold f_X10_bell at hf
  refine lv_aload_n hx hb dX10_bell_0 rfl (lv_at hl 0 rfl) ?_
  refine z_get hS0 in_X10_bell_X10 hK hw 0 5 rfl rfl rfl (by decide) (hts _ m_X10_bell_0) (v := .ref (q ((o + 33) + 0))) rfl dX10_bell_1 ?_
  obtain ⟨r1, e2, hf⟩ := z_bd hf
  refine z_callV1 (As := []) (rest := []) (bs' := [bX10 G q o, bX9 G q (o + 1) S.1.1 S.1.2.1 S.1.2.2.1 S.1.2.2.2.1 S.1.2.2.2.2, bX6 G q (o + 3) S.2.1.1 S.2.1.2, bX8 G q (o + 12) S.2.2.1.1 S.2.2.1.2, bX5 G q (o + 19) S.2.2.2.1.2.1 S.2.2.2.1.2.2.1 S.2.2.2.1.2.2.2.1 S.2.2.2.1.2.2.2.2, bX2 G q ((o + 19) + 2) S.2.2.2.1.1.1 S.2.2.2.1.1.2.1 S.2.2.2.1.1.2.2.1 S.2.2.2.1.1.2.2.2.1 S.2.2.2.1.1.2.2.2.2.1 S.2.2.2.1.1.2.2.2.2.2.1 S.2.2.2.1.1.2.2.2.2.2.2.1 S.2.2.2.1.1.2.2.2.2.2.2.2, bX2 G q (o + 27) S.2.2.2.2.1.1 S.2.2.2.2.1.2.1 S.2.2.2.2.1.2.2.1 S.2.2.2.2.1.2.2.2.1 S.2.2.2.2.1.2.2.2.2.1 S.2.2.2.2.1.2.2.2.2.2.1 S.2.2.2.2.1.2.2.2.2.2.2.1 S.2.2.2.2.1.2.2.2.2.2.2.2, bX1 G q (o + 33) S.2.2.2.2.2.1.1 S.2.2.2.2.2.1.2.1 S.2.2.2.2.2.1.2.2.1 S.2.2.2.2.2.1.2.2.2, bX4 G q (o + 36) S.2.2.2.2.2.2.1.1 S.2.2.2.2.2.2.1.2, bX3 G q (o + 38) S.2.2.2.2.2.2.2.1.1 S.2.2.2.2.2.2.2.1.2.1 S.2.2.2.2.2.2.2.1.2.2.1 S.2.2.2.2.2.2.2.1.2.2.2, bX0 G q (o + 43) S.2.2.2.2.2.2.2.2.1.2.2.1 S.2.2.2.2.2.2.2.2.1.2.2.2, bX2 G q ((o + 43) + 3) S.2.2.2.2.2.2.2.2.1.1.1 S.2.2.2.2.2.2.2.2.1.1.2.1 S.2.2.2.2.2.2.2.2.1.1.2.2.1 S.2.2.2.2.2.2.2.2.1.1.2.2.2.1 S.2.2.2.2.2.2.2.2.1.1.2.2.2.2.1 S.2.2.2.2.2.2.2.2.1.1.2.2.2.2.2.1 S.2.2.2.2.2.2.2.2.1.1.2.2.2.2.2.2.1 S.2.2.2.2.2.2.2.2.1.1.2.2.2.2.2.2.2, bX4 G q ((o + 43) + 9) S.2.2.2.2.2.2.2.2.1.2.1.1 S.2.2.2.2.2.2.2.2.1.2.1.2, bX7 G q (o + 54) S.2.2.2.2.2.2.2.2.2.1 S.2.2.2.2.2.2.2.2.2.2.1 S.2.2.2.2.2.2.2.2.2.2.2]) hS0 (c_X1_howManyOut l G q (o + 33) S.2.2.2.2.2.1 r1 e2) zc_X1_howManyOut rfl gX10_bell_X1_howManyOut ⟨Nat.le_of_ble_eq_true rfl, Nat.le_of_ble_eq_true rfl⟩ hK hA hT hw (is := [7]) rfl rfl rfl rfl rfl rfl rfl hl.1 rfl (Nat.le_of_ble_eq_true rfl) dX10_bell_4 (fun H locs hw => ?_)
  refine lv_istore_n (lv' := [(1, .int r1), (0, .ref (q (o + 0)))]) hx hb dX10_bell_7 rfl hl (by decide) rfl (fun ls hl => ?_)
  refine lv_aload_n hx hb dX10_bell_8 rfl (lv_at hl 1 rfl) ?_
  refine z_get hS0 in_X10_bell_X10 hK hw 0 5 rfl rfl rfl (by decide) (hts _ m_X10_bell_0) (v := .ref (q ((o + 33) + 0))) rfl dX10_bell_9 ?_
  obtain ⟨r3, e4, hf⟩ := z_bd hf
  refine z_callV0 (As := []) (rest := []) (bs' := [bX10 G q o, bX9 G q (o + 1) S.1.1 S.1.2.1 S.1.2.2.1 S.1.2.2.2.1 S.1.2.2.2.2, bX6 G q (o + 3) S.2.1.1 S.2.1.2, bX8 G q (o + 12) S.2.2.1.1 S.2.2.1.2, bX5 G q (o + 19) S.2.2.2.1.2.1 S.2.2.2.1.2.2.1 S.2.2.2.1.2.2.2.1 S.2.2.2.1.2.2.2.2, bX2 G q ((o + 19) + 2) S.2.2.2.1.1.1 S.2.2.2.1.1.2.1 S.2.2.2.1.1.2.2.1 S.2.2.2.1.1.2.2.2.1 S.2.2.2.1.1.2.2.2.2.1 S.2.2.2.1.1.2.2.2.2.2.1 S.2.2.2.1.1.2.2.2.2.2.2.1 S.2.2.2.1.1.2.2.2.2.2.2.2, bX2 G q (o + 27) S.2.2.2.2.1.1 S.2.2.2.2.1.2.1 S.2.2.2.2.1.2.2.1 S.2.2.2.2.1.2.2.2.1 S.2.2.2.2.1.2.2.2.2.1 S.2.2.2.2.1.2.2.2.2.2.1 S.2.2.2.2.1.2.2.2.2.2.2.1 S.2.2.2.2.1.2.2.2.2.2.2.2, bX1 G q (o + 33) r3.1 r3.2.1 r3.2.2.1 r3.2.2.2, bX4 G q (o + 36) S.2.2.2.2.2.2.1.1 S.2.2.2.2.2.2.1.2, bX3 G q (o + 38) S.2.2.2.2.2.2.2.1.1 S.2.2.2.2.2.2.2.1.2.1 S.2.2.2.2.2.2.2.1.2.2.1 S.2.2.2.2.2.2.2.1.2.2.2, bX0 G q (o + 43) S.2.2.2.2.2.2.2.2.1.2.2.1 S.2.2.2.2.2.2.2.2.1.2.2.2, bX2 G q ((o + 43) + 3) S.2.2.2.2.2.2.2.2.1.1.1 S.2.2.2.2.2.2.2.2.1.1.2.1 S.2.2.2.2.2.2.2.2.1.1.2.2.1 S.2.2.2.2.2.2.2.2.1.1.2.2.2.1 S.2.2.2.2.2.2.2.2.1.1.2.2.2.2.1 S.2.2.2.2.2.2.2.2.1.1.2.2.2.2.2.1 S.2.2.2.2.2.2.2.2.1.1.2.2.2.2.2.2.1 S.2.2.2.2.2.2.2.2.1.1.2.2.2.2.2.2.2, bX4 G q ((o + 43) + 9) S.2.2.2.2.2.2.2.2.1.2.1.1 S.2.2.2.2.2.2.2.2.1.2.1.2, bX7 G q (o + 54) S.2.2.2.2.2.2.2.2.2.1 S.2.2.2.2.2.2.2.2.2.2.1 S.2.2.2.2.2.2.2.2.2.2.2]) hS0 (c_X1_allIn l G q (o + 33) S.2.2.2.2.2.1 r3 e4) zc_X1_allIn rfl gX10_bell_X1_allIn ⟨Nat.le_of_ble_eq_true rfl, Nat.le_of_ble_eq_true rfl⟩ hK hA hT hw (is := [7]) rfl rfl rfl rfl rfl rfl rfl hl.1 rfl (Nat.le_of_ble_eq_true rfl) dX10_bell_12 (fun H locs hw => ?_)
  refine lv_iload_n hx hb dX10_bell_15 rfl (lv_at hl 0 rfl) ?_
  cases hf
  exact z_iret hx hb hr hlk hw dX10_bell_16
theorem zc_X10_can : zC yX10_can wsX10_can cX10_can 2 (some .int) 1 := ⟨⟨_, rfl⟩, by decide +kernel, by decide +kernel, by decide +kernel, by decide +kernel⟩
theorem m_X10_can_0 : (.fieldLink RX10 40 "CellKeys" "jail" "LCellKeys$Jail;" : Cond) ∈ wsX10_can := by decide +kernel
theorem in_X10_can_X10 : ∀ w ∈ u_ws RX10 TX10 10, w ∈ wsX10_can := by decide +kernel
theorem m_X10_can_1 : (.fieldLink RX10 47 "CellKeys" "evenings" "LCellKeys$Evenings;" : Cond) ∈ wsX10_can := by decide +kernel
set_option maxHeartbeats 4000000 in
set_option maxRecDepth 100000 in
theorem c_X10_can (l : Launch) (G : zG) (q : Nat → Nat) (o : Nat) (S : VX10) (v1 : Int32) (y : Int32) (hf : f_X10_can S v1 = some y) : zMet l yX10_can wsX10_can 3 80 G [.ref (q (o + 0)), .int v1] [bX10 G q o, bX9 G q (o + 1) S.1.1 S.1.2.1 S.1.2.2.1 S.1.2.2.2.1 S.1.2.2.2.2, bX6 G q (o + 3) S.2.1.1 S.2.1.2, bX8 G q (o + 12) S.2.2.1.1 S.2.2.1.2, bX5 G q (o + 19) S.2.2.2.1.2.1 S.2.2.2.1.2.2.1 S.2.2.2.1.2.2.2.1 S.2.2.2.1.2.2.2.2, bX2 G q ((o + 19) + 2) S.2.2.2.1.1.1 S.2.2.2.1.1.2.1 S.2.2.2.1.1.2.2.1 S.2.2.2.1.1.2.2.2.1 S.2.2.2.1.1.2.2.2.2.1 S.2.2.2.1.1.2.2.2.2.2.1 S.2.2.2.1.1.2.2.2.2.2.2.1 S.2.2.2.1.1.2.2.2.2.2.2.2, bX2 G q (o + 27) S.2.2.2.2.1.1 S.2.2.2.2.1.2.1 S.2.2.2.2.1.2.2.1 S.2.2.2.2.1.2.2.2.1 S.2.2.2.2.1.2.2.2.2.1 S.2.2.2.2.1.2.2.2.2.2.1 S.2.2.2.2.1.2.2.2.2.2.2.1 S.2.2.2.2.1.2.2.2.2.2.2.2, bX1 G q (o + 33) S.2.2.2.2.2.1.1 S.2.2.2.2.2.1.2.1 S.2.2.2.2.2.1.2.2.1 S.2.2.2.2.2.1.2.2.2, bX4 G q (o + 36) S.2.2.2.2.2.2.1.1 S.2.2.2.2.2.2.1.2, bX3 G q (o + 38) S.2.2.2.2.2.2.2.1.1 S.2.2.2.2.2.2.2.1.2.1 S.2.2.2.2.2.2.2.1.2.2.1 S.2.2.2.2.2.2.2.1.2.2.2, bX0 G q (o + 43) S.2.2.2.2.2.2.2.2.1.2.2.1 S.2.2.2.2.2.2.2.2.1.2.2.2, bX2 G q ((o + 43) + 3) S.2.2.2.2.2.2.2.2.1.1.1 S.2.2.2.2.2.2.2.2.1.1.2.1 S.2.2.2.2.2.2.2.2.1.1.2.2.1 S.2.2.2.2.2.2.2.2.1.1.2.2.2.1 S.2.2.2.2.2.2.2.2.1.1.2.2.2.2.1 S.2.2.2.2.2.2.2.2.1.1.2.2.2.2.2.1 S.2.2.2.2.2.2.2.2.1.1.2.2.2.2.2.2.1 S.2.2.2.2.2.2.2.2.1.1.2.2.2.2.2.2.2, bX4 G q ((o + 43) + 9) S.2.2.2.2.2.2.2.2.1.2.1.1 S.2.2.2.2.2.2.2.2.1.2.1.2, bX7 G q (o + 54) S.2.2.2.2.2.2.2.2.2.1 S.2.2.2.2.2.2.2.2.2.2.1 S.2.2.2.2.2.2.2.2.2.2.2] (some (.int y)) [bX10 G q o, bX9 G q (o + 1) S.1.1 S.1.2.1 S.1.2.2.1 S.1.2.2.2.1 S.1.2.2.2.2, bX6 G q (o + 3) S.2.1.1 S.2.1.2, bX8 G q (o + 12) S.2.2.1.1 S.2.2.1.2, bX5 G q (o + 19) S.2.2.2.1.2.1 S.2.2.2.1.2.2.1 S.2.2.2.1.2.2.2.1 S.2.2.2.1.2.2.2.2, bX2 G q ((o + 19) + 2) S.2.2.2.1.1.1 S.2.2.2.1.1.2.1 S.2.2.2.1.1.2.2.1 S.2.2.2.1.1.2.2.2.1 S.2.2.2.1.1.2.2.2.2.1 S.2.2.2.1.1.2.2.2.2.2.1 S.2.2.2.1.1.2.2.2.2.2.2.1 S.2.2.2.1.1.2.2.2.2.2.2.2, bX2 G q (o + 27) S.2.2.2.2.1.1 S.2.2.2.2.1.2.1 S.2.2.2.2.1.2.2.1 S.2.2.2.2.1.2.2.2.1 S.2.2.2.2.1.2.2.2.2.1 S.2.2.2.2.1.2.2.2.2.2.1 S.2.2.2.2.1.2.2.2.2.2.2.1 S.2.2.2.2.1.2.2.2.2.2.2.2, bX1 G q (o + 33) S.2.2.2.2.2.1.1 S.2.2.2.2.2.1.2.1 S.2.2.2.2.2.1.2.2.1 S.2.2.2.2.2.1.2.2.2, bX4 G q (o + 36) S.2.2.2.2.2.2.1.1 S.2.2.2.2.2.2.1.2, bX3 G q (o + 38) S.2.2.2.2.2.2.2.1.1 S.2.2.2.2.2.2.2.1.2.1 S.2.2.2.2.2.2.2.1.2.2.1 S.2.2.2.2.2.2.2.1.2.2.2, bX0 G q (o + 43) S.2.2.2.2.2.2.2.2.1.2.2.1 S.2.2.2.2.2.2.2.2.1.2.2.2, bX2 G q ((o + 43) + 3) S.2.2.2.2.2.2.2.2.1.1.1 S.2.2.2.2.2.2.2.2.1.1.2.1 S.2.2.2.2.2.2.2.2.1.1.2.2.1 S.2.2.2.2.2.2.2.2.1.1.2.2.2.1 S.2.2.2.2.2.2.2.2.1.1.2.2.2.2.1 S.2.2.2.2.2.2.2.2.1.1.2.2.2.2.2.1 S.2.2.2.2.2.2.2.2.1.1.2.2.2.2.2.2.1 S.2.2.2.2.2.2.2.2.1.1.2.2.2.2.2.2.2, bX4 G q ((o + 43) + 9) S.2.2.2.2.2.2.2.2.1.2.1.1 S.2.2.2.2.2.2.2.2.1.2.1.2, bX7 G q (o + 54) S.2.2.2.2.2.2.2.2.2.1 S.2.2.2.2.2.2.2.2.2.2.1 S.2.2.2.2.2.2.2.2.2.2.2] := by
  refine z_met zc_X10_can (Nat.le_of_ble_eq_true rfl) ?_
  intro p e s m below meth c A ls hZ hl hw
  have hl : lv_has ls 2 [(0, .ref (q (o + 0))), (1, .int v1)] := hl
  obtain ⟨hS0, hr, hlk, hK, hA, hT⟩ := id hZ
  have hx := hS0.1
  have hb := hS0.2.1
  have hml := hS0.2.2.1
  have hown : s.vm.findClass RX10 = some m.cls := hS0.2.2.2.1
  have hts := hS0.2.2.2.2
  unfold f_X10_can at hf
  refine lv_aload_n hx hb dX10_can_0 rfl (lv_at hl 0 rfl) ?_
  refine z_get hS0 in_X10_can_X10 hK hw 0 4 rfl rfl rfl (by decide) (hts _ m_X10_can_0) (v := .ref (q ((o + 27) + 0))) rfl dX10_can_1 ?_
  refine lv_iload_n hx hb dX10_can_4 rfl (lv_at hl 1 rfl) ?_
  obtain ⟨r1, e2, hf⟩ := z_bd hf
  refine z_callV1 (As := [.int v1]) (rest := []) (bs' := [bX10 G q o, bX9 G q (o + 1) S.1.1 S.1.2.1 S.1.2.2.1 S.1.2.2.2.1 S.1.2.2.2.2, bX6 G q (o + 3) S.2.1.1 S.2.1.2, bX8 G q (o + 12) S.2.2.1.1 S.2.2.1.2, bX5 G q (o + 19) S.2.2.2.1.2.1 S.2.2.2.1.2.2.1 S.2.2.2.1.2.2.2.1 S.2.2.2.1.2.2.2.2, bX2 G q ((o + 19) + 2) S.2.2.2.1.1.1 S.2.2.2.1.1.2.1 S.2.2.2.1.1.2.2.1 S.2.2.2.1.1.2.2.2.1 S.2.2.2.1.1.2.2.2.2.1 S.2.2.2.1.1.2.2.2.2.2.1 S.2.2.2.1.1.2.2.2.2.2.2.1 S.2.2.2.1.1.2.2.2.2.2.2.2, bX2 G q (o + 27) S.2.2.2.2.1.1 S.2.2.2.2.1.2.1 S.2.2.2.2.1.2.2.1 S.2.2.2.2.1.2.2.2.1 S.2.2.2.2.1.2.2.2.2.1 S.2.2.2.2.1.2.2.2.2.2.1 S.2.2.2.2.1.2.2.2.2.2.2.1 S.2.2.2.2.1.2.2.2.2.2.2.2, bX1 G q (o + 33) S.2.2.2.2.2.1.1 S.2.2.2.2.2.1.2.1 S.2.2.2.2.2.1.2.2.1 S.2.2.2.2.2.1.2.2.2, bX4 G q (o + 36) S.2.2.2.2.2.2.1.1 S.2.2.2.2.2.2.1.2, bX3 G q (o + 38) S.2.2.2.2.2.2.2.1.1 S.2.2.2.2.2.2.2.1.2.1 S.2.2.2.2.2.2.2.1.2.2.1 S.2.2.2.2.2.2.2.1.2.2.2, bX0 G q (o + 43) S.2.2.2.2.2.2.2.2.1.2.2.1 S.2.2.2.2.2.2.2.2.1.2.2.2, bX2 G q ((o + 43) + 3) S.2.2.2.2.2.2.2.2.1.1.1 S.2.2.2.2.2.2.2.2.1.1.2.1 S.2.2.2.2.2.2.2.2.1.1.2.2.1 S.2.2.2.2.2.2.2.2.1.1.2.2.2.1 S.2.2.2.2.2.2.2.2.1.1.2.2.2.2.1 S.2.2.2.2.2.2.2.2.1.1.2.2.2.2.2.1 S.2.2.2.2.2.2.2.2.1.1.2.2.2.2.2.2.1 S.2.2.2.2.2.2.2.2.1.1.2.2.2.2.2.2.2, bX4 G q ((o + 43) + 9) S.2.2.2.2.2.2.2.2.1.2.1.1 S.2.2.2.2.2.2.2.2.1.2.1.2, bX7 G q (o + 54) S.2.2.2.2.2.2.2.2.2.1 S.2.2.2.2.2.2.2.2.2.2.1 S.2.2.2.2.2.2.2.2.2.2.2]) hS0 (c_X2_isCell l G q (o + 27) S.2.2.2.2.1 v1 r1 e2) zc_X2_isCell rfl gX10_can_X2_isCell ⟨Nat.le_of_ble_eq_true rfl, Nat.le_of_ble_eq_true rfl⟩ hK hA hT hw (is := [6]) rfl rfl rfl rfl rfl rfl rfl hl.1 rfl (Nat.le_of_ble_eq_true rfl) dX10_can_5 (fun H locs hw => ?_)
  refine lv_if_ne (tgt := 13) hx hb dX10_can_8 rfl (fun hc => ?_) (fun hc => ?_)
  · have hf := z_f hc hf
    refine lv_aload_n hx hb dX10_can_13 rfl (lv_at hl 0 rfl) ?_
    refine z_get hS0 in_X10_can_X10 hK hw 0 5 rfl rfl rfl (by decide) (hts _ m_X10_can_1) (v := .ref (q ((o + 33) + 0))) rfl dX10_can_14 ?_
    refine lv_iload_n hx hb dX10_can_17 rfl (lv_at hl 1 rfl) ?_
    obtain ⟨r3, e4, hf⟩ := z_bd hf
    refine z_callV1 (As := [.int v1]) (rest := []) (bs' := [bX10 G q o, bX9 G q (o + 1) S.1.1 S.1.2.1 S.1.2.2.1 S.1.2.2.2.1 S.1.2.2.2.2, bX6 G q (o + 3) S.2.1.1 S.2.1.2, bX8 G q (o + 12) S.2.2.1.1 S.2.2.1.2, bX5 G q (o + 19) S.2.2.2.1.2.1 S.2.2.2.1.2.2.1 S.2.2.2.1.2.2.2.1 S.2.2.2.1.2.2.2.2, bX2 G q ((o + 19) + 2) S.2.2.2.1.1.1 S.2.2.2.1.1.2.1 S.2.2.2.1.1.2.2.1 S.2.2.2.1.1.2.2.2.1 S.2.2.2.1.1.2.2.2.2.1 S.2.2.2.1.1.2.2.2.2.2.1 S.2.2.2.1.1.2.2.2.2.2.2.1 S.2.2.2.1.1.2.2.2.2.2.2.2, bX2 G q (o + 27) S.2.2.2.2.1.1 S.2.2.2.2.1.2.1 S.2.2.2.2.1.2.2.1 S.2.2.2.2.1.2.2.2.1 S.2.2.2.2.1.2.2.2.2.1 S.2.2.2.2.1.2.2.2.2.2.1 S.2.2.2.2.1.2.2.2.2.2.2.1 S.2.2.2.2.1.2.2.2.2.2.2.2, bX1 G q (o + 33) S.2.2.2.2.2.1.1 S.2.2.2.2.2.1.2.1 S.2.2.2.2.2.1.2.2.1 S.2.2.2.2.2.1.2.2.2, bX4 G q (o + 36) S.2.2.2.2.2.2.1.1 S.2.2.2.2.2.2.1.2, bX3 G q (o + 38) S.2.2.2.2.2.2.2.1.1 S.2.2.2.2.2.2.2.1.2.1 S.2.2.2.2.2.2.2.1.2.2.1 S.2.2.2.2.2.2.2.1.2.2.2, bX0 G q (o + 43) S.2.2.2.2.2.2.2.2.1.2.2.1 S.2.2.2.2.2.2.2.2.1.2.2.2, bX2 G q ((o + 43) + 3) S.2.2.2.2.2.2.2.2.1.1.1 S.2.2.2.2.2.2.2.2.1.1.2.1 S.2.2.2.2.2.2.2.2.1.1.2.2.1 S.2.2.2.2.2.2.2.2.1.1.2.2.2.1 S.2.2.2.2.2.2.2.2.1.1.2.2.2.2.1 S.2.2.2.2.2.2.2.2.1.1.2.2.2.2.2.1 S.2.2.2.2.2.2.2.2.1.1.2.2.2.2.2.2.1 S.2.2.2.2.2.2.2.2.1.1.2.2.2.2.2.2.2, bX4 G q ((o + 43) + 9) S.2.2.2.2.2.2.2.2.1.2.1.1 S.2.2.2.2.2.2.2.2.1.2.1.2, bX7 G q (o + 54) S.2.2.2.2.2.2.2.2.2.1 S.2.2.2.2.2.2.2.2.2.2.1 S.2.2.2.2.2.2.2.2.2.2.2]) hS0 (c_X1_hasOut l G q (o + 33) S.2.2.2.2.2.1 v1 r3 e4) zc_X1_hasOut rfl gX10_can_X1_hasOut ⟨Nat.le_of_ble_eq_true rfl, Nat.le_of_ble_eq_true rfl⟩ hK hA hT hw (is := [7]) rfl rfl rfl rfl rfl rfl rfl hl.1 rfl (Nat.le_of_ble_eq_true rfl) dX10_can_18 (fun H locs hw => ?_)
    refine lv_if_eq (tgt := 27) hx hb dX10_can_21 rfl (fun hc => ?_) (fun hc => ?_)
    · have hf := z_t hc hf
      refine lv_aload_n hx hb dX10_can_27 rfl (lv_at hl 0 rfl) ?_
      refine z_get hS0 in_X10_can_X10 hK hw 0 4 rfl rfl rfl (by decide) (hts _ m_X10_can_0) (v := .ref (q ((o + 27) + 0))) rfl dX10_can_28 ?_
      refine lv_iload_n hx hb dX10_can_31 rfl (lv_at hl 1 rfl) ?_
      refine lv_aload_n hx hb dX10_can_32 rfl (lv_at hl 0 rfl) ?_
      refine z_get hS0 in_X10_can_X10 hK hw 0 5 rfl rfl rfl (by decide) (hts _ m_X10_can_1) (v := .ref (q ((o + 33) + 0))) rfl dX10_can_33 ?_
      obtain ⟨r5, e6, hf⟩ := z_bd hf
      refine z_callV1 (As := []) (rest := [.int v1, .ref (q ((o + 27) + 0))]) (bs' := [bX10 G q o, bX9 G q (o + 1) S.1.1 S.1.2.1 S.1.2.2.1 S.1.2.2.2.1 S.1.2.2.2.2, bX6 G q (o + 3) S.2.1.1 S.2.1.2, bX8 G q (o + 12) S.2.2.1.1 S.2.2.1.2, bX5 G q (o + 19) S.2.2.2.1.2.1 S.2.2.2.1.2.2.1 S.2.2.2.1.2.2.2.1 S.2.2.2.1.2.2.2.2, bX2 G q ((o + 19) + 2) S.2.2.2.1.1.1 S.2.2.2.1.1.2.1 S.2.2.2.1.1.2.2.1 S.2.2.2.1.1.2.2.2.1 S.2.2.2.1.1.2.2.2.2.1 S.2.2.2.1.1.2.2.2.2.2.1 S.2.2.2.1.1.2.2.2.2.2.2.1 S.2.2.2.1.1.2.2.2.2.2.2.2, bX2 G q (o + 27) S.2.2.2.2.1.1 S.2.2.2.2.1.2.1 S.2.2.2.2.1.2.2.1 S.2.2.2.2.1.2.2.2.1 S.2.2.2.2.1.2.2.2.2.1 S.2.2.2.2.1.2.2.2.2.2.1 S.2.2.2.2.1.2.2.2.2.2.2.1 S.2.2.2.2.1.2.2.2.2.2.2.2, bX1 G q (o + 33) S.2.2.2.2.2.1.1 S.2.2.2.2.2.1.2.1 S.2.2.2.2.2.1.2.2.1 S.2.2.2.2.2.1.2.2.2, bX4 G q (o + 36) S.2.2.2.2.2.2.1.1 S.2.2.2.2.2.2.1.2, bX3 G q (o + 38) S.2.2.2.2.2.2.2.1.1 S.2.2.2.2.2.2.2.1.2.1 S.2.2.2.2.2.2.2.1.2.2.1 S.2.2.2.2.2.2.2.1.2.2.2, bX0 G q (o + 43) S.2.2.2.2.2.2.2.2.1.2.2.1 S.2.2.2.2.2.2.2.2.1.2.2.2, bX2 G q ((o + 43) + 3) S.2.2.2.2.2.2.2.2.1.1.1 S.2.2.2.2.2.2.2.2.1.1.2.1 S.2.2.2.2.2.2.2.2.1.1.2.2.1 S.2.2.2.2.2.2.2.2.1.1.2.2.2.1 S.2.2.2.2.2.2.2.2.1.1.2.2.2.2.1 S.2.2.2.2.2.2.2.2.1.1.2.2.2.2.2.1 S.2.2.2.2.2.2.2.2.1.1.2.2.2.2.2.2.1 S.2.2.2.2.2.2.2.2.1.1.2.2.2.2.2.2.2, bX4 G q ((o + 43) + 9) S.2.2.2.2.2.2.2.2.1.2.1.1 S.2.2.2.2.2.2.2.2.1.2.1.2, bX7 G q (o + 54) S.2.2.2.2.2.2.2.2.2.1 S.2.2.2.2.2.2.2.2.2.2.1 S.2.2.2.2.2.2.2.2.2.2.2]) hS0 (c_X1_whoIsOut l G q (o + 33) S.2.2.2.2.2.1 r5 e6) zc_X1_whoIsOut rfl gX10_can_X1_whoIsOut ⟨Nat.le_of_ble_eq_true rfl, Nat.le_of_ble_eq_true rfl⟩ hK hA hT hw (is := [7]) rfl rfl rfl rfl rfl rfl rfl hl.1 rfl (Nat.le_of_ble_eq_true rfl) dX10_can_36 (fun H locs hw => ?_)
      refine lv_aload_n hx hb dX10_can_39 rfl (lv_at hl 0 rfl) ?_
      refine z_get hS0 in_X10_can_X10 hK hw 0 4 rfl rfl rfl (by decide) (hts _ m_X10_can_0) (v := .ref (q ((o + 27) + 0))) rfl dX10_can_40 ?_
      obtain ⟨r7, e8, hf⟩ := z_bd hf
      refine z_callV1 (As := []) (rest := [.int r5, .int v1, .ref (q ((o + 27) + 0))]) (bs' := [bX10 G q o, bX9 G q (o + 1) S.1.1 S.1.2.1 S.1.2.2.1 S.1.2.2.2.1 S.1.2.2.2.2, bX6 G q (o + 3) S.2.1.1 S.2.1.2, bX8 G q (o + 12) S.2.2.1.1 S.2.2.1.2, bX5 G q (o + 19) S.2.2.2.1.2.1 S.2.2.2.1.2.2.1 S.2.2.2.1.2.2.2.1 S.2.2.2.1.2.2.2.2, bX2 G q ((o + 19) + 2) S.2.2.2.1.1.1 S.2.2.2.1.1.2.1 S.2.2.2.1.1.2.2.1 S.2.2.2.1.1.2.2.2.1 S.2.2.2.1.1.2.2.2.2.1 S.2.2.2.1.1.2.2.2.2.2.1 S.2.2.2.1.1.2.2.2.2.2.2.1 S.2.2.2.1.1.2.2.2.2.2.2.2, bX2 G q (o + 27) S.2.2.2.2.1.1 S.2.2.2.2.1.2.1 S.2.2.2.2.1.2.2.1 S.2.2.2.2.1.2.2.2.1 S.2.2.2.2.1.2.2.2.2.1 S.2.2.2.2.1.2.2.2.2.2.1 S.2.2.2.2.1.2.2.2.2.2.2.1 S.2.2.2.2.1.2.2.2.2.2.2.2, bX1 G q (o + 33) S.2.2.2.2.2.1.1 S.2.2.2.2.2.1.2.1 S.2.2.2.2.2.1.2.2.1 S.2.2.2.2.2.1.2.2.2, bX4 G q (o + 36) S.2.2.2.2.2.2.1.1 S.2.2.2.2.2.2.1.2, bX3 G q (o + 38) S.2.2.2.2.2.2.2.1.1 S.2.2.2.2.2.2.2.1.2.1 S.2.2.2.2.2.2.2.1.2.2.1 S.2.2.2.2.2.2.2.1.2.2.2, bX0 G q (o + 43) S.2.2.2.2.2.2.2.2.1.2.2.1 S.2.2.2.2.2.2.2.2.1.2.2.2, bX2 G q ((o + 43) + 3) S.2.2.2.2.2.2.2.2.1.1.1 S.2.2.2.2.2.2.2.2.1.1.2.1 S.2.2.2.2.2.2.2.2.1.1.2.2.1 S.2.2.2.2.2.2.2.2.1.1.2.2.2.1 S.2.2.2.2.2.2.2.2.1.1.2.2.2.2.1 S.2.2.2.2.2.2.2.2.1.1.2.2.2.2.2.1 S.2.2.2.2.2.2.2.2.1.1.2.2.2.2.2.2.1 S.2.2.2.2.2.2.2.2.1.1.2.2.2.2.2.2.2, bX4 G q ((o + 43) + 9) S.2.2.2.2.2.2.2.2.1.2.1.1 S.2.2.2.2.2.2.2.2.1.2.1.2, bX7 G q (o + 54) S.2.2.2.2.2.2.2.2.2.1 S.2.2.2.2.2.2.2.2.2.2.1 S.2.2.2.2.2.2.2.2.2.2.2]) hS0 (c_X2_everyone l G q (o + 27) S.2.2.2.2.1 r7 e8) zc_X2_everyone rfl gX10_can_X2_everyone ⟨Nat.le_of_ble_eq_true rfl, Nat.le_of_ble_eq_true rfl⟩ hK hA hT hw (is := [6]) rfl rfl rfl rfl rfl rfl rfl hl.1 rfl (Nat.le_of_ble_eq_true rfl) dX10_can_43 (fun H locs hw => ?_)
      obtain ⟨r9, e10, hf⟩ := z_bd hf
      refine z_callV1 (As := [.int v1, .int r5, .int r7]) (rest := []) (bs' := [bX10 G q o, bX9 G q (o + 1) S.1.1 S.1.2.1 S.1.2.2.1 S.1.2.2.2.1 S.1.2.2.2.2, bX6 G q (o + 3) S.2.1.1 S.2.1.2, bX8 G q (o + 12) S.2.2.1.1 S.2.2.1.2, bX5 G q (o + 19) S.2.2.2.1.2.1 S.2.2.2.1.2.2.1 S.2.2.2.1.2.2.2.1 S.2.2.2.1.2.2.2.2, bX2 G q ((o + 19) + 2) S.2.2.2.1.1.1 S.2.2.2.1.1.2.1 S.2.2.2.1.1.2.2.1 S.2.2.2.1.1.2.2.2.1 S.2.2.2.1.1.2.2.2.2.1 S.2.2.2.1.1.2.2.2.2.2.1 S.2.2.2.1.1.2.2.2.2.2.2.1 S.2.2.2.1.1.2.2.2.2.2.2.2, bX2 G q (o + 27) S.2.2.2.2.1.1 S.2.2.2.2.1.2.1 S.2.2.2.2.1.2.2.1 S.2.2.2.2.1.2.2.2.1 S.2.2.2.2.1.2.2.2.2.1 S.2.2.2.2.1.2.2.2.2.2.1 S.2.2.2.2.1.2.2.2.2.2.2.1 S.2.2.2.2.1.2.2.2.2.2.2.2, bX1 G q (o + 33) S.2.2.2.2.2.1.1 S.2.2.2.2.2.1.2.1 S.2.2.2.2.2.1.2.2.1 S.2.2.2.2.2.1.2.2.2, bX4 G q (o + 36) S.2.2.2.2.2.2.1.1 S.2.2.2.2.2.2.1.2, bX3 G q (o + 38) S.2.2.2.2.2.2.2.1.1 S.2.2.2.2.2.2.2.1.2.1 S.2.2.2.2.2.2.2.1.2.2.1 S.2.2.2.2.2.2.2.1.2.2.2, bX0 G q (o + 43) S.2.2.2.2.2.2.2.2.1.2.2.1 S.2.2.2.2.2.2.2.2.1.2.2.2, bX2 G q ((o + 43) + 3) S.2.2.2.2.2.2.2.2.1.1.1 S.2.2.2.2.2.2.2.2.1.1.2.1 S.2.2.2.2.2.2.2.2.1.1.2.2.1 S.2.2.2.2.2.2.2.2.1.1.2.2.2.1 S.2.2.2.2.2.2.2.2.1.1.2.2.2.2.1 S.2.2.2.2.2.2.2.2.1.1.2.2.2.2.2.1 S.2.2.2.2.2.2.2.2.1.1.2.2.2.2.2.2.1 S.2.2.2.2.2.2.2.2.1.1.2.2.2.2.2.2.2, bX4 G q ((o + 43) + 9) S.2.2.2.2.2.2.2.2.1.2.1.1 S.2.2.2.2.2.2.2.2.1.2.1.2, bX7 G q (o + 54) S.2.2.2.2.2.2.2.2.2.1 S.2.2.2.2.2.2.2.2.2.2.1 S.2.2.2.2.2.2.2.2.2.2.2]) hS0 (c_X2_favoursFor l G q (o + 27) S.2.2.2.2.1 v1 r5 r7 r9 e10) zc_X2_favoursFor rfl gX10_can_X2_favoursFor ⟨Nat.le_of_ble_eq_true rfl, Nat.le_of_ble_eq_true rfl⟩ hK hA hT hw (is := [6]) rfl rfl rfl rfl rfl rfl rfl hl.1 rfl (Nat.le_of_ble_eq_true rfl) dX10_can_46 (fun H locs hw => ?_)
      cases hf
      exact z_iret hx hb hr hlk hw dX10_can_49
    · have hf := z_f hc hf
      refine lv_bipush (v := (-4)) hx hb dX10_can_24 rfl ?_
      cases hf
      exact z_iret hx hb hr hlk hw dX10_can_26
  · have hf := z_t hc hf
    refine lv_iconst (v := (-1)) hx hb dX10_can_11 rfl ?_
    cases hf
    exact z_iret hx hb hr hlk hw dX10_can_12
theorem zc_X10_copy : zC yX10_copy wsX10_copy cX10_copy 6 (some .int) 5 := ⟨⟨_, rfl⟩, by decide +kernel, by decide +kernel, by decide +kernel, by decide +kernel⟩
theorem m_X10_copy_0 : (.fieldLink RX10 10 "CellKeys" "told" "LCellKeys$Told;" : Cond) ∈ wsX10_copy := by decide +kernel
theorem in_X10_copy_X10 : ∀ w ∈ u_ws RX10 TX10 10, w ∈ wsX10_copy := by decide +kernel
theorem m_X10_copy_1 : (.fieldLink RX10 19 "CellKeys" "rows" "LCellKeys$Rows;" : Cond) ∈ wsX10_copy := by decide +kernel
set_option maxHeartbeats 4000000 in
set_option maxRecDepth 100000 in
theorem k_X10_copy_60 {p : Program} {l : Launch} {e : Env} {s : State} {m : MethodId} {args : Array Value} {below : List Frame} {meth : Method} {c : Code} {A : Nat → Prop} {G : zG} {q : Nat → Nat} {o : Nat}  (hZ : zZ p s m args meth c A G cX10_copy 6 RX10 wsX10_copy (some .int)) (y : Int32 × VX10)  : ∀ (S : VX10)  (H : Heap) (locs : List Loc) (ls : Array Slot), f_X10_copy_60 S = some y → zH G A s.heap [bX10 G q o, bX9 G q (o + 1) S.1.1 S.1.2.1 S.1.2.2.1 S.1.2.2.2.1 S.1.2.2.2.2, bX6 G q (o + 3) S.2.1.1 S.2.1.2, bX8 G q (o + 12) S.2.2.1.1 S.2.2.1.2, bX5 G q (o + 19) S.2.2.2.1.2.1 S.2.2.2.1.2.2.1 S.2.2.2.1.2.2.2.1 S.2.2.2.1.2.2.2.2, bX2 G q ((o + 19) + 2) S.2.2.2.1.1.1 S.2.2.2.1.1.2.1 S.2.2.2.1.1.2.2.1 S.2.2.2.1.1.2.2.2.1 S.2.2.2.1.1.2.2.2.2.1 S.2.2.2.1.1.2.2.2.2.2.1 S.2.2.2.1.1.2.2.2.2.2.2.1 S.2.2.2.1.1.2.2.2.2.2.2.2, bX2 G q (o + 27) S.2.2.2.2.1.1 S.2.2.2.2.1.2.1 S.2.2.2.2.1.2.2.1 S.2.2.2.2.1.2.2.2.1 S.2.2.2.2.1.2.2.2.2.1 S.2.2.2.2.1.2.2.2.2.2.1 S.2.2.2.2.1.2.2.2.2.2.2.1 S.2.2.2.2.1.2.2.2.2.2.2.2, bX1 G q (o + 33) S.2.2.2.2.2.1.1 S.2.2.2.2.2.1.2.1 S.2.2.2.2.2.1.2.2.1 S.2.2.2.2.2.1.2.2.2, bX4 G q (o + 36) S.2.2.2.2.2.2.1.1 S.2.2.2.2.2.2.1.2, bX3 G q (o + 38) S.2.2.2.2.2.2.2.1.1 S.2.2.2.2.2.2.2.1.2.1 S.2.2.2.2.2.2.2.1.2.2.1 S.2.2.2.2.2.2.2.1.2.2.2, bX0 G q (o + 43) S.2.2.2.2.2.2.2.2.1.2.2.1 S.2.2.2.2.2.2.2.2.1.2.2.2, bX2 G q ((o + 43) + 3) S.2.2.2.2.2.2.2.2.1.1.1 S.2.2.2.2.2.2.2.2.1.1.2.1 S.2.2.2.2.2.2.2.2.1.1.2.2.1 S.2.2.2.2.2.2.2.2.1.1.2.2.2.1 S.2.2.2.2.2.2.2.2.1.1.2.2.2.2.1 S.2.2.2.2.2.2.2.2.1.1.2.2.2.2.2.1 S.2.2.2.2.2.2.2.2.1.1.2.2.2.2.2.2.1 S.2.2.2.2.2.2.2.2.1.1.2.2.2.2.2.2.2, bX4 G q ((o + 43) + 9) S.2.2.2.2.2.2.2.2.1.2.1.1 S.2.2.2.2.2.2.2.2.1.2.1.2, bX7 G q (o + 54) S.2.2.2.2.2.2.2.2.2.1 S.2.2.2.2.2.2.2.2.2.2.1 S.2.2.2.2.2.2.2.2.2.2.2] H locs → lv_has ls 6 [(0, .ref (q (o + 0)))] → W p l e { frames := 4, cells := 0, slots := 0, locals := 91 } s m args below meth c H locs 0 0 (MQ below (zQ (some (.int y.1)) (zPost G [bX10 G q o, bX9 G q (o + 1) y.2.1.1 y.2.1.2.1 y.2.1.2.2.1 y.2.1.2.2.2.1 y.2.1.2.2.2.2, bX6 G q (o + 3) y.2.2.1.1 y.2.2.1.2, bX8 G q (o + 12) y.2.2.2.1.1 y.2.2.2.1.2, bX5 G q (o + 19) y.2.2.2.2.1.2.1 y.2.2.2.2.1.2.2.1 y.2.2.2.2.1.2.2.2.1 y.2.2.2.2.1.2.2.2.2, bX2 G q ((o + 19) + 2) y.2.2.2.2.1.1.1 y.2.2.2.2.1.1.2.1 y.2.2.2.2.1.1.2.2.1 y.2.2.2.2.1.1.2.2.2.1 y.2.2.2.2.1.1.2.2.2.2.1 y.2.2.2.2.1.1.2.2.2.2.2.1 y.2.2.2.2.1.1.2.2.2.2.2.2.1 y.2.2.2.2.1.1.2.2.2.2.2.2.2, bX2 G q (o + 27) y.2.2.2.2.2.1.1 y.2.2.2.2.2.1.2.1 y.2.2.2.2.2.1.2.2.1 y.2.2.2.2.2.1.2.2.2.1 y.2.2.2.2.2.1.2.2.2.2.1 y.2.2.2.2.2.1.2.2.2.2.2.1 y.2.2.2.2.2.1.2.2.2.2.2.2.1 y.2.2.2.2.2.1.2.2.2.2.2.2.2, bX1 G q (o + 33) y.2.2.2.2.2.2.1.1 y.2.2.2.2.2.2.1.2.1 y.2.2.2.2.2.2.1.2.2.1 y.2.2.2.2.2.2.1.2.2.2, bX4 G q (o + 36) y.2.2.2.2.2.2.2.1.1 y.2.2.2.2.2.2.2.1.2, bX3 G q (o + 38) y.2.2.2.2.2.2.2.2.1.1 y.2.2.2.2.2.2.2.2.1.2.1 y.2.2.2.2.2.2.2.2.1.2.2.1 y.2.2.2.2.2.2.2.2.1.2.2.2, bX0 G q (o + 43) y.2.2.2.2.2.2.2.2.2.1.2.2.1 y.2.2.2.2.2.2.2.2.2.1.2.2.2, bX2 G q ((o + 43) + 3) y.2.2.2.2.2.2.2.2.2.1.1.1 y.2.2.2.2.2.2.2.2.2.1.1.2.1 y.2.2.2.2.2.2.2.2.2.1.1.2.2.1 y.2.2.2.2.2.2.2.2.2.1.1.2.2.2.1 y.2.2.2.2.2.2.2.2.2.1.1.2.2.2.2.1 y.2.2.2.2.2.2.2.2.2.1.1.2.2.2.2.2.1 y.2.2.2.2.2.2.2.2.2.1.1.2.2.2.2.2.2.1 y.2.2.2.2.2.2.2.2.2.1.1.2.2.2.2.2.2.2, bX4 G q ((o + 43) + 9) y.2.2.2.2.2.2.2.2.2.1.2.1.1 y.2.2.2.2.2.2.2.2.2.1.2.1.2, bX7 G q (o + 54) y.2.2.2.2.2.2.2.2.2.2.1 y.2.2.2.2.2.2.2.2.2.2.2.1 y.2.2.2.2.2.2.2.2.2.2.2.2]) A) args s 0 0 A) (F0 m 60 ls []) := by
  obtain ⟨hS0, hr, hlk, hK, hA, hT⟩ := id hZ
  have hx := hS0.1
  have hb := hS0.2.1
  have hml := hS0.2.2.1
  have hown : s.vm.findClass RX10 = some m.cls := hS0.2.2.2.1
  have hts := hS0.2.2.2.2
  intro S H locs ls hf hw hl
  unfold f_X10_copy_60 at hf
  refine lv_aload_n hx hb dX10_copy_60 rfl (lv_at hl 0 rfl) ?_
  refine z_get hS0 in_X10_copy_X10 hK hw 0 0 rfl rfl rfl (by decide) (hts _ m_X10_copy_0) (v := .ref (q ((o + 1) + 0))) rfl dX10_copy_61 ?_
  refine lv_iconst (v := 1) hx hb dX10_copy_64 rfl ?_
  obtain ⟨r1, e2, hf⟩ := z_bd hf
  refine z_callV1 (As := [.int 1]) (rest := []) (bs' := [bX10 G q o, bX9 G q (o + 1) r1.2.1 r1.2.2.1 r1.2.2.2.1 r1.2.2.2.2.1 r1.2.2.2.2.2, bX6 G q (o + 3) S.2.1.1 S.2.1.2, bX8 G q (o + 12) S.2.2.1.1 S.2.2.1.2, bX5 G q (o + 19) S.2.2.2.1.2.1 S.2.2.2.1.2.2.1 S.2.2.2.1.2.2.2.1 S.2.2.2.1.2.2.2.2, bX2 G q ((o + 19) + 2) S.2.2.2.1.1.1 S.2.2.2.1.1.2.1 S.2.2.2.1.1.2.2.1 S.2.2.2.1.1.2.2.2.1 S.2.2.2.1.1.2.2.2.2.1 S.2.2.2.1.1.2.2.2.2.2.1 S.2.2.2.1.1.2.2.2.2.2.2.1 S.2.2.2.1.1.2.2.2.2.2.2.2, bX2 G q (o + 27) S.2.2.2.2.1.1 S.2.2.2.2.1.2.1 S.2.2.2.2.1.2.2.1 S.2.2.2.2.1.2.2.2.1 S.2.2.2.2.1.2.2.2.2.1 S.2.2.2.2.1.2.2.2.2.2.1 S.2.2.2.2.1.2.2.2.2.2.2.1 S.2.2.2.2.1.2.2.2.2.2.2.2, bX1 G q (o + 33) S.2.2.2.2.2.1.1 S.2.2.2.2.2.1.2.1 S.2.2.2.2.2.1.2.2.1 S.2.2.2.2.2.1.2.2.2, bX4 G q (o + 36) S.2.2.2.2.2.2.1.1 S.2.2.2.2.2.2.1.2, bX3 G q (o + 38) S.2.2.2.2.2.2.2.1.1 S.2.2.2.2.2.2.2.1.2.1 S.2.2.2.2.2.2.2.1.2.2.1 S.2.2.2.2.2.2.2.1.2.2.2, bX0 G q (o + 43) S.2.2.2.2.2.2.2.2.1.2.2.1 S.2.2.2.2.2.2.2.2.1.2.2.2, bX2 G q ((o + 43) + 3) S.2.2.2.2.2.2.2.2.1.1.1 S.2.2.2.2.2.2.2.2.1.1.2.1 S.2.2.2.2.2.2.2.2.1.1.2.2.1 S.2.2.2.2.2.2.2.2.1.1.2.2.2.1 S.2.2.2.2.2.2.2.2.1.1.2.2.2.2.1 S.2.2.2.2.2.2.2.2.1.1.2.2.2.2.2.1 S.2.2.2.2.2.2.2.2.1.1.2.2.2.2.2.2.1 S.2.2.2.2.2.2.2.2.1.1.2.2.2.2.2.2.2, bX4 G q ((o + 43) + 9) S.2.2.2.2.2.2.2.2.1.2.1.1 S.2.2.2.2.2.2.2.2.1.2.1.2, bX7 G q (o + 54) S.2.2.2.2.2.2.2.2.2.1 S.2.2.2.2.2.2.2.2.2.2.1 S.2.2.2.2.2.2.2.2.2.2.2]) hS0 (c_X9_found l G q (o + 1) S.1 1 r1 e2) zc_X9_found rfl gX10_copy_X9_found ⟨Nat.le_of_ble_eq_true rfl, Nat.le_of_ble_eq_true rfl⟩ hK hA hT hw (is := [1]) rfl rfl rfl rfl rfl rfl rfl hl.1 rfl (Nat.le_of_ble_eq_true rfl) dX10_copy_65 (fun H locs hw => ?_)
  cases hf
  exact z_iret hx hb hr hlk hw dX10_copy_68
set_option maxHeartbeats 4000000 in
set_option maxRecDepth 100000 in
theorem k_X10_copy_98 {p : Program} {l : Launch} {e : Env} {s : State} {m : MethodId} {args : Array Value} {below : List Frame} {meth : Method} {c : Code} {A : Nat → Prop} {G : zG} {q : Nat → Nat} {o : Nat}  (hZ : zZ p s m args meth c A G cX10_copy 6 RX10 wsX10_copy (some .int)) (y : Int32 × VX10)  : ∀ (S : VX10)  (H : Heap) (locs : List Loc) (ls : Array Slot), f_X10_copy_98 S = some y → zH G A s.heap [bX10 G q o, bX9 G q (o + 1) S.1.1 S.1.2.1 S.1.2.2.1 S.1.2.2.2.1 S.1.2.2.2.2, bX6 G q (o + 3) S.2.1.1 S.2.1.2, bX8 G q (o + 12) S.2.2.1.1 S.2.2.1.2, bX5 G q (o + 19) S.2.2.2.1.2.1 S.2.2.2.1.2.2.1 S.2.2.2.1.2.2.2.1 S.2.2.2.1.2.2.2.2, bX2 G q ((o + 19) + 2) S.2.2.2.1.1.1 S.2.2.2.1.1.2.1 S.2.2.2.1.1.2.2.1 S.2.2.2.1.1.2.2.2.1 S.2.2.2.1.1.2.2.2.2.1 S.2.2.2.1.1.2.2.2.2.2.1 S.2.2.2.1.1.2.2.2.2.2.2.1 S.2.2.2.1.1.2.2.2.2.2.2.2, bX2 G q (o + 27) S.2.2.2.2.1.1 S.2.2.2.2.1.2.1 S.2.2.2.2.1.2.2.1 S.2.2.2.2.1.2.2.2.1 S.2.2.2.2.1.2.2.2.2.1 S.2.2.2.2.1.2.2.2.2.2.1 S.2.2.2.2.1.2.2.2.2.2.2.1 S.2.2.2.2.1.2.2.2.2.2.2.2, bX1 G q (o + 33) S.2.2.2.2.2.1.1 S.2.2.2.2.2.1.2.1 S.2.2.2.2.2.1.2.2.1 S.2.2.2.2.2.1.2.2.2, bX4 G q (o + 36) S.2.2.2.2.2.2.1.1 S.2.2.2.2.2.2.1.2, bX3 G q (o + 38) S.2.2.2.2.2.2.2.1.1 S.2.2.2.2.2.2.2.1.2.1 S.2.2.2.2.2.2.2.1.2.2.1 S.2.2.2.2.2.2.2.1.2.2.2, bX0 G q (o + 43) S.2.2.2.2.2.2.2.2.1.2.2.1 S.2.2.2.2.2.2.2.2.1.2.2.2, bX2 G q ((o + 43) + 3) S.2.2.2.2.2.2.2.2.1.1.1 S.2.2.2.2.2.2.2.2.1.1.2.1 S.2.2.2.2.2.2.2.2.1.1.2.2.1 S.2.2.2.2.2.2.2.2.1.1.2.2.2.1 S.2.2.2.2.2.2.2.2.1.1.2.2.2.2.1 S.2.2.2.2.2.2.2.2.1.1.2.2.2.2.2.1 S.2.2.2.2.2.2.2.2.1.1.2.2.2.2.2.2.1 S.2.2.2.2.2.2.2.2.1.1.2.2.2.2.2.2.2, bX4 G q ((o + 43) + 9) S.2.2.2.2.2.2.2.2.1.2.1.1 S.2.2.2.2.2.2.2.2.1.2.1.2, bX7 G q (o + 54) S.2.2.2.2.2.2.2.2.2.1 S.2.2.2.2.2.2.2.2.2.2.1 S.2.2.2.2.2.2.2.2.2.2.2] H locs → lv_has ls 6 [(0, .ref (q (o + 0)))] → W p l e { frames := 4, cells := 0, slots := 0, locals := 91 } s m args below meth c H locs 0 0 (MQ below (zQ (some (.int y.1)) (zPost G [bX10 G q o, bX9 G q (o + 1) y.2.1.1 y.2.1.2.1 y.2.1.2.2.1 y.2.1.2.2.2.1 y.2.1.2.2.2.2, bX6 G q (o + 3) y.2.2.1.1 y.2.2.1.2, bX8 G q (o + 12) y.2.2.2.1.1 y.2.2.2.1.2, bX5 G q (o + 19) y.2.2.2.2.1.2.1 y.2.2.2.2.1.2.2.1 y.2.2.2.2.1.2.2.2.1 y.2.2.2.2.1.2.2.2.2, bX2 G q ((o + 19) + 2) y.2.2.2.2.1.1.1 y.2.2.2.2.1.1.2.1 y.2.2.2.2.1.1.2.2.1 y.2.2.2.2.1.1.2.2.2.1 y.2.2.2.2.1.1.2.2.2.2.1 y.2.2.2.2.1.1.2.2.2.2.2.1 y.2.2.2.2.1.1.2.2.2.2.2.2.1 y.2.2.2.2.1.1.2.2.2.2.2.2.2, bX2 G q (o + 27) y.2.2.2.2.2.1.1 y.2.2.2.2.2.1.2.1 y.2.2.2.2.2.1.2.2.1 y.2.2.2.2.2.1.2.2.2.1 y.2.2.2.2.2.1.2.2.2.2.1 y.2.2.2.2.2.1.2.2.2.2.2.1 y.2.2.2.2.2.1.2.2.2.2.2.2.1 y.2.2.2.2.2.1.2.2.2.2.2.2.2, bX1 G q (o + 33) y.2.2.2.2.2.2.1.1 y.2.2.2.2.2.2.1.2.1 y.2.2.2.2.2.2.1.2.2.1 y.2.2.2.2.2.2.1.2.2.2, bX4 G q (o + 36) y.2.2.2.2.2.2.2.1.1 y.2.2.2.2.2.2.2.1.2, bX3 G q (o + 38) y.2.2.2.2.2.2.2.2.1.1 y.2.2.2.2.2.2.2.2.1.2.1 y.2.2.2.2.2.2.2.2.1.2.2.1 y.2.2.2.2.2.2.2.2.1.2.2.2, bX0 G q (o + 43) y.2.2.2.2.2.2.2.2.2.1.2.2.1 y.2.2.2.2.2.2.2.2.2.1.2.2.2, bX2 G q ((o + 43) + 3) y.2.2.2.2.2.2.2.2.2.1.1.1 y.2.2.2.2.2.2.2.2.2.1.1.2.1 y.2.2.2.2.2.2.2.2.2.1.1.2.2.1 y.2.2.2.2.2.2.2.2.2.1.1.2.2.2.1 y.2.2.2.2.2.2.2.2.2.1.1.2.2.2.2.1 y.2.2.2.2.2.2.2.2.2.1.1.2.2.2.2.2.1 y.2.2.2.2.2.2.2.2.2.1.1.2.2.2.2.2.2.1 y.2.2.2.2.2.2.2.2.2.1.1.2.2.2.2.2.2.2, bX4 G q ((o + 43) + 9) y.2.2.2.2.2.2.2.2.2.1.2.1.1 y.2.2.2.2.2.2.2.2.2.1.2.1.2, bX7 G q (o + 54) y.2.2.2.2.2.2.2.2.2.2.1 y.2.2.2.2.2.2.2.2.2.2.2.1 y.2.2.2.2.2.2.2.2.2.2.2.2]) A) args s 0 0 A) (F0 m 98 ls []) := by
  obtain ⟨hS0, hr, hlk, hK, hA, hT⟩ := id hZ
  have hx := hS0.1
  have hb := hS0.2.1
  have hml := hS0.2.2.1
  have hown : s.vm.findClass RX10 = some m.cls := hS0.2.2.2.1
  have hts := hS0.2.2.2.2
  intro S H locs ls hf hw hl
  unfold f_X10_copy_98 at hf
  refine lv_aload_n hx hb dX10_copy_98 rfl (lv_at hl 0 rfl) ?_
  refine z_get hS0 in_X10_copy_X10 hK hw 0 0 rfl rfl rfl (by decide) (hts _ m_X10_copy_0) (v := .ref (q ((o + 1) + 0))) rfl dX10_copy_99 ?_
  refine lv_iconst (v := 2) hx hb dX10_copy_102 rfl ?_
  obtain ⟨r3, e4, hf⟩ := z_bd hf
  refine z_callV1 (As := [.int 2]) (rest := []) (bs' := [bX10 G q o, bX9 G q (o + 1) r3.2.1 r3.2.2.1 r3.2.2.2.1 r3.2.2.2.2.1 r3.2.2.2.2.2, bX6 G q (o + 3) S.2.1.1 S.2.1.2, bX8 G q (o + 12) S.2.2.1.1 S.2.2.1.2, bX5 G q (o + 19) S.2.2.2.1.2.1 S.2.2.2.1.2.2.1 S.2.2.2.1.2.2.2.1 S.2.2.2.1.2.2.2.2, bX2 G q ((o + 19) + 2) S.2.2.2.1.1.1 S.2.2.2.1.1.2.1 S.2.2.2.1.1.2.2.1 S.2.2.2.1.1.2.2.2.1 S.2.2.2.1.1.2.2.2.2.1 S.2.2.2.1.1.2.2.2.2.2.1 S.2.2.2.1.1.2.2.2.2.2.2.1 S.2.2.2.1.1.2.2.2.2.2.2.2, bX2 G q (o + 27) S.2.2.2.2.1.1 S.2.2.2.2.1.2.1 S.2.2.2.2.1.2.2.1 S.2.2.2.2.1.2.2.2.1 S.2.2.2.2.1.2.2.2.2.1 S.2.2.2.2.1.2.2.2.2.2.1 S.2.2.2.2.1.2.2.2.2.2.2.1 S.2.2.2.2.1.2.2.2.2.2.2.2, bX1 G q (o + 33) S.2.2.2.2.2.1.1 S.2.2.2.2.2.1.2.1 S.2.2.2.2.2.1.2.2.1 S.2.2.2.2.2.1.2.2.2, bX4 G q (o + 36) S.2.2.2.2.2.2.1.1 S.2.2.2.2.2.2.1.2, bX3 G q (o + 38) S.2.2.2.2.2.2.2.1.1 S.2.2.2.2.2.2.2.1.2.1 S.2.2.2.2.2.2.2.1.2.2.1 S.2.2.2.2.2.2.2.1.2.2.2, bX0 G q (o + 43) S.2.2.2.2.2.2.2.2.1.2.2.1 S.2.2.2.2.2.2.2.2.1.2.2.2, bX2 G q ((o + 43) + 3) S.2.2.2.2.2.2.2.2.1.1.1 S.2.2.2.2.2.2.2.2.1.1.2.1 S.2.2.2.2.2.2.2.2.1.1.2.2.1 S.2.2.2.2.2.2.2.2.1.1.2.2.2.1 S.2.2.2.2.2.2.2.2.1.1.2.2.2.2.1 S.2.2.2.2.2.2.2.2.1.1.2.2.2.2.2.1 S.2.2.2.2.2.2.2.2.1.1.2.2.2.2.2.2.1 S.2.2.2.2.2.2.2.2.1.1.2.2.2.2.2.2.2, bX4 G q ((o + 43) + 9) S.2.2.2.2.2.2.2.2.1.2.1.1 S.2.2.2.2.2.2.2.2.1.2.1.2, bX7 G q (o + 54) S.2.2.2.2.2.2.2.2.2.1 S.2.2.2.2.2.2.2.2.2.2.1 S.2.2.2.2.2.2.2.2.2.2.2]) hS0 (c_X9_found l G q (o + 1) S.1 2 r3 e4) zc_X9_found rfl gX10_copy_X9_found ⟨Nat.le_of_ble_eq_true rfl, Nat.le_of_ble_eq_true rfl⟩ hK hA hT hw (is := [1]) rfl rfl rfl rfl rfl rfl rfl hl.1 rfl (Nat.le_of_ble_eq_true rfl) dX10_copy_103 (fun H locs hw => ?_)
  cases hf
  exact z_iret hx hb hr hlk hw dX10_copy_106
set_option maxHeartbeats 4000000 in
set_option maxRecDepth 100000 in
theorem c_X10_copy (l : Launch) (G : zG) (q : Nat → Nat) (o : Nat) (S : VX10) (v1 : Int32) (v2 : Int32) (v3 : Int32) (v4 : Int32) (v5 : Int32) (y : Int32 × VX10) (hf : f_X10_copy S v1 v2 v3 v4 v5 = some y) : zMet l yX10_copy wsX10_copy 4 91 G [.ref (q (o + 0)), .int v1, .int v2, .int v3, .int v4, .int v5] [bX10 G q o, bX9 G q (o + 1) S.1.1 S.1.2.1 S.1.2.2.1 S.1.2.2.2.1 S.1.2.2.2.2, bX6 G q (o + 3) S.2.1.1 S.2.1.2, bX8 G q (o + 12) S.2.2.1.1 S.2.2.1.2, bX5 G q (o + 19) S.2.2.2.1.2.1 S.2.2.2.1.2.2.1 S.2.2.2.1.2.2.2.1 S.2.2.2.1.2.2.2.2, bX2 G q ((o + 19) + 2) S.2.2.2.1.1.1 S.2.2.2.1.1.2.1 S.2.2.2.1.1.2.2.1 S.2.2.2.1.1.2.2.2.1 S.2.2.2.1.1.2.2.2.2.1 S.2.2.2.1.1.2.2.2.2.2.1 S.2.2.2.1.1.2.2.2.2.2.2.1 S.2.2.2.1.1.2.2.2.2.2.2.2, bX2 G q (o + 27) S.2.2.2.2.1.1 S.2.2.2.2.1.2.1 S.2.2.2.2.1.2.2.1 S.2.2.2.2.1.2.2.2.1 S.2.2.2.2.1.2.2.2.2.1 S.2.2.2.2.1.2.2.2.2.2.1 S.2.2.2.2.1.2.2.2.2.2.2.1 S.2.2.2.2.1.2.2.2.2.2.2.2, bX1 G q (o + 33) S.2.2.2.2.2.1.1 S.2.2.2.2.2.1.2.1 S.2.2.2.2.2.1.2.2.1 S.2.2.2.2.2.1.2.2.2, bX4 G q (o + 36) S.2.2.2.2.2.2.1.1 S.2.2.2.2.2.2.1.2, bX3 G q (o + 38) S.2.2.2.2.2.2.2.1.1 S.2.2.2.2.2.2.2.1.2.1 S.2.2.2.2.2.2.2.1.2.2.1 S.2.2.2.2.2.2.2.1.2.2.2, bX0 G q (o + 43) S.2.2.2.2.2.2.2.2.1.2.2.1 S.2.2.2.2.2.2.2.2.1.2.2.2, bX2 G q ((o + 43) + 3) S.2.2.2.2.2.2.2.2.1.1.1 S.2.2.2.2.2.2.2.2.1.1.2.1 S.2.2.2.2.2.2.2.2.1.1.2.2.1 S.2.2.2.2.2.2.2.2.1.1.2.2.2.1 S.2.2.2.2.2.2.2.2.1.1.2.2.2.2.1 S.2.2.2.2.2.2.2.2.1.1.2.2.2.2.2.1 S.2.2.2.2.2.2.2.2.1.1.2.2.2.2.2.2.1 S.2.2.2.2.2.2.2.2.1.1.2.2.2.2.2.2.2, bX4 G q ((o + 43) + 9) S.2.2.2.2.2.2.2.2.1.2.1.1 S.2.2.2.2.2.2.2.2.1.2.1.2, bX7 G q (o + 54) S.2.2.2.2.2.2.2.2.2.1 S.2.2.2.2.2.2.2.2.2.2.1 S.2.2.2.2.2.2.2.2.2.2.2] (some (.int y.1)) [bX10 G q o, bX9 G q (o + 1) y.2.1.1 y.2.1.2.1 y.2.1.2.2.1 y.2.1.2.2.2.1 y.2.1.2.2.2.2, bX6 G q (o + 3) y.2.2.1.1 y.2.2.1.2, bX8 G q (o + 12) y.2.2.2.1.1 y.2.2.2.1.2, bX5 G q (o + 19) y.2.2.2.2.1.2.1 y.2.2.2.2.1.2.2.1 y.2.2.2.2.1.2.2.2.1 y.2.2.2.2.1.2.2.2.2, bX2 G q ((o + 19) + 2) y.2.2.2.2.1.1.1 y.2.2.2.2.1.1.2.1 y.2.2.2.2.1.1.2.2.1 y.2.2.2.2.1.1.2.2.2.1 y.2.2.2.2.1.1.2.2.2.2.1 y.2.2.2.2.1.1.2.2.2.2.2.1 y.2.2.2.2.1.1.2.2.2.2.2.2.1 y.2.2.2.2.1.1.2.2.2.2.2.2.2, bX2 G q (o + 27) y.2.2.2.2.2.1.1 y.2.2.2.2.2.1.2.1 y.2.2.2.2.2.1.2.2.1 y.2.2.2.2.2.1.2.2.2.1 y.2.2.2.2.2.1.2.2.2.2.1 y.2.2.2.2.2.1.2.2.2.2.2.1 y.2.2.2.2.2.1.2.2.2.2.2.2.1 y.2.2.2.2.2.1.2.2.2.2.2.2.2, bX1 G q (o + 33) y.2.2.2.2.2.2.1.1 y.2.2.2.2.2.2.1.2.1 y.2.2.2.2.2.2.1.2.2.1 y.2.2.2.2.2.2.1.2.2.2, bX4 G q (o + 36) y.2.2.2.2.2.2.2.1.1 y.2.2.2.2.2.2.2.1.2, bX3 G q (o + 38) y.2.2.2.2.2.2.2.2.1.1 y.2.2.2.2.2.2.2.2.1.2.1 y.2.2.2.2.2.2.2.2.1.2.2.1 y.2.2.2.2.2.2.2.2.1.2.2.2, bX0 G q (o + 43) y.2.2.2.2.2.2.2.2.2.1.2.2.1 y.2.2.2.2.2.2.2.2.2.1.2.2.2, bX2 G q ((o + 43) + 3) y.2.2.2.2.2.2.2.2.2.1.1.1 y.2.2.2.2.2.2.2.2.2.1.1.2.1 y.2.2.2.2.2.2.2.2.2.1.1.2.2.1 y.2.2.2.2.2.2.2.2.2.1.1.2.2.2.1 y.2.2.2.2.2.2.2.2.2.1.1.2.2.2.2.1 y.2.2.2.2.2.2.2.2.2.1.1.2.2.2.2.2.1 y.2.2.2.2.2.2.2.2.2.1.1.2.2.2.2.2.2.1 y.2.2.2.2.2.2.2.2.2.1.1.2.2.2.2.2.2.2, bX4 G q ((o + 43) + 9) y.2.2.2.2.2.2.2.2.2.1.2.1.1 y.2.2.2.2.2.2.2.2.2.1.2.1.2, bX7 G q (o + 54) y.2.2.2.2.2.2.2.2.2.2.1 y.2.2.2.2.2.2.2.2.2.2.2.1 y.2.2.2.2.2.2.2.2.2.2.2.2] := by
  refine z_met zc_X10_copy (Nat.le_of_ble_eq_true rfl) ?_
  intro p e s m below meth c A ls hZ hl hw
  have hl : lv_has ls 6 [(0, .ref (q (o + 0))), (1, .int v1), (2, .int v2), (3, .int v3), (4, .int v4), (5, .int v5)] := hl
  obtain ⟨hS0, hr, hlk, hK, hA, hT⟩ := id hZ
  have hx := hS0.1
  have hb := hS0.2.1
  have hml := hS0.2.2.1
  have hown : s.vm.findClass RX10 = some m.cls := hS0.2.2.2.1
  have hts := hS0.2.2.2.2
  unfold f_X10_copy at hf
  refine lv_aload_n hx hb dX10_copy_0 rfl (lv_at hl 0 rfl) ?_
  refine z_get hS0 in_X10_copy_X10 hK hw 0 1 rfl rfl rfl (by decide) (hts _ m_X10_copy_1) (v := .ref (q ((o + 3) + 0))) rfl dX10_copy_1 ?_
  refine lv_iload_n hx hb dX10_copy_4 rfl (lv_at hl 1 rfl) ?_
  obtain ⟨r5, e6, hf⟩ := z_bd hf
  refine z_callV1 (As := [.int v1]) (rest := []) (bs' := [bX10 G q o, bX9 G q (o + 1) S.1.1 S.1.2.1 S.1.2.2.1 S.1.2.2.2.1 S.1.2.2.2.2, bX6 G q (o + 3) S.2.1.1 S.2.1.2, bX8 G q (o + 12) S.2.2.1.1 S.2.2.1.2, bX5 G q (o + 19) S.2.2.2.1.2.1 S.2.2.2.1.2.2.1 S.2.2.2.1.2.2.2.1 S.2.2.2.1.2.2.2.2, bX2 G q ((o + 19) + 2) S.2.2.2.1.1.1 S.2.2.2.1.1.2.1 S.2.2.2.1.1.2.2.1 S.2.2.2.1.1.2.2.2.1 S.2.2.2.1.1.2.2.2.2.1 S.2.2.2.1.1.2.2.2.2.2.1 S.2.2.2.1.1.2.2.2.2.2.2.1 S.2.2.2.1.1.2.2.2.2.2.2.2, bX2 G q (o + 27) S.2.2.2.2.1.1 S.2.2.2.2.1.2.1 S.2.2.2.2.1.2.2.1 S.2.2.2.2.1.2.2.2.1 S.2.2.2.2.1.2.2.2.2.1 S.2.2.2.2.1.2.2.2.2.2.1 S.2.2.2.2.1.2.2.2.2.2.2.1 S.2.2.2.2.1.2.2.2.2.2.2.2, bX1 G q (o + 33) S.2.2.2.2.2.1.1 S.2.2.2.2.2.1.2.1 S.2.2.2.2.2.1.2.2.1 S.2.2.2.2.2.1.2.2.2, bX4 G q (o + 36) S.2.2.2.2.2.2.1.1 S.2.2.2.2.2.2.1.2, bX3 G q (o + 38) S.2.2.2.2.2.2.2.1.1 S.2.2.2.2.2.2.2.1.2.1 S.2.2.2.2.2.2.2.1.2.2.1 S.2.2.2.2.2.2.2.1.2.2.2, bX0 G q (o + 43) S.2.2.2.2.2.2.2.2.1.2.2.1 S.2.2.2.2.2.2.2.2.1.2.2.2, bX2 G q ((o + 43) + 3) S.2.2.2.2.2.2.2.2.1.1.1 S.2.2.2.2.2.2.2.2.1.1.2.1 S.2.2.2.2.2.2.2.2.1.1.2.2.1 S.2.2.2.2.2.2.2.2.1.1.2.2.2.1 S.2.2.2.2.2.2.2.2.1.1.2.2.2.2.1 S.2.2.2.2.2.2.2.2.1.1.2.2.2.2.2.1 S.2.2.2.2.2.2.2.2.1.1.2.2.2.2.2.2.1 S.2.2.2.2.2.2.2.2.1.1.2.2.2.2.2.2.2, bX4 G q ((o + 43) + 9) S.2.2.2.2.2.2.2.2.1.2.1.1 S.2.2.2.2.2.2.2.2.1.2.1.2, bX7 G q (o + 54) S.2.2.2.2.2.2.2.2.2.1 S.2.2.2.2.2.2.2.2.2.2.1 S.2.2.2.2.2.2.2.2.2.2.2]) hS0 (c_X6_isNumber l G q (o + 3) S.2.1 v1 r5 e6) zc_X6_isNumber rfl gX10_copy_X6_isNumber ⟨Nat.le_of_ble_eq_true rfl, Nat.le_of_ble_eq_true rfl⟩ hK hA hT hw (is := [2]) rfl rfl rfl rfl rfl rfl rfl hl.1 rfl (Nat.le_of_ble_eq_true rfl) dX10_copy_5 (fun H locs hw => ?_)
  refine lv_if_eq (tgt := 22) hx hb dX10_copy_8 rfl (fun hc => ?_) (fun hc => ?_)
  · have hf := z_t hc hf
    refine lv_iconst (v := (-1)) hx hb dX10_copy_22 rfl ?_
    cases hf
    exact z_iret hx hb hr hlk hw dX10_copy_23
  · have hf := z_f hc hf
    refine lv_aload_n hx hb dX10_copy_11 rfl (lv_at hl 0 rfl) ?_
    refine z_get hS0 in_X10_copy_X10 hK hw 0 1 rfl rfl rfl (by decide) (hts _ m_X10_copy_1) (v := .ref (q ((o + 3) + 0))) rfl dX10_copy_12 ?_
    refine lv_iload_n hx hb dX10_copy_15 rfl (lv_at hl 3 rfl) ?_
    obtain ⟨r7, e8, hf⟩ := z_bd hf
    refine z_callV1 (As := [.int v3]) (rest := []) (bs' := [bX10 G q o, bX9 G q (o + 1) S.1.1 S.1.2.1 S.1.2.2.1 S.1.2.2.2.1 S.1.2.2.2.2, bX6 G q (o + 3) S.2.1.1 S.2.1.2, bX8 G q (o + 12) S.2.2.1.1 S.2.2.1.2, bX5 G q (o + 19) S.2.2.2.1.2.1 S.2.2.2.1.2.2.1 S.2.2.2.1.2.2.2.1 S.2.2.2.1.2.2.2.2, bX2 G q ((o + 19) + 2) S.2.2.2.1.1.1 S.2.2.2.1.1.2.1 S.2.2.2.1.1.2.2.1 S.2.2.2.1.1.2.2.2.1 S.2.2.2.1.1.2.2.2.2.1 S.2.2.2.1.1.2.2.2.2.2.1 S.2.2.2.1.1.2.2.2.2.2.2.1 S.2.2.2.1.1.2.2.2.2.2.2.2, bX2 G q (o + 27) S.2.2.2.2.1.1 S.2.2.2.2.1.2.1 S.2.2.2.2.1.2.2.1 S.2.2.2.2.1.2.2.2.1 S.2.2.2.2.1.2.2.2.2.1 S.2.2.2.2.1.2.2.2.2.2.1 S.2.2.2.2.1.2.2.2.2.2.2.1 S.2.2.2.2.1.2.2.2.2.2.2.2, bX1 G q (o + 33) S.2.2.2.2.2.1.1 S.2.2.2.2.2.1.2.1 S.2.2.2.2.2.1.2.2.1 S.2.2.2.2.2.1.2.2.2, bX4 G q (o + 36) S.2.2.2.2.2.2.1.1 S.2.2.2.2.2.2.1.2, bX3 G q (o + 38) S.2.2.2.2.2.2.2.1.1 S.2.2.2.2.2.2.2.1.2.1 S.2.2.2.2.2.2.2.1.2.2.1 S.2.2.2.2.2.2.2.1.2.2.2, bX0 G q (o + 43) S.2.2.2.2.2.2.2.2.1.2.2.1 S.2.2.2.2.2.2.2.2.1.2.2.2, bX2 G q ((o + 43) + 3) S.2.2.2.2.2.2.2.2.1.1.1 S.2.2.2.2.2.2.2.2.1.1.2.1 S.2.2.2.2.2.2.2.2.1.1.2.2.1 S.2.2.2.2.2.2.2.2.1.1.2.2.2.1 S.2.2.2.2.2.2.2.2.1.1.2.2.2.2.1 S.2.2.2.2.2.2.2.2.1.1.2.2.2.2.2.1 S.2.2.2.2.2.2.2.2.1.1.2.2.2.2.2.2.1 S.2.2.2.2.2.2.2.2.1.1.2.2.2.2.2.2.2, bX4 G q ((o + 43) + 9) S.2.2.2.2.2.2.2.2.1.2.1.1 S.2.2.2.2.2.2.2.2.1.2.1.2, bX7 G q (o + 54) S.2.2.2.2.2.2.2.2.2.1 S.2.2.2.2.2.2.2.2.2.2.1 S.2.2.2.2.2.2.2.2.2.2.2]) hS0 (c_X6_isNumber l G q (o + 3) S.2.1 v3 r7 e8) zc_X6_isNumber rfl gX10_copy_X6_isNumber ⟨Nat.le_of_ble_eq_true rfl, Nat.le_of_ble_eq_true rfl⟩ hK hA hT hw (is := [2]) rfl rfl rfl rfl rfl rfl rfl hl.1 rfl (Nat.le_of_ble_eq_true rfl) dX10_copy_16 (fun H locs hw => ?_)
    refine lv_if_ne (tgt := 24) hx hb dX10_copy_19 rfl (fun hc => ?_) (fun hc => ?_)
    · have hf := z_f hc hf
      refine lv_iload hx hb dX10_copy_24 (lv_at hl 5 rfl) ?_
      refine lv_if_ge (tgt := 38) hx hb dX10_copy_26 rfl (fun hc => ?_) (fun hc => ?_)
      · have hf := z_t hc hf
        refine lv_aload_n hx hb dX10_copy_38 rfl (lv_at hl 0 rfl) ?_
        refine z_get hS0 in_X10_copy_X10 hK hw 0 1 rfl rfl rfl (by decide) (hts _ m_X10_copy_1) (v := .ref (q ((o + 3) + 0))) rfl dX10_copy_39 ?_
        refine lv_iload_n hx hb dX10_copy_42 rfl (lv_at hl 1 rfl) ?_
        obtain ⟨r9, e10, hf⟩ := z_bd hf
        refine z_callV1 (As := [.int v1]) (rest := []) (bs' := [bX10 G q o, bX9 G q (o + 1) S.1.1 S.1.2.1 S.1.2.2.1 S.1.2.2.2.1 S.1.2.2.2.2, bX6 G q (o + 3) S.2.1.1 S.2.1.2, bX8 G q (o + 12) S.2.2.1.1 S.2.2.1.2, bX5 G q (o + 19) S.2.2.2.1.2.1 S.2.2.2.1.2.2.1 S.2.2.2.1.2.2.2.1 S.2.2.2.1.2.2.2.2, bX2 G q ((o + 19) + 2) S.2.2.2.1.1.1 S.2.2.2.1.1.2.1 S.2.2.2.1.1.2.2.1 S.2.2.2.1.1.2.2.2.1 S.2.2.2.1.1.2.2.2.2.1 S.2.2.2.1.1.2.2.2.2.2.1 S.2.2.2.1.1.2.2.2.2.2.2.1 S.2.2.2.1.1.2.2.2.2.2.2.2, bX2 G q (o + 27) S.2.2.2.2.1.1 S.2.2.2.2.1.2.1 S.2.2.2.2.1.2.2.1 S.2.2.2.2.1.2.2.2.1 S.2.2.2.2.1.2.2.2.2.1 S.2.2.2.2.1.2.2.2.2.2.1 S.2.2.2.2.1.2.2.2.2.2.2.1 S.2.2.2.2.1.2.2.2.2.2.2.2, bX1 G q (o + 33) S.2.2.2.2.2.1.1 S.2.2.2.2.2.1.2.1 S.2.2.2.2.2.1.2.2.1 S.2.2.2.2.2.1.2.2.2, bX4 G q (o + 36) S.2.2.2.2.2.2.1.1 S.2.2.2.2.2.2.1.2, bX3 G q (o + 38) S.2.2.2.2.2.2.2.1.1 S.2.2.2.2.2.2.2.1.2.1 S.2.2.2.2.2.2.2.1.2.2.1 S.2.2.2.2.2.2.2.1.2.2.2, bX0 G q (o + 43) S.2.2.2.2.2.2.2.2.1.2.2.1 S.2.2.2.2.2.2.2.2.1.2.2.2, bX2 G q ((o + 43) + 3) S.2.2.2.2.2.2.2.2.1.1.1 S.2.2.2.2.2.2.2.2.1.1.2.1 S.2.2.2.2.2.2.2.2.1.1.2.2.1 S.2.2.2.2.2.2.2.2.1.1.2.2.2.1 S.2.2.2.2.2.2.2.2.1.1.2.2.2.2.1 S.2.2.2.2.2.2.2.2.1.1.2.2.2.2.2.1 S.2.2.2.2.2.2.2.2.1.1.2.2.2.2.2.2.1 S.2.2.2.2.2.2.2.2.1.1.2.2.2.2.2.2.2, bX4 G q ((o + 43) + 9) S.2.2.2.2.2.2.2.2.1.2.1.1 S.2.2.2.2.2.2.2.2.1.2.1.2, bX7 G q (o + 54) S.2.2.2.2.2.2.2.2.2.1 S.2.2.2.2.2.2.2.2.2.2.1 S.2.2.2.2.2.2.2.2.2.2.2]) hS0 (c_X6_isThere l G q (o + 3) S.2.1 v1 r9 e10) zc_X6_isThere rfl gX10_copy_X6_isThere ⟨Nat.le_of_ble_eq_true rfl, Nat.le_of_ble_eq_true rfl⟩ hK hA hT hw (is := [2]) rfl rfl rfl rfl rfl rfl rfl hl.1 rfl (Nat.le_of_ble_eq_true rfl) dX10_copy_43 (fun H locs hw => ?_)
        refine lv_if_eq (tgt := 60) hx hb dX10_copy_46 rfl (fun hc => ?_) (fun hc => ?_)
        · have hf := z_t hc hf
          exact k_X10_copy_60 hZ _ _ _ _ _ hf hw (lv_sub hl [0] rfl)
        · have hf := z_f hc hf
          refine lv_aload_n hx hb dX10_copy_49 rfl (lv_at hl 0 rfl) ?_
          refine z_get hS0 in_X10_copy_X10 hK hw 0 1 rfl rfl rfl (by decide) (hts _ m_X10_copy_1) (v := .ref (q ((o + 3) + 0))) rfl dX10_copy_50 ?_
          refine lv_iload_n hx hb dX10_copy_53 rfl (lv_at hl 3 rfl) ?_
          obtain ⟨r11, e12, hf⟩ := z_bd hf
          refine z_callV1 (As := [.int v3]) (rest := []) (bs' := [bX10 G q o, bX9 G q (o + 1) S.1.1 S.1.2.1 S.1.2.2.1 S.1.2.2.2.1 S.1.2.2.2.2, bX6 G q (o + 3) S.2.1.1 S.2.1.2, bX8 G q (o + 12) S.2.2.1.1 S.2.2.1.2, bX5 G q (o + 19) S.2.2.2.1.2.1 S.2.2.2.1.2.2.1 S.2.2.2.1.2.2.2.1 S.2.2.2.1.2.2.2.2, bX2 G q ((o + 19) + 2) S.2.2.2.1.1.1 S.2.2.2.1.1.2.1 S.2.2.2.1.1.2.2.1 S.2.2.2.1.1.2.2.2.1 S.2.2.2.1.1.2.2.2.2.1 S.2.2.2.1.1.2.2.2.2.2.1 S.2.2.2.1.1.2.2.2.2.2.2.1 S.2.2.2.1.1.2.2.2.2.2.2.2, bX2 G q (o + 27) S.2.2.2.2.1.1 S.2.2.2.2.1.2.1 S.2.2.2.2.1.2.2.1 S.2.2.2.2.1.2.2.2.1 S.2.2.2.2.1.2.2.2.2.1 S.2.2.2.2.1.2.2.2.2.2.1 S.2.2.2.2.1.2.2.2.2.2.2.1 S.2.2.2.2.1.2.2.2.2.2.2.2, bX1 G q (o + 33) S.2.2.2.2.2.1.1 S.2.2.2.2.2.1.2.1 S.2.2.2.2.2.1.2.2.1 S.2.2.2.2.2.1.2.2.2, bX4 G q (o + 36) S.2.2.2.2.2.2.1.1 S.2.2.2.2.2.2.1.2, bX3 G q (o + 38) S.2.2.2.2.2.2.2.1.1 S.2.2.2.2.2.2.2.1.2.1 S.2.2.2.2.2.2.2.1.2.2.1 S.2.2.2.2.2.2.2.1.2.2.2, bX0 G q (o + 43) S.2.2.2.2.2.2.2.2.1.2.2.1 S.2.2.2.2.2.2.2.2.1.2.2.2, bX2 G q ((o + 43) + 3) S.2.2.2.2.2.2.2.2.1.1.1 S.2.2.2.2.2.2.2.2.1.1.2.1 S.2.2.2.2.2.2.2.2.1.1.2.2.1 S.2.2.2.2.2.2.2.2.1.1.2.2.2.1 S.2.2.2.2.2.2.2.2.1.1.2.2.2.2.1 S.2.2.2.2.2.2.2.2.1.1.2.2.2.2.2.1 S.2.2.2.2.2.2.2.2.1.1.2.2.2.2.2.2.1 S.2.2.2.2.2.2.2.2.1.1.2.2.2.2.2.2.2, bX4 G q ((o + 43) + 9) S.2.2.2.2.2.2.2.2.1.2.1.1 S.2.2.2.2.2.2.2.2.1.2.1.2, bX7 G q (o + 54) S.2.2.2.2.2.2.2.2.2.1 S.2.2.2.2.2.2.2.2.2.2.1 S.2.2.2.2.2.2.2.2.2.2.2]) hS0 (c_X6_isThere l G q (o + 3) S.2.1 v3 r11 e12) zc_X6_isThere rfl gX10_copy_X6_isThere ⟨Nat.le_of_ble_eq_true rfl, Nat.le_of_ble_eq_true rfl⟩ hK hA hT hw (is := [2]) rfl rfl rfl rfl rfl rfl rfl hl.1 rfl (Nat.le_of_ble_eq_true rfl) dX10_copy_54 (fun H locs hw => ?_)
          refine lv_if_ne (tgt := 69) hx hb dX10_copy_57 rfl (fun hc => ?_) (fun hc => ?_)
          · have hf := z_f hc hf
            refine lv_aload_n hx hb dX10_copy_69 rfl (lv_at hl 0 rfl) ?_
            refine z_get hS0 in_X10_copy_X10 hK hw 0 1 rfl rfl rfl (by decide) (hts _ m_X10_copy_1) (v := .ref (q ((o + 3) + 0))) rfl dX10_copy_70 ?_
            refine lv_iload_n hx hb dX10_copy_73 rfl (lv_at hl 1 rfl) ?_
            refine lv_iload_n hx hb dX10_copy_74 rfl (lv_at hl 2 rfl) ?_
            refine lv_iload hx hb dX10_copy_75 (lv_at hl 5 rfl) ?_
            obtain ⟨r13, e14, hf⟩ := z_bd hf
            refine z_callV1 (As := [.int v1, .int v2, .int v5]) (rest := []) (bs' := [bX10 G q o, bX9 G q (o + 1) S.1.1 S.1.2.1 S.1.2.2.1 S.1.2.2.2.1 S.1.2.2.2.2, bX6 G q (o + 3) S.2.1.1 S.2.1.2, bX8 G q (o + 12) S.2.2.1.1 S.2.2.1.2, bX5 G q (o + 19) S.2.2.2.1.2.1 S.2.2.2.1.2.2.1 S.2.2.2.1.2.2.2.1 S.2.2.2.1.2.2.2.2, bX2 G q ((o + 19) + 2) S.2.2.2.1.1.1 S.2.2.2.1.1.2.1 S.2.2.2.1.1.2.2.1 S.2.2.2.1.1.2.2.2.1 S.2.2.2.1.1.2.2.2.2.1 S.2.2.2.1.1.2.2.2.2.2.1 S.2.2.2.1.1.2.2.2.2.2.2.1 S.2.2.2.1.1.2.2.2.2.2.2.2, bX2 G q (o + 27) S.2.2.2.2.1.1 S.2.2.2.2.1.2.1 S.2.2.2.2.1.2.2.1 S.2.2.2.2.1.2.2.2.1 S.2.2.2.2.1.2.2.2.2.1 S.2.2.2.2.1.2.2.2.2.2.1 S.2.2.2.2.1.2.2.2.2.2.2.1 S.2.2.2.2.1.2.2.2.2.2.2.2, bX1 G q (o + 33) S.2.2.2.2.2.1.1 S.2.2.2.2.2.1.2.1 S.2.2.2.2.2.1.2.2.1 S.2.2.2.2.2.1.2.2.2, bX4 G q (o + 36) S.2.2.2.2.2.2.1.1 S.2.2.2.2.2.2.1.2, bX3 G q (o + 38) S.2.2.2.2.2.2.2.1.1 S.2.2.2.2.2.2.2.1.2.1 S.2.2.2.2.2.2.2.1.2.2.1 S.2.2.2.2.2.2.2.1.2.2.2, bX0 G q (o + 43) S.2.2.2.2.2.2.2.2.1.2.2.1 S.2.2.2.2.2.2.2.2.1.2.2.2, bX2 G q ((o + 43) + 3) S.2.2.2.2.2.2.2.2.1.1.1 S.2.2.2.2.2.2.2.2.1.1.2.1 S.2.2.2.2.2.2.2.2.1.1.2.2.1 S.2.2.2.2.2.2.2.2.1.1.2.2.2.1 S.2.2.2.2.2.2.2.2.1.1.2.2.2.2.1 S.2.2.2.2.2.2.2.2.1.1.2.2.2.2.2.1 S.2.2.2.2.2.2.2.2.1.1.2.2.2.2.2.2.1 S.2.2.2.2.2.2.2.2.1.1.2.2.2.2.2.2.2, bX4 G q ((o + 43) + 9) S.2.2.2.2.2.2.2.2.1.2.1.1 S.2.2.2.2.2.2.2.2.1.2.1.2, bX7 G q (o + 54) S.2.2.2.2.2.2.2.2.2.1 S.2.2.2.2.2.2.2.2.2.2.1 S.2.2.2.2.2.2.2.2.2.2.2]) hS0 (c_X6_hasPlaces l G q (o + 3) S.2.1 v1 v2 v5 r13 e14) zc_X6_hasPlaces rfl gX10_copy_X6_hasPlaces ⟨Nat.le_of_ble_eq_true rfl, Nat.le_of_ble_eq_true rfl⟩ hK hA hT hw (is := [2]) rfl rfl rfl rfl rfl rfl rfl hl.1 rfl (Nat.le_of_ble_eq_true rfl) dX10_copy_77 (fun H locs hw => ?_)
            refine lv_if_eq (tgt := 98) hx hb dX10_copy_80 rfl (fun hc => ?_) (fun hc => ?_)
            · have hf := z_t hc hf
              exact k_X10_copy_98 hZ _ _ _ _ _ hf hw (lv_sub hl [0] rfl)
            · have hf := z_f hc hf
              refine lv_aload_n hx hb dX10_copy_83 rfl (lv_at hl 0 rfl) ?_
              refine z_get hS0 in_X10_copy_X10 hK hw 0 1 rfl rfl rfl (by decide) (hts _ m_X10_copy_1) (v := .ref (q ((o + 3) + 0))) rfl dX10_copy_84 ?_
              refine lv_iload_n hx hb dX10_copy_87 rfl (lv_at hl 3 rfl) ?_
              refine lv_iload hx hb dX10_copy_88 (lv_at hl 4 rfl) ?_
              refine lv_iload hx hb dX10_copy_90 (lv_at hl 5 rfl) ?_
              obtain ⟨r15, e16, hf⟩ := z_bd hf
              refine z_callV1 (As := [.int v3, .int v4, .int v5]) (rest := []) (bs' := [bX10 G q o, bX9 G q (o + 1) S.1.1 S.1.2.1 S.1.2.2.1 S.1.2.2.2.1 S.1.2.2.2.2, bX6 G q (o + 3) S.2.1.1 S.2.1.2, bX8 G q (o + 12) S.2.2.1.1 S.2.2.1.2, bX5 G q (o + 19) S.2.2.2.1.2.1 S.2.2.2.1.2.2.1 S.2.2.2.1.2.2.2.1 S.2.2.2.1.2.2.2.2, bX2 G q ((o + 19) + 2) S.2.2.2.1.1.1 S.2.2.2.1.1.2.1 S.2.2.2.1.1.2.2.1 S.2.2.2.1.1.2.2.2.1 S.2.2.2.1.1.2.2.2.2.1 S.2.2.2.1.1.2.2.2.2.2.1 S.2.2.2.1.1.2.2.2.2.2.2.1 S.2.2.2.1.1.2.2.2.2.2.2.2, bX2 G q (o + 27) S.2.2.2.2.1.1 S.2.2.2.2.1.2.1 S.2.2.2.2.1.2.2.1 S.2.2.2.2.1.2.2.2.1 S.2.2.2.2.1.2.2.2.2.1 S.2.2.2.2.1.2.2.2.2.2.1 S.2.2.2.2.1.2.2.2.2.2.2.1 S.2.2.2.2.1.2.2.2.2.2.2.2, bX1 G q (o + 33) S.2.2.2.2.2.1.1 S.2.2.2.2.2.1.2.1 S.2.2.2.2.2.1.2.2.1 S.2.2.2.2.2.1.2.2.2, bX4 G q (o + 36) S.2.2.2.2.2.2.1.1 S.2.2.2.2.2.2.1.2, bX3 G q (o + 38) S.2.2.2.2.2.2.2.1.1 S.2.2.2.2.2.2.2.1.2.1 S.2.2.2.2.2.2.2.1.2.2.1 S.2.2.2.2.2.2.2.1.2.2.2, bX0 G q (o + 43) S.2.2.2.2.2.2.2.2.1.2.2.1 S.2.2.2.2.2.2.2.2.1.2.2.2, bX2 G q ((o + 43) + 3) S.2.2.2.2.2.2.2.2.1.1.1 S.2.2.2.2.2.2.2.2.1.1.2.1 S.2.2.2.2.2.2.2.2.1.1.2.2.1 S.2.2.2.2.2.2.2.2.1.1.2.2.2.1 S.2.2.2.2.2.2.2.2.1.1.2.2.2.2.1 S.2.2.2.2.2.2.2.2.1.1.2.2.2.2.2.1 S.2.2.2.2.2.2.2.2.1.1.2.2.2.2.2.2.1 S.2.2.2.2.2.2.2.2.1.1.2.2.2.2.2.2.2, bX4 G q ((o + 43) + 9) S.2.2.2.2.2.2.2.2.1.2.1.1 S.2.2.2.2.2.2.2.2.1.2.1.2, bX7 G q (o + 54) S.2.2.2.2.2.2.2.2.2.1 S.2.2.2.2.2.2.2.2.2.2.1 S.2.2.2.2.2.2.2.2.2.2.2]) hS0 (c_X6_hasPlaces l G q (o + 3) S.2.1 v3 v4 v5 r15 e16) zc_X6_hasPlaces rfl gX10_copy_X6_hasPlaces ⟨Nat.le_of_ble_eq_true rfl, Nat.le_of_ble_eq_true rfl⟩ hK hA hT hw (is := [2]) rfl rfl rfl rfl rfl rfl rfl hl.1 rfl (Nat.le_of_ble_eq_true rfl) dX10_copy_92 (fun H locs hw => ?_)
              refine lv_if_ne (tgt := 107) hx hb dX10_copy_95 rfl (fun hc => ?_) (fun hc => ?_)
              · have hf := z_f hc hf
                refine lv_aload_n hx hb dX10_copy_107 rfl (lv_at hl 0 rfl) ?_
                refine z_get hS0 in_X10_copy_X10 hK hw 0 1 rfl rfl rfl (by decide) (hts _ m_X10_copy_1) (v := .ref (q ((o + 3) + 0))) rfl dX10_copy_108 ?_
                refine lv_iload_n hx hb dX10_copy_111 rfl (lv_at hl 1 rfl) ?_
                refine lv_iload_n hx hb dX10_copy_112 rfl (lv_at hl 2 rfl) ?_
                refine lv_iload_n hx hb dX10_copy_113 rfl (lv_at hl 3 rfl) ?_
                refine lv_iload hx hb dX10_copy_114 (lv_at hl 4 rfl) ?_
                refine lv_iload hx hb dX10_copy_116 (lv_at hl 5 rfl) ?_
                obtain ⟨r17, e18, hf⟩ := z_bd hf
                refine z_callV0 (As := [.int v1, .int v2, .int v3, .int v4, .int v5]) (rest := []) (bs' := [bX10 G q o, bX9 G q (o + 1) S.1.1 S.1.2.1 S.1.2.2.1 S.1.2.2.2.1 S.1.2.2.2.2, bX6 G q (o + 3) r17.1 r17.2, bX8 G q (o + 12) S.2.2.1.1 S.2.2.1.2, bX5 G q (o + 19) S.2.2.2.1.2.1 S.2.2.2.1.2.2.1 S.2.2.2.1.2.2.2.1 S.2.2.2.1.2.2.2.2, bX2 G q ((o + 19) + 2) S.2.2.2.1.1.1 S.2.2.2.1.1.2.1 S.2.2.2.1.1.2.2.1 S.2.2.2.1.1.2.2.2.1 S.2.2.2.1.1.2.2.2.2.1 S.2.2.2.1.1.2.2.2.2.2.1 S.2.2.2.1.1.2.2.2.2.2.2.1 S.2.2.2.1.1.2.2.2.2.2.2.2, bX2 G q (o + 27) S.2.2.2.2.1.1 S.2.2.2.2.1.2.1 S.2.2.2.2.1.2.2.1 S.2.2.2.2.1.2.2.2.1 S.2.2.2.2.1.2.2.2.2.1 S.2.2.2.2.1.2.2.2.2.2.1 S.2.2.2.2.1.2.2.2.2.2.2.1 S.2.2.2.2.1.2.2.2.2.2.2.2, bX1 G q (o + 33) S.2.2.2.2.2.1.1 S.2.2.2.2.2.1.2.1 S.2.2.2.2.2.1.2.2.1 S.2.2.2.2.2.1.2.2.2, bX4 G q (o + 36) S.2.2.2.2.2.2.1.1 S.2.2.2.2.2.2.1.2, bX3 G q (o + 38) S.2.2.2.2.2.2.2.1.1 S.2.2.2.2.2.2.2.1.2.1 S.2.2.2.2.2.2.2.1.2.2.1 S.2.2.2.2.2.2.2.1.2.2.2, bX0 G q (o + 43) S.2.2.2.2.2.2.2.2.1.2.2.1 S.2.2.2.2.2.2.2.2.1.2.2.2, bX2 G q ((o + 43) + 3) S.2.2.2.2.2.2.2.2.1.1.1 S.2.2.2.2.2.2.2.2.1.1.2.1 S.2.2.2.2.2.2.2.2.1.1.2.2.1 S.2.2.2.2.2.2.2.2.1.1.2.2.2.1 S.2.2.2.2.2.2.2.2.1.1.2.2.2.2.1 S.2.2.2.2.2.2.2.2.1.1.2.2.2.2.2.1 S.2.2.2.2.2.2.2.2.1.1.2.2.2.2.2.2.1 S.2.2.2.2.2.2.2.2.1.1.2.2.2.2.2.2.2, bX4 G q ((o + 43) + 9) S.2.2.2.2.2.2.2.2.1.2.1.1 S.2.2.2.2.2.2.2.2.1.2.1.2, bX7 G q (o + 54) S.2.2.2.2.2.2.2.2.2.1 S.2.2.2.2.2.2.2.2.2.2.1 S.2.2.2.2.2.2.2.2.2.2.2]) hS0 (c_X6_move l G q (o + 3) S.2.1 v1 v2 v3 v4 v5 r17 e18) zc_X6_move rfl gX10_copy_X6_move ⟨Nat.le_of_ble_eq_true rfl, Nat.le_of_ble_eq_true rfl⟩ hK hA hT hw (is := [2]) rfl rfl rfl rfl rfl rfl rfl hl.1 rfl (Nat.le_of_ble_eq_true rfl) dX10_copy_118 (fun H locs hw => ?_)
                refine lv_iconst (v := 1) hx hb dX10_copy_121 rfl ?_
                cases hf
                exact z_iret hx hb hr hlk hw dX10_copy_122
              · have hf := z_t hc hf
                exact k_X10_copy_98 hZ _ _ _ _ _ hf hw (lv_sub hl [0] rfl)
          · have hf := z_t hc hf
            exact k_X10_copy_60 hZ _ _ _ _ _ hf hw (lv_sub hl [0] rfl)
      · have hf := z_f hc hf
        refine lv_aload_n hx hb dX10_copy_29 rfl (lv_at hl 0 rfl) ?_
        refine z_get hS0 in_X10_copy_X10 hK hw 0 0 rfl rfl rfl (by decide) (hts _ m_X10_copy_0) (v := .ref (q ((o + 1) + 0))) rfl dX10_copy_30 ?_
        refine lv_iconst (v := 5) hx hb dX10_copy_33 rfl ?_
        obtain ⟨r19, e20, hf⟩ := z_bd hf
        refine z_callV1 (As := [.int 5]) (rest := []) (bs' := [bX10 G q o, bX9 G q (o + 1) r19.2.1 r19.2.2.1 r19.2.2.2.1 r19.2.2.2.2.1 r19.2.2.2.2.2, bX6 G q (o + 3) S.2.1.1 S.2.1.2, bX8 G q (o + 12) S.2.2.1.1 S.2.2.1.2, bX5 G q (o + 19) S.2.2.2.1.2.1 S.2.2.2.1.2.2.1 S.2.2.2.1.2.2.2.1 S.2.2.2.1.2.2.2.2, bX2 G q ((o + 19) + 2) S.2.2.2.1.1.1 S.2.2.2.1.1.2.1 S.2.2.2.1.1.2.2.1 S.2.2.2.1.1.2.2.2.1 S.2.2.2.1.1.2.2.2.2.1 S.2.2.2.1.1.2.2.2.2.2.1 S.2.2.2.1.1.2.2.2.2.2.2.1 S.2.2.2.1.1.2.2.2.2.2.2.2, bX2 G q (o + 27) S.2.2.2.2.1.1 S.2.2.2.2.1.2.1 S.2.2.2.2.1.2.2.1 S.2.2.2.2.1.2.2.2.1 S.2.2.2.2.1.2.2.2.2.1 S.2.2.2.2.1.2.2.2.2.2.1 S.2.2.2.2.1.2.2.2.2.2.2.1 S.2.2.2.2.1.2.2.2.2.2.2.2, bX1 G q (o + 33) S.2.2.2.2.2.1.1 S.2.2.2.2.2.1.2.1 S.2.2.2.2.2.1.2.2.1 S.2.2.2.2.2.1.2.2.2, bX4 G q (o + 36) S.2.2.2.2.2.2.1.1 S.2.2.2.2.2.2.1.2, bX3 G q (o + 38) S.2.2.2.2.2.2.2.1.1 S.2.2.2.2.2.2.2.1.2.1 S.2.2.2.2.2.2.2.1.2.2.1 S.2.2.2.2.2.2.2.1.2.2.2, bX0 G q (o + 43) S.2.2.2.2.2.2.2.2.1.2.2.1 S.2.2.2.2.2.2.2.2.1.2.2.2, bX2 G q ((o + 43) + 3) S.2.2.2.2.2.2.2.2.1.1.1 S.2.2.2.2.2.2.2.2.1.1.2.1 S.2.2.2.2.2.2.2.2.1.1.2.2.1 S.2.2.2.2.2.2.2.2.1.1.2.2.2.1 S.2.2.2.2.2.2.2.2.1.1.2.2.2.2.1 S.2.2.2.2.2.2.2.2.1.1.2.2.2.2.2.1 S.2.2.2.2.2.2.2.2.1.1.2.2.2.2.2.2.1 S.2.2.2.2.2.2.2.2.1.1.2.2.2.2.2.2.2, bX4 G q ((o + 43) + 9) S.2.2.2.2.2.2.2.2.1.2.1.1 S.2.2.2.2.2.2.2.2.1.2.1.2, bX7 G q (o + 54) S.2.2.2.2.2.2.2.2.2.1 S.2.2.2.2.2.2.2.2.2.2.1 S.2.2.2.2.2.2.2.2.2.2.2]) hS0 (c_X9_found l G q (o + 1) S.1 5 r19 e20) zc_X9_found rfl gX10_copy_X9_found ⟨Nat.le_of_ble_eq_true rfl, Nat.le_of_ble_eq_true rfl⟩ hK hA hT hw (is := [1]) rfl rfl rfl rfl rfl rfl rfl hl.1 rfl (Nat.le_of_ble_eq_true rfl) dX10_copy_34 (fun H locs hw => ?_)
        cases hf
        exact z_iret hx hb hr hlk hw dX10_copy_37
    · have hf := z_t hc hf
      refine lv_iconst (v := (-1)) hx hb dX10_copy_22 rfl ?_
      cases hf
      exact z_iret hx hb hr hlk hw dX10_copy_23
theorem zc_X10_count : zC yX10_count wsX10_count cX10_count 2 (some .int) 1 := ⟨⟨_, rfl⟩, by decide +kernel, by decide +kernel, by decide +kernel, by decide +kernel⟩
theorem m_X10_count_0 : (.fieldLink RX10 40 "CellKeys" "jail" "LCellKeys$Jail;" : Cond) ∈ wsX10_count := by decide +kernel
theorem in_X10_count_X10 : ∀ w ∈ u_ws RX10 TX10 10, w ∈ wsX10_count := by decide +kernel
theorem m_X10_count_1 : (.fieldLink RX10 47 "CellKeys" "evenings" "LCellKeys$Evenings;" : Cond) ∈ wsX10_count := by decide +kernel
theorem m_X10_count_2 : (.fieldLink RX10 75 "CellKeys" "sightings" "LCellKeys$Sightings;" : Cond) ∈ wsX10_count := by decide +kernel
theorem m_X10_count_3 : (.fieldLink RX10 19 "CellKeys" "rows" "LCellKeys$Rows;" : Cond) ∈ wsX10_count := by decide +kernel
theorem m_X10_count_4 : (.fieldLink RX10 26 "CellKeys" "texts" "LCellKeys$Texts;" : Cond) ∈ wsX10_count := by decide +kernel
set_option maxHeartbeats 4000000 in
set_option maxRecDepth 100000 in
theorem c_X10_count (l : Launch) (G : zG) (q : Nat → Nat) (o : Nat) (S : VX10) (v1 : Int32) (y : Int32) (hf : f_X10_count S v1 = some y) : zMet l yX10_count wsX10_count 4 85 G [.ref (q (o + 0)), .int v1] [bX10 G q o, bX9 G q (o + 1) S.1.1 S.1.2.1 S.1.2.2.1 S.1.2.2.2.1 S.1.2.2.2.2, bX6 G q (o + 3) S.2.1.1 S.2.1.2, bX8 G q (o + 12) S.2.2.1.1 S.2.2.1.2, bX5 G q (o + 19) S.2.2.2.1.2.1 S.2.2.2.1.2.2.1 S.2.2.2.1.2.2.2.1 S.2.2.2.1.2.2.2.2, bX2 G q ((o + 19) + 2) S.2.2.2.1.1.1 S.2.2.2.1.1.2.1 S.2.2.2.1.1.2.2.1 S.2.2.2.1.1.2.2.2.1 S.2.2.2.1.1.2.2.2.2.1 S.2.2.2.1.1.2.2.2.2.2.1 S.2.2.2.1.1.2.2.2.2.2.2.1 S.2.2.2.1.1.2.2.2.2.2.2.2, bX2 G q (o + 27) S.2.2.2.2.1.1 S.2.2.2.2.1.2.1 S.2.2.2.2.1.2.2.1 S.2.2.2.2.1.2.2.2.1 S.2.2.2.2.1.2.2.2.2.1 S.2.2.2.2.1.2.2.2.2.2.1 S.2.2.2.2.1.2.2.2.2.2.2.1 S.2.2.2.2.1.2.2.2.2.2.2.2, bX1 G q (o + 33) S.2.2.2.2.2.1.1 S.2.2.2.2.2.1.2.1 S.2.2.2.2.2.1.2.2.1 S.2.2.2.2.2.1.2.2.2, bX4 G q (o + 36) S.2.2.2.2.2.2.1.1 S.2.2.2.2.2.2.1.2, bX3 G q (o + 38) S.2.2.2.2.2.2.2.1.1 S.2.2.2.2.2.2.2.1.2.1 S.2.2.2.2.2.2.2.1.2.2.1 S.2.2.2.2.2.2.2.1.2.2.2, bX0 G q (o + 43) S.2.2.2.2.2.2.2.2.1.2.2.1 S.2.2.2.2.2.2.2.2.1.2.2.2, bX2 G q ((o + 43) + 3) S.2.2.2.2.2.2.2.2.1.1.1 S.2.2.2.2.2.2.2.2.1.1.2.1 S.2.2.2.2.2.2.2.2.1.1.2.2.1 S.2.2.2.2.2.2.2.2.1.1.2.2.2.1 S.2.2.2.2.2.2.2.2.1.1.2.2.2.2.1 S.2.2.2.2.2.2.2.2.1.1.2.2.2.2.2.1 S.2.2.2.2.2.2.2.2.1.1.2.2.2.2.2.2.1 S.2.2.2.2.2.2.2.2.1.1.2.2.2.2.2.2.2, bX4 G q ((o + 43) + 9) S.2.2.2.2.2.2.2.2.1.2.1.1 S.2.2.2.2.2.2.2.2.1.2.1.2, bX7 G q (o + 54) S.2.2.2.2.2.2.2.2.2.1 S.2.2.2.2.2.2.2.2.2.2.1 S.2.2.2.2.2.2.2.2.2.2.2] (some (.int y)) [bX10 G q o, bX9 G q (o + 1) S.1.1 S.1.2.1 S.1.2.2.1 S.1.2.2.2.1 S.1.2.2.2.2, bX6 G q (o + 3) S.2.1.1 S.2.1.2, bX8 G q (o + 12) S.2.2.1.1 S.2.2.1.2, bX5 G q (o + 19) S.2.2.2.1.2.1 S.2.2.2.1.2.2.1 S.2.2.2.1.2.2.2.1 S.2.2.2.1.2.2.2.2, bX2 G q ((o + 19) + 2) S.2.2.2.1.1.1 S.2.2.2.1.1.2.1 S.2.2.2.1.1.2.2.1 S.2.2.2.1.1.2.2.2.1 S.2.2.2.1.1.2.2.2.2.1 S.2.2.2.1.1.2.2.2.2.2.1 S.2.2.2.1.1.2.2.2.2.2.2.1 S.2.2.2.1.1.2.2.2.2.2.2.2, bX2 G q (o + 27) S.2.2.2.2.1.1 S.2.2.2.2.1.2.1 S.2.2.2.2.1.2.2.1 S.2.2.2.2.1.2.2.2.1 S.2.2.2.2.1.2.2.2.2.1 S.2.2.2.2.1.2.2.2.2.2.1 S.2.2.2.2.1.2.2.2.2.2.2.1 S.2.2.2.2.1.2.2.2.2.2.2.2, bX1 G q (o + 33) S.2.2.2.2.2.1.1 S.2.2.2.2.2.1.2.1 S.2.2.2.2.2.1.2.2.1 S.2.2.2.2.2.1.2.2.2, bX4 G q (o + 36) S.2.2.2.2.2.2.1.1 S.2.2.2.2.2.2.1.2, bX3 G q (o + 38) S.2.2.2.2.2.2.2.1.1 S.2.2.2.2.2.2.2.1.2.1 S.2.2.2.2.2.2.2.1.2.2.1 S.2.2.2.2.2.2.2.1.2.2.2, bX0 G q (o + 43) S.2.2.2.2.2.2.2.2.1.2.2.1 S.2.2.2.2.2.2.2.2.1.2.2.2, bX2 G q ((o + 43) + 3) S.2.2.2.2.2.2.2.2.1.1.1 S.2.2.2.2.2.2.2.2.1.1.2.1 S.2.2.2.2.2.2.2.2.1.1.2.2.1 S.2.2.2.2.2.2.2.2.1.1.2.2.2.1 S.2.2.2.2.2.2.2.2.1.1.2.2.2.2.1 S.2.2.2.2.2.2.2.2.1.1.2.2.2.2.2.1 S.2.2.2.2.2.2.2.2.1.1.2.2.2.2.2.2.1 S.2.2.2.2.2.2.2.2.1.1.2.2.2.2.2.2.2, bX4 G q ((o + 43) + 9) S.2.2.2.2.2.2.2.2.1.2.1.1 S.2.2.2.2.2.2.2.2.1.2.1.2, bX7 G q (o + 54) S.2.2.2.2.2.2.2.2.2.1 S.2.2.2.2.2.2.2.2.2.2.1 S.2.2.2.2.2.2.2.2.2.2.2] := by
  refine z_met zc_X10_count (Nat.le_of_ble_eq_true rfl) ?_
  intro p e s m below meth c A ls hZ hl hw
  have hl : lv_has ls 2 [(0, .ref (q (o + 0))), (1, .int v1)] := hl
  obtain ⟨hS0, hr, hlk, hK, hA, hT⟩ := id hZ
  have hx := hS0.1
  have hb := hS0.2.1
  have hml := hS0.2.2.1
  have hown : s.vm.findClass RX10 = some m.cls := hS0.2.2.2.1
  have hts := hS0.2.2.2.2
  unfold f_X10_count at hf
  refine lv_iload_n hx hb dX10_count_0 rfl (lv_at hl 1 rfl) ?_
  by_cases hc0 : v1 = 0
  · have hf := z_t hc0 hf
    refine lv_tableIn (tgt := 48) (off := 47) hx hb dX10_count_1 (by rw [hc0]; decide) (by rw [hc0]; decide) (by rw [hc0]; rfl) rfl ?_
    refine lv_aload_n hx hb dX10_count_48 rfl (lv_at hl 0 rfl) ?_
    refine z_get hS0 in_X10_count_X10 hK hw 0 4 rfl rfl rfl (by decide) (hts _ m_X10_count_0) (v := .ref (q ((o + 27) + 0))) rfl dX10_count_49 ?_
    obtain ⟨r1, e2, hf⟩ := z_bd hf
    refine z_callV1 (As := []) (rest := []) (bs' := [bX10 G q o, bX9 G q (o + 1) S.1.1 S.1.2.1 S.1.2.2.1 S.1.2.2.2.1 S.1.2.2.2.2, bX6 G q (o + 3) S.2.1.1 S.2.1.2, bX8 G q (o + 12) S.2.2.1.1 S.2.2.1.2, bX5 G q (o + 19) S.2.2.2.1.2.1 S.2.2.2.1.2.2.1 S.2.2.2.1.2.2.2.1 S.2.2.2.1.2.2.2.2, bX2 G q ((o + 19) + 2) S.2.2.2.1.1.1 S.2.2.2.1.1.2.1 S.2.2.2.1.1.2.2.1 S.2.2.2.1.1.2.2.2.1 S.2.2.2.1.1.2.2.2.2.1 S.2.2.2.1.1.2.2.2.2.2.1 S.2.2.2.1.1.2.2.2.2.2.2.1 S.2.2.2.1.1.2.2.2.2.2.2.2, bX2 G q (o + 27) S.2.2.2.2.1.1 S.2.2.2.2.1.2.1 S.2.2.2.2.1.2.2.1 S.2.2.2.2.1.2.2.2.1 S.2.2.2.2.1.2.2.2.2.1 S.2.2.2.2.1.2.2.2.2.2.1 S.2.2.2.2.1.2.2.2.2.2.2.1 S.2.2.2.2.1.2.2.2.2.2.2.2, bX1 G q (o + 33) S.2.2.2.2.2.1.1 S.2.2.2.2.2.1.2.1 S.2.2.2.2.2.1.2.2.1 S.2.2.2.2.2.1.2.2.2, bX4 G q (o + 36) S.2.2.2.2.2.2.1.1 S.2.2.2.2.2.2.1.2, bX3 G q (o + 38) S.2.2.2.2.2.2.2.1.1 S.2.2.2.2.2.2.2.1.2.1 S.2.2.2.2.2.2.2.1.2.2.1 S.2.2.2.2.2.2.2.1.2.2.2, bX0 G q (o + 43) S.2.2.2.2.2.2.2.2.1.2.2.1 S.2.2.2.2.2.2.2.2.1.2.2.2, bX2 G q ((o + 43) + 3) S.2.2.2.2.2.2.2.2.1.1.1 S.2.2.2.2.2.2.2.2.1.1.2.1 S.2.2.2.2.2.2.2.2.1.1.2.2.1 S.2.2.2.2.2.2.2.2.1.1.2.2.2.1 S.2.2.2.2.2.2.2.2.1.1.2.2.2.2.1 S.2.2.2.2.2.2.2.2.1.1.2.2.2.2.2.1 S.2.2.2.2.2.2.2.2.1.1.2.2.2.2.2.2.1 S.2.2.2.2.2.2.2.2.1.1.2.2.2.2.2.2.2, bX4 G q ((o + 43) + 9) S.2.2.2.2.2.2.2.2.1.2.1.1 S.2.2.2.2.2.2.2.2.1.2.1.2, bX7 G q (o + 54) S.2.2.2.2.2.2.2.2.2.1 S.2.2.2.2.2.2.2.2.2.2.1 S.2.2.2.2.2.2.2.2.2.2.2]) hS0 (c_X2_cells l G q (o + 27) S.2.2.2.2.1 r1 e2) zc_X2_cells rfl gX10_count_X2_cells ⟨Nat.le_of_ble_eq_true rfl, Nat.le_of_ble_eq_true rfl⟩ hK hA hT hw (is := [6]) rfl rfl rfl rfl rfl rfl rfl hl.1 rfl (Nat.le_of_ble_eq_true rfl) dX10_count_52 (fun H locs hw => ?_)
    cases hf
    exact z_iret hx hb hr hlk hw dX10_count_55
  · have hf := z_f hc0 hf
    by_cases hc1 : v1 = 1
    · have hf := z_t hc1 hf
      refine lv_tableIn (tgt := 56) (off := 55) hx hb dX10_count_1 (by rw [hc1]; decide) (by rw [hc1]; decide) (by rw [hc1]; rfl) rfl ?_
      refine lv_aload_n hx hb dX10_count_56 rfl (lv_at hl 0 rfl) ?_
      refine z_get hS0 in_X10_count_X10 hK hw 0 5 rfl rfl rfl (by decide) (hts _ m_X10_count_1) (v := .ref (q ((o + 33) + 0))) rfl dX10_count_57 ?_
      obtain ⟨r3, e4, hf⟩ := z_bd hf
      refine z_callV1 (As := []) (rest := []) (bs' := [bX10 G q o, bX9 G q (o + 1) S.1.1 S.1.2.1 S.1.2.2.1 S.1.2.2.2.1 S.1.2.2.2.2, bX6 G q (o + 3) S.2.1.1 S.2.1.2, bX8 G q (o + 12) S.2.2.1.1 S.2.2.1.2, bX5 G q (o + 19) S.2.2.2.1.2.1 S.2.2.2.1.2.2.1 S.2.2.2.1.2.2.2.1 S.2.2.2.1.2.2.2.2, bX2 G q ((o + 19) + 2) S.2.2.2.1.1.1 S.2.2.2.1.1.2.1 S.2.2.2.1.1.2.2.1 S.2.2.2.1.1.2.2.2.1 S.2.2.2.1.1.2.2.2.2.1 S.2.2.2.1.1.2.2.2.2.2.1 S.2.2.2.1.1.2.2.2.2.2.2.1 S.2.2.2.1.1.2.2.2.2.2.2.2, bX2 G q (o + 27) S.2.2.2.2.1.1 S.2.2.2.2.1.2.1 S.2.2.2.2.1.2.2.1 S.2.2.2.2.1.2.2.2.1 S.2.2.2.2.1.2.2.2.2.1 S.2.2.2.2.1.2.2.2.2.2.1 S.2.2.2.2.1.2.2.2.2.2.2.1 S.2.2.2.2.1.2.2.2.2.2.2.2, bX1 G q (o + 33) S.2.2.2.2.2.1.1 S.2.2.2.2.2.1.2.1 S.2.2.2.2.2.1.2.2.1 S.2.2.2.2.2.1.2.2.2, bX4 G q (o + 36) S.2.2.2.2.2.2.1.1 S.2.2.2.2.2.2.1.2, bX3 G q (o + 38) S.2.2.2.2.2.2.2.1.1 S.2.2.2.2.2.2.2.1.2.1 S.2.2.2.2.2.2.2.1.2.2.1 S.2.2.2.2.2.2.2.1.2.2.2, bX0 G q (o + 43) S.2.2.2.2.2.2.2.2.1.2.2.1 S.2.2.2.2.2.2.2.2.1.2.2.2, bX2 G q ((o + 43) + 3) S.2.2.2.2.2.2.2.2.1.1.1 S.2.2.2.2.2.2.2.2.1.1.2.1 S.2.2.2.2.2.2.2.2.1.1.2.2.1 S.2.2.2.2.2.2.2.2.1.1.2.2.2.1 S.2.2.2.2.2.2.2.2.1.1.2.2.2.2.1 S.2.2.2.2.2.2.2.2.1.1.2.2.2.2.2.1 S.2.2.2.2.2.2.2.2.1.1.2.2.2.2.2.2.1 S.2.2.2.2.2.2.2.2.1.1.2.2.2.2.2.2.2, bX4 G q ((o + 43) + 9) S.2.2.2.2.2.2.2.2.1.2.1.1 S.2.2.2.2.2.2.2.2.1.2.1.2, bX7 G q (o + 54) S.2.2.2.2.2.2.2.2.2.1 S.2.2.2.2.2.2.2.2.2.2.1 S.2.2.2.2.2.2.2.2.2.2.2]) hS0 (c_X1_howManyOut l G q (o + 33) S.2.2.2.2.2.1 r3 e4) zc_X1_howManyOut rfl gX10_count_X1_howManyOut ⟨Nat.le_of_ble_eq_true rfl, Nat.le_of_ble_eq_true rfl⟩ hK hA hT hw (is := [7]) rfl rfl rfl rfl rfl rfl rfl hl.1 rfl (Nat.le_of_ble_eq_true rfl) dX10_count_60 (fun H locs hw => ?_)
      cases hf
      exact z_iret hx hb hr hlk hw dX10_count_63
    · have hf := z_f hc1 hf
      by_cases hc2 : v1 = 2
      · have hf := z_t hc2 hf
        refine lv_tableIn (tgt := 64) (off := 63) hx hb dX10_count_1 (by rw [hc2]; decide) (by rw [hc2]; decide) (by rw [hc2]; rfl) rfl ?_
        refine lv_aload_n hx hb dX10_count_64 rfl (lv_at hl 0 rfl) ?_
        refine z_get hS0 in_X10_count_X10 hK hw 0 4 rfl rfl rfl (by decide) (hts _ m_X10_count_0) (v := .ref (q ((o + 27) + 0))) rfl dX10_count_65 ?_
        refine lv_iconst (v := 1) hx hb dX10_count_68 rfl ?_
        obtain ⟨r5, e6, hf⟩ := z_bd hf
        refine z_callV1 (As := [.int 1]) (rest := []) (bs' := [bX10 G q o, bX9 G q (o + 1) S.1.1 S.1.2.1 S.1.2.2.1 S.1.2.2.2.1 S.1.2.2.2.2, bX6 G q (o + 3) S.2.1.1 S.2.1.2, bX8 G q (o + 12) S.2.2.1.1 S.2.2.1.2, bX5 G q (o + 19) S.2.2.2.1.2.1 S.2.2.2.1.2.2.1 S.2.2.2.1.2.2.2.1 S.2.2.2.1.2.2.2.2, bX2 G q ((o + 19) + 2) S.2.2.2.1.1.1 S.2.2.2.1.1.2.1 S.2.2.2.1.1.2.2.1 S.2.2.2.1.1.2.2.2.1 S.2.2.2.1.1.2.2.2.2.1 S.2.2.2.1.1.2.2.2.2.2.1 S.2.2.2.1.1.2.2.2.2.2.2.1 S.2.2.2.1.1.2.2.2.2.2.2.2, bX2 G q (o + 27) S.2.2.2.2.1.1 S.2.2.2.2.1.2.1 S.2.2.2.2.1.2.2.1 S.2.2.2.2.1.2.2.2.1 S.2.2.2.2.1.2.2.2.2.1 S.2.2.2.2.1.2.2.2.2.2.1 S.2.2.2.2.1.2.2.2.2.2.2.1 S.2.2.2.2.1.2.2.2.2.2.2.2, bX1 G q (o + 33) S.2.2.2.2.2.1.1 S.2.2.2.2.2.1.2.1 S.2.2.2.2.2.1.2.2.1 S.2.2.2.2.2.1.2.2.2, bX4 G q (o + 36) S.2.2.2.2.2.2.1.1 S.2.2.2.2.2.2.1.2, bX3 G q (o + 38) S.2.2.2.2.2.2.2.1.1 S.2.2.2.2.2.2.2.1.2.1 S.2.2.2.2.2.2.2.1.2.2.1 S.2.2.2.2.2.2.2.1.2.2.2, bX0 G q (o + 43) S.2.2.2.2.2.2.2.2.1.2.2.1 S.2.2.2.2.2.2.2.2.1.2.2.2, bX2 G q ((o + 43) + 3) S.2.2.2.2.2.2.2.2.1.1.1 S.2.2.2.2.2.2.2.2.1.1.2.1 S.2.2.2.2.2.2.2.2.1.1.2.2.1 S.2.2.2.2.2.2.2.2.1.1.2.2.2.1 S.2.2.2.2.2.2.2.2.1.1.2.2.2.2.1 S.2.2.2.2.2.2.2.2.1.1.2.2.2.2.2.1 S.2.2.2.2.2.2.2.2.1.1.2.2.2.2.2.2.1 S.2.2.2.2.2.2.2.2.1.1.2.2.2.2.2.2.2, bX4 G q ((o + 43) + 9) S.2.2.2.2.2.2.2.2.1.2.1.1 S.2.2.2.2.2.2.2.2.1.2.1.2, bX7 G q (o + 54) S.2.2.2.2.2.2.2.2.2.1 S.2.2.2.2.2.2.2.2.2.2.1 S.2.2.2.2.2.2.2.2.2.2.2]) hS0 (c_X2_doorsOf l G q (o + 27) S.2.2.2.2.1 1 r5 e6) zc_X2_doorsOf rfl gX10_count_X2_doorsOf ⟨Nat.le_of_ble_eq_true rfl, Nat.le_of_ble_eq_true rfl⟩ hK hA hT hw (is := [6]) rfl rfl rfl rfl rfl rfl rfl hl.1 rfl (Nat.le_of_ble_eq_true rfl) dX10_count_69 (fun H locs hw => ?_)
        cases hf
        exact z_iret hx hb hr hlk hw dX10_count_72
      · have hf := z_f hc2 hf
        by_cases hc3 : v1 = 3
        · have hf := z_t hc3 hf
          refine lv_tableIn (tgt := 73) (off := 72) hx hb dX10_count_1 (by rw [hc3]; decide) (by rw [hc3]; decide) (by rw [hc3]; rfl) rfl ?_
          refine lv_aload_n hx hb dX10_count_73 rfl (lv_at hl 0 rfl) ?_
          refine z_get hS0 in_X10_count_X10 hK hw 0 4 rfl rfl rfl (by decide) (hts _ m_X10_count_0) (v := .ref (q ((o + 27) + 0))) rfl dX10_count_74 ?_
          refine lv_iconst (v := 3) hx hb dX10_count_77 rfl ?_
          obtain ⟨r7, e8, hf⟩ := z_bd hf
          refine z_callV1 (As := [.int 3]) (rest := []) (bs' := [bX10 G q o, bX9 G q (o + 1) S.1.1 S.1.2.1 S.1.2.2.1 S.1.2.2.2.1 S.1.2.2.2.2, bX6 G q (o + 3) S.2.1.1 S.2.1.2, bX8 G q (o + 12) S.2.2.1.1 S.2.2.1.2, bX5 G q (o + 19) S.2.2.2.1.2.1 S.2.2.2.1.2.2.1 S.2.2.2.1.2.2.2.1 S.2.2.2.1.2.2.2.2, bX2 G q ((o + 19) + 2) S.2.2.2.1.1.1 S.2.2.2.1.1.2.1 S.2.2.2.1.1.2.2.1 S.2.2.2.1.1.2.2.2.1 S.2.2.2.1.1.2.2.2.2.1 S.2.2.2.1.1.2.2.2.2.2.1 S.2.2.2.1.1.2.2.2.2.2.2.1 S.2.2.2.1.1.2.2.2.2.2.2.2, bX2 G q (o + 27) S.2.2.2.2.1.1 S.2.2.2.2.1.2.1 S.2.2.2.2.1.2.2.1 S.2.2.2.2.1.2.2.2.1 S.2.2.2.2.1.2.2.2.2.1 S.2.2.2.2.1.2.2.2.2.2.1 S.2.2.2.2.1.2.2.2.2.2.2.1 S.2.2.2.2.1.2.2.2.2.2.2.2, bX1 G q (o + 33) S.2.2.2.2.2.1.1 S.2.2.2.2.2.1.2.1 S.2.2.2.2.2.1.2.2.1 S.2.2.2.2.2.1.2.2.2, bX4 G q (o + 36) S.2.2.2.2.2.2.1.1 S.2.2.2.2.2.2.1.2, bX3 G q (o + 38) S.2.2.2.2.2.2.2.1.1 S.2.2.2.2.2.2.2.1.2.1 S.2.2.2.2.2.2.2.1.2.2.1 S.2.2.2.2.2.2.2.1.2.2.2, bX0 G q (o + 43) S.2.2.2.2.2.2.2.2.1.2.2.1 S.2.2.2.2.2.2.2.2.1.2.2.2, bX2 G q ((o + 43) + 3) S.2.2.2.2.2.2.2.2.1.1.1 S.2.2.2.2.2.2.2.2.1.1.2.1 S.2.2.2.2.2.2.2.2.1.1.2.2.1 S.2.2.2.2.2.2.2.2.1.1.2.2.2.1 S.2.2.2.2.2.2.2.2.1.1.2.2.2.2.1 S.2.2.2.2.2.2.2.2.1.1.2.2.2.2.2.1 S.2.2.2.2.2.2.2.2.1.1.2.2.2.2.2.2.1 S.2.2.2.2.2.2.2.2.1.1.2.2.2.2.2.2.2, bX4 G q ((o + 43) + 9) S.2.2.2.2.2.2.2.2.1.2.1.1 S.2.2.2.2.2.2.2.2.1.2.1.2, bX7 G q (o + 54) S.2.2.2.2.2.2.2.2.2.1 S.2.2.2.2.2.2.2.2.2.2.1 S.2.2.2.2.2.2.2.2.2.2.2]) hS0 (c_X2_doorsOf l G q (o + 27) S.2.2.2.2.1 3 r7 e8) zc_X2_doorsOf rfl gX10_count_X2_doorsOf ⟨Nat.le_of_ble_eq_true rfl, Nat.le_of_ble_eq_true rfl⟩ hK hA hT hw (is := [6]) rfl rfl rfl rfl rfl rfl rfl hl.1 rfl (Nat.le_of_ble_eq_true rfl) dX10_count_78 (fun H locs hw => ?_)
          cases hf
          exact z_iret hx hb hr hlk hw dX10_count_81
        · have hf := z_f hc3 hf
          by_cases hc4 : v1 = 4
          · have hf := z_t hc4 hf
            refine lv_tableIn (tgt := 82) (off := 81) hx hb dX10_count_1 (by rw [hc4]; decide) (by rw [hc4]; decide) (by rw [hc4]; rfl) rfl ?_
            refine lv_aload_n hx hb dX10_count_82 rfl (lv_at hl 0 rfl) ?_
            refine z_get hS0 in_X10_count_X10 hK hw 0 4 rfl rfl rfl (by decide) (hts _ m_X10_count_0) (v := .ref (q ((o + 27) + 0))) rfl dX10_count_83 ?_
            obtain ⟨r9, e10, hf⟩ := z_bd hf
            refine z_callV1 (As := []) (rest := []) (bs' := [bX10 G q o, bX9 G q (o + 1) S.1.1 S.1.2.1 S.1.2.2.1 S.1.2.2.2.1 S.1.2.2.2.2, bX6 G q (o + 3) S.2.1.1 S.2.1.2, bX8 G q (o + 12) S.2.2.1.1 S.2.2.1.2, bX5 G q (o + 19) S.2.2.2.1.2.1 S.2.2.2.1.2.2.1 S.2.2.2.1.2.2.2.1 S.2.2.2.1.2.2.2.2, bX2 G q ((o + 19) + 2) S.2.2.2.1.1.1 S.2.2.2.1.1.2.1 S.2.2.2.1.1.2.2.1 S.2.2.2.1.1.2.2.2.1 S.2.2.2.1.1.2.2.2.2.1 S.2.2.2.1.1.2.2.2.2.2.1 S.2.2.2.1.1.2.2.2.2.2.2.1 S.2.2.2.1.1.2.2.2.2.2.2.2, bX2 G q (o + 27) S.2.2.2.2.1.1 S.2.2.2.2.1.2.1 S.2.2.2.2.1.2.2.1 S.2.2.2.2.1.2.2.2.1 S.2.2.2.2.1.2.2.2.2.1 S.2.2.2.2.1.2.2.2.2.2.1 S.2.2.2.2.1.2.2.2.2.2.2.1 S.2.2.2.2.1.2.2.2.2.2.2.2, bX1 G q (o + 33) S.2.2.2.2.2.1.1 S.2.2.2.2.2.1.2.1 S.2.2.2.2.2.1.2.2.1 S.2.2.2.2.2.1.2.2.2, bX4 G q (o + 36) S.2.2.2.2.2.2.1.1 S.2.2.2.2.2.2.1.2, bX3 G q (o + 38) S.2.2.2.2.2.2.2.1.1 S.2.2.2.2.2.2.2.1.2.1 S.2.2.2.2.2.2.2.1.2.2.1 S.2.2.2.2.2.2.2.1.2.2.2, bX0 G q (o + 43) S.2.2.2.2.2.2.2.2.1.2.2.1 S.2.2.2.2.2.2.2.2.1.2.2.2, bX2 G q ((o + 43) + 3) S.2.2.2.2.2.2.2.2.1.1.1 S.2.2.2.2.2.2.2.2.1.1.2.1 S.2.2.2.2.2.2.2.2.1.1.2.2.1 S.2.2.2.2.2.2.2.2.1.1.2.2.2.1 S.2.2.2.2.2.2.2.2.1.1.2.2.2.2.1 S.2.2.2.2.2.2.2.2.1.1.2.2.2.2.2.1 S.2.2.2.2.2.2.2.2.1.1.2.2.2.2.2.2.1 S.2.2.2.2.2.2.2.2.1.1.2.2.2.2.2.2.2, bX4 G q ((o + 43) + 9) S.2.2.2.2.2.2.2.2.1.2.1.1 S.2.2.2.2.2.2.2.2.1.2.1.2, bX7 G q (o + 54) S.2.2.2.2.2.2.2.2.2.1 S.2.2.2.2.2.2.2.2.2.2.1 S.2.2.2.2.2.2.2.2.2.2.2]) hS0 (c_X2_quarrels l G q (o + 27) S.2.2.2.2.1 r9 e10) zc_X2_quarrels rfl gX10_count_X2_quarrels ⟨Nat.le_of_ble_eq_true rfl, Nat.le_of_ble_eq_true rfl⟩ hK hA hT hw (is := [6]) rfl rfl rfl rfl rfl rfl rfl hl.1 rfl (Nat.le_of_ble_eq_true rfl) dX10_count_86 (fun H locs hw => ?_)
            cases hf
            exact z_iret hx hb hr hlk hw dX10_count_89
          · have hf := z_f hc4 hf
            by_cases hc5 : v1 = 5
            · have hf := z_t hc5 hf
              refine lv_tableIn (tgt := 90) (off := 89) hx hb dX10_count_1 (by rw [hc5]; decide) (by rw [hc5]; decide) (by rw [hc5]; rfl) rfl ?_
              refine lv_aload_n hx hb dX10_count_90 rfl (lv_at hl 0 rfl) ?_
              refine z_get hS0 in_X10_count_X10 hK hw 0 9 rfl rfl rfl (by decide) (hts _ m_X10_count_2) (v := .ref (q ((o + 54) + 0))) rfl dX10_count_91 ?_
              obtain ⟨r11, e12, hf⟩ := z_bd hf
              refine z_callV1 (As := []) (rest := []) (bs' := [bX10 G q o, bX9 G q (o + 1) S.1.1 S.1.2.1 S.1.2.2.1 S.1.2.2.2.1 S.1.2.2.2.2, bX6 G q (o + 3) S.2.1.1 S.2.1.2, bX8 G q (o + 12) S.2.2.1.1 S.2.2.1.2, bX5 G q (o + 19) S.2.2.2.1.2.1 S.2.2.2.1.2.2.1 S.2.2.2.1.2.2.2.1 S.2.2.2.1.2.2.2.2, bX2 G q ((o + 19) + 2) S.2.2.2.1.1.1 S.2.2.2.1.1.2.1 S.2.2.2.1.1.2.2.1 S.2.2.2.1.1.2.2.2.1 S.2.2.2.1.1.2.2.2.2.1 S.2.2.2.1.1.2.2.2.2.2.1 S.2.2.2.1.1.2.2.2.2.2.2.1 S.2.2.2.1.1.2.2.2.2.2.2.2, bX2 G q (o + 27) S.2.2.2.2.1.1 S.2.2.2.2.1.2.1 S.2.2.2.2.1.2.2.1 S.2.2.2.2.1.2.2.2.1 S.2.2.2.2.1.2.2.2.2.1 S.2.2.2.2.1.2.2.2.2.2.1 S.2.2.2.2.1.2.2.2.2.2.2.1 S.2.2.2.2.1.2.2.2.2.2.2.2, bX1 G q (o + 33) S.2.2.2.2.2.1.1 S.2.2.2.2.2.1.2.1 S.2.2.2.2.2.1.2.2.1 S.2.2.2.2.2.1.2.2.2, bX4 G q (o + 36) S.2.2.2.2.2.2.1.1 S.2.2.2.2.2.2.1.2, bX3 G q (o + 38) S.2.2.2.2.2.2.2.1.1 S.2.2.2.2.2.2.2.1.2.1 S.2.2.2.2.2.2.2.1.2.2.1 S.2.2.2.2.2.2.2.1.2.2.2, bX0 G q (o + 43) S.2.2.2.2.2.2.2.2.1.2.2.1 S.2.2.2.2.2.2.2.2.1.2.2.2, bX2 G q ((o + 43) + 3) S.2.2.2.2.2.2.2.2.1.1.1 S.2.2.2.2.2.2.2.2.1.1.2.1 S.2.2.2.2.2.2.2.2.1.1.2.2.1 S.2.2.2.2.2.2.2.2.1.1.2.2.2.1 S.2.2.2.2.2.2.2.2.1.1.2.2.2.2.1 S.2.2.2.2.2.2.2.2.1.1.2.2.2.2.2.1 S.2.2.2.2.2.2.2.2.1.1.2.2.2.2.2.2.1 S.2.2.2.2.2.2.2.2.1.1.2.2.2.2.2.2.2, bX4 G q ((o + 43) + 9) S.2.2.2.2.2.2.2.2.1.2.1.1 S.2.2.2.2.2.2.2.2.1.2.1.2, bX7 G q (o + 54) S.2.2.2.2.2.2.2.2.2.1 S.2.2.2.2.2.2.2.2.2.2.1 S.2.2.2.2.2.2.2.2.2.2.2]) hS0 (c_X7_size l G q (o + 54) S.2.2.2.2.2.2.2.2.2 r11 e12) zc_X7_size rfl gX10_count_X7_size ⟨Nat.le_of_ble_eq_true rfl, Nat.le_of_ble_eq_true rfl⟩ hK hA hT hw (is := [13]) rfl rfl rfl rfl rfl rfl rfl hl.1 rfl (Nat.le_of_ble_eq_true rfl) dX10_count_94 (fun H locs hw => ?_)
              cases hf
              exact z_iret hx hb hr hlk hw dX10_count_97
            · have hf := z_f hc5 hf
              by_cases hc6 : v1 = 6
              · have hf := z_t hc6 hf
                refine lv_tableIn (tgt := 98) (off := 97) hx hb dX10_count_1 (by rw [hc6]; decide) (by rw [hc6]; decide) (by rw [hc6]; rfl) rfl ?_
                refine lv_aload_n hx hb dX10_count_98 rfl (lv_at hl 0 rfl) ?_
                refine z_get hS0 in_X10_count_X10 hK hw 0 1 rfl rfl rfl (by decide) (hts _ m_X10_count_3) (v := .ref (q ((o + 3) + 0))) rfl dX10_count_99 ?_
                obtain ⟨r13, e14, hf⟩ := z_bd hf
                refine z_callV1 (As := []) (rest := []) (bs' := [bX10 G q o, bX9 G q (o + 1) S.1.1 S.1.2.1 S.1.2.2.1 S.1.2.2.2.1 S.1.2.2.2.2, bX6 G q (o + 3) S.2.1.1 S.2.1.2, bX8 G q (o + 12) S.2.2.1.1 S.2.2.1.2, bX5 G q (o + 19) S.2.2.2.1.2.1 S.2.2.2.1.2.2.1 S.2.2.2.1.2.2.2.1 S.2.2.2.1.2.2.2.2, bX2 G q ((o + 19) + 2) S.2.2.2.1.1.1 S.2.2.2.1.1.2.1 S.2.2.2.1.1.2.2.1 S.2.2.2.1.1.2.2.2.1 S.2.2.2.1.1.2.2.2.2.1 S.2.2.2.1.1.2.2.2.2.2.1 S.2.2.2.1.1.2.2.2.2.2.2.1 S.2.2.2.1.1.2.2.2.2.2.2.2, bX2 G q (o + 27) S.2.2.2.2.1.1 S.2.2.2.2.1.2.1 S.2.2.2.2.1.2.2.1 S.2.2.2.2.1.2.2.2.1 S.2.2.2.2.1.2.2.2.2.1 S.2.2.2.2.1.2.2.2.2.2.1 S.2.2.2.2.1.2.2.2.2.2.2.1 S.2.2.2.2.1.2.2.2.2.2.2.2, bX1 G q (o + 33) S.2.2.2.2.2.1.1 S.2.2.2.2.2.1.2.1 S.2.2.2.2.2.1.2.2.1 S.2.2.2.2.2.1.2.2.2, bX4 G q (o + 36) S.2.2.2.2.2.2.1.1 S.2.2.2.2.2.2.1.2, bX3 G q (o + 38) S.2.2.2.2.2.2.2.1.1 S.2.2.2.2.2.2.2.1.2.1 S.2.2.2.2.2.2.2.1.2.2.1 S.2.2.2.2.2.2.2.1.2.2.2, bX0 G q (o + 43) S.2.2.2.2.2.2.2.2.1.2.2.1 S.2.2.2.2.2.2.2.2.1.2.2.2, bX2 G q ((o + 43) + 3) S.2.2.2.2.2.2.2.2.1.1.1 S.2.2.2.2.2.2.2.2.1.1.2.1 S.2.2.2.2.2.2.2.2.1.1.2.2.1 S.2.2.2.2.2.2.2.2.1.1.2.2.2.1 S.2.2.2.2.2.2.2.2.1.1.2.2.2.2.1 S.2.2.2.2.2.2.2.2.1.1.2.2.2.2.2.1 S.2.2.2.2.2.2.2.2.1.1.2.2.2.2.2.2.1 S.2.2.2.2.2.2.2.2.1.1.2.2.2.2.2.2.2, bX4 G q ((o + 43) + 9) S.2.2.2.2.2.2.2.2.1.2.1.1 S.2.2.2.2.2.2.2.2.1.2.1.2, bX7 G q (o + 54) S.2.2.2.2.2.2.2.2.2.1 S.2.2.2.2.2.2.2.2.2.2.1 S.2.2.2.2.2.2.2.2.2.2.2]) hS0 (c_X6_howMany l G q (o + 3) S.2.1 r13 e14) zc_X6_howMany rfl gX10_count_X6_howMany ⟨Nat.le_of_ble_eq_true rfl, Nat.le_of_ble_eq_true rfl⟩ hK hA hT hw (is := [2]) rfl rfl rfl rfl rfl rfl rfl hl.1 rfl (Nat.le_of_ble_eq_true rfl) dX10_count_102 (fun H locs hw => ?_)
                cases hf
                exact z_iret hx hb hr hlk hw dX10_count_105
              · have hf := z_f hc6 hf
                by_cases hc7 : v1 = 7
                · have hf := z_t hc7 hf
                  refine lv_tableIn (tgt := 106) (off := 105) hx hb dX10_count_1 (by rw [hc7]; decide) (by rw [hc7]; decide) (by rw [hc7]; rfl) rfl ?_
                  refine lv_aload_n hx hb dX10_count_106 rfl (lv_at hl 0 rfl) ?_
                  refine z_get hS0 in_X10_count_X10 hK hw 0 2 rfl rfl rfl (by decide) (hts _ m_X10_count_4) (v := .ref (q ((o + 12) + 0))) rfl dX10_count_107 ?_
                  obtain ⟨r15, e16, hf⟩ := z_bd hf
                  refine z_callV1 (As := []) (rest := []) (bs' := [bX10 G q o, bX9 G q (o + 1) S.1.1 S.1.2.1 S.1.2.2.1 S.1.2.2.2.1 S.1.2.2.2.2, bX6 G q (o + 3) S.2.1.1 S.2.1.2, bX8 G q (o + 12) S.2.2.1.1 S.2.2.1.2, bX5 G q (o + 19) S.2.2.2.1.2.1 S.2.2.2.1.2.2.1 S.2.2.2.1.2.2.2.1 S.2.2.2.1.2.2.2.2, bX2 G q ((o + 19) + 2) S.2.2.2.1.1.1 S.2.2.2.1.1.2.1 S.2.2.2.1.1.2.2.1 S.2.2.2.1.1.2.2.2.1 S.2.2.2.1.1.2.2.2.2.1 S.2.2.2.1.1.2.2.2.2.2.1 S.2.2.2.1.1.2.2.2.2.2.2.1 S.2.2.2.1.1.2.2.2.2.2.2.2, bX2 G q (o + 27) S.2.2.2.2.1.1 S.2.2.2.2.1.2.1 S.2.2.2.2.1.2.2.1 S.2.2.2.2.1.2.2.2.1 S.2.2.2.2.1.2.2.2.2.1 S.2.2.2.2.1.2.2.2.2.2.1 S.2.2.2.2.1.2.2.2.2.2.2.1 S.2.2.2.2.1.2.2.2.2.2.2.2, bX1 G q (o + 33) S.2.2.2.2.2.1.1 S.2.2.2.2.2.1.2.1 S.2.2.2.2.2.1.2.2.1 S.2.2.2.2.2.1.2.2.2, bX4 G q (o + 36) S.2.2.2.2.2.2.1.1 S.2.2.2.2.2.2.1.2, bX3 G q (o + 38) S.2.2.2.2.2.2.2.1.1 S.2.2.2.2.2.2.2.1.2.1 S.2.2.2.2.2.2.2.1.2.2.1 S.2.2.2.2.2.2.2.1.2.2.2, bX0 G q (o + 43) S.2.2.2.2.2.2.2.2.1.2.2.1 S.2.2.2.2.2.2.2.2.1.2.2.2, bX2 G q ((o + 43) + 3) S.2.2.2.2.2.2.2.2.1.1.1 S.2.2.2.2.2.2.2.2.1.1.2.1 S.2.2.2.2.2.2.2.2.1.1.2.2.1 S.2.2.2.2.2.2.2.2.1.1.2.2.2.1 S.2.2.2.2.2.2.2.2.1.1.2.2.2.2.1 S.2.2.2.2.2.2.2.2.1.1.2.2.2.2.2.1 S.2.2.2.2.2.2.2.2.1.1.2.2.2.2.2.2.1 S.2.2.2.2.2.2.2.2.1.1.2.2.2.2.2.2.2, bX4 G q ((o + 43) + 9) S.2.2.2.2.2.2.2.2.1.2.1.1 S.2.2.2.2.2.2.2.2.1.2.1.2, bX7 G q (o + 54) S.2.2.2.2.2.2.2.2.2.1 S.2.2.2.2.2.2.2.2.2.2.1 S.2.2.2.2.2.2.2.2.2.2.2]) hS0 (c_X8_howMany l G q (o + 12) S.2.2.1 r15 e16) zc_X8_howMany rfl gX10_count_X8_howMany ⟨Nat.le_of_ble_eq_true rfl, Nat.le_of_ble_eq_true rfl⟩ hK hA hT hw (is := [3]) rfl rfl rfl rfl rfl rfl rfl hl.1 rfl (Nat.le_of_ble_eq_true rfl) dX10_count_110 (fun H locs hw => ?_)
                  cases hf
                  exact z_iret hx hb hr hlk hw dX10_count_113
                · have hf := z_f hc7 hf
                  refine z_dflt (tgt := 114) hx hb [0, 1, 2, 3, 4, 5, 6, 7] dX10_count_1 (by decide) (by decide) (List.forall_mem_cons.mpr ⟨z_ne rfl hc0, (List.forall_mem_cons.mpr ⟨z_ne rfl hc1, (List.forall_mem_cons.mpr ⟨z_ne rfl hc2, (List.forall_mem_cons.mpr ⟨z_ne rfl hc3, (List.forall_mem_cons.mpr ⟨z_ne rfl hc4, (List.forall_mem_cons.mpr ⟨z_ne rfl hc5, (List.forall_mem_cons.mpr ⟨z_ne rfl hc6, (List.forall_mem_cons.mpr ⟨z_ne rfl hc7, (fun _ h => absurd h List.not_mem_nil)⟩)⟩)⟩)⟩)⟩)⟩)⟩)⟩) rfl ?_
                  refine lv_iconst (v := (-1)) hx hb dX10_count_114 rfl ?_
                  cases hf
                  exact z_iret hx hb hr hlk hw dX10_count_115
theorem zc_X10_isFavours : zC yX10_isFavours wsX10_isFavours cX10_isFavours 1 (some .boolean) 1 := ⟨⟨_, rfl⟩, by decide +kernel, by decide +kernel, by decide +kernel, by decide +kernel⟩
set_option maxHeartbeats 4000000 in
set_option maxRecDepth 100000 in
theorem c_X10_isFavours (l : Launch) (G : zG)   (v0 : Int32) (y : Int32) (hf : f_X10_isFavours v0 = some y) : zMet l yX10_isFavours wsX10_isFavours 0 0 G [.int v0] [] (some (.int y)) [] := by
  refine z_met zc_X10_isFavours (Nat.le_of_ble_eq_true rfl) ?_
  intro p e s m below meth c A ls hZ hl hw
  have hl : lv_has ls 1 [(0, .int v0)] := hl
  obtain ⟨hS0, hr, hlk, hK, hA, hT⟩ := id hZ
  have hx := hS0.1
  have hb := hS0.2.1
  have hml := hS0.2.2.1
  have hown : s.vm.findClass RX10 = some m.cls := hS0.2.2.2.1
  have hts := hS0.2.2.2.2
  unfold f_X10_isFavours at hf
  refine lv_iload_n hx hb dX10_isFavours_0 rfl (lv_at hl 0 rfl) ?_
  refine lv_if_lt (tgt := 14) hx hb dX10_isFavours_1 rfl (fun hc => ?_) (fun hc => ?_)
  · have hf := z_t hc hf
    refine lv_iconst (v := 0) hx hb dX10_isFavours_14 rfl ?_
    cases hf
    exact z_zret hx hb hr (z_nb (Or.inl rfl)) hlk hw dX10_isFavours_15
  · have hf := z_f hc hf
    refine lv_iload_n hx hb dX10_isFavours_4 rfl (lv_at hl 0 rfl) ?_
    refine lv_bipush (v := 99) hx hb dX10_isFavours_5 rfl ?_
    refine lv_icmp_gt (tgt := 14) hx hb dX10_isFavours_7 rfl (fun hc => ?_) (fun hc => ?_)
    · have hf := z_t hc hf
      refine lv_iconst (v := 0) hx hb dX10_isFavours_14 rfl ?_
      cases hf
      exact z_zret hx hb hr (z_nb (Or.inl rfl)) hlk hw dX10_isFavours_15
    · have hf := z_f hc hf
      refine lv_iconst (v := 1) hx hb dX10_isFavours_10 rfl ?_
      refine lv_goto (tgt := 15) hx hb dX10_isFavours_11 rfl ?_
      cases hf
      exact z_zret hx hb hr (z_nb (Or.inr rfl)) hlk hw dX10_isFavours_15
theorem zc_X10_reachAll : zC yX10_reachAll wsX10_reachAll cX10_reachAll 1 none 0 := ⟨⟨_, rfl⟩, by decide +kernel, by decide +kernel, by decide +kernel, by decide +kernel⟩
theorem m_X10_reachAll_0 : (.fieldLink RX10 54 "CellKeys" "reach" "LCellKeys$Reach;" : Cond) ∈ wsX10_reachAll := by decide +kernel
theorem in_X10_reachAll_X10 : ∀ w ∈ u_ws RX10 TX10 10, w ∈ wsX10_reachAll := by decide +kernel
theorem m_X10_reachAll_1 : (.fieldLink RX10 40 "CellKeys" "jail" "LCellKeys$Jail;" : Cond) ∈ wsX10_reachAll := by decide +kernel
set_option maxHeartbeats 4000000 in
set_option maxRecDepth 100000 in
theorem c_X10_reachAll (l : Launch) (G : zG) (q : Nat → Nat) (o : Nat) (S : VX10)  (y : VX10) (hf : f_X10_reachAll S = some y) : zMet l yX10_reachAll wsX10_reachAll 4 107 G [.ref (q (o + 0))] [bX10 G q o, bX9 G q (o + 1) S.1.1 S.1.2.1 S.1.2.2.1 S.1.2.2.2.1 S.1.2.2.2.2, bX6 G q (o + 3) S.2.1.1 S.2.1.2, bX8 G q (o + 12) S.2.2.1.1 S.2.2.1.2, bX5 G q (o + 19) S.2.2.2.1.2.1 S.2.2.2.1.2.2.1 S.2.2.2.1.2.2.2.1 S.2.2.2.1.2.2.2.2, bX2 G q ((o + 19) + 2) S.2.2.2.1.1.1 S.2.2.2.1.1.2.1 S.2.2.2.1.1.2.2.1 S.2.2.2.1.1.2.2.2.1 S.2.2.2.1.1.2.2.2.2.1 S.2.2.2.1.1.2.2.2.2.2.1 S.2.2.2.1.1.2.2.2.2.2.2.1 S.2.2.2.1.1.2.2.2.2.2.2.2, bX2 G q (o + 27) S.2.2.2.2.1.1 S.2.2.2.2.1.2.1 S.2.2.2.2.1.2.2.1 S.2.2.2.2.1.2.2.2.1 S.2.2.2.2.1.2.2.2.2.1 S.2.2.2.2.1.2.2.2.2.2.1 S.2.2.2.2.1.2.2.2.2.2.2.1 S.2.2.2.2.1.2.2.2.2.2.2.2, bX1 G q (o + 33) S.2.2.2.2.2.1.1 S.2.2.2.2.2.1.2.1 S.2.2.2.2.2.1.2.2.1 S.2.2.2.2.2.1.2.2.2, bX4 G q (o + 36) S.2.2.2.2.2.2.1.1 S.2.2.2.2.2.2.1.2, bX3 G q (o + 38) S.2.2.2.2.2.2.2.1.1 S.2.2.2.2.2.2.2.1.2.1 S.2.2.2.2.2.2.2.1.2.2.1 S.2.2.2.2.2.2.2.1.2.2.2, bX0 G q (o + 43) S.2.2.2.2.2.2.2.2.1.2.2.1 S.2.2.2.2.2.2.2.2.1.2.2.2, bX2 G q ((o + 43) + 3) S.2.2.2.2.2.2.2.2.1.1.1 S.2.2.2.2.2.2.2.2.1.1.2.1 S.2.2.2.2.2.2.2.2.1.1.2.2.1 S.2.2.2.2.2.2.2.2.1.1.2.2.2.1 S.2.2.2.2.2.2.2.2.1.1.2.2.2.2.1 S.2.2.2.2.2.2.2.2.1.1.2.2.2.2.2.1 S.2.2.2.2.2.2.2.2.1.1.2.2.2.2.2.2.1 S.2.2.2.2.2.2.2.2.1.1.2.2.2.2.2.2.2, bX4 G q ((o + 43) + 9) S.2.2.2.2.2.2.2.2.1.2.1.1 S.2.2.2.2.2.2.2.2.1.2.1.2, bX7 G q (o + 54) S.2.2.2.2.2.2.2.2.2.1 S.2.2.2.2.2.2.2.2.2.2.1 S.2.2.2.2.2.2.2.2.2.2.2] none [bX10 G q o, bX9 G q (o + 1) y.1.1 y.1.2.1 y.1.2.2.1 y.1.2.2.2.1 y.1.2.2.2.2, bX6 G q (o + 3) y.2.1.1 y.2.1.2, bX8 G q (o + 12) y.2.2.1.1 y.2.2.1.2, bX5 G q (o + 19) y.2.2.2.1.2.1 y.2.2.2.1.2.2.1 y.2.2.2.1.2.2.2.1 y.2.2.2.1.2.2.2.2, bX2 G q ((o + 19) + 2) y.2.2.2.1.1.1 y.2.2.2.1.1.2.1 y.2.2.2.1.1.2.2.1 y.2.2.2.1.1.2.2.2.1 y.2.2.2.1.1.2.2.2.2.1 y.2.2.2.1.1.2.2.2.2.2.1 y.2.2.2.1.1.2.2.2.2.2.2.1 y.2.2.2.1.1.2.2.2.2.2.2.2, bX2 G q (o + 27) y.2.2.2.2.1.1 y.2.2.2.2.1.2.1 y.2.2.2.2.1.2.2.1 y.2.2.2.2.1.2.2.2.1 y.2.2.2.2.1.2.2.2.2.1 y.2.2.2.2.1.2.2.2.2.2.1 y.2.2.2.2.1.2.2.2.2.2.2.1 y.2.2.2.2.1.2.2.2.2.2.2.2, bX1 G q (o + 33) y.2.2.2.2.2.1.1 y.2.2.2.2.2.1.2.1 y.2.2.2.2.2.1.2.2.1 y.2.2.2.2.2.1.2.2.2, bX4 G q (o + 36) y.2.2.2.2.2.2.1.1 y.2.2.2.2.2.2.1.2, bX3 G q (o + 38) y.2.2.2.2.2.2.2.1.1 y.2.2.2.2.2.2.2.1.2.1 y.2.2.2.2.2.2.2.1.2.2.1 y.2.2.2.2.2.2.2.1.2.2.2, bX0 G q (o + 43) y.2.2.2.2.2.2.2.2.1.2.2.1 y.2.2.2.2.2.2.2.2.1.2.2.2, bX2 G q ((o + 43) + 3) y.2.2.2.2.2.2.2.2.1.1.1 y.2.2.2.2.2.2.2.2.1.1.2.1 y.2.2.2.2.2.2.2.2.1.1.2.2.1 y.2.2.2.2.2.2.2.2.1.1.2.2.2.1 y.2.2.2.2.2.2.2.2.1.1.2.2.2.2.1 y.2.2.2.2.2.2.2.2.1.1.2.2.2.2.2.1 y.2.2.2.2.2.2.2.2.1.1.2.2.2.2.2.2.1 y.2.2.2.2.2.2.2.2.1.1.2.2.2.2.2.2.2, bX4 G q ((o + 43) + 9) y.2.2.2.2.2.2.2.2.1.2.1.1 y.2.2.2.2.2.2.2.2.1.2.1.2, bX7 G q (o + 54) y.2.2.2.2.2.2.2.2.2.1 y.2.2.2.2.2.2.2.2.2.2.1 y.2.2.2.2.2.2.2.2.2.2.2] := by
  refine z_met zc_X10_reachAll (Nat.le_of_ble_eq_true rfl) ?_
  intro p e s m below meth c A ls hZ hl hw
  have hl : lv_has ls 1 [(0, .ref (q (o + 0)))] := hl
  obtain ⟨hS0, hr, hlk, hK, hA, hT⟩ := id hZ
  have hx := hS0.1
  have hb := hS0.2.1
  have hml := hS0.2.2.1
  have hown : s.vm.findClass RX10 = some m.cls := hS0.2.2.2.1
  have hts := hS0.2.2.2.2
  unfold f_X10_reachAll at hf
  refine lv_aload_n hx hb dX10_reachAll_0 rfl (lv_at hl 0 rfl) ?_
  refine z_get hS0 in_X10_reachAll_X10 hK hw 0 6 rfl rfl rfl (by decide) (hts _ m_X10_reachAll_0) (v := .ref (q ((o + 36) + 0))) rfl dX10_reachAll_1 ?_
  refine lv_aload_n hx hb dX10_reachAll_4 rfl (lv_at hl 0 rfl) ?_
  refine z_get hS0 in_X10_reachAll_X10 hK hw 0 4 rfl rfl rfl (by decide) (hts _ m_X10_reachAll_1) (v := .ref (q ((o + 27) + 0))) rfl dX10_reachAll_5 ?_
  refine lv_aload_n hx hb dX10_reachAll_8 rfl (lv_at hl 0 rfl) ?_
  refine z_get hS0 in_X10_reachAll_X10 hK hw 0 4 rfl rfl rfl (by decide) (hts _ m_X10_reachAll_1) (v := .ref (q ((o + 27) + 0))) rfl dX10_reachAll_9 ?_
  obtain ⟨r1, e2, hf⟩ := z_bd hf
  refine z_callV1 (As := []) (rest := [.ref (q ((o + 27) + 0)), .ref (q ((o + 36) + 0))]) (bs' := [bX10 G q o, bX9 G q (o + 1) S.1.1 S.1.2.1 S.1.2.2.1 S.1.2.2.2.1 S.1.2.2.2.2, bX6 G q (o + 3) S.2.1.1 S.2.1.2, bX8 G q (o + 12) S.2.2.1.1 S.2.2.1.2, bX5 G q (o + 19) S.2.2.2.1.2.1 S.2.2.2.1.2.2.1 S.2.2.2.1.2.2.2.1 S.2.2.2.1.2.2.2.2, bX2 G q ((o + 19) + 2) S.2.2.2.1.1.1 S.2.2.2.1.1.2.1 S.2.2.2.1.1.2.2.1 S.2.2.2.1.1.2.2.2.1 S.2.2.2.1.1.2.2.2.2.1 S.2.2.2.1.1.2.2.2.2.2.1 S.2.2.2.1.1.2.2.2.2.2.2.1 S.2.2.2.1.1.2.2.2.2.2.2.2, bX2 G q (o + 27) S.2.2.2.2.1.1 S.2.2.2.2.1.2.1 S.2.2.2.2.1.2.2.1 S.2.2.2.2.1.2.2.2.1 S.2.2.2.2.1.2.2.2.2.1 S.2.2.2.2.1.2.2.2.2.2.1 S.2.2.2.2.1.2.2.2.2.2.2.1 S.2.2.2.2.1.2.2.2.2.2.2.2, bX1 G q (o + 33) S.2.2.2.2.2.1.1 S.2.2.2.2.2.1.2.1 S.2.2.2.2.2.1.2.2.1 S.2.2.2.2.2.1.2.2.2, bX4 G q (o + 36) S.2.2.2.2.2.2.1.1 S.2.2.2.2.2.2.1.2, bX3 G q (o + 38) S.2.2.2.2.2.2.2.1.1 S.2.2.2.2.2.2.2.1.2.1 S.2.2.2.2.2.2.2.1.2.2.1 S.2.2.2.2.2.2.2.1.2.2.2, bX0 G q (o + 43) S.2.2.2.2.2.2.2.2.1.2.2.1 S.2.2.2.2.2.2.2.2.1.2.2.2, bX2 G q ((o + 43) + 3) S.2.2.2.2.2.2.2.2.1.1.1 S.2.2.2.2.2.2.2.2.1.1.2.1 S.2.2.2.2.2.2.2.2.1.1.2.2.1 S.2.2.2.2.2.2.2.2.1.1.2.2.2.1 S.2.2.2.2.2.2.2.2.1.1.2.2.2.2.1 S.2.2.2.2.2.2.2.2.1.1.2.2.2.2.2.1 S.2.2.2.2.2.2.2.2.1.1.2.2.2.2.2.2.1 S.2.2.2.2.2.2.2.2.1.1.2.2.2.2.2.2.2, bX4 G q ((o + 43) + 9) S.2.2.2.2.2.2.2.2.1.2.1.1 S.2.2.2.2.2.2.2.2.1.2.1.2, bX7 G q (o + 54) S.2.2.2.2.2.2.2.2.2.1 S.2.2.2.2.2.2.2.2.2.2.1 S.2.2.2.2.2.2.2.2.2.2.2]) hS0 (c_X2_everyone l G q (o + 27) S.2.2.2.2.1 r1 e2) zc_X2_everyone rfl gX10_reachAll_X2_everyone ⟨Nat.le_of_ble_eq_true rfl, Nat.le_of_ble_eq_true rfl⟩ hK hA hT hw (is := [6]) rfl rfl rfl rfl rfl rfl rfl hl.1 rfl (Nat.le_of_ble_eq_true rfl) dX10_reachAll_12 (fun H locs hw => ?_)
  obtain ⟨r3, e4, hf⟩ := z_bd hf
  refine z_callV0 (As := [.ref (q ((o + 27) + 0)), .int r1]) (rest := []) (bs' := [bX10 G q o, bX9 G q (o + 1) S.1.1 S.1.2.1 S.1.2.2.1 S.1.2.2.2.1 S.1.2.2.2.2, bX6 G q (o + 3) S.2.1.1 S.2.1.2, bX8 G q (o + 12) S.2.2.1.1 S.2.2.1.2, bX5 G q (o + 19) S.2.2.2.1.2.1 S.2.2.2.1.2.2.1 S.2.2.2.1.2.2.2.1 S.2.2.2.1.2.2.2.2, bX2 G q ((o + 19) + 2) S.2.2.2.1.1.1 S.2.2.2.1.1.2.1 S.2.2.2.1.1.2.2.1 S.2.2.2.1.1.2.2.2.1 S.2.2.2.1.1.2.2.2.2.1 S.2.2.2.1.1.2.2.2.2.2.1 S.2.2.2.1.1.2.2.2.2.2.2.1 S.2.2.2.1.1.2.2.2.2.2.2.2, bX2 G q (o + 27) S.2.2.2.2.1.1 S.2.2.2.2.1.2.1 S.2.2.2.2.1.2.2.1 S.2.2.2.2.1.2.2.2.1 S.2.2.2.2.1.2.2.2.2.1 S.2.2.2.2.1.2.2.2.2.2.1 S.2.2.2.2.1.2.2.2.2.2.2.1 S.2.2.2.2.1.2.2.2.2.2.2.2, bX1 G q (o + 33) S.2.2.2.2.2.1.1 S.2.2.2.2.2.1.2.1 S.2.2.2.2.2.1.2.2.1 S.2.2.2.2.2.1.2.2.2, bX4 G q (o + 36) r3.1 r3.2, bX3 G q (o + 38) S.2.2.2.2.2.2.2.1.1 S.2.2.2.2.2.2.2.1.2.1 S.2.2.2.2.2.2.2.1.2.2.1 S.2.2.2.2.2.2.2.1.2.2.2, bX0 G q (o + 43) S.2.2.2.2.2.2.2.2.1.2.2.1 S.2.2.2.2.2.2.2.2.1.2.2.2, bX2 G q ((o + 43) + 3) S.2.2.2.2.2.2.2.2.1.1.1 S.2.2.2.2.2.2.2.2.1.1.2.1 S.2.2.2.2.2.2.2.2.1.1.2.2.1 S.2.2.2.2.2.2.2.2.1.1.2.2.2.1 S.2.2.2.2.2.2.2.2.1.1.2.2.2.2.1 S.2.2.2.2.2.2.2.2.1.1.2.2.2.2.2.1 S.2.2.2.2.2.2.2.2.1.1.2.2.2.2.2.2.1 S.2.2.2.2.2.2.2.2.1.1.2.2.2.2.2.2.2, bX4 G q ((o + 43) + 9) S.2.2.2.2.2.2.2.2.1.2.1.1 S.2.2.2.2.2.2.2.2.1.2.1.2, bX7 G q (o + 54) S.2.2.2.2.2.2.2.2.2.1 S.2.2.2.2.2.2.2.2.2.2.1 S.2.2.2.2.2.2.2.2.2.2.2]) hS0 (c_X4_fill l G q (o + 36) q (o + 27) S.2.2.2.2.2.2.1 S.2.2.2.2.1 r1 r3 e4) zc_X4_fill rfl gX10_reachAll_X4_fill ⟨Nat.le_of_ble_eq_true rfl, Nat.le_of_ble_eq_true rfl⟩ hK hA hT hw (is := [8, 6]) rfl rfl rfl rfl rfl rfl rfl hl.1 rfl (Nat.le_of_ble_eq_true rfl) dX10_reachAll_15 (fun H locs hw => ?_)
  cases hf
  exact z_vret hx hb hr hlk hw dX10_reachAll_18
theorem zc_X10_fitsNight : zC yX10_fitsNight wsX10_fitsNight cX10_fitsNight 3 (some .boolean) 2 := ⟨⟨_, rfl⟩, by decide +kernel, by decide +kernel, by decide +kernel, by decide +kernel⟩
theorem m_X10_fitsNight_0 : (.fieldLink RX10 54 "CellKeys" "reach" "LCellKeys$Reach;" : Cond) ∈ wsX10_fitsNight := by decide +kernel
theorem in_X10_fitsNight_X10 : ∀ w ∈ u_ws RX10 TX10 10, w ∈ wsX10_fitsNight := by decide +kernel
theorem m_X10_fitsNight_1 : (.fieldLink RX10 75 "CellKeys" "sightings" "LCellKeys$Sightings;" : Cond) ∈ wsX10_fitsNight := by decide +kernel
set_option maxHeartbeats 4000000 in
set_option maxRecDepth 100000 in
theorem c_X10_fitsNight (l : Launch) (G : zG) (q : Nat → Nat) (o : Nat) (S : VX10) (v1 : Int32) (v2 : Int32) (y : Int32) (hf : f_X10_fitsNight S v1 v2 = some y) : zMet l yX10_fitsNight wsX10_fitsNight 2 42 G [.ref (q (o + 0)), .int v1, .int v2] [bX10 G q o, bX9 G q (o + 1) S.1.1 S.1.2.1 S.1.2.2.1 S.1.2.2.2.1 S.1.2.2.2.2, bX6 G q (o + 3) S.2.1.1 S.2.1.2, bX8 G q (o + 12) S.2.2.1.1 S.2.2.1.2, bX5 G q (o + 19) S.2.2.2.1.2.1 S.2.2.2.1.2.2.1 S.2.2.2.1.2.2.2.1 S.2.2.2.1.2.2.2.2, bX2 G q ((o + 19) + 2) S.2.2.2.1.1.1 S.2.2.2.1.1.2.1 S.2.2.2.1.1.2.2.1 S.2.2.2.1.1.2.2.2.1 S.2.2.2.1.1.2.2.2.2.1 S.2.2.2.1.1.2.2.2.2.2.1 S.2.2.2.1.1.2.2.2.2.2.2.1 S.2.2.2.1.1.2.2.2.2.2.2.2, bX2 G q (o + 27) S.2.2.2.2.1.1 S.2.2.2.2.1.2.1 S.2.2.2.2.1.2.2.1 S.2.2.2.2.1.2.2.2.1 S.2.2.2.2.1.2.2.2.2.1 S.2.2.2.2.1.2.2.2.2.2.1 S.2.2.2.2.1.2.2.2.2.2.2.1 S.2.2.2.2.1.2.2.2.2.2.2.2, bX1 G q (o + 33) S.2.2.2.2.2.1.1 S.2.2.2.2.2.1.2.1 S.2.2.2.2.2.1.2.2.1 S.2.2.2.2.2.1.2.2.2, bX4 G q (o + 36) S.2.2.2.2.2.2.1.1 S.2.2.2.2.2.2.1.2, bX3 G q (o + 38) S.2.2.2.2.2.2.2.1.1 S.2.2.2.2.2.2.2.1.2.1 S.2.2.2.2.2.2.2.1.2.2.1 S.2.2.2.2.2.2.2.1.2.2.2, bX0 G q (o + 43) S.2.2.2.2.2.2.2.2.1.2.2.1 S.2.2.2.2.2.2.2.2.1.2.2.2, bX2 G q ((o + 43) + 3) S.2.2.2.2.2.2.2.2.1.1.1 S.2.2.2.2.2.2.2.2.1.1.2.1 S.2.2.2.2.2.2.2.2.1.1.2.2.1 S.2.2.2.2.2.2.2.2.1.1.2.2.2.1 S.2.2.2.2.2.2.2.2.1.1.2.2.2.2.1 S.2.2.2.2.2.2.2.2.1.1.2.2.2.2.2.1 S.2.2.2.2.2.2.2.2.1.1.2.2.2.2.2.2.1 S.2.2.2.2.2.2.2.2.1.1.2.2.2.2.2.2.2, bX4 G q ((o + 43) + 9) S.2.2.2.2.2.2.2.2.1.2.1.1 S.2.2.2.2.2.2.2.2.1.2.1.2, bX7 G q (o + 54) S.2.2.2.2.2.2.2.2.2.1 S.2.2.2.2.2.2.2.2.2.2.1 S.2.2.2.2.2.2.2.2.2.2.2] (some (.int y)) [bX10 G q o, bX9 G q (o + 1) S.1.1 S.1.2.1 S.1.2.2.1 S.1.2.2.2.1 S.1.2.2.2.2, bX6 G q (o + 3) S.2.1.1 S.2.1.2, bX8 G q (o + 12) S.2.2.1.1 S.2.2.1.2, bX5 G q (o + 19) S.2.2.2.1.2.1 S.2.2.2.1.2.2.1 S.2.2.2.1.2.2.2.1 S.2.2.2.1.2.2.2.2, bX2 G q ((o + 19) + 2) S.2.2.2.1.1.1 S.2.2.2.1.1.2.1 S.2.2.2.1.1.2.2.1 S.2.2.2.1.1.2.2.2.1 S.2.2.2.1.1.2.2.2.2.1 S.2.2.2.1.1.2.2.2.2.2.1 S.2.2.2.1.1.2.2.2.2.2.2.1 S.2.2.2.1.1.2.2.2.2.2.2.2, bX2 G q (o + 27) S.2.2.2.2.1.1 S.2.2.2.2.1.2.1 S.2.2.2.2.1.2.2.1 S.2.2.2.2.1.2.2.2.1 S.2.2.2.2.1.2.2.2.2.1 S.2.2.2.2.1.2.2.2.2.2.1 S.2.2.2.2.1.2.2.2.2.2.2.1 S.2.2.2.2.1.2.2.2.2.2.2.2, bX1 G q (o + 33) S.2.2.2.2.2.1.1 S.2.2.2.2.2.1.2.1 S.2.2.2.2.2.1.2.2.1 S.2.2.2.2.2.1.2.2.2, bX4 G q (o + 36) S.2.2.2.2.2.2.1.1 S.2.2.2.2.2.2.1.2, bX3 G q (o + 38) S.2.2.2.2.2.2.2.1.1 S.2.2.2.2.2.2.2.1.2.1 S.2.2.2.2.2.2.2.1.2.2.1 S.2.2.2.2.2.2.2.1.2.2.2, bX0 G q (o + 43) S.2.2.2.2.2.2.2.2.1.2.2.1 S.2.2.2.2.2.2.2.2.1.2.2.2, bX2 G q ((o + 43) + 3) S.2.2.2.2.2.2.2.2.1.1.1 S.2.2.2.2.2.2.2.2.1.1.2.1 S.2.2.2.2.2.2.2.2.1.1.2.2.1 S.2.2.2.2.2.2.2.2.1.1.2.2.2.1 S.2.2.2.2.2.2.2.2.1.1.2.2.2.2.1 S.2.2.2.2.2.2.2.2.1.1.2.2.2.2.2.1 S.2.2.2.2.2.2.2.2.1.1.2.2.2.2.2.2.1 S.2.2.2.2.2.2.2.2.1.1.2.2.2.2.2.2.2, bX4 G q ((o + 43) + 9) S.2.2.2.2.2.2.2.2.1.2.1.1 S.2.2.2.2.2.2.2.2.1.2.1.2, bX7 G q (o + 54) S.2.2.2.2.2.2.2.2.2.1 S.2.2.2.2.2.2.2.2.2.2.1 S.2.2.2.2.2.2.2.2.2.2.2] := by
  refine z_met zc_X10_fitsNight (Nat.le_of_ble_eq_true rfl) ?_
  intro p e s m below meth c A ls hZ hl hw
  have hl : lv_has ls 3 [(0, .ref (q (o + 0))), (1, .int v1), (2, .int v2)] := hl
  obtain ⟨hS0, hr, hlk, hK, hA, hT⟩ := id hZ
  have hx := hS0.1
  have hb := hS0.2.1
  have hml := hS0.2.2.1
  have hown : s.vm.findClass RX10 = some m.cls := hS0.2.2.2.1
  have hts := hS0.2.2.2.2
  unfold f_X10_fitsNight at hf
  refine lv_aload_n hx hb dX10_fitsNight_0 rfl (lv_at hl 0 rfl) ?_
  refine z_get hS0 in_X10_fitsNight_X10 hK hw 0 6 rfl rfl rfl (by decide) (hts _ m_X10_fitsNight_0) (v := .ref (q ((o + 36) + 0))) rfl dX10_fitsNight_1 ?_
  refine lv_iload_n hx hb dX10_fitsNight_4 rfl (lv_at hl 1 rfl) ?_
  obtain ⟨r1, e2, hf⟩ := z_bd hf
  refine z_callV1 (As := [.int v1]) (rest := []) (bs' := [bX10 G q o, bX9 G q (o + 1) S.1.1 S.1.2.1 S.1.2.2.1 S.1.2.2.2.1 S.1.2.2.2.2, bX6 G q (o + 3) S.2.1.1 S.2.1.2, bX8 G q (o + 12) S.2.2.1.1 S.2.2.1.2, bX5 G q (o + 19) S.2.2.2.1.2.1 S.2.2.2.1.2.2.1 S.2.2.2.1.2.2.2.1 S.2.2.2.1.2.2.2.2, bX2 G q ((o + 19) + 2) S.2.2.2.1.1.1 S.2.2.2.1.1.2.1 S.2.2.2.1.1.2.2.1 S.2.2.2.1.1.2.2.2.1 S.2.2.2.1.1.2.2.2.2.1 S.2.2.2.1.1.2.2.2.2.2.1 S.2.2.2.1.1.2.2.2.2.2.2.1 S.2.2.2.1.1.2.2.2.2.2.2.2, bX2 G q (o + 27) S.2.2.2.2.1.1 S.2.2.2.2.1.2.1 S.2.2.2.2.1.2.2.1 S.2.2.2.2.1.2.2.2.1 S.2.2.2.2.1.2.2.2.2.1 S.2.2.2.2.1.2.2.2.2.2.1 S.2.2.2.2.1.2.2.2.2.2.2.1 S.2.2.2.2.1.2.2.2.2.2.2.2, bX1 G q (o + 33) S.2.2.2.2.2.1.1 S.2.2.2.2.2.1.2.1 S.2.2.2.2.2.1.2.2.1 S.2.2.2.2.2.1.2.2.2, bX4 G q (o + 36) S.2.2.2.2.2.2.1.1 S.2.2.2.2.2.2.1.2, bX3 G q (o + 38) S.2.2.2.2.2.2.2.1.1 S.2.2.2.2.2.2.2.1.2.1 S.2.2.2.2.2.2.2.1.2.2.1 S.2.2.2.2.2.2.2.1.2.2.2, bX0 G q (o + 43) S.2.2.2.2.2.2.2.2.1.2.2.1 S.2.2.2.2.2.2.2.2.1.2.2.2, bX2 G q ((o + 43) + 3) S.2.2.2.2.2.2.2.2.1.1.1 S.2.2.2.2.2.2.2.2.1.1.2.1 S.2.2.2.2.2.2.2.2.1.1.2.2.1 S.2.2.2.2.2.2.2.2.1.1.2.2.2.1 S.2.2.2.2.2.2.2.2.1.1.2.2.2.2.1 S.2.2.2.2.2.2.2.2.1.1.2.2.2.2.2.1 S.2.2.2.2.2.2.2.2.1.1.2.2.2.2.2.2.1 S.2.2.2.2.2.2.2.2.1.1.2.2.2.2.2.2.2, bX4 G q ((o + 43) + 9) S.2.2.2.2.2.2.2.2.1.2.1.1 S.2.2.2.2.2.2.2.2.1.2.1.2, bX7 G q (o + 54) S.2.2.2.2.2.2.2.2.2.1 S.2.2.2.2.2.2.2.2.2.2.1 S.2.2.2.2.2.2.2.2.2.2.2]) hS0 (c_X4_has l G q (o + 36) S.2.2.2.2.2.2.1 v1 r1 e2) zc_X4_has rfl gX10_fitsNight_X4_has ⟨Nat.le_of_ble_eq_true rfl, Nat.le_of_ble_eq_true rfl⟩ hK hA hT hw (is := [8]) rfl rfl rfl rfl rfl rfl rfl hl.1 rfl (Nat.le_of_ble_eq_true rfl) dX10_fitsNight_5 (fun H locs hw => ?_)
  refine lv_if_eq (tgt := 38) hx hb dX10_fitsNight_8 rfl (fun hc => ?_) (fun hc => ?_)
  · have hf := z_t hc hf
    refine lv_iconst (v := 0) hx hb dX10_fitsNight_38 rfl ?_
    cases hf
    exact z_zret hx hb hr (z_nb (Or.inl rfl)) hlk hw dX10_fitsNight_39
  · have hf := z_f hc hf
    refine lv_aload_n hx hb dX10_fitsNight_11 rfl (lv_at hl 0 rfl) ?_
    refine z_get hS0 in_X10_fitsNight_X10 hK hw 0 6 rfl rfl rfl (by decide) (hts _ m_X10_fitsNight_0) (v := .ref (q ((o + 36) + 0))) rfl dX10_fitsNight_12 ?_
    refine lv_iload_n hx hb dX10_fitsNight_15 rfl (lv_at hl 1 rfl) ?_
    obtain ⟨r3, e4, hf⟩ := z_bd hf
    refine z_callV1 (As := [.int v1]) (rest := []) (bs' := [bX10 G q o, bX9 G q (o + 1) S.1.1 S.1.2.1 S.1.2.2.1 S.1.2.2.2.1 S.1.2.2.2.2, bX6 G q (o + 3) S.2.1.1 S.2.1.2, bX8 G q (o + 12) S.2.2.1.1 S.2.2.1.2, bX5 G q (o + 19) S.2.2.2.1.2.1 S.2.2.2.1.2.2.1 S.2.2.2.1.2.2.2.1 S.2.2.2.1.2.2.2.2, bX2 G q ((o + 19) + 2) S.2.2.2.1.1.1 S.2.2.2.1.1.2.1 S.2.2.2.1.1.2.2.1 S.2.2.2.1.1.2.2.2.1 S.2.2.2.1.1.2.2.2.2.1 S.2.2.2.1.1.2.2.2.2.2.1 S.2.2.2.1.1.2.2.2.2.2.2.1 S.2.2.2.1.1.2.2.2.2.2.2.2, bX2 G q (o + 27) S.2.2.2.2.1.1 S.2.2.2.2.1.2.1 S.2.2.2.2.1.2.2.1 S.2.2.2.2.1.2.2.2.1 S.2.2.2.2.1.2.2.2.2.1 S.2.2.2.2.1.2.2.2.2.2.1 S.2.2.2.2.1.2.2.2.2.2.2.1 S.2.2.2.2.1.2.2.2.2.2.2.2, bX1 G q (o + 33) S.2.2.2.2.2.1.1 S.2.2.2.2.2.1.2.1 S.2.2.2.2.2.1.2.2.1 S.2.2.2.2.2.1.2.2.2, bX4 G q (o + 36) S.2.2.2.2.2.2.1.1 S.2.2.2.2.2.2.1.2, bX3 G q (o + 38) S.2.2.2.2.2.2.2.1.1 S.2.2.2.2.2.2.2.1.2.1 S.2.2.2.2.2.2.2.1.2.2.1 S.2.2.2.2.2.2.2.1.2.2.2, bX0 G q (o + 43) S.2.2.2.2.2.2.2.2.1.2.2.1 S.2.2.2.2.2.2.2.2.1.2.2.2, bX2 G q ((o + 43) + 3) S.2.2.2.2.2.2.2.2.1.1.1 S.2.2.2.2.2.2.2.2.1.1.2.1 S.2.2.2.2.2.2.2.2.1.1.2.2.1 S.2.2.2.2.2.2.2.2.1.1.2.2.2.1 S.2.2.2.2.2.2.2.2.1.1.2.2.2.2.1 S.2.2.2.2.2.2.2.2.1.1.2.2.2.2.2.1 S.2.2.2.2.2.2.2.2.1.1.2.2.2.2.2.2.1 S.2.2.2.2.2.2.2.2.1.1.2.2.2.2.2.2.2, bX4 G q ((o + 43) + 9) S.2.2.2.2.2.2.2.2.1.2.1.1 S.2.2.2.2.2.2.2.2.1.2.1.2, bX7 G q (o + 54) S.2.2.2.2.2.2.2.2.2.1 S.2.2.2.2.2.2.2.2.2.2.1 S.2.2.2.2.2.2.2.2.2.2.2]) hS0 (c_X4_favoursOf l G q (o + 36) S.2.2.2.2.2.2.1 v1 r3 e4) zc_X4_favoursOf rfl gX10_fitsNight_X4_favoursOf ⟨Nat.le_of_ble_eq_true rfl, Nat.le_of_ble_eq_true rfl⟩ hK hA hT hw (is := [8]) rfl rfl rfl rfl rfl rfl rfl hl.1 rfl (Nat.le_of_ble_eq_true rfl) dX10_fitsNight_16 (fun H locs hw => ?_)
    refine lv_iload_n hx hb dX10_fitsNight_19 rfl (lv_at hl 2 rfl) ?_
    refine lv_icmp_gt (tgt := 38) hx hb dX10_fitsNight_20 rfl (fun hc => ?_) (fun hc => ?_)
    · have hf := z_t hc hf
      refine lv_iconst (v := 0) hx hb dX10_fitsNight_38 rfl ?_
      cases hf
      exact z_zret hx hb hr (z_nb (Or.inl rfl)) hlk hw dX10_fitsNight_39
    · have hf := z_f hc hf
      refine lv_aload_n hx hb dX10_fitsNight_23 rfl (lv_at hl 0 rfl) ?_
      refine z_get hS0 in_X10_fitsNight_X10 hK hw 0 9 rfl rfl rfl (by decide) (hts _ m_X10_fitsNight_1) (v := .ref (q ((o + 54) + 0))) rfl dX10_fitsNight_24 ?_
      refine lv_iload_n hx hb dX10_fitsNight_27 rfl (lv_at hl 1 rfl) ?_
      obtain ⟨r5, e6, hf⟩ := z_bd hf
      refine z_callV1 (As := [.int v1]) (rest := []) (bs' := [bX10 G q o, bX9 G q (o + 1) S.1.1 S.1.2.1 S.1.2.2.1 S.1.2.2.2.1 S.1.2.2.2.2, bX6 G q (o + 3) S.2.1.1 S.2.1.2, bX8 G q (o + 12) S.2.2.1.1 S.2.2.1.2, bX5 G q (o + 19) S.2.2.2.1.2.1 S.2.2.2.1.2.2.1 S.2.2.2.1.2.2.2.1 S.2.2.2.1.2.2.2.2, bX2 G q ((o + 19) + 2) S.2.2.2.1.1.1 S.2.2.2.1.1.2.1 S.2.2.2.1.1.2.2.1 S.2.2.2.1.1.2.2.2.1 S.2.2.2.1.1.2.2.2.2.1 S.2.2.2.1.1.2.2.2.2.2.1 S.2.2.2.1.1.2.2.2.2.2.2.1 S.2.2.2.1.1.2.2.2.2.2.2.2, bX2 G q (o + 27) S.2.2.2.2.1.1 S.2.2.2.2.1.2.1 S.2.2.2.2.1.2.2.1 S.2.2.2.2.1.2.2.2.1 S.2.2.2.2.1.2.2.2.2.1 S.2.2.2.2.1.2.2.2.2.2.1 S.2.2.2.2.1.2.2.2.2.2.2.1 S.2.2.2.2.1.2.2.2.2.2.2.2, bX1 G q (o + 33) S.2.2.2.2.2.1.1 S.2.2.2.2.2.1.2.1 S.2.2.2.2.2.1.2.2.1 S.2.2.2.2.2.1.2.2.2, bX4 G q (o + 36) S.2.2.2.2.2.2.1.1 S.2.2.2.2.2.2.1.2, bX3 G q (o + 38) S.2.2.2.2.2.2.2.1.1 S.2.2.2.2.2.2.2.1.2.1 S.2.2.2.2.2.2.2.1.2.2.1 S.2.2.2.2.2.2.2.1.2.2.2, bX0 G q (o + 43) S.2.2.2.2.2.2.2.2.1.2.2.1 S.2.2.2.2.2.2.2.2.1.2.2.2, bX2 G q ((o + 43) + 3) S.2.2.2.2.2.2.2.2.1.1.1 S.2.2.2.2.2.2.2.2.1.1.2.1 S.2.2.2.2.2.2.2.2.1.1.2.2.1 S.2.2.2.2.2.2.2.2.1.1.2.2.2.1 S.2.2.2.2.2.2.2.2.1.1.2.2.2.2.1 S.2.2.2.2.2.2.2.2.1.1.2.2.2.2.2.1 S.2.2.2.2.2.2.2.2.1.1.2.2.2.2.2.2.1 S.2.2.2.2.2.2.2.2.1.1.2.2.2.2.2.2.2, bX4 G q ((o + 43) + 9) S.2.2.2.2.2.2.2.2.1.2.1.1 S.2.2.2.2.2.2.2.2.1.2.1.2, bX7 G q (o + 54) S.2.2.2.2.2.2.2.2.2.1 S.2.2.2.2.2.2.2.2.2.2.1 S.2.2.2.2.2.2.2.2.2.2.2]) hS0 (c_X7_fit l G q (o + 54) S.2.2.2.2.2.2.2.2.2 v1 r5 e6) zc_X7_fit rfl gX10_fitsNight_X7_fit ⟨Nat.le_of_ble_eq_true rfl, Nat.le_of_ble_eq_true rfl⟩ hK hA hT hw (is := [13]) rfl rfl rfl rfl rfl rfl rfl hl.1 rfl (Nat.le_of_ble_eq_true rfl) dX10_fitsNight_28 (fun H locs hw => ?_)
      refine lv_if_eq (tgt := 38) hx hb dX10_fitsNight_31 rfl (fun hc => ?_) (fun hc => ?_)
      · have hf := z_t hc hf
        refine lv_iconst (v := 0) hx hb dX10_fitsNight_38 rfl ?_
        cases hf
        exact z_zret hx hb hr (z_nb (Or.inl rfl)) hlk hw dX10_fitsNight_39
      · have hf := z_f hc hf
        refine lv_iconst (v := 1) hx hb dX10_fitsNight_34 rfl ?_
        refine lv_goto (tgt := 39) hx hb dX10_fitsNight_35 rfl ?_
        cases hf
        exact z_zret hx hb hr (z_nb (Or.inr rfl)) hlk hw dX10_fitsNight_39
theorem zc_X10_culprits : zC yX10_culprits wsX10_culprits cX10_culprits 6 (some .int) 1 := ⟨⟨_, rfl⟩, by decide +kernel, by decide +kernel, by decide +kernel, by decide +kernel⟩
theorem m_X10_culprits_0 : (.fieldLink RX10 40 "CellKeys" "jail" "LCellKeys$Jail;" : Cond) ∈ wsX10_culprits := by decide +kernel
theorem in_X10_culprits_X10 : ∀ w ∈ u_ws RX10 TX10 10, w ∈ wsX10_culprits := by decide +kernel
theorem m_X10_culprits_1 : (.fieldLink RX10 10 "CellKeys" "told" "LCellKeys$Told;" : Cond) ∈ wsX10_culprits := by decide +kernel
set_option maxHeartbeats 4000000 in
set_option maxRecDepth 100000 in
theorem k_X10_culprits_29 {p : Program} {l : Launch} {e : Env} {s : State} {m : MethodId} {args : Array Value} {below : List Frame} {meth : Method} {c : Code} {A : Nat → Prop} {G : zG} {q : Nat → Nat} {o : Nat}  (hZ : zZ p s m args meth c A G cX10_culprits 6 RX10 wsX10_culprits (some .int)) (y : Int32 × VX10)  (n : Nat) : ∀ (S : VX10) (v1 : Int32) (v2 : Int32) (v3 : Int32) (v4 : Int32) (v5 : Int32) (H : Heap) (locs : List Loc) (ls : Array Slot), f_X10_culprits_29 n S v1 v2 v3 v4 v5 = some y → zH G A s.heap [bX10 G q o, bX9 G q (o + 1) S.1.1 S.1.2.1 S.1.2.2.1 S.1.2.2.2.1 S.1.2.2.2.2, bX6 G q (o + 3) S.2.1.1 S.2.1.2, bX8 G q (o + 12) S.2.2.1.1 S.2.2.1.2, bX5 G q (o + 19) S.2.2.2.1.2.1 S.2.2.2.1.2.2.1 S.2.2.2.1.2.2.2.1 S.2.2.2.1.2.2.2.2, bX2 G q ((o + 19) + 2) S.2.2.2.1.1.1 S.2.2.2.1.1.2.1 S.2.2.2.1.1.2.2.1 S.2.2.2.1.1.2.2.2.1 S.2.2.2.1.1.2.2.2.2.1 S.2.2.2.1.1.2.2.2.2.2.1 S.2.2.2.1.1.2.2.2.2.2.2.1 S.2.2.2.1.1.2.2.2.2.2.2.2, bX2 G q (o + 27) S.2.2.2.2.1.1 S.2.2.2.2.1.2.1 S.2.2.2.2.1.2.2.1 S.2.2.2.2.1.2.2.2.1 S.2.2.2.2.1.2.2.2.2.1 S.2.2.2.2.1.2.2.2.2.2.1 S.2.2.2.2.1.2.2.2.2.2.2.1 S.2.2.2.2.1.2.2.2.2.2.2.2, bX1 G q (o + 33) S.2.2.2.2.2.1.1 S.2.2.2.2.2.1.2.1 S.2.2.2.2.2.1.2.2.1 S.2.2.2.2.2.1.2.2.2, bX4 G q (o + 36) S.2.2.2.2.2.2.1.1 S.2.2.2.2.2.2.1.2, bX3 G q (o + 38) S.2.2.2.2.2.2.2.1.1 S.2.2.2.2.2.2.2.1.2.1 S.2.2.2.2.2.2.2.1.2.2.1 S.2.2.2.2.2.2.2.1.2.2.2, bX0 G q (o + 43) S.2.2.2.2.2.2.2.2.1.2.2.1 S.2.2.2.2.2.2.2.2.1.2.2.2, bX2 G q ((o + 43) + 3) S.2.2.2.2.2.2.2.2.1.1.1 S.2.2.2.2.2.2.2.2.1.1.2.1 S.2.2.2.2.2.2.2.2.1.1.2.2.1 S.2.2.2.2.2.2.2.2.1.1.2.2.2.1 S.2.2.2.2.2.2.2.2.1.1.2.2.2.2.1 S.2.2.2.2.2.2.2.2.1.1.2.2.2.2.2.1 S.2.2.2.2.2.2.2.2.1.1.2.2.2.2.2.2.1 S.2.2.2.2.2.2.2.2.1.1.2.2.2.2.2.2.2, bX4 G q ((o + 43) + 9) S.2.2.2.2.2.2.2.2.1.2.1.1 S.2.2.2.2.2.2.2.2.1.2.1.2, bX7 G q (o + 54) S.2.2.2.2.2.2.2.2.2.1 S.2.2.2.2.2.2.2.2.2.2.1 S.2.2.2.2.2.2.2.2.2.2.2] H locs → lv_has ls 6 [(0, .ref (q (o + 0))), (1, .int v1), (2, .int v2), (3, .int v3), (4, .int v4), (5, .int v5)] → W p l e { frames := 5, cells := 0, slots := 0, locals := 127 } s m args below meth c H locs 0 0 (MQ below (zQ (some (.int y.1)) (zPost G [bX10 G q o, bX9 G q (o + 1) y.2.1.1 y.2.1.2.1 y.2.1.2.2.1 y.2.1.2.2.2.1 y.2.1.2.2.2.2, bX6 G q (o + 3) y.2.2.1.1 y.2.2.1.2, bX8 G q (o + 12) y.2.2.2.1.1 y.2.2.2.1.2, bX5 G q (o + 19) y.2.2.2.2.1.2.1 y.2.2.2.2.1.2.2.1 y.2.2.2.2.1.2.2.2.1 y.2.2.2.2.1.2.2.2.2, bX2 G q ((o + 19) + 2) y.2.2.2.2.1.1.1 y.2.2.2.2.1.1.2.1 y.2.2.2.2.1.1.2.2.1 y.2.2.2.2.1.1.2.2.2.1 y.2.2.2.2.1.1.2.2.2.2.1 y.2.2.2.2.1.1.2.2.2.2.2.1 y.2.2.2.2.1.1.2.2.2.2.2.2.1 y.2.2.2.2.1.1.2.2.2.2.2.2.2, bX2 G q (o + 27) y.2.2.2.2.2.1.1 y.2.2.2.2.2.1.2.1 y.2.2.2.2.2.1.2.2.1 y.2.2.2.2.2.1.2.2.2.1 y.2.2.2.2.2.1.2.2.2.2.1 y.2.2.2.2.2.1.2.2.2.2.2.1 y.2.2.2.2.2.1.2.2.2.2.2.2.1 y.2.2.2.2.2.1.2.2.2.2.2.2.2, bX1 G q (o + 33) y.2.2.2.2.2.2.1.1 y.2.2.2.2.2.2.1.2.1 y.2.2.2.2.2.2.1.2.2.1 y.2.2.2.2.2.2.1.2.2.2, bX4 G q (o + 36) y.2.2.2.2.2.2.2.1.1 y.2.2.2.2.2.2.2.1.2, bX3 G q (o + 38) y.2.2.2.2.2.2.2.2.1.1 y.2.2.2.2.2.2.2.2.1.2.1 y.2.2.2.2.2.2.2.2.1.2.2.1 y.2.2.2.2.2.2.2.2.1.2.2.2, bX0 G q (o + 43) y.2.2.2.2.2.2.2.2.2.1.2.2.1 y.2.2.2.2.2.2.2.2.2.1.2.2.2, bX2 G q ((o + 43) + 3) y.2.2.2.2.2.2.2.2.2.1.1.1 y.2.2.2.2.2.2.2.2.2.1.1.2.1 y.2.2.2.2.2.2.2.2.2.1.1.2.2.1 y.2.2.2.2.2.2.2.2.2.1.1.2.2.2.1 y.2.2.2.2.2.2.2.2.2.1.1.2.2.2.2.1 y.2.2.2.2.2.2.2.2.2.1.1.2.2.2.2.2.1 y.2.2.2.2.2.2.2.2.2.1.1.2.2.2.2.2.2.1 y.2.2.2.2.2.2.2.2.2.1.1.2.2.2.2.2.2.2, bX4 G q ((o + 43) + 9) y.2.2.2.2.2.2.2.2.2.1.2.1.1 y.2.2.2.2.2.2.2.2.2.1.2.1.2, bX7 G q (o + 54) y.2.2.2.2.2.2.2.2.2.2.1 y.2.2.2.2.2.2.2.2.2.2.2.1 y.2.2.2.2.2.2.2.2.2.2.2.2]) A) args s 0 0 A) (F0 m 29 ls []) := by
  obtain ⟨hS0, hr, hlk, hK, hA, hT⟩ := id hZ
  have hx := hS0.1
  have hb := hS0.2.1
  have hml := hS0.2.2.1
  have hown : s.vm.findClass RX10 = some m.cls := hS0.2.2.2.1
  have hts := hS0.2.2.2.2
  induction n with
  | zero =>
    intro S v1 v2 v3 v4 v5 H locs ls hf hw hl
    unfold f_X10_culprits_29 at hf
    cases hf
  | succ n ih =>
    intro S v1 v2 v3 v4 v5 H locs ls hf hw hl
    unfold f_X10_culprits_29 at hf
    refine lv_iload hx hb dX10_culprits_29 (lv_at hl 5 rfl) ?_
    refine lv_aload_n hx hb dX10_culprits_31 rfl (lv_at hl 0 rfl) ?_
    refine z_get hS0 in_X10_culprits_X10 hK hw 0 4 rfl rfl rfl (by decide) (hts _ m_X10_culprits_0) (v := .ref (q ((o + 27) + 0))) rfl dX10_culprits_32 ?_
    obtain ⟨r1, e2, hf⟩ := z_bd hf
    refine z_callV1 (As := []) (rest := [.int v5]) (bs' := [bX10 G q o, bX9 G q (o + 1) S.1.1 S.1.2.1 S.1.2.2.1 S.1.2.2.2.1 S.1.2.2.2.2, bX6 G q (o + 3) S.2.1.1 S.2.1.2, bX8 G q (o + 12) S.2.2.1.1 S.2.2.1.2, bX5 G q (o + 19) S.2.2.2.1.2.1 S.2.2.2.1.2.2.1 S.2.2.2.1.2.2.2.1 S.2.2.2.1.2.2.2.2, bX2 G q ((o + 19) + 2) S.2.2.2.1.1.1 S.2.2.2.1.1.2.1 S.2.2.2.1.1.2.2.1 S.2.2.2.1.1.2.2.2.1 S.2.2.2.1.1.2.2.2.2.1 S.2.2.2.1.1.2.2.2.2.2.1 S.2.2.2.1.1.2.2.2.2.2.2.1 S.2.2.2.1.1.2.2.2.2.2.2.2, bX2 G q (o + 27) S.2.2.2.2.1.1 S.2.2.2.2.1.2.1 S.2.2.2.2.1.2.2.1 S.2.2.2.2.1.2.2.2.1 S.2.2.2.2.1.2.2.2.2.1 S.2.2.2.2.1.2.2.2.2.2.1 S.2.2.2.2.1.2.2.2.2.2.2.1 S.2.2.2.2.1.2.2.2.2.2.2.2, bX1 G q (o + 33) S.2.2.2.2.2.1.1 S.2.2.2.2.2.1.2.1 S.2.2.2.2.2.1.2.2.1 S.2.2.2.2.2.1.2.2.2, bX4 G q (o + 36) S.2.2.2.2.2.2.1.1 S.2.2.2.2.2.2.1.2, bX3 G q (o + 38) S.2.2.2.2.2.2.2.1.1 S.2.2.2.2.2.2.2.1.2.1 S.2.2.2.2.2.2.2.1.2.2.1 S.2.2.2.2.2.2.2.1.2.2.2, bX0 G q (o + 43) S.2.2.2.2.2.2.2.2.1.2.2.1 S.2.2.2.2.2.2.2.2.1.2.2.2, bX2 G q ((o + 43) + 3) S.2.2.2.2.2.2.2.2.1.1.1 S.2.2.2.2.2.2.2.2.1.1.2.1 S.2.2.2.2.2.2.2.2.1.1.2.2.1 S.2.2.2.2.2.2.2.2.1.1.2.2.2.1 S.2.2.2.2.2.2.2.2.1.1.2.2.2.2.1 S.2.2.2.2.2.2.2.2.1.1.2.2.2.2.2.1 S.2.2.2.2.2.2.2.2.1.1.2.2.2.2.2.2.1 S.2.2.2.2.2.2.2.2.1.1.2.2.2.2.2.2.2, bX4 G q ((o + 43) + 9) S.2.2.2.2.2.2.2.2.1.2.1.1 S.2.2.2.2.2.2.2.2.1.2.1.2, bX7 G q (o + 54) S.2.2.2.2.2.2.2.2.2.1 S.2.2.2.2.2.2.2.2.2.2.1 S.2.2.2.2.2.2.2.2.2.2.2]) hS0 (c_X2_everyone l G q (o + 27) S.2.2.2.2.1 r1 e2) zc_X2_everyone rfl gX10_culprits_X2_everyone ⟨Nat.le_of_ble_eq_true rfl, Nat.le_of_ble_eq_true rfl⟩ hK hA hT hw (is := [6]) rfl rfl rfl rfl rfl rfl rfl hl.1 rfl (Nat.le_of_ble_eq_true rfl) dX10_culprits_35 (fun H locs hw => ?_)
    refine lv_icmp_gt (tgt := 70) hx hb dX10_culprits_38 rfl (fun hc => ?_) (fun hc => ?_)
    · have hf := z_t hc hf
      refine lv_iload hx hb dX10_culprits_70 (lv_at hl 4 rfl) ?_
      refine lv_if_ne (tgt := 78) hx hb dX10_culprits_72 rfl (fun hc => ?_) (fun hc => ?_)
      · have hf := z_f hc hf
        refine lv_aload_n hx hb dX10_culprits_78 rfl (lv_at hl 0 rfl) ?_
        refine z_get hS0 in_X10_culprits_X10 hK hw 0 0 rfl rfl rfl (by decide) (hts _ m_X10_culprits_1) (v := .ref (q ((o + 1) + 0))) rfl dX10_culprits_79 ?_
        refine lv_iload_n hx hb dX10_culprits_82 rfl (lv_at hl 3 rfl) ?_
        obtain ⟨r3, e4, hf⟩ := z_bd hf
        refine z_callV0 (As := [.int v3]) (rest := []) (bs' := [bX10 G q o, bX9 G q (o + 1) r3.1 r3.2.1 r3.2.2.1 r3.2.2.2.1 r3.2.2.2.2, bX6 G q (o + 3) S.2.1.1 S.2.1.2, bX8 G q (o + 12) S.2.2.1.1 S.2.2.1.2, bX5 G q (o + 19) S.2.2.2.1.2.1 S.2.2.2.1.2.2.1 S.2.2.2.1.2.2.2.1 S.2.2.2.1.2.2.2.2, bX2 G q ((o + 19) + 2) S.2.2.2.1.1.1 S.2.2.2.1.1.2.1 S.2.2.2.1.1.2.2.1 S.2.2.2.1.1.2.2.2.1 S.2.2.2.1.1.2.2.2.2.1 S.2.2.2.1.1.2.2.2.2.2.1 S.2.2.2.1.1.2.2.2.2.2.2.1 S.2.2.2.1.1.2.2.2.2.2.2.2, bX2 G q (o + 27) S.2.2.2.2.1.1 S.2.2.2.2.1.2.1 S.2.2.2.2.1.2.2.1 S.2.2.2.2.1.2.2.2.1 S.2.2.2.2.1.2.2.2.2.1 S.2.2.2.2.1.2.2.2.2.2.1 S.2.2.2.2.1.2.2.2.2.2.2.1 S.2.2.2.2.1.2.2.2.2.2.2.2, bX1 G q (o + 33) S.2.2.2.2.2.1.1 S.2.2.2.2.2.1.2.1 S.2.2.2.2.2.1.2.2.1 S.2.2.2.2.2.1.2.2.2, bX4 G q (o + 36) S.2.2.2.2.2.2.1.1 S.2.2.2.2.2.2.1.2, bX3 G q (o + 38) S.2.2.2.2.2.2.2.1.1 S.2.2.2.2.2.2.2.1.2.1 S.2.2.2.2.2.2.2.1.2.2.1 S.2.2.2.2.2.2.2.1.2.2.2, bX0 G q (o + 43) S.2.2.2.2.2.2.2.2.1.2.2.1 S.2.2.2.2.2.2.2.2.1.2.2.2, bX2 G q ((o + 43) + 3) S.2.2.2.2.2.2.2.2.1.1.1 S.2.2.2.2.2.2.2.2.1.1.2.1 S.2.2.2.2.2.2.2.2.1.1.2.2.1 S.2.2.2.2.2.2.2.2.1.1.2.2.2.1 S.2.2.2.2.2.2.2.2.1.1.2.2.2.2.1 S.2.2.2.2.2.2.2.2.1.1.2.2.2.2.2.1 S.2.2.2.2.2.2.2.2.1.1.2.2.2.2.2.2.1 S.2.2.2.2.2.2.2.2.1.1.2.2.2.2.2.2.2, bX4 G q ((o + 43) + 9) S.2.2.2.2.2.2.2.2.1.2.1.1 S.2.2.2.2.2.2.2.2.1.2.1.2, bX7 G q (o + 54) S.2.2.2.2.2.2.2.2.2.1 S.2.2.2.2.2.2.2.2.2.2.1 S.2.2.2.2.2.2.2.2.2.2.2]) hS0 (c_X9_tell l G q (o + 1) S.1 v3 r3 e4) zc_X9_tell rfl gX10_culprits_X9_tell ⟨Nat.le_of_ble_eq_true rfl, Nat.le_of_ble_eq_true rfl⟩ hK hA hT hw (is := [1]) rfl rfl rfl rfl rfl rfl rfl hl.1 rfl (Nat.le_of_ble_eq_true rfl) dX10_culprits_83 (fun H locs hw => ?_)
        refine lv_iload_n hx hb dX10_culprits_86 rfl (lv_at hl 2 rfl) ?_
        cases hf
        exact z_iret hx hb hr hlk hw dX10_culprits_87
      · have hf := z_t hc hf
        refine lv_bipush (v := (-9)) hx hb dX10_culprits_75 rfl ?_
        cases hf
        exact z_iret hx hb hr hlk hw dX10_culprits_77
    · have hf := z_f hc hf
      refine lv_aload_n hx hb dX10_culprits_41 rfl (lv_at hl 0 rfl) ?_
      refine lv_iload hx hb dX10_culprits_42 (lv_at hl 5 rfl) ?_
      refine lv_iload_n hx hb dX10_culprits_44 rfl (lv_at hl 1 rfl) ?_
      obtain ⟨r5, e6, hf⟩ := z_bd hf
      refine z_callV1 (As := [.int v5, .int v1]) (rest := []) (bs' := [bX10 G q o, bX9 G q (o + 1) S.1.1 S.1.2.1 S.1.2.2.1 S.1.2.2.2.1 S.1.2.2.2.2, bX6 G q (o + 3) S.2.1.1 S.2.1.2, bX8 G q (o + 12) S.2.2.1.1 S.2.2.1.2, bX5 G q (o + 19) S.2.2.2.1.2.1 S.2.2.2.1.2.2.1 S.2.2.2.1.2.2.2.1 S.2.2.2.1.2.2.2.2, bX2 G q ((o + 19) + 2) S.2.2.2.1.1.1 S.2.2.2.1.1.2.1 S.2.2.2.1.1.2.2.1 S.2.2.2.1.1.2.2.2.1 S.2.2.2.1.1.2.2.2.2.1 S.2.2.2.1.1.2.2.2.2.2.1 S.2.2.2.1.1.2.2.2.2.2.2.1 S.2.2.2.1.1.2.2.2.2.2.2.2, bX2 G q (o + 27) S.2.2.2.2.1.1 S.2.2.2.2.1.2.1 S.2.2.2.2.1.2.2.1 S.2.2.2.2.1.2.2.2.1 S.2.2.2.2.1.2.2.2.2.1 S.2.2.2.2.1.2.2.2.2.2.1 S.2.2.2.2.1.2.2.2.2.2.2.1 S.2.2.2.2.1.2.2.2.2.2.2.2, bX1 G q (o + 33) S.2.2.2.2.2.1.1 S.2.2.2.2.2.1.2.1 S.2.2.2.2.2.1.2.2.1 S.2.2.2.2.2.1.2.2.2, bX4 G q (o + 36) S.2.2.2.2.2.2.1.1 S.2.2.2.2.2.2.1.2, bX3 G q (o + 38) S.2.2.2.2.2.2.2.1.1 S.2.2.2.2.2.2.2.1.2.1 S.2.2.2.2.2.2.2.1.2.2.1 S.2.2.2.2.2.2.2.1.2.2.2, bX0 G q (o + 43) S.2.2.2.2.2.2.2.2.1.2.2.1 S.2.2.2.2.2.2.2.2.1.2.2.2, bX2 G q ((o + 43) + 3) S.2.2.2.2.2.2.2.2.1.1.1 S.2.2.2.2.2.2.2.2.1.1.2.1 S.2.2.2.2.2.2.2.2.1.1.2.2.1 S.2.2.2.2.2.2.2.2.1.1.2.2.2.1 S.2.2.2.2.2.2.2.2.1.1.2.2.2.2.1 S.2.2.2.2.2.2.2.2.1.1.2.2.2.2.2.1 S.2.2.2.2.2.2.2.2.1.1.2.2.2.2.2.2.1 S.2.2.2.2.2.2.2.2.1.1.2.2.2.2.2.2.2, bX4 G q ((o + 43) + 9) S.2.2.2.2.2.2.2.2.1.2.1.1 S.2.2.2.2.2.2.2.2.1.2.1.2, bX7 G q (o + 54) S.2.2.2.2.2.2.2.2.2.1 S.2.2.2.2.2.2.2.2.2.2.1 S.2.2.2.2.2.2.2.2.2.2.2]) hS0 (c_X10_fitsNight l G q o S v5 v1 r5 e6) zc_X10_fitsNight rfl gX10_culprits_X10_fitsNight ⟨Nat.le_of_ble_eq_true rfl, Nat.le_of_ble_eq_true rfl⟩ hK hA hT hw (is := [0, 1, 2, 3, 4, 5, 6, 7, 8, 9, 10, 11, 12, 13]) rfl rfl rfl rfl rfl rfl rfl hl.1 rfl (Nat.le_of_ble_eq_true rfl) dX10_culprits_45 (fun H locs hw => ?_)
      refine lv_if_eq (tgt := 64) hx hb dX10_culprits_48 rfl (fun hc => ?_) (fun hc => ?_)
      · have hf := z_t hc hf
        refine lv_iinc (v := (v5 + 1)) (lv' := [(5, .int (v5 + 1)), (0, .ref (q (o + 0))), (1, .int v1), (2, .int v2), (3, .int v3), (4, .int v4)]) hx hb dX10_culprits_64 hl (k := 5) rfl rfl (by decide) rfl (fun ls hl => ?_)
        refine lv_goto (tgt := 29) hx hb dX10_culprits_67 rfl ?_
        exact ih _ _ _ _ _ _ _ _ _ hf hw (lv_sub hl [1, 2, 3, 4, 5, 0] rfl)
      · have hf := z_f hc hf
        refine lv_iconst (v := 1) hx hb dX10_culprits_51 rfl ?_
        refine lv_istore (lv' := [(4, .int 1), (0, .ref (q (o + 0))), (1, .int v1), (2, .int v2), (3, .int v3), (5, .int v5)]) hx hb dX10_culprits_52 hl (by decide) rfl (fun ls hl => ?_)
        refine lv_iload_n hx hb dX10_culprits_54 rfl (lv_at hl 3 rfl) ?_
        refine lv_iload hx hb dX10_culprits_55 (lv_at hl 5 rfl) ?_
        refine lv_ior hx hb dX10_culprits_57 ?_
        refine lv_istore_n (lv' := [(2, .int (v2 ||| v5)), (4, .int 1), (0, .ref (q (o + 0))), (1, .int v1), (3, .int v3), (5, .int v5)]) hx hb dX10_culprits_58 rfl hl (by decide) rfl (fun ls hl => ?_)
        refine lv_iload_n hx hb dX10_culprits_59 rfl (lv_at hl 4 rfl) ?_
        refine lv_iload hx hb dX10_culprits_60 (lv_at hl 5 rfl) ?_
        refine lv_iand hx hb dX10_culprits_62 ?_
        refine lv_istore_n (lv' := [(3, .int (v3 &&& v5)), (2, .int (v2 ||| v5)), (4, .int 1), (0, .ref (q (o + 0))), (1, .int v1), (5, .int v5)]) hx hb dX10_culprits_63 rfl hl (by decide) rfl (fun ls hl => ?_)
        refine lv_iinc (v := (v5 + 1)) (lv' := [(5, .int (v5 + 1)), (3, .int (v3 &&& v5)), (2, .int (v2 ||| v5)), (4, .int 1), (0, .ref (q (o + 0))), (1, .int v1)]) hx hb dX10_culprits_64 hl (k := 5) rfl rfl (by decide) rfl (fun ls hl => ?_)
        refine lv_goto (tgt := 29) hx hb dX10_culprits_67 rfl ?_
        exact ih _ _ _ _ _ _ _ _ _ hf hw (lv_sub hl [4, 5, 2, 1, 3, 0] rfl)
set_option maxHeartbeats 4000000 in
set_option maxRecDepth 100000 in
theorem c_X10_culprits (l : Launch) (G : zG) (q : Nat → Nat) (o : Nat) (S : VX10) (v1 : Int32) (y : Int32 × VX10) (hf : f_X10_culprits S v1 = some y) : zMet l yX10_culprits wsX10_culprits 5 127 G [.ref (q (o + 0)), .int v1] [bX10 G q o, bX9 G q (o + 1) S.1.1 S.1.2.1 S.1.2.2.1 S.1.2.2.2.1 S.1.2.2.2.2, bX6 G q (o + 3) S.2.1.1 S.2.1.2, bX8 G q (o + 12) S.2.2.1.1 S.2.2.1.2, bX5 G q (o + 19) S.2.2.2.1.2.1 S.2.2.2.1.2.2.1 S.2.2.2.1.2.2.2.1 S.2.2.2.1.2.2.2.2, bX2 G q ((o + 19) + 2) S.2.2.2.1.1.1 S.2.2.2.1.1.2.1 S.2.2.2.1.1.2.2.1 S.2.2.2.1.1.2.2.2.1 S.2.2.2.1.1.2.2.2.2.1 S.2.2.2.1.1.2.2.2.2.2.1 S.2.2.2.1.1.2.2.2.2.2.2.1 S.2.2.2.1.1.2.2.2.2.2.2.2, bX2 G q (o + 27) S.2.2.2.2.1.1 S.2.2.2.2.1.2.1 S.2.2.2.2.1.2.2.1 S.2.2.2.2.1.2.2.2.1 S.2.2.2.2.1.2.2.2.2.1 S.2.2.2.2.1.2.2.2.2.2.1 S.2.2.2.2.1.2.2.2.2.2.2.1 S.2.2.2.2.1.2.2.2.2.2.2.2, bX1 G q (o + 33) S.2.2.2.2.2.1.1 S.2.2.2.2.2.1.2.1 S.2.2.2.2.2.1.2.2.1 S.2.2.2.2.2.1.2.2.2, bX4 G q (o + 36) S.2.2.2.2.2.2.1.1 S.2.2.2.2.2.2.1.2, bX3 G q (o + 38) S.2.2.2.2.2.2.2.1.1 S.2.2.2.2.2.2.2.1.2.1 S.2.2.2.2.2.2.2.1.2.2.1 S.2.2.2.2.2.2.2.1.2.2.2, bX0 G q (o + 43) S.2.2.2.2.2.2.2.2.1.2.2.1 S.2.2.2.2.2.2.2.2.1.2.2.2, bX2 G q ((o + 43) + 3) S.2.2.2.2.2.2.2.2.1.1.1 S.2.2.2.2.2.2.2.2.1.1.2.1 S.2.2.2.2.2.2.2.2.1.1.2.2.1 S.2.2.2.2.2.2.2.2.1.1.2.2.2.1 S.2.2.2.2.2.2.2.2.1.1.2.2.2.2.1 S.2.2.2.2.2.2.2.2.1.1.2.2.2.2.2.1 S.2.2.2.2.2.2.2.2.1.1.2.2.2.2.2.2.1 S.2.2.2.2.2.2.2.2.1.1.2.2.2.2.2.2.2, bX4 G q ((o + 43) + 9) S.2.2.2.2.2.2.2.2.1.2.1.1 S.2.2.2.2.2.2.2.2.1.2.1.2, bX7 G q (o + 54) S.2.2.2.2.2.2.2.2.2.1 S.2.2.2.2.2.2.2.2.2.2.1 S.2.2.2.2.2.2.2.2.2.2.2] (some (.int y.1)) [bX10 G q o, bX9 G q (o + 1) y.2.1.1 y.2.1.2.1 y.2.1.2.2.1 y.2.1.2.2.2.1 y.2.1.2.2.2.2, bX6 G q (o + 3) y.2.2.1.1 y.2.2.1.2, bX8 G q (o + 12) y.2.2.2.1.1 y.2.2.2.1.2, bX5 G q (o + 19) y.2.2.2.2.1.2.1 y.2.2.2.2.1.2.2.1 y.2.2.2.2.1.2.2.2.1 y.2.2.2.2.1.2.2.2.2, bX2 G q ((o + 19) + 2) y.2.2.2.2.1.1.1 y.2.2.2.2.1.1.2.1 y.2.2.2.2.1.1.2.2.1 y.2.2.2.2.1.1.2.2.2.1 y.2.2.2.2.1.1.2.2.2.2.1 y.2.2.2.2.1.1.2.2.2.2.2.1 y.2.2.2.2.1.1.2.2.2.2.2.2.1 y.2.2.2.2.1.1.2.2.2.2.2.2.2, bX2 G q (o + 27) y.2.2.2.2.2.1.1 y.2.2.2.2.2.1.2.1 y.2.2.2.2.2.1.2.2.1 y.2.2.2.2.2.1.2.2.2.1 y.2.2.2.2.2.1.2.2.2.2.1 y.2.2.2.2.2.1.2.2.2.2.2.1 y.2.2.2.2.2.1.2.2.2.2.2.2.1 y.2.2.2.2.2.1.2.2.2.2.2.2.2, bX1 G q (o + 33) y.2.2.2.2.2.2.1.1 y.2.2.2.2.2.2.1.2.1 y.2.2.2.2.2.2.1.2.2.1 y.2.2.2.2.2.2.1.2.2.2, bX4 G q (o + 36) y.2.2.2.2.2.2.2.1.1 y.2.2.2.2.2.2.2.1.2, bX3 G q (o + 38) y.2.2.2.2.2.2.2.2.1.1 y.2.2.2.2.2.2.2.2.1.2.1 y.2.2.2.2.2.2.2.2.1.2.2.1 y.2.2.2.2.2.2.2.2.1.2.2.2, bX0 G q (o + 43) y.2.2.2.2.2.2.2.2.2.1.2.2.1 y.2.2.2.2.2.2.2.2.2.1.2.2.2, bX2 G q ((o + 43) + 3) y.2.2.2.2.2.2.2.2.2.1.1.1 y.2.2.2.2.2.2.2.2.2.1.1.2.1 y.2.2.2.2.2.2.2.2.2.1.1.2.2.1 y.2.2.2.2.2.2.2.2.2.1.1.2.2.2.1 y.2.2.2.2.2.2.2.2.2.1.1.2.2.2.2.1 y.2.2.2.2.2.2.2.2.2.1.1.2.2.2.2.2.1 y.2.2.2.2.2.2.2.2.2.1.1.2.2.2.2.2.2.1 y.2.2.2.2.2.2.2.2.2.1.1.2.2.2.2.2.2.2, bX4 G q ((o + 43) + 9) y.2.2.2.2.2.2.2.2.2.1.2.1.1 y.2.2.2.2.2.2.2.2.2.1.2.1.2, bX7 G q (o + 54) y.2.2.2.2.2.2.2.2.2.2.1 y.2.2.2.2.2.2.2.2.2.2.2.1 y.2.2.2.2.2.2.2.2.2.2.2.2] := by
  refine z_met zc_X10_culprits (Nat.le_of_ble_eq_true rfl) ?_
  intro p e s m below meth c A ls hZ hl hw
  have hl : lv_has ls 6 [(0, .ref (q (o + 0))), (1, .int v1)] := hl
  obtain ⟨hS0, hr, hlk, hK, hA, hT⟩ := id hZ
  have hx := hS0.1
  have hb := hS0.2.1
  have hml := hS0.2.2.1
  have hown : s.vm.findClass RX10 = some m.cls := hS0.2.2.2.1
  have hts := hS0.2.2.2.2
  unfold f_X10_culprits at hf
  refine lv_iload_n hx hb dX10_culprits_0 rfl (lv_at hl 1 rfl) ?_
  obtain ⟨r7, e8, hf⟩ := z_bd hf
  refine z_callS1 (As := [.int v1]) (rest := []) (bs' := [bX10 G q o, bX9 G q (o + 1) S.1.1 S.1.2.1 S.1.2.2.1 S.1.2.2.2.1 S.1.2.2.2.2, bX6 G q (o + 3) S.2.1.1 S.2.1.2, bX8 G q (o + 12) S.2.2.1.1 S.2.2.1.2, bX5 G q (o + 19) S.2.2.2.1.2.1 S.2.2.2.1.2.2.1 S.2.2.2.1.2.2.2.1 S.2.2.2.1.2.2.2.2, bX2 G q ((o + 19) + 2) S.2.2.2.1.1.1 S.2.2.2.1.1.2.1 S.2.2.2.1.1.2.2.1 S.2.2.2.1.1.2.2.2.1 S.2.2.2.1.1.2.2.2.2.1 S.2.2.2.1.1.2.2.2.2.2.1 S.2.2.2.1.1.2.2.2.2.2.2.1 S.2.2.2.1.1.2.2.2.2.2.2.2, bX2 G q (o + 27) S.2.2.2.2.1.1 S.2.2.2.2.1.2.1 S.2.2.2.2.1.2.2.1 S.2.2.2.2.1.2.2.2.1 S.2.2.2.2.1.2.2.2.2.1 S.2.2.2.2.1.2.2.2.2.2.1 S.2.2.2.2.1.2.2.2.2.2.2.1 S.2.2.2.2.1.2.2.2.2.2.2.2, bX1 G q (o + 33) S.2.2.2.2.2.1.1 S.2.2.2.2.2.1.2.1 S.2.2.2.2.2.1.2.2.1 S.2.2.2.2.2.1.2.2.2, bX4 G q (o + 36) S.2.2.2.2.2.2.1.1 S.2.2.2.2.2.2.1.2, bX3 G q (o + 38) S.2.2.2.2.2.2.2.1.1 S.2.2.2.2.2.2.2.1.2.1 S.2.2.2.2.2.2.2.1.2.2.1 S.2.2.2.2.2.2.2.1.2.2.2, bX0 G q (o + 43) S.2.2.2.2.2.2.2.2.1.2.2.1 S.2.2.2.2.2.2.2.2.1.2.2.2, bX2 G q ((o + 43) + 3) S.2.2.2.2.2.2.2.2.1.1.1 S.2.2.2.2.2.2.2.2.1.1.2.1 S.2.2.2.2.2.2.2.2.1.1.2.2.1 S.2.2.2.2.2.2.2.2.1.1.2.2.2.1 S.2.2.2.2.2.2.2.2.1.1.2.2.2.2.1 S.2.2.2.2.2.2.2.2.1.1.2.2.2.2.2.1 S.2.2.2.2.2.2.2.2.1.1.2.2.2.2.2.2.1 S.2.2.2.2.2.2.2.2.1.1.2.2.2.2.2.2.2, bX4 G q ((o + 43) + 9) S.2.2.2.2.2.2.2.2.1.2.1.1 S.2.2.2.2.2.2.2.2.1.2.1.2, bX7 G q (o + 54) S.2.2.2.2.2.2.2.2.2.1 S.2.2.2.2.2.2.2.2.2.2.1 S.2.2.2.2.2.2.2.2.2.2.2]) hS0 (c_X10_isFavours l G v1 r7 e8) zc_X10_isFavours gX10_culprits_X10_isFavours ⟨Nat.le_of_ble_eq_true rfl, Nat.le_of_ble_eq_true rfl⟩ hK hA hT hw (is := []) rfl rfl rfl rfl rfl hl.1 rfl (Nat.le_of_ble_eq_true rfl) dX10_culprits_1 (fun H locs hw => ?_)
  refine lv_if_ne (tgt := 9) hx hb dX10_culprits_4 rfl (fun hc => ?_) (fun hc => ?_)
  · have hf := z_f hc hf
    refine lv_aload_n hx hb dX10_culprits_9 rfl (lv_at hl 0 rfl) ?_
    obtain ⟨r9, e10, hf⟩ := z_bd hf
    refine z_callV0 (As := []) (rest := []) (bs' := [bX10 G q o, bX9 G q (o + 1) r9.1.1 r9.1.2.1 r9.1.2.2.1 r9.1.2.2.2.1 r9.1.2.2.2.2, bX6 G q (o + 3) r9.2.1.1 r9.2.1.2, bX8 G q (o + 12) r9.2.2.1.1 r9.2.2.1.2, bX5 G q (o + 19) r9.2.2.2.1.2.1 r9.2.2.2.1.2.2.1 r9.2.2.2.1.2.2.2.1 r9.2.2.2.1.2.2.2.2, bX2 G q ((o + 19) + 2) r9.2.2.2.1.1.1 r9.2.2.2.1.1.2.1 r9.2.2.2.1.1.2.2.1 r9.2.2.2.1.1.2.2.2.1 r9.2.2.2.1.1.2.2.2.2.1 r9.2.2.2.1.1.2.2.2.2.2.1 r9.2.2.2.1.1.2.2.2.2.2.2.1 r9.2.2.2.1.1.2.2.2.2.2.2.2, bX2 G q (o + 27) r9.2.2.2.2.1.1 r9.2.2.2.2.1.2.1 r9.2.2.2.2.1.2.2.1 r9.2.2.2.2.1.2.2.2.1 r9.2.2.2.2.1.2.2.2.2.1 r9.2.2.2.2.1.2.2.2.2.2.1 r9.2.2.2.2.1.2.2.2.2.2.2.1 r9.2.2.2.2.1.2.2.2.2.2.2.2, bX1 G q (o + 33) r9.2.2.2.2.2.1.1 r9.2.2.2.2.2.1.2.1 r9.2.2.2.2.2.1.2.2.1 r9.2.2.2.2.2.1.2.2.2, bX4 G q (o + 36) r9.2.2.2.2.2.2.1.1 r9.2.2.2.2.2.2.1.2, bX3 G q (o + 38) r9.2.2.2.2.2.2.2.1.1 r9.2.2.2.2.2.2.2.1.2.1 r9.2.2.2.2.2.2.2.1.2.2.1 r9.2.2.2.2.2.2.2.1.2.2.2, bX0 G q (o + 43) r9.2.2.2.2.2.2.2.2.1.2.2.1 r9.2.2.2.2.2.2.2.2.1.2.2.2, bX2 G q ((o + 43) + 3) r9.2.2.2.2.2.2.2.2.1.1.1 r9.2.2.2.2.2.2.2.2.1.1.2.1 r9.2.2.2.2.2.2.2.2.1.1.2.2.1 r9.2.2.2.2.2.2.2.2.1.1.2.2.2.1 r9.2.2.2.2.2.2.2.2.1.1.2.2.2.2.1 r9.2.2.2.2.2.2.2.2.1.1.2.2.2.2.2.1 r9.2.2.2.2.2.2.2.2.1.1.2.2.2.2.2.2.1 r9.2.2.2.2.2.2.2.2.1.1.2.2.2.2.2.2.2, bX4 G q ((o + 43) + 9) r9.2.2.2.2.2.2.2.2.1.2.1.1 r9.2.2.2.2.2.2.2.2.1.2.1.2, bX7 G q (o + 54) r9.2.2.2.2.2.2.2.2.2.1 r9.2.2.2.2.2.2.2.2.2.2.1 r9.2.2.2.2.2.2.2.2.2.2.2]) hS0 (c_X10_reachAll l G q o S r9 e10) zc_X10_reachAll rfl gX10_culprits_X10_reachAll ⟨Nat.le_of_ble_eq_true rfl, Nat.le_of_ble_eq_true rfl⟩ hK hA hT hw (is := [0, 1, 2, 3, 4, 5, 6, 7, 8, 9, 10, 11, 12, 13]) rfl rfl rfl rfl rfl rfl rfl hl.1 rfl (Nat.le_of_ble_eq_true rfl) dX10_culprits_10 (fun H locs hw => ?_)
    refine lv_iconst (v := 0) hx hb dX10_culprits_13 rfl ?_
    refine lv_istore_n (lv' := [(2, .int 0), (0, .ref (q (o + 0))), (1, .int v1)]) hx hb dX10_culprits_14 rfl hl (by decide) rfl (fun ls hl => ?_)
    refine lv_aload_n hx hb dX10_culprits_15 rfl (lv_at hl 1 rfl) ?_
    refine z_get hS0 in_X10_culprits_X10 hK hw 0 4 rfl rfl rfl (by decide) (hts _ m_X10_culprits_0) (v := .ref (q ((o + 27) + 0))) rfl dX10_culprits_16 ?_
    obtain ⟨r11, e12, hf⟩ := z_bd hf
    refine z_callV1 (As := []) (rest := []) (bs' := [bX10 G q o, bX9 G q (o + 1) r9.1.1 r9.1.2.1 r9.1.2.2.1 r9.1.2.2.2.1 r9.1.2.2.2.2, bX6 G q (o + 3) r9.2.1.1 r9.2.1.2, bX8 G q (o + 12) r9.2.2.1.1 r9.2.2.1.2, bX5 G q (o + 19) r9.2.2.2.1.2.1 r9.2.2.2.1.2.2.1 r9.2.2.2.1.2.2.2.1 r9.2.2.2.1.2.2.2.2, bX2 G q ((o + 19) + 2) r9.2.2.2.1.1.1 r9.2.2.2.1.1.2.1 r9.2.2.2.1.1.2.2.1 r9.2.2.2.1.1.2.2.2.1 r9.2.2.2.1.1.2.2.2.2.1 r9.2.2.2.1.1.2.2.2.2.2.1 r9.2.2.2.1.1.2.2.2.2.2.2.1 r9.2.2.2.1.1.2.2.2.2.2.2.2, bX2 G q (o + 27) r9.2.2.2.2.1.1 r9.2.2.2.2.1.2.1 r9.2.2.2.2.1.2.2.1 r9.2.2.2.2.1.2.2.2.1 r9.2.2.2.2.1.2.2.2.2.1 r9.2.2.2.2.1.2.2.2.2.2.1 r9.2.2.2.2.1.2.2.2.2.2.2.1 r9.2.2.2.2.1.2.2.2.2.2.2.2, bX1 G q (o + 33) r9.2.2.2.2.2.1.1 r9.2.2.2.2.2.1.2.1 r9.2.2.2.2.2.1.2.2.1 r9.2.2.2.2.2.1.2.2.2, bX4 G q (o + 36) r9.2.2.2.2.2.2.1.1 r9.2.2.2.2.2.2.1.2, bX3 G q (o + 38) r9.2.2.2.2.2.2.2.1.1 r9.2.2.2.2.2.2.2.1.2.1 r9.2.2.2.2.2.2.2.1.2.2.1 r9.2.2.2.2.2.2.2.1.2.2.2, bX0 G q (o + 43) r9.2.2.2.2.2.2.2.2.1.2.2.1 r9.2.2.2.2.2.2.2.2.1.2.2.2, bX2 G q ((o + 43) + 3) r9.2.2.2.2.2.2.2.2.1.1.1 r9.2.2.2.2.2.2.2.2.1.1.2.1 r9.2.2.2.2.2.2.2.2.1.1.2.2.1 r9.2.2.2.2.2.2.2.2.1.1.2.2.2.1 r9.2.2.2.2.2.2.2.2.1.1.2.2.2.2.1 r9.2.2.2.2.2.2.2.2.1.1.2.2.2.2.2.1 r9.2.2.2.2.2.2.2.2.1.1.2.2.2.2.2.2.1 r9.2.2.2.2.2.2.2.2.1.1.2.2.2.2.2.2.2, bX4 G q ((o + 43) + 9) r9.2.2.2.2.2.2.2.2.1.2.1.1 r9.2.2.2.2.2.2.2.2.1.2.1.2, bX7 G q (o + 54) r9.2.2.2.2.2.2.2.2.2.1 r9.2.2.2.2.2.2.2.2.2.2.1 r9.2.2.2.2.2.2.2.2.2.2.2]) hS0 (c_X2_everyone l G q (o + 27) r9.2.2.2.2.1 r11 e12) zc_X2_everyone rfl gX10_culprits_X2_everyone ⟨Nat.le_of_ble_eq_true rfl, Nat.le_of_ble_eq_true rfl⟩ hK hA hT hw (is := [6]) rfl rfl rfl rfl rfl rfl rfl hl.1 rfl (Nat.le_of_ble_eq_true rfl) dX10_culprits_19 (fun H locs hw => ?_)
    refine lv_istore_n (lv' := [(3, .int r11), (2, .int 0), (0, .ref (q (o + 0))), (1, .int v1)]) hx hb dX10_culprits_22 rfl hl (by decide) rfl (fun ls hl => ?_)
    refine lv_iconst (v := 0) hx hb dX10_culprits_23 rfl ?_
    refine lv_istore (lv' := [(4, .int 0), (3, .int r11), (2, .int 0), (0, .ref (q (o + 0))), (1, .int v1)]) hx hb dX10_culprits_24 hl (by decide) rfl (fun ls hl => ?_)
    refine lv_iconst (v := 0) hx hb dX10_culprits_26 rfl ?_
    refine lv_istore (lv' := [(5, .int 0), (4, .int 0), (3, .int r11), (2, .int 0), (0, .ref (q (o + 0))), (1, .int v1)]) hx hb dX10_culprits_27 hl (by decide) rfl (fun ls hl => ?_)
    exact k_X10_culprits_29 hZ _ 4096 _ _ _ _ _ _ _ _ _ hf hw (lv_sub hl [4, 5, 3, 2, 1, 0] rfl)
  · have hf := z_t hc hf
    refine lv_iconst (v := (-1)) hx hb dX10_culprits_7 rfl ?_
    cases hf
    exact z_iret hx hb hr hlk hw dX10_culprits_8
theorem zc_X10_deals : zC yX10_deals wsX10_deals cX10_deals 5 (some .int) 2 := ⟨⟨_, rfl⟩, by decide +kernel, by decide +kernel, by decide +kernel, by decide +kernel⟩
theorem m_X10_deals_0 : (.fieldLink RX10 40 "CellKeys" "jail" "LCellKeys$Jail;" : Cond) ∈ wsX10_deals := by decide +kernel
theorem in_X10_deals_X10 : ∀ w ∈ u_ws RX10 TX10 10, w ∈ wsX10_deals := by decide +kernel
theorem m_X10_deals_1 : (.fieldLink RX10 19 "CellKeys" "rows" "LCellKeys$Rows;" : Cond) ∈ wsX10_deals := by decide +kernel
theorem m_X10_deals_2 : (.fieldLink RX10 68 "CellKeys" "dealer" "LCellKeys$Dealer;" : Cond) ∈ wsX10_deals := by decide +kernel
set_option maxHeartbeats 4000000 in
set_option maxRecDepth 100000 in
theorem k_X10_deals_83 {p : Program} {l : Launch} {e : Env} {s : State} {m : MethodId} {args : Array Value} {below : List Frame} {meth : Method} {c : Code} {A : Nat → Prop} {G : zG} {q : Nat → Nat} {o : Nat}  (hZ : zZ p s m args meth c A G cX10_deals 5 RX10 wsX10_deals (some .int)) (y : Int32 × VX10)  (n : Nat) : ∀ (S : VX10) (v2 : Int32) (v3 : Int32) (v4 : Int32) (H : Heap) (locs : List Loc) (ls : Array Slot), f_X10_deals_83 n S v2 v3 v4 = some y → zH G A s.heap [bX10 G q o, bX9 G q (o + 1) S.1.1 S.1.2.1 S.1.2.2.1 S.1.2.2.2.1 S.1.2.2.2.2, bX6 G q (o + 3) S.2.1.1 S.2.1.2, bX8 G q (o + 12) S.2.2.1.1 S.2.2.1.2, bX5 G q (o + 19) S.2.2.2.1.2.1 S.2.2.2.1.2.2.1 S.2.2.2.1.2.2.2.1 S.2.2.2.1.2.2.2.2, bX2 G q ((o + 19) + 2) S.2.2.2.1.1.1 S.2.2.2.1.1.2.1 S.2.2.2.1.1.2.2.1 S.2.2.2.1.1.2.2.2.1 S.2.2.2.1.1.2.2.2.2.1 S.2.2.2.1.1.2.2.2.2.2.1 S.2.2.2.1.1.2.2.2.2.2.2.1 S.2.2.2.1.1.2.2.2.2.2.2.2, bX2 G q (o + 27) S.2.2.2.2.1.1 S.2.2.2.2.1.2.1 S.2.2.2.2.1.2.2.1 S.2.2.2.2.1.2.2.2.1 S.2.2.2.2.1.2.2.2.2.1 S.2.2.2.2.1.2.2.2.2.2.1 S.2.2.2.2.1.2.2.2.2.2.2.1 S.2.2.2.2.1.2.2.2.2.2.2.2, bX1 G q (o + 33) S.2.2.2.2.2.1.1 S.2.2.2.2.2.1.2.1 S.2.2.2.2.2.1.2.2.1 S.2.2.2.2.2.1.2.2.2, bX4 G q (o + 36) S.2.2.2.2.2.2.1.1 S.2.2.2.2.2.2.1.2, bX3 G q (o + 38) S.2.2.2.2.2.2.2.1.1 S.2.2.2.2.2.2.2.1.2.1 S.2.2.2.2.2.2.2.1.2.2.1 S.2.2.2.2.2.2.2.1.2.2.2, bX0 G q (o + 43) S.2.2.2.2.2.2.2.2.1.2.2.1 S.2.2.2.2.2.2.2.2.1.2.2.2, bX2 G q ((o + 43) + 3) S.2.2.2.2.2.2.2.2.1.1.1 S.2.2.2.2.2.2.2.2.1.1.2.1 S.2.2.2.2.2.2.2.2.1.1.2.2.1 S.2.2.2.2.2.2.2.2.1.1.2.2.2.1 S.2.2.2.2.2.2.2.2.1.1.2.2.2.2.1 S.2.2.2.2.2.2.2.2.1.1.2.2.2.2.2.1 S.2.2.2.2.2.2.2.2.1.1.2.2.2.2.2.2.1 S.2.2.2.2.2.2.2.2.1.1.2.2.2.2.2.2.2, bX4 G q ((o + 43) + 9) S.2.2.2.2.2.2.2.2.1.2.1.1 S.2.2.2.2.2.2.2.2.1.2.1.2, bX7 G q (o + 54) S.2.2.2.2.2.2.2.2.2.1 S.2.2.2.2.2.2.2.2.2.2.1 S.2.2.2.2.2.2.2.2.2.2.2] H locs → lv_has ls 5 [(0, .ref (q (o + 0))), (2, .int v2), (3, .int v3), (4, .int v4)] → W p l e { frames := 6, cells := 0, slots := 0, locals := 155 } s m args below meth c H locs 0 0 (MQ below (zQ (some (.int y.1)) (zPost G [bX10 G q o, bX9 G q (o + 1) y.2.1.1 y.2.1.2.1 y.2.1.2.2.1 y.2.1.2.2.2.1 y.2.1.2.2.2.2, bX6 G q (o + 3) y.2.2.1.1 y.2.2.1.2, bX8 G q (o + 12) y.2.2.2.1.1 y.2.2.2.1.2, bX5 G q (o + 19) y.2.2.2.2.1.2.1 y.2.2.2.2.1.2.2.1 y.2.2.2.2.1.2.2.2.1 y.2.2.2.2.1.2.2.2.2, bX2 G q ((o + 19) + 2) y.2.2.2.2.1.1.1 y.2.2.2.2.1.1.2.1 y.2.2.2.2.1.1.2.2.1 y.2.2.2.2.1.1.2.2.2.1 y.2.2.2.2.1.1.2.2.2.2.1 y.2.2.2.2.1.1.2.2.2.2.2.1 y.2.2.2.2.1.1.2.2.2.2.2.2.1 y.2.2.2.2.1.1.2.2.2.2.2.2.2, bX2 G q (o + 27) y.2.2.2.2.2.1.1 y.2.2.2.2.2.1.2.1 y.2.2.2.2.2.1.2.2.1 y.2.2.2.2.2.1.2.2.2.1 y.2.2.2.2.2.1.2.2.2.2.1 y.2.2.2.2.2.1.2.2.2.2.2.1 y.2.2.2.2.2.1.2.2.2.2.2.2.1 y.2.2.2.2.2.1.2.2.2.2.2.2.2, bX1 G q (o + 33) y.2.2.2.2.2.2.1.1 y.2.2.2.2.2.2.1.2.1 y.2.2.2.2.2.2.1.2.2.1 y.2.2.2.2.2.2.1.2.2.2, bX4 G q (o + 36) y.2.2.2.2.2.2.2.1.1 y.2.2.2.2.2.2.2.1.2, bX3 G q (o + 38) y.2.2.2.2.2.2.2.2.1.1 y.2.2.2.2.2.2.2.2.1.2.1 y.2.2.2.2.2.2.2.2.1.2.2.1 y.2.2.2.2.2.2.2.2.1.2.2.2, bX0 G q (o + 43) y.2.2.2.2.2.2.2.2.2.1.2.2.1 y.2.2.2.2.2.2.2.2.2.1.2.2.2, bX2 G q ((o + 43) + 3) y.2.2.2.2.2.2.2.2.2.1.1.1 y.2.2.2.2.2.2.2.2.2.1.1.2.1 y.2.2.2.2.2.2.2.2.2.1.1.2.2.1 y.2.2.2.2.2.2.2.2.2.1.1.2.2.2.1 y.2.2.2.2.2.2.2.2.2.1.1.2.2.2.2.1 y.2.2.2.2.2.2.2.2.2.1.1.2.2.2.2.2.1 y.2.2.2.2.2.2.2.2.2.1.1.2.2.2.2.2.2.1 y.2.2.2.2.2.2.2.2.2.1.1.2.2.2.2.2.2.2, bX4 G q ((o + 43) + 9) y.2.2.2.2.2.2.2.2.2.1.2.1.1 y.2.2.2.2.2.2.2.2.2.1.2.1.2, bX7 G q (o + 54) y.2.2.2.2.2.2.2.2.2.2.1 y.2.2.2.2.2.2.2.2.2.2.2.1 y.2.2.2.2.2.2.2.2.2.2.2.2]) A) args s 0 0 A) (F0 m 83 ls []) := by
  obtain ⟨hS0, hr, hlk, hK, hA, hT⟩ := id hZ
  have hx := hS0.1
  have hb := hS0.2.1
  have hml := hS0.2.2.1
  have hown : s.vm.findClass RX10 = some m.cls := hS0.2.2.2.1
  have hts := hS0.2.2.2.2
  induction n with
  | zero =>
    intro S v2 v3 v4 H locs ls hf hw hl
    unfold f_X10_deals_83 at hf
    cases hf
  | succ n ih =>
    intro S v2 v3 v4 H locs ls hf hw hl
    unfold f_X10_deals_83 at hf
    refine lv_iload hx hb dX10_deals_83 (lv_at hl 3 rfl) ?_
    refine lv_aload_n hx hb dX10_deals_85 rfl (lv_at hl 0 rfl) ?_
    refine z_get hS0 in_X10_deals_X10 hK hw 0 4 rfl rfl rfl (by decide) (hts _ m_X10_deals_0) (v := .ref (q ((o + 27) + 0))) rfl dX10_deals_86 ?_
    obtain ⟨r1, e2, hf⟩ := z_bd hf
    refine z_callV1 (As := []) (rest := [.int v4]) (bs' := [bX10 G q o, bX9 G q (o + 1) S.1.1 S.1.2.1 S.1.2.2.1 S.1.2.2.2.1 S.1.2.2.2.2, bX6 G q (o + 3) S.2.1.1 S.2.1.2, bX8 G q (o + 12) S.2.2.1.1 S.2.2.1.2, bX5 G q (o + 19) S.2.2.2.1.2.1 S.2.2.2.1.2.2.1 S.2.2.2.1.2.2.2.1 S.2.2.2.1.2.2.2.2, bX2 G q ((o + 19) + 2) S.2.2.2.1.1.1 S.2.2.2.1.1.2.1 S.2.2.2.1.1.2.2.1 S.2.2.2.1.1.2.2.2.1 S.2.2.2.1.1.2.2.2.2.1 S.2.2.2.1.1.2.2.2.2.2.1 S.2.2.2.1.1.2.2.2.2.2.2.1 S.2.2.2.1.1.2.2.2.2.2.2.2, bX2 G q (o + 27) S.2.2.2.2.1.1 S.2.2.2.2.1.2.1 S.2.2.2.2.1.2.2.1 S.2.2.2.2.1.2.2.2.1 S.2.2.2.2.1.2.2.2.2.1 S.2.2.2.2.1.2.2.2.2.2.1 S.2.2.2.2.1.2.2.2.2.2.2.1 S.2.2.2.2.1.2.2.2.2.2.2.2, bX1 G q (o + 33) S.2.2.2.2.2.1.1 S.2.2.2.2.2.1.2.1 S.2.2.2.2.2.1.2.2.1 S.2.2.2.2.2.1.2.2.2, bX4 G q (o + 36) S.2.2.2.2.2.2.1.1 S.2.2.2.2.2.2.1.2, bX3 G q (o + 38) S.2.2.2.2.2.2.2.1.1 S.2.2.2.2.2.2.2.1.2.1 S.2.2.2.2.2.2.2.1.2.2.1 S.2.2.2.2.2.2.2.1.2.2.2, bX0 G q (o + 43) S.2.2.2.2.2.2.2.2.1.2.2.1 S.2.2.2.2.2.2.2.2.1.2.2.2, bX2 G q ((o + 43) + 3) S.2.2.2.2.2.2.2.2.1.1.1 S.2.2.2.2.2.2.2.2.1.1.2.1 S.2.2.2.2.2.2.2.2.1.1.2.2.1 S.2.2.2.2.2.2.2.2.1.1.2.2.2.1 S.2.2.2.2.2.2.2.2.1.1.2.2.2.2.1 S.2.2.2.2.2.2.2.2.1.1.2.2.2.2.2.1 S.2.2.2.2.2.2.2.2.1.1.2.2.2.2.2.2.1 S.2.2.2.2.2.2.2.2.1.1.2.2.2.2.2.2.2, bX4 G q ((o + 43) + 9) S.2.2.2.2.2.2.2.2.1.2.1.1 S.2.2.2.2.2.2.2.2.1.2.1.2, bX7 G q (o + 54) S.2.2.2.2.2.2.2.2.2.1 S.2.2.2.2.2.2.2.2.2.2.1 S.2.2.2.2.2.2.2.2.2.2.2]) hS0 (c_X2_cells l G q (o + 27) S.2.2.2.2.1 r1 e2) zc_X2_cells rfl gX10_deals_X2_cells ⟨Nat.le_of_ble_eq_true rfl, Nat.le_of_ble_eq_true rfl⟩ hK hA hT hw (is := [6]) rfl rfl rfl rfl rfl rfl rfl hl.1 rfl (Nat.le_of_ble_eq_true rfl) dX10_deals_89 (fun H locs hw => ?_)
    refine lv_icmp_ge (tgt := 120) hx hb dX10_deals_92 rfl (fun hc => ?_) (fun hc => ?_)
    · have hf := z_t hc hf
      refine lv_iload_n hx hb dX10_deals_120 rfl (lv_at hl 2 rfl) ?_
      cases hf
      exact z_iret hx hb hr hlk hw dX10_deals_121
    · have hf := z_f hc hf
      refine lv_aload_n hx hb dX10_deals_95 rfl (lv_at hl 0 rfl) ?_
      refine z_get hS0 in_X10_deals_X10 hK hw 0 1 rfl rfl rfl (by decide) (hts _ m_X10_deals_1) (v := .ref (q ((o + 3) + 0))) rfl dX10_deals_96 ?_
      refine lv_iload_n hx hb dX10_deals_99 rfl (lv_at hl 1 rfl) ?_
      refine lv_iload hx hb dX10_deals_100 (lv_at hl 3 rfl) ?_
      refine lv_aload_n hx hb dX10_deals_102 rfl (lv_at hl 0 rfl) ?_
      refine z_get hS0 in_X10_deals_X10 hK hw 0 8 rfl rfl rfl (by decide) (hts _ m_X10_deals_2) (v := .ref (q ((o + 43) + 0))) rfl dX10_deals_103 ?_
      refine lv_iload hx hb dX10_deals_106 (lv_at hl 3 rfl) ?_
      obtain ⟨r3, e4, hf⟩ := z_bd hf
      refine z_callV1 (As := [.int v4]) (rest := [.int v4, .int v2, .ref (q ((o + 3) + 0))]) (bs' := [bX10 G q o, bX9 G q (o + 1) S.1.1 S.1.2.1 S.1.2.2.1 S.1.2.2.2.1 S.1.2.2.2.2, bX6 G q (o + 3) S.2.1.1 S.2.1.2, bX8 G q (o + 12) S.2.2.1.1 S.2.2.1.2, bX5 G q (o + 19) S.2.2.2.1.2.1 S.2.2.2.1.2.2.1 S.2.2.2.1.2.2.2.1 S.2.2.2.1.2.2.2.2, bX2 G q ((o + 19) + 2) S.2.2.2.1.1.1 S.2.2.2.1.1.2.1 S.2.2.2.1.1.2.2.1 S.2.2.2.1.1.2.2.2.1 S.2.2.2.1.1.2.2.2.2.1 S.2.2.2.1.1.2.2.2.2.2.1 S.2.2.2.1.1.2.2.2.2.2.2.1 S.2.2.2.1.1.2.2.2.2.2.2.2, bX2 G q (o + 27) S.2.2.2.2.1.1 S.2.2.2.2.1.2.1 S.2.2.2.2.1.2.2.1 S.2.2.2.2.1.2.2.2.1 S.2.2.2.2.1.2.2.2.2.1 S.2.2.2.2.1.2.2.2.2.2.1 S.2.2.2.2.1.2.2.2.2.2.2.1 S.2.2.2.2.1.2.2.2.2.2.2.2, bX1 G q (o + 33) S.2.2.2.2.2.1.1 S.2.2.2.2.2.1.2.1 S.2.2.2.2.2.1.2.2.1 S.2.2.2.2.2.1.2.2.2, bX4 G q (o + 36) S.2.2.2.2.2.2.1.1 S.2.2.2.2.2.2.1.2, bX3 G q (o + 38) S.2.2.2.2.2.2.2.1.1 S.2.2.2.2.2.2.2.1.2.1 S.2.2.2.2.2.2.2.1.2.2.1 S.2.2.2.2.2.2.2.1.2.2.2, bX0 G q (o + 43) S.2.2.2.2.2.2.2.2.1.2.2.1 S.2.2.2.2.2.2.2.2.1.2.2.2, bX2 G q ((o + 43) + 3) S.2.2.2.2.2.2.2.2.1.1.1 S.2.2.2.2.2.2.2.2.1.1.2.1 S.2.2.2.2.2.2.2.2.1.1.2.2.1 S.2.2.2.2.2.2.2.2.1.1.2.2.2.1 S.2.2.2.2.2.2.2.2.1.1.2.2.2.2.1 S.2.2.2.2.2.2.2.2.1.1.2.2.2.2.2.1 S.2.2.2.2.2.2.2.2.1.1.2.2.2.2.2.2.1 S.2.2.2.2.2.2.2.2.1.1.2.2.2.2.2.2.2, bX4 G q ((o + 43) + 9) S.2.2.2.2.2.2.2.2.1.2.1.1 S.2.2.2.2.2.2.2.2.1.2.1.2, bX7 G q (o + 54) S.2.2.2.2.2.2.2.2.2.1 S.2.2.2.2.2.2.2.2.2.2.1 S.2.2.2.2.2.2.2.2.2.2.2]) hS0 (c_X0_firstKeeperOf l G q (o + 43) S.2.2.2.2.2.2.2.2.1 v4 r3 e4) zc_X0_firstKeeperOf rfl gX10_deals_X0_firstKeeperOf ⟨Nat.le_of_ble_eq_true rfl, Nat.le_of_ble_eq_true rfl⟩ hK hA hT hw (is := [10, 11, 12]) rfl rfl rfl rfl rfl rfl rfl hl.1 rfl (Nat.le_of_ble_eq_true rfl) dX10_deals_108 (fun H locs hw => ?_)
      obtain ⟨r5, e6, hf⟩ := z_bd hf
      refine z_callV0 (As := [.int v2, .int v4, .int r3]) (rest := []) (bs' := [bX10 G q o, bX9 G q (o + 1) S.1.1 S.1.2.1 S.1.2.2.1 S.1.2.2.2.1 S.1.2.2.2.2, bX6 G q (o + 3) r5.1 r5.2, bX8 G q (o + 12) S.2.2.1.1 S.2.2.1.2, bX5 G q (o + 19) S.2.2.2.1.2.1 S.2.2.2.1.2.2.1 S.2.2.2.1.2.2.2.1 S.2.2.2.1.2.2.2.2, bX2 G q ((o + 19) + 2) S.2.2.2.1.1.1 S.2.2.2.1.1.2.1 S.2.2.2.1.1.2.2.1 S.2.2.2.1.1.2.2.2.1 S.2.2.2.1.1.2.2.2.2.1 S.2.2.2.1.1.2.2.2.2.2.1 S.2.2.2.1.1.2.2.2.2.2.2.1 S.2.2.2.1.1.2.2.2.2.2.2.2, bX2 G q (o + 27) S.2.2.2.2.1.1 S.2.2.2.2.1.2.1 S.2.2.2.2.1.2.2.1 S.2.2.2.2.1.2.2.2.1 S.2.2.2.2.1.2.2.2.2.1 S.2.2.2.2.1.2.2.2.2.2.1 S.2.2.2.2.1.2.2.2.2.2.2.1 S.2.2.2.2.1.2.2.2.2.2.2.2, bX1 G q (o + 33) S.2.2.2.2.2.1.1 S.2.2.2.2.2.1.2.1 S.2.2.2.2.2.1.2.2.1 S.2.2.2.2.2.1.2.2.2, bX4 G q (o + 36) S.2.2.2.2.2.2.1.1 S.2.2.2.2.2.2.1.2, bX3 G q (o + 38) S.2.2.2.2.2.2.2.1.1 S.2.2.2.2.2.2.2.1.2.1 S.2.2.2.2.2.2.2.1.2.2.1 S.2.2.2.2.2.2.2.1.2.2.2, bX0 G q (o + 43) S.2.2.2.2.2.2.2.2.1.2.2.1 S.2.2.2.2.2.2.2.2.1.2.2.2, bX2 G q ((o + 43) + 3) S.2.2.2.2.2.2.2.2.1.1.1 S.2.2.2.2.2.2.2.2.1.1.2.1 S.2.2.2.2.2.2.2.2.1.1.2.2.1 S.2.2.2.2.2.2.2.2.1.1.2.2.2.1 S.2.2.2.2.2.2.2.2.1.1.2.2.2.2.1 S.2.2.2.2.2.2.2.2.1.1.2.2.2.2.2.1 S.2.2.2.2.2.2.2.2.1.1.2.2.2.2.2.2.1 S.2.2.2.2.2.2.2.2.1.1.2.2.2.2.2.2.2, bX4 G q ((o + 43) + 9) S.2.2.2.2.2.2.2.2.1.2.1.1 S.2.2.2.2.2.2.2.2.1.2.1.2, bX7 G q (o + 54) S.2.2.2.2.2.2.2.2.2.1 S.2.2.2.2.2.2.2.2.2.2.1 S.2.2.2.2.2.2.2.2.2.2.2]) hS0 (c_X6_set l G q (o + 3) S.2.1 v2 v4 r3 r5 e6) zc_X6_set rfl gX10_deals_X6_set ⟨Nat.le_of_ble_eq_true rfl, Nat.le_of_ble_eq_true rfl⟩ hK hA hT hw (is := [2]) rfl rfl rfl rfl rfl rfl rfl hl.1 rfl (Nat.le_of_ble_eq_true rfl) dX10_deals_111 (fun H locs hw => ?_)
      refine lv_iinc (v := (v4 + 1)) (lv' := [(4, .int (v4 + 1)), (0, .ref (q (o + 0))), (2, .int v2), (3, .int v3)]) hx hb dX10_deals_114 hl (k := 3) rfl rfl (by decide) rfl (fun ls hl => ?_)
      refine lv_goto (tgt := 83) hx hb dX10_deals_117 rfl ?_
      exact ih _ _ _ _ _ _ _ hf hw (lv_sub hl [1, 2, 3, 0] rfl)
set_option maxHeartbeats 4000000 in
set_option maxRecDepth 100000 in
theorem c_X10_deals (l : Launch) (G : zG) (q : Nat → Nat) (o : Nat) (S : VX10) (v1 : Int32) (v2 : Int32) (y : Int32 × VX10) (hf : f_X10_deals S v1 v2 = some y) : zMet l yX10_deals wsX10_deals 6 155 G [.ref (q (o + 0)), .int v1, .int v2] [bX10 G q o, bX9 G q (o + 1) S.1.1 S.1.2.1 S.1.2.2.1 S.1.2.2.2.1 S.1.2.2.2.2, bX6 G q (o + 3) S.2.1.1 S.2.1.2, bX8 G q (o + 12) S.2.2.1.1 S.2.2.1.2, bX5 G q (o + 19) S.2.2.2.1.2.1 S.2.2.2.1.2.2.1 S.2.2.2.1.2.2.2.1 S.2.2.2.1.2.2.2.2, bX2 G q ((o + 19) + 2) S.2.2.2.1.1.1 S.2.2.2.1.1.2.1 S.2.2.2.1.1.2.2.1 S.2.2.2.1.1.2.2.2.1 S.2.2.2.1.1.2.2.2.2.1 S.2.2.2.1.1.2.2.2.2.2.1 S.2.2.2.1.1.2.2.2.2.2.2.1 S.2.2.2.1.1.2.2.2.2.2.2.2, bX2 G q (o + 27) S.2.2.2.2.1.1 S.2.2.2.2.1.2.1 S.2.2.2.2.1.2.2.1 S.2.2.2.2.1.2.2.2.1 S.2.2.2.2.1.2.2.2.2.1 S.2.2.2.2.1.2.2.2.2.2.1 S.2.2.2.2.1.2.2.2.2.2.2.1 S.2.2.2.2.1.2.2.2.2.2.2.2, bX1 G q (o + 33) S.2.2.2.2.2.1.1 S.2.2.2.2.2.1.2.1 S.2.2.2.2.2.1.2.2.1 S.2.2.2.2.2.1.2.2.2, bX4 G q (o + 36) S.2.2.2.2.2.2.1.1 S.2.2.2.2.2.2.1.2, bX3 G q (o + 38) S.2.2.2.2.2.2.2.1.1 S.2.2.2.2.2.2.2.1.2.1 S.2.2.2.2.2.2.2.1.2.2.1 S.2.2.2.2.2.2.2.1.2.2.2, bX0 G q (o + 43) S.2.2.2.2.2.2.2.2.1.2.2.1 S.2.2.2.2.2.2.2.2.1.2.2.2, bX2 G q ((o + 43) + 3) S.2.2.2.2.2.2.2.2.1.1.1 S.2.2.2.2.2.2.2.2.1.1.2.1 S.2.2.2.2.2.2.2.2.1.1.2.2.1 S.2.2.2.2.2.2.2.2.1.1.2.2.2.1 S.2.2.2.2.2.2.2.2.1.1.2.2.2.2.1 S.2.2.2.2.2.2.2.2.1.1.2.2.2.2.2.1 S.2.2.2.2.2.2.2.2.1.1.2.2.2.2.2.2.1 S.2.2.2.2.2.2.2.2.1.1.2.2.2.2.2.2.2, bX4 G q ((o + 43) + 9) S.2.2.2.2.2.2.2.2.1.2.1.1 S.2.2.2.2.2.2.2.2.1.2.1.2, bX7 G q (o + 54) S.2.2.2.2.2.2.2.2.2.1 S.2.2.2.2.2.2.2.2.2.2.1 S.2.2.2.2.2.2.2.2.2.2.2] (some (.int y.1)) [bX10 G q o, bX9 G q (o + 1) y.2.1.1 y.2.1.2.1 y.2.1.2.2.1 y.2.1.2.2.2.1 y.2.1.2.2.2.2, bX6 G q (o + 3) y.2.2.1.1 y.2.2.1.2, bX8 G q (o + 12) y.2.2.2.1.1 y.2.2.2.1.2, bX5 G q (o + 19) y.2.2.2.2.1.2.1 y.2.2.2.2.1.2.2.1 y.2.2.2.2.1.2.2.2.1 y.2.2.2.2.1.2.2.2.2, bX2 G q ((o + 19) + 2) y.2.2.2.2.1.1.1 y.2.2.2.2.1.1.2.1 y.2.2.2.2.1.1.2.2.1 y.2.2.2.2.1.1.2.2.2.1 y.2.2.2.2.1.1.2.2.2.2.1 y.2.2.2.2.1.1.2.2.2.2.2.1 y.2.2.2.2.1.1.2.2.2.2.2.2.1 y.2.2.2.2.1.1.2.2.2.2.2.2.2, bX2 G q (o + 27) y.2.2.2.2.2.1.1 y.2.2.2.2.2.1.2.1 y.2.2.2.2.2.1.2.2.1 y.2.2.2.2.2.1.2.2.2.1 y.2.2.2.2.2.1.2.2.2.2.1 y.2.2.2.2.2.1.2.2.2.2.2.1 y.2.2.2.2.2.1.2.2.2.2.2.2.1 y.2.2.2.2.2.1.2.2.2.2.2.2.2, bX1 G q (o + 33) y.2.2.2.2.2.2.1.1 y.2.2.2.2.2.2.1.2.1 y.2.2.2.2.2.2.1.2.2.1 y.2.2.2.2.2.2.1.2.2.2, bX4 G q (o + 36) y.2.2.2.2.2.2.2.1.1 y.2.2.2.2.2.2.2.1.2, bX3 G q (o + 38) y.2.2.2.2.2.2.2.2.1.1 y.2.2.2.2.2.2.2.2.1.2.1 y.2.2.2.2.2.2.2.2.1.2.2.1 y.2.2.2.2.2.2.2.2.1.2.2.2, bX0 G q (o + 43) y.2.2.2.2.2.2.2.2.2.1.2.2.1 y.2.2.2.2.2.2.2.2.2.1.2.2.2, bX2 G q ((o + 43) + 3) y.2.2.2.2.2.2.2.2.2.1.1.1 y.2.2.2.2.2.2.2.2.2.1.1.2.1 y.2.2.2.2.2.2.2.2.2.1.1.2.2.1 y.2.2.2.2.2.2.2.2.2.1.1.2.2.2.1 y.2.2.2.2.2.2.2.2.2.1.1.2.2.2.2.1 y.2.2.2.2.2.2.2.2.2.1.1.2.2.2.2.2.1 y.2.2.2.2.2.2.2.2.2.1.1.2.2.2.2.2.2.1 y.2.2.2.2.2.2.2.2.2.1.1.2.2.2.2.2.2.2, bX4 G q ((o + 43) + 9) y.2.2.2.2.2.2.2.2.2.1.2.1.1 y.2.2.2.2.2.2.2.2.2.1.2.1.2, bX7 G q (o + 54) y.2.2.2.2.2.2.2.2.2.2.1 y.2.2.2.2.2.2.2.2.2.2.2.1 y.2.2.2.2.2.2.2.2.2.2.2.2] := by
  refine z_met zc_X10_deals (Nat.le_of_ble_eq_true rfl) ?_
  intro p e s m below meth c A ls hZ hl hw
  have hl : lv_has ls 5 [(0, .ref (q (o + 0))), (1, .int v1), (2, .int v2)] := hl
  obtain ⟨hS0, hr, hlk, hK, hA, hT⟩ := id hZ
  have hx := hS0.1
  have hb := hS0.2.1
  have hml := hS0.2.2.1
  have hown : s.vm.findClass RX10 = some m.cls := hS0.2.2.2.1
  have hts := hS0.2.2.2.2
  unfold f_X10_deals at hf
  refine lv_iload_n hx hb dX10_deals_0 rfl (lv_at hl 1 rfl) ?_
  refine lv_iconst (v := 1) hx hb dX10_deals_1 rfl ?_
  refine lv_icmp_lt (tgt := 32) hx hb dX10_deals_2 rfl (fun hc => ?_) (fun hc => ?_)
  · have hf := z_t hc hf
    refine lv_iconst (v := (-1)) hx hb dX10_deals_32 rfl ?_
    cases hf
    exact z_iret hx hb hr hlk hw dX10_deals_33
  · have hf := z_f hc hf
    refine lv_iload_n hx hb dX10_deals_5 rfl (lv_at hl 1 rfl) ?_
    refine lv_iconst (v := 5) hx hb dX10_deals_6 rfl ?_
    refine lv_icmp_gt (tgt := 32) hx hb dX10_deals_7 rfl (fun hc => ?_) (fun hc => ?_)
    · have hf := z_t hc hf
      refine lv_iconst (v := (-1)) hx hb dX10_deals_32 rfl ?_
      cases hf
      exact z_iret hx hb hr hlk hw dX10_deals_33
    · have hf := z_f hc hf
      refine lv_iload_n hx hb dX10_deals_10 rfl (lv_at hl 1 rfl) ?_
      refine lv_aload_n hx hb dX10_deals_11 rfl (lv_at hl 0 rfl) ?_
      refine z_get hS0 in_X10_deals_X10 hK hw 0 4 rfl rfl rfl (by decide) (hts _ m_X10_deals_0) (v := .ref (q ((o + 27) + 0))) rfl dX10_deals_12 ?_
      obtain ⟨r7, e8, hf⟩ := z_bd hf
      refine z_callV1 (As := []) (rest := [.int v1]) (bs' := [bX10 G q o, bX9 G q (o + 1) S.1.1 S.1.2.1 S.1.2.2.1 S.1.2.2.2.1 S.1.2.2.2.2, bX6 G q (o + 3) S.2.1.1 S.2.1.2, bX8 G q (o + 12) S.2.2.1.1 S.2.2.1.2, bX5 G q (o + 19) S.2.2.2.1.2.1 S.2.2.2.1.2.2.1 S.2.2.2.1.2.2.2.1 S.2.2.2.1.2.2.2.2, bX2 G q ((o + 19) + 2) S.2.2.2.1.1.1 S.2.2.2.1.1.2.1 S.2.2.2.1.1.2.2.1 S.2.2.2.1.1.2.2.2.1 S.2.2.2.1.1.2.2.2.2.1 S.2.2.2.1.1.2.2.2.2.2.1 S.2.2.2.1.1.2.2.2.2.2.2.1 S.2.2.2.1.1.2.2.2.2.2.2.2, bX2 G q (o + 27) S.2.2.2.2.1.1 S.2.2.2.2.1.2.1 S.2.2.2.2.1.2.2.1 S.2.2.2.2.1.2.2.2.1 S.2.2.2.2.1.2.2.2.2.1 S.2.2.2.2.1.2.2.2.2.2.1 S.2.2.2.2.1.2.2.2.2.2.2.1 S.2.2.2.2.1.2.2.2.2.2.2.2, bX1 G q (o + 33) S.2.2.2.2.2.1.1 S.2.2.2.2.2.1.2.1 S.2.2.2.2.2.1.2.2.1 S.2.2.2.2.2.1.2.2.2, bX4 G q (o + 36) S.2.2.2.2.2.2.1.1 S.2.2.2.2.2.2.1.2, bX3 G q (o + 38) S.2.2.2.2.2.2.2.1.1 S.2.2.2.2.2.2.2.1.2.1 S.2.2.2.2.2.2.2.1.2.2.1 S.2.2.2.2.2.2.2.1.2.2.2, bX0 G q (o + 43) S.2.2.2.2.2.2.2.2.1.2.2.1 S.2.2.2.2.2.2.2.2.1.2.2.2, bX2 G q ((o + 43) + 3) S.2.2.2.2.2.2.2.2.1.1.1 S.2.2.2.2.2.2.2.2.1.1.2.1 S.2.2.2.2.2.2.2.2.1.1.2.2.1 S.2.2.2.2.2.2.2.2.1.1.2.2.2.1 S.2.2.2.2.2.2.2.2.1.1.2.2.2.2.1 S.2.2.2.2.2.2.2.2.1.1.2.2.2.2.2.1 S.2.2.2.2.2.2.2.2.1.1.2.2.2.2.2.2.1 S.2.2.2.2.2.2.2.2.1.1.2.2.2.2.2.2.2, bX4 G q ((o + 43) + 9) S.2.2.2.2.2.2.2.2.1.2.1.1 S.2.2.2.2.2.2.2.2.1.2.1.2, bX7 G q (o + 54) S.2.2.2.2.2.2.2.2.2.1 S.2.2.2.2.2.2.2.2.2.2.1 S.2.2.2.2.2.2.2.2.2.2.2]) hS0 (c_X2_cells l G q (o + 27) S.2.2.2.2.1 r7 e8) zc_X2_cells rfl gX10_deals_X2_cells ⟨Nat.le_of_ble_eq_true rfl, Nat.le_of_ble_eq_true rfl⟩ hK hA hT hw (is := [6]) rfl rfl rfl rfl rfl rfl rfl hl.1 rfl (Nat.le_of_ble_eq_true rfl) dX10_deals_15 (fun H locs hw => ?_)
      refine lv_icmp_gt (tgt := 32) hx hb dX10_deals_18 rfl (fun hc => ?_) (fun hc => ?_)
      · have hf := z_t hc hf
        refine lv_iconst (v := (-1)) hx hb dX10_deals_32 rfl ?_
        cases hf
        exact z_iret hx hb hr hlk hw dX10_deals_33
      · have hf := z_f hc hf
        refine lv_aload_n hx hb dX10_deals_21 rfl (lv_at hl 0 rfl) ?_
        refine z_get hS0 in_X10_deals_X10 hK hw 0 1 rfl rfl rfl (by decide) (hts _ m_X10_deals_1) (v := .ref (q ((o + 3) + 0))) rfl dX10_deals_22 ?_
        refine lv_iload_n hx hb dX10_deals_25 rfl (lv_at hl 2 rfl) ?_
        obtain ⟨r9, e10, hf⟩ := z_bd hf
        refine z_callV1 (As := [.int v2]) (rest := []) (bs' := [bX10 G q o, bX9 G q (o + 1) S.1.1 S.1.2.1 S.1.2.2.1 S.1.2.2.2.1 S.1.2.2.2.2, bX6 G q (o + 3) S.2.1.1 S.2.1.2, bX8 G q (o + 12) S.2.2.1.1 S.2.2.1.2, bX5 G q (o + 19) S.2.2.2.1.2.1 S.2.2.2.1.2.2.1 S.2.2.2.1.2.2.2.1 S.2.2.2.1.2.2.2.2, bX2 G q ((o + 19) + 2) S.2.2.2.1.1.1 S.2.2.2.1.1.2.1 S.2.2.2.1.1.2.2.1 S.2.2.2.1.1.2.2.2.1 S.2.2.2.1.1.2.2.2.2.1 S.2.2.2.1.1.2.2.2.2.2.1 S.2.2.2.1.1.2.2.2.2.2.2.1 S.2.2.2.1.1.2.2.2.2.2.2.2, bX2 G q (o + 27) S.2.2.2.2.1.1 S.2.2.2.2.1.2.1 S.2.2.2.2.1.2.2.1 S.2.2.2.2.1.2.2.2.1 S.2.2.2.2.1.2.2.2.2.1 S.2.2.2.2.1.2.2.2.2.2.1 S.2.2.2.2.1.2.2.2.2.2.2.1 S.2.2.2.2.1.2.2.2.2.2.2.2, bX1 G q (o + 33) S.2.2.2.2.2.1.1 S.2.2.2.2.2.1.2.1 S.2.2.2.2.2.1.2.2.1 S.2.2.2.2.2.1.2.2.2, bX4 G q (o + 36) S.2.2.2.2.2.2.1.1 S.2.2.2.2.2.2.1.2, bX3 G q (o + 38) S.2.2.2.2.2.2.2.1.1 S.2.2.2.2.2.2.2.1.2.1 S.2.2.2.2.2.2.2.1.2.2.1 S.2.2.2.2.2.2.2.1.2.2.2, bX0 G q (o + 43) S.2.2.2.2.2.2.2.2.1.2.2.1 S.2.2.2.2.2.2.2.2.1.2.2.2, bX2 G q ((o + 43) + 3) S.2.2.2.2.2.2.2.2.1.1.1 S.2.2.2.2.2.2.2.2.1.1.2.1 S.2.2.2.2.2.2.2.2.1.1.2.2.1 S.2.2.2.2.2.2.2.2.1.1.2.2.2.1 S.2.2.2.2.2.2.2.2.1.1.2.2.2.2.1 S.2.2.2.2.2.2.2.2.1.1.2.2.2.2.2.1 S.2.2.2.2.2.2.2.2.1.1.2.2.2.2.2.2.1 S.2.2.2.2.2.2.2.2.1.1.2.2.2.2.2.2.2, bX4 G q ((o + 43) + 9) S.2.2.2.2.2.2.2.2.1.2.1.1 S.2.2.2.2.2.2.2.2.1.2.1.2, bX7 G q (o + 54) S.2.2.2.2.2.2.2.2.2.1 S.2.2.2.2.2.2.2.2.2.2.1 S.2.2.2.2.2.2.2.2.2.2.2]) hS0 (c_X6_isNumber l G q (o + 3) S.2.1 v2 r9 e10) zc_X6_isNumber rfl gX10_deals_X6_isNumber ⟨Nat.le_of_ble_eq_true rfl, Nat.le_of_ble_eq_true rfl⟩ hK hA hT hw (is := [2]) rfl rfl rfl rfl rfl rfl rfl hl.1 rfl (Nat.le_of_ble_eq_true rfl) dX10_deals_26 (fun H locs hw => ?_)
        refine lv_if_ne (tgt := 34) hx hb dX10_deals_29 rfl (fun hc => ?_) (fun hc => ?_)
        · have hf := z_f hc hf
          refine lv_aload_n hx hb dX10_deals_34 rfl (lv_at hl 0 rfl) ?_
          refine z_get hS0 in_X10_deals_X10 hK hw 0 4 rfl rfl rfl (by decide) (hts _ m_X10_deals_0) (v := .ref (q ((o + 27) + 0))) rfl dX10_deals_35 ?_
          obtain ⟨r11, e12, hf⟩ := z_bd hf
          refine z_callV1 (As := []) (rest := []) (bs' := [bX10 G q o, bX9 G q (o + 1) S.1.1 S.1.2.1 S.1.2.2.1 S.1.2.2.2.1 S.1.2.2.2.2, bX6 G q (o + 3) S.2.1.1 S.2.1.2, bX8 G q (o + 12) S.2.2.1.1 S.2.2.1.2, bX5 G q (o + 19) S.2.2.2.1.2.1 S.2.2.2.1.2.2.1 S.2.2.2.1.2.2.2.1 S.2.2.2.1.2.2.2.2, bX2 G q ((o + 19) + 2) S.2.2.2.1.1.1 S.2.2.2.1.1.2.1 S.2.2.2.1.1.2.2.1 S.2.2.2.1.1.2.2.2.1 S.2.2.2.1.1.2.2.2.2.1 S.2.2.2.1.1.2.2.2.2.2.1 S.2.2.2.1.1.2.2.2.2.2.2.1 S.2.2.2.1.1.2.2.2.2.2.2.2, bX2 G q (o + 27) S.2.2.2.2.1.1 S.2.2.2.2.1.2.1 S.2.2.2.2.1.2.2.1 S.2.2.2.2.1.2.2.2.1 S.2.2.2.2.1.2.2.2.2.1 S.2.2.2.2.1.2.2.2.2.2.1 S.2.2.2.2.1.2.2.2.2.2.2.1 S.2.2.2.2.1.2.2.2.2.2.2.2, bX1 G q (o + 33) S.2.2.2.2.2.1.1 S.2.2.2.2.2.1.2.1 S.2.2.2.2.2.1.2.2.1 S.2.2.2.2.2.1.2.2.2, bX4 G q (o + 36) S.2.2.2.2.2.2.1.1 S.2.2.2.2.2.2.1.2, bX3 G q (o + 38) S.2.2.2.2.2.2.2.1.1 S.2.2.2.2.2.2.2.1.2.1 S.2.2.2.2.2.2.2.1.2.2.1 S.2.2.2.2.2.2.2.1.2.2.2, bX0 G q (o + 43) S.2.2.2.2.2.2.2.2.1.2.2.1 S.2.2.2.2.2.2.2.2.1.2.2.2, bX2 G q ((o + 43) + 3) S.2.2.2.2.2.2.2.2.1.1.1 S.2.2.2.2.2.2.2.2.1.1.2.1 S.2.2.2.2.2.2.2.2.1.1.2.2.1 S.2.2.2.2.2.2.2.2.1.1.2.2.2.1 S.2.2.2.2.2.2.2.2.1.1.2.2.2.2.1 S.2.2.2.2.2.2.2.2.1.1.2.2.2.2.2.1 S.2.2.2.2.2.2.2.2.1.1.2.2.2.2.2.2.1 S.2.2.2.2.2.2.2.2.1.1.2.2.2.2.2.2.2, bX4 G q ((o + 43) + 9) S.2.2.2.2.2.2.2.2.1.2.1.1 S.2.2.2.2.2.2.2.2.1.2.1.2, bX7 G q (o + 54) S.2.2.2.2.2.2.2.2.2.1 S.2.2.2.2.2.2.2.2.2.2.1 S.2.2.2.2.2.2.2.2.2.2.2]) hS0 (c_X2_cells l G q (o + 27) S.2.2.2.2.1 r11 e12) zc_X2_cells rfl gX10_deals_X2_cells ⟨Nat.le_of_ble_eq_true rfl, Nat.le_of_ble_eq_true rfl⟩ hK hA hT hw (is := [6]) rfl rfl rfl rfl rfl rfl rfl hl.1 rfl (Nat.le_of_ble_eq_true rfl) dX10_deals_38 (fun H locs hw => ?_)
          refine lv_iconst (v := 5) hx hb dX10_deals_41 rfl ?_
          refine lv_icmp_le (tgt := 48) hx hb dX10_deals_42 rfl (fun hc => ?_) (fun hc => ?_)
          · have hf := z_t hc hf
            refine lv_aload_n hx hb dX10_deals_48 rfl (lv_at hl 0 rfl) ?_
            refine z_get hS0 in_X10_deals_X10 hK hw 0 8 rfl rfl rfl (by decide) (hts _ m_X10_deals_2) (v := .ref (q ((o + 43) + 0))) rfl dX10_deals_49 ?_
            refine lv_aload_n hx hb dX10_deals_52 rfl (lv_at hl 0 rfl) ?_
            refine z_get hS0 in_X10_deals_X10 hK hw 0 4 rfl rfl rfl (by decide) (hts _ m_X10_deals_0) (v := .ref (q ((o + 27) + 0))) rfl dX10_deals_53 ?_
            refine lv_iload_n hx hb dX10_deals_56 rfl (lv_at hl 1 rfl) ?_
            obtain ⟨r13, e14, hf⟩ := z_bd hf
            refine z_callV1 (As := [.ref (q ((o + 27) + 0)), .int v1]) (rest := []) (bs' := [bX10 G q o, bX9 G q (o + 1) S.1.1 S.1.2.1 S.1.2.2.1 S.1.2.2.2.1 S.1.2.2.2.2, bX6 G q (o + 3) S.2.1.1 S.2.1.2, bX8 G q (o + 12) S.2.2.1.1 S.2.2.1.2, bX5 G q (o + 19) S.2.2.2.1.2.1 S.2.2.2.1.2.2.1 S.2.2.2.1.2.2.2.1 S.2.2.2.1.2.2.2.2, bX2 G q ((o + 19) + 2) S.2.2.2.1.1.1 S.2.2.2.1.1.2.1 S.2.2.2.1.1.2.2.1 S.2.2.2.1.1.2.2.2.1 S.2.2.2.1.1.2.2.2.2.1 S.2.2.2.1.1.2.2.2.2.2.1 S.2.2.2.1.1.2.2.2.2.2.2.1 S.2.2.2.1.1.2.2.2.2.2.2.2, bX2 G q (o + 27) S.2.2.2.2.1.1 S.2.2.2.2.1.2.1 S.2.2.2.2.1.2.2.1 S.2.2.2.2.1.2.2.2.1 S.2.2.2.2.1.2.2.2.2.1 S.2.2.2.2.1.2.2.2.2.2.1 S.2.2.2.2.1.2.2.2.2.2.2.1 S.2.2.2.2.1.2.2.2.2.2.2.2, bX1 G q (o + 33) S.2.2.2.2.2.1.1 S.2.2.2.2.2.1.2.1 S.2.2.2.2.2.1.2.2.1 S.2.2.2.2.2.1.2.2.2, bX4 G q (o + 36) S.2.2.2.2.2.2.1.1 S.2.2.2.2.2.2.1.2, bX3 G q (o + 38) S.2.2.2.2.2.2.2.1.1 S.2.2.2.2.2.2.2.1.2.1 S.2.2.2.2.2.2.2.1.2.2.1 S.2.2.2.2.2.2.2.1.2.2.2, bX0 G q (o + 43) r13.2.2.2.1 r13.2.2.2.2, bX2 G q ((o + 43) + 3) r13.2.1.1 r13.2.1.2.1 r13.2.1.2.2.1 r13.2.1.2.2.2.1 r13.2.1.2.2.2.2.1 r13.2.1.2.2.2.2.2.1 r13.2.1.2.2.2.2.2.2.1 r13.2.1.2.2.2.2.2.2.2, bX4 G q ((o + 43) + 9) r13.2.2.1.1 r13.2.2.1.2, bX7 G q (o + 54) S.2.2.2.2.2.2.2.2.2.1 S.2.2.2.2.2.2.2.2.2.2.1 S.2.2.2.2.2.2.2.2.2.2.2]) hS0 (c_X0_dealAll l G q (o + 43) q (o + 27) S.2.2.2.2.2.2.2.2.1 S.2.2.2.2.1 v1 r13 e14) zc_X0_dealAll rfl gX10_deals_X0_dealAll ⟨Nat.le_of_ble_eq_true rfl, Nat.le_of_ble_eq_true rfl⟩ hK hA hT hw (is := [10, 11, 12, 6]) rfl rfl rfl rfl rfl rfl rfl hl.1 rfl (Nat.le_of_ble_eq_true rfl) dX10_deals_57 (fun H locs hw => ?_)
            refine lv_istore_n (lv' := [(3, .int r13.1), (0, .ref (q (o + 0))), (1, .int v1), (2, .int v2)]) hx hb dX10_deals_60 rfl hl (by decide) rfl (fun ls hl => ?_)
            refine lv_iload_n hx hb dX10_deals_61 rfl (lv_at hl 0 rfl) ?_
            refine lv_if_le (tgt := 120) hx hb dX10_deals_62 rfl (fun hc => ?_) (fun hc => ?_)
            · have hf := z_t hc hf
              refine lv_iload_n hx hb dX10_deals_120 rfl (lv_at hl 0 rfl) ?_
              cases hf
              exact z_iret hx hb hr hlk hw dX10_deals_121
            · have hf := z_f hc hf
              refine lv_aload_n hx hb dX10_deals_65 rfl (lv_at hl 1 rfl) ?_
              refine z_get hS0 in_X10_deals_X10 hK hw 0 1 rfl rfl rfl (by decide) (hts _ m_X10_deals_1) (v := .ref (q ((o + 3) + 0))) rfl dX10_deals_66 ?_
              refine lv_iload_n hx hb dX10_deals_69 rfl (lv_at hl 3 rfl) ?_
              refine lv_aload_n hx hb dX10_deals_70 rfl (lv_at hl 1 rfl) ?_
              refine z_get hS0 in_X10_deals_X10 hK hw 0 4 rfl rfl rfl (by decide) (hts _ m_X10_deals_0) (v := .ref (q ((o + 27) + 0))) rfl dX10_deals_71 ?_
              obtain ⟨r15, e16, hf⟩ := z_bd hf
              refine z_callV1 (As := []) (rest := [.int v2, .ref (q ((o + 3) + 0))]) (bs' := [bX10 G q o, bX9 G q (o + 1) S.1.1 S.1.2.1 S.1.2.2.1 S.1.2.2.2.1 S.1.2.2.2.2, bX6 G q (o + 3) S.2.1.1 S.2.1.2, bX8 G q (o + 12) S.2.2.1.1 S.2.2.1.2, bX5 G q (o + 19) S.2.2.2.1.2.1 S.2.2.2.1.2.2.1 S.2.2.2.1.2.2.2.1 S.2.2.2.1.2.2.2.2, bX2 G q ((o + 19) + 2) S.2.2.2.1.1.1 S.2.2.2.1.1.2.1 S.2.2.2.1.1.2.2.1 S.2.2.2.1.1.2.2.2.1 S.2.2.2.1.1.2.2.2.2.1 S.2.2.2.1.1.2.2.2.2.2.1 S.2.2.2.1.1.2.2.2.2.2.2.1 S.2.2.2.1.1.2.2.2.2.2.2.2, bX2 G q (o + 27) S.2.2.2.2.1.1 S.2.2.2.2.1.2.1 S.2.2.2.2.1.2.2.1 S.2.2.2.2.1.2.2.2.1 S.2.2.2.2.1.2.2.2.2.1 S.2.2.2.2.1.2.2.2.2.2.1 S.2.2.2.2.1.2.2.2.2.2.2.1 S.2.2.2.2.1.2.2.2.2.2.2.2, bX1 G q (o + 33) S.2.2.2.2.2.1.1 S.2.2.2.2.2.1.2.1 S.2.2.2.2.2.1.2.2.1 S.2.2.2.2.2.1.2.2.2, bX4 G q (o + 36) S.2.2.2.2.2.2.1.1 S.2.2.2.2.2.2.1.2, bX3 G q (o + 38) S.2.2.2.2.2.2.2.1.1 S.2.2.2.2.2.2.2.1.2.1 S.2.2.2.2.2.2.2.1.2.2.1 S.2.2.2.2.2.2.2.1.2.2.2, bX0 G q (o + 43) r13.2.2.2.1 r13.2.2.2.2, bX2 G q ((o + 43) + 3) r13.2.1.1 r13.2.1.2.1 r13.2.1.2.2.1 r13.2.1.2.2.2.1 r13.2.1.2.2.2.2.1 r13.2.1.2.2.2.2.2.1 r13.2.1.2.2.2.2.2.2.1 r13.2.1.2.2.2.2.2.2.2, bX4 G q ((o + 43) + 9) r13.2.2.1.1 r13.2.2.1.2, bX7 G q (o + 54) S.2.2.2.2.2.2.2.2.2.1 S.2.2.2.2.2.2.2.2.2.2.1 S.2.2.2.2.2.2.2.2.2.2.2]) hS0 (c_X2_cells l G q (o + 27) S.2.2.2.2.1 r15 e16) zc_X2_cells rfl gX10_deals_X2_cells ⟨Nat.le_of_ble_eq_true rfl, Nat.le_of_ble_eq_true rfl⟩ hK hA hT hw (is := [6]) rfl rfl rfl rfl rfl rfl rfl hl.1 rfl (Nat.le_of_ble_eq_true rfl) dX10_deals_74 (fun H locs hw => ?_)
              obtain ⟨r17, e18, hf⟩ := z_bd hf
              refine z_callV0 (As := [.int v2, .int r15]) (rest := []) (bs' := [bX10 G q o, bX9 G q (o + 1) S.1.1 S.1.2.1 S.1.2.2.1 S.1.2.2.2.1 S.1.2.2.2.2, bX6 G q (o + 3) r17.1 r17.2, bX8 G q (o + 12) S.2.2.1.1 S.2.2.1.2, bX5 G q (o + 19) S.2.2.2.1.2.1 S.2.2.2.1.2.2.1 S.2.2.2.1.2.2.2.1 S.2.2.2.1.2.2.2.2, bX2 G q ((o + 19) + 2) S.2.2.2.1.1.1 S.2.2.2.1.1.2.1 S.2.2.2.1.1.2.2.1 S.2.2.2.1.1.2.2.2.1 S.2.2.2.1.1.2.2.2.2.1 S.2.2.2.1.1.2.2.2.2.2.1 S.2.2.2.1.1.2.2.2.2.2.2.1 S.2.2.2.1.1.2.2.2.2.2.2.2, bX2 G q (o + 27) S.2.2.2.2.1.1 S.2.2.2.2.1.2.1 S.2.2.2.2.1.2.2.1 S.2.2.2.2.1.2.2.2.1 S.2.2.2.2.1.2.2.2.2.1 S.2.2.2.2.1.2.2.2.2.2.1 S.2.2.2.2.1.2.2.2.2.2.2.1 S.2.2.2.2.1.2.2.2.2.2.2.2, bX1 G q (o + 33) S.2.2.2.2.2.1.1 S.2.2.2.2.2.1.2.1 S.2.2.2.2.2.1.2.2.1 S.2.2.2.2.2.1.2.2.2, bX4 G q (o + 36) S.2.2.2.2.2.2.1.1 S.2.2.2.2.2.2.1.2, bX3 G q (o + 38) S.2.2.2.2.2.2.2.1.1 S.2.2.2.2.2.2.2.1.2.1 S.2.2.2.2.2.2.2.1.2.2.1 S.2.2.2.2.2.2.2.1.2.2.2, bX0 G q (o + 43) r13.2.2.2.1 r13.2.2.2.2, bX2 G q ((o + 43) + 3) r13.2.1.1 r13.2.1.2.1 r13.2.1.2.2.1 r13.2.1.2.2.2.1 r13.2.1.2.2.2.2.1 r13.2.1.2.2.2.2.2.1 r13.2.1.2.2.2.2.2.2.1 r13.2.1.2.2.2.2.2.2.2, bX4 G q ((o + 43) + 9) r13.2.2.1.1 r13.2.2.1.2, bX7 G q (o + 54) S.2.2.2.2.2.2.2.2.2.1 S.2.2.2.2.2.2.2.2.2.2.1 S.2.2.2.2.2.2.2.2.2.2.2]) hS0 (c_X6_make l G q (o + 3) S.2.1 v2 r15 r17 e18) zc_X6_make rfl gX10_deals_X6_make ⟨Nat.le_of_ble_eq_true rfl, Nat.le_of_ble_eq_true rfl⟩ hK hA hT hw (is := [2]) rfl rfl rfl rfl rfl rfl rfl hl.1 rfl (Nat.le_of_ble_eq_true rfl) dX10_deals_77 (fun H locs hw => ?_)
              refine lv_iconst (v := 0) hx hb dX10_deals_80 rfl ?_
              refine lv_istore (lv' := [(4, .int 0), (3, .int r13.1), (0, .ref (q (o + 0))), (1, .int v1), (2, .int v2)]) hx hb dX10_deals_81 hl (by decide) rfl (fun ls hl => ?_)
              exact k_X10_deals_83 hZ _ 4096 _ _ _ _ _ _ _ hf hw (lv_sub hl [2, 4, 1, 0] rfl)
          · have hf := z_f hc hf
            refine lv_bipush (v := (-6)) hx hb dX10_deals_45 rfl ?_
            cases hf
            exact z_iret hx hb hr hlk hw dX10_deals_47
        · have hf := z_t hc hf
          refine lv_iconst (v := (-1)) hx hb dX10_deals_32 rfl ?_
          cases hf
          exact z_iret hx hb hr hlk hw dX10_deals_33
theorem zc_X10_dealt : zC yX10_dealt wsX10_dealt cX10_dealt 4 (some .int) 1 := ⟨⟨_, rfl⟩, by decide +kernel, by decide +kernel, by decide +kernel, by decide +kernel⟩
theorem m_X10_dealt_0 : (.fieldLink RX10 40 "CellKeys" "jail" "LCellKeys$Jail;" : Cond) ∈ wsX10_dealt := by decide +kernel
theorem in_X10_dealt_X10 : ∀ w ∈ u_ws RX10 TX10 10, w ∈ wsX10_dealt := by decide +kernel
theorem m_X10_dealt_1 : (.fieldLink RX10 19 "CellKeys" "rows" "LCellKeys$Rows;" : Cond) ∈ wsX10_dealt := by decide +kernel
theorem m_X10_dealt_2 : (.fieldLink RX10 10 "CellKeys" "told" "LCellKeys$Told;" : Cond) ∈ wsX10_dealt := by decide +kernel
set_option maxHeartbeats 4000000 in
set_option maxRecDepth 100000 in
theorem k_X10_dealt_101 {p : Program} {l : Launch} {e : Env} {s : State} {m : MethodId} {args : Array Value} {below : List Frame} {meth : Method} {c : Code} {A : Nat → Prop} {G : zG} {q : Nat → Nat} {o : Nat}  (hZ : zZ p s m args meth c A G cX10_dealt 4 RX10 wsX10_dealt (some .int)) (y : Int32 × VX10)  (n : Nat) : ∀ (S : VX10) (v1 : Int32) (v3 : Int32) (H : Heap) (locs : List Loc) (ls : Array Slot), f_X10_dealt_101 n S v1 v3 = some y → zH G A s.heap [bX10 G q o, bX9 G q (o + 1) S.1.1 S.1.2.1 S.1.2.2.1 S.1.2.2.2.1 S.1.2.2.2.2, bX6 G q (o + 3) S.2.1.1 S.2.1.2, bX8 G q (o + 12) S.2.2.1.1 S.2.2.1.2, bX5 G q (o + 19) S.2.2.2.1.2.1 S.2.2.2.1.2.2.1 S.2.2.2.1.2.2.2.1 S.2.2.2.1.2.2.2.2, bX2 G q ((o + 19) + 2) S.2.2.2.1.1.1 S.2.2.2.1.1.2.1 S.2.2.2.1.1.2.2.1 S.2.2.2.1.1.2.2.2.1 S.2.2.2.1.1.2.2.2.2.1 S.2.2.2.1.1.2.2.2.2.2.1 S.2.2.2.1.1.2.2.2.2.2.2.1 S.2.2.2.1.1.2.2.2.2.2.2.2, bX2 G q (o + 27) S.2.2.2.2.1.1 S.2.2.2.2.1.2.1 S.2.2.2.2.1.2.2.1 S.2.2.2.2.1.2.2.2.1 S.2.2.2.2.1.2.2.2.2.1 S.2.2.2.2.1.2.2.2.2.2.1 S.2.2.2.2.1.2.2.2.2.2.2.1 S.2.2.2.2.1.2.2.2.2.2.2.2, bX1 G q (o + 33) S.2.2.2.2.2.1.1 S.2.2.2.2.2.1.2.1 S.2.2.2.2.2.1.2.2.1 S.2.2.2.2.2.1.2.2.2, bX4 G q (o + 36) S.2.2.2.2.2.2.1.1 S.2.2.2.2.2.2.1.2, bX3 G q (o + 38) S.2.2.2.2.2.2.2.1.1 S.2.2.2.2.2.2.2.1.2.1 S.2.2.2.2.2.2.2.1.2.2.1 S.2.2.2.2.2.2.2.1.2.2.2, bX0 G q (o + 43) S.2.2.2.2.2.2.2.2.1.2.2.1 S.2.2.2.2.2.2.2.2.1.2.2.2, bX2 G q ((o + 43) + 3) S.2.2.2.2.2.2.2.2.1.1.1 S.2.2.2.2.2.2.2.2.1.1.2.1 S.2.2.2.2.2.2.2.2.1.1.2.2.1 S.2.2.2.2.2.2.2.2.1.1.2.2.2.1 S.2.2.2.2.2.2.2.2.1.1.2.2.2.2.1 S.2.2.2.2.2.2.2.2.1.1.2.2.2.2.2.1 S.2.2.2.2.2.2.2.2.1.1.2.2.2.2.2.2.1 S.2.2.2.2.2.2.2.2.1.1.2.2.2.2.2.2.2, bX4 G q ((o + 43) + 9) S.2.2.2.2.2.2.2.2.1.2.1.1 S.2.2.2.2.2.2.2.2.1.2.1.2, bX7 G q (o + 54) S.2.2.2.2.2.2.2.2.2.1 S.2.2.2.2.2.2.2.2.2.2.1 S.2.2.2.2.2.2.2.2.2.2.2] H locs → lv_has ls 4 [(0, .ref (q (o + 0))), (1, .int v1), (3, .int v3)] → W p l e { frames := 4, cells := 0, slots := 0, locals := 86 } s m args below meth c H locs 0 0 (MQ below (zQ (some (.int y.1)) (zPost G [bX10 G q o, bX9 G q (o + 1) y.2.1.1 y.2.1.2.1 y.2.1.2.2.1 y.2.1.2.2.2.1 y.2.1.2.2.2.2, bX6 G q (o + 3) y.2.2.1.1 y.2.2.1.2, bX8 G q (o + 12) y.2.2.2.1.1 y.2.2.2.1.2, bX5 G q (o + 19) y.2.2.2.2.1.2.1 y.2.2.2.2.1.2.2.1 y.2.2.2.2.1.2.2.2.1 y.2.2.2.2.1.2.2.2.2, bX2 G q ((o + 19) + 2) y.2.2.2.2.1.1.1 y.2.2.2.2.1.1.2.1 y.2.2.2.2.1.1.2.2.1 y.2.2.2.2.1.1.2.2.2.1 y.2.2.2.2.1.1.2.2.2.2.1 y.2.2.2.2.1.1.2.2.2.2.2.1 y.2.2.2.2.1.1.2.2.2.2.2.2.1 y.2.2.2.2.1.1.2.2.2.2.2.2.2, bX2 G q (o + 27) y.2.2.2.2.2.1.1 y.2.2.2.2.2.1.2.1 y.2.2.2.2.2.1.2.2.1 y.2.2.2.2.2.1.2.2.2.1 y.2.2.2.2.2.1.2.2.2.2.1 y.2.2.2.2.2.1.2.2.2.2.2.1 y.2.2.2.2.2.1.2.2.2.2.2.2.1 y.2.2.2.2.2.1.2.2.2.2.2.2.2, bX1 G q (o + 33) y.2.2.2.2.2.2.1.1 y.2.2.2.2.2.2.1.2.1 y.2.2.2.2.2.2.1.2.2.1 y.2.2.2.2.2.2.1.2.2.2, bX4 G q (o + 36) y.2.2.2.2.2.2.2.1.1 y.2.2.2.2.2.2.2.1.2, bX3 G q (o + 38) y.2.2.2.2.2.2.2.2.1.1 y.2.2.2.2.2.2.2.2.1.2.1 y.2.2.2.2.2.2.2.2.1.2.2.1 y.2.2.2.2.2.2.2.2.1.2.2.2, bX0 G q (o + 43) y.2.2.2.2.2.2.2.2.2.1.2.2.1 y.2.2.2.2.2.2.2.2.2.1.2.2.2, bX2 G q ((o + 43) + 3) y.2.2.2.2.2.2.2.2.2.1.1.1 y.2.2.2.2.2.2.2.2.2.1.1.2.1 y.2.2.2.2.2.2.2.2.2.1.1.2.2.1 y.2.2.2.2.2.2.2.2.2.1.1.2.2.2.1 y.2.2.2.2.2.2.2.2.2.1.1.2.2.2.2.1 y.2.2.2.2.2.2.2.2.2.1.1.2.2.2.2.2.1 y.2.2.2.2.2.2.2.2.2.1.1.2.2.2.2.2.2.1 y.2.2.2.2.2.2.2.2.2.1.1.2.2.2.2.2.2.2, bX4 G q ((o + 43) + 9) y.2.2.2.2.2.2.2.2.2.1.2.1.1 y.2.2.2.2.2.2.2.2.2.1.2.1.2, bX7 G q (o + 54) y.2.2.2.2.2.2.2.2.2.2.1 y.2.2.2.2.2.2.2.2.2.2.2.1 y.2.2.2.2.2.2.2.2.2.2.2.2]) A) args s 0 0 A) (F0 m 101 ls []) := by
  obtain ⟨hS0, hr, hlk, hK, hA, hT⟩ := id hZ
  have hx := hS0.1
  have hb := hS0.2.1
  have hml := hS0.2.2.1
  have hown : s.vm.findClass RX10 = some m.cls := hS0.2.2.2.1
  have hts := hS0.2.2.2.2
  induction n with
  | zero =>
    intro S v1 v3 H locs ls hf hw hl
    unfold f_X10_dealt_101 at hf
    cases hf
  | succ n ih =>
    intro S v1 v3 H locs ls hf hw hl
    unfold f_X10_dealt_101 at hf
    refine lv_iload_n hx hb dX10_dealt_101 rfl (lv_at hl 2 rfl) ?_
    refine lv_aload_n hx hb dX10_dealt_102 rfl (lv_at hl 0 rfl) ?_
    refine z_get hS0 in_X10_dealt_X10 hK hw 0 4 rfl rfl rfl (by decide) (hts _ m_X10_dealt_0) (v := .ref (q ((o + 27) + 0))) rfl dX10_dealt_103 ?_
    obtain ⟨r1, e2, hf⟩ := z_bd hf
    refine z_callV1 (As := []) (rest := [.int v3]) (bs' := [bX10 G q o, bX9 G q (o + 1) S.1.1 S.1.2.1 S.1.2.2.1 S.1.2.2.2.1 S.1.2.2.2.2, bX6 G q (o + 3) S.2.1.1 S.2.1.2, bX8 G q (o + 12) S.2.2.1.1 S.2.2.1.2, bX5 G q (o + 19) S.2.2.2.1.2.1 S.2.2.2.1.2.2.1 S.2.2.2.1.2.2.2.1 S.2.2.2.1.2.2.2.2, bX2 G q ((o + 19) + 2) S.2.2.2.1.1.1 S.2.2.2.1.1.2.1 S.2.2.2.1.1.2.2.1 S.2.2.2.1.1.2.2.2.1 S.2.2.2.1.1.2.2.2.2.1 S.2.2.2.1.1.2.2.2.2.2.1 S.2.2.2.1.1.2.2.2.2.2.2.1 S.2.2.2.1.1.2.2.2.2.2.2.2, bX2 G q (o + 27) S.2.2.2.2.1.1 S.2.2.2.2.1.2.1 S.2.2.2.2.1.2.2.1 S.2.2.2.2.1.2.2.2.1 S.2.2.2.2.1.2.2.2.2.1 S.2.2.2.2.1.2.2.2.2.2.1 S.2.2.2.2.1.2.2.2.2.2.2.1 S.2.2.2.2.1.2.2.2.2.2.2.2, bX1 G q (o + 33) S.2.2.2.2.2.1.1 S.2.2.2.2.2.1.2.1 S.2.2.2.2.2.1.2.2.1 S.2.2.2.2.2.1.2.2.2, bX4 G q (o + 36) S.2.2.2.2.2.2.1.1 S.2.2.2.2.2.2.1.2, bX3 G q (o + 38) S.2.2.2.2.2.2.2.1.1 S.2.2.2.2.2.2.2.1.2.1 S.2.2.2.2.2.2.2.1.2.2.1 S.2.2.2.2.2.2.2.1.2.2.2, bX0 G q (o + 43) S.2.2.2.2.2.2.2.2.1.2.2.1 S.2.2.2.2.2.2.2.2.1.2.2.2, bX2 G q ((o + 43) + 3) S.2.2.2.2.2.2.2.2.1.1.1 S.2.2.2.2.2.2.2.2.1.1.2.1 S.2.2.2.2.2.2.2.2.1.1.2.2.1 S.2.2.2.2.2.2.2.2.1.1.2.2.2.1 S.2.2.2.2.2.2.2.2.1.1.2.2.2.2.1 S.2.2.2.2.2.2.2.2.1.1.2.2.2.2.2.1 S.2.2.2.2.2.2.2.2.1.1.2.2.2.2.2.2.1 S.2.2.2.2.2.2.2.2.1.1.2.2.2.2.2.2.2, bX4 G q ((o + 43) + 9) S.2.2.2.2.2.2.2.2.1.2.1.1 S.2.2.2.2.2.2.2.2.1.2.1.2, bX7 G q (o + 54) S.2.2.2.2.2.2.2.2.2.1 S.2.2.2.2.2.2.2.2.2.2.1 S.2.2.2.2.2.2.2.2.2.2.2]) hS0 (c_X2_cells l G q (o + 27) S.2.2.2.2.1 r1 e2) zc_X2_cells rfl gX10_dealt_X2_cells ⟨Nat.le_of_ble_eq_true rfl, Nat.le_of_ble_eq_true rfl⟩ hK hA hT hw (is := [6]) rfl rfl rfl rfl rfl rfl rfl hl.1 rfl (Nat.le_of_ble_eq_true rfl) dX10_dealt_106 (fun H locs hw => ?_)
    refine lv_icmp_ge (tgt := 147) hx hb dX10_dealt_109 rfl (fun hc => ?_) (fun hc => ?_)
    · have hf := z_t hc hf
      refine lv_iconst (v := 1) hx hb dX10_dealt_147 rfl ?_
      cases hf
      exact z_iret hx hb hr hlk hw dX10_dealt_148
    · have hf := z_f hc hf
      refine lv_aload_n hx hb dX10_dealt_112 rfl (lv_at hl 0 rfl) ?_
      refine z_get hS0 in_X10_dealt_X10 hK hw 0 4 rfl rfl rfl (by decide) (hts _ m_X10_dealt_0) (v := .ref (q ((o + 27) + 0))) rfl dX10_dealt_113 ?_
      refine lv_iload_n hx hb dX10_dealt_116 rfl (lv_at hl 2 rfl) ?_
      refine lv_iconst (v := 2) hx hb dX10_dealt_117 rfl ?_
      obtain ⟨r3, e4, hf⟩ := z_bd hf
      refine z_callV1 (As := [.int v3, .int 2]) (rest := []) (bs' := [bX10 G q o, bX9 G q (o + 1) S.1.1 S.1.2.1 S.1.2.2.1 S.1.2.2.2.1 S.1.2.2.2.2, bX6 G q (o + 3) S.2.1.1 S.2.1.2, bX8 G q (o + 12) S.2.2.1.1 S.2.2.1.2, bX5 G q (o + 19) S.2.2.2.1.2.1 S.2.2.2.1.2.2.1 S.2.2.2.1.2.2.2.1 S.2.2.2.1.2.2.2.2, bX2 G q ((o + 19) + 2) S.2.2.2.1.1.1 S.2.2.2.1.1.2.1 S.2.2.2.1.1.2.2.1 S.2.2.2.1.1.2.2.2.1 S.2.2.2.1.1.2.2.2.2.1 S.2.2.2.1.1.2.2.2.2.2.1 S.2.2.2.1.1.2.2.2.2.2.2.1 S.2.2.2.1.1.2.2.2.2.2.2.2, bX2 G q (o + 27) S.2.2.2.2.1.1 S.2.2.2.2.1.2.1 S.2.2.2.2.1.2.2.1 S.2.2.2.2.1.2.2.2.1 S.2.2.2.2.1.2.2.2.2.1 S.2.2.2.2.1.2.2.2.2.2.1 S.2.2.2.2.1.2.2.2.2.2.2.1 S.2.2.2.2.1.2.2.2.2.2.2.2, bX1 G q (o + 33) S.2.2.2.2.2.1.1 S.2.2.2.2.2.1.2.1 S.2.2.2.2.2.1.2.2.1 S.2.2.2.2.2.1.2.2.2, bX4 G q (o + 36) S.2.2.2.2.2.2.1.1 S.2.2.2.2.2.2.1.2, bX3 G q (o + 38) S.2.2.2.2.2.2.2.1.1 S.2.2.2.2.2.2.2.1.2.1 S.2.2.2.2.2.2.2.1.2.2.1 S.2.2.2.2.2.2.2.1.2.2.2, bX0 G q (o + 43) S.2.2.2.2.2.2.2.2.1.2.2.1 S.2.2.2.2.2.2.2.2.1.2.2.2, bX2 G q ((o + 43) + 3) S.2.2.2.2.2.2.2.2.1.1.1 S.2.2.2.2.2.2.2.2.1.1.2.1 S.2.2.2.2.2.2.2.2.1.1.2.2.1 S.2.2.2.2.2.2.2.2.1.1.2.2.2.1 S.2.2.2.2.2.2.2.2.1.1.2.2.2.2.1 S.2.2.2.2.2.2.2.2.1.1.2.2.2.2.2.1 S.2.2.2.2.2.2.2.2.1.1.2.2.2.2.2.2.1 S.2.2.2.2.2.2.2.2.1.1.2.2.2.2.2.2.2, bX4 G q ((o + 43) + 9) S.2.2.2.2.2.2.2.2.1.2.1.1 S.2.2.2.2.2.2.2.2.1.2.1.2, bX7 G q (o + 54) S.2.2.2.2.2.2.2.2.2.1 S.2.2.2.2.2.2.2.2.2.2.1 S.2.2.2.2.2.2.2.2.2.2.2]) hS0 (c_X2_isOf l G q (o + 27) S.2.2.2.2.1 v3 2 r3 e4) zc_X2_isOf rfl gX10_dealt_X2_isOf ⟨Nat.le_of_ble_eq_true rfl, Nat.le_of_ble_eq_true rfl⟩ hK hA hT hw (is := [6]) rfl rfl rfl rfl rfl rfl rfl hl.1 rfl (Nat.le_of_ble_eq_true rfl) dX10_dealt_118 (fun H locs hw => ?_)
      refine lv_if_ne (tgt := 141) hx hb dX10_dealt_121 rfl (fun hc => ?_) (fun hc => ?_)
      · have hf := z_f hc hf
        refine lv_iinc (v := (v3 + 1)) (lv' := [(3, .int (v3 + 1)), (0, .ref (q (o + 0))), (1, .int v1)]) hx hb dX10_dealt_141 hl (k := 2) rfl rfl (by decide) rfl (fun ls hl => ?_)
        refine lv_goto (tgt := 101) hx hb dX10_dealt_144 rfl ?_
        exact ih _ _ _ _ _ _ hf hw (lv_sub hl [1, 2, 0] rfl)
      · have hf := z_t hc hf
        refine lv_aload_n hx hb dX10_dealt_124 rfl (lv_at hl 0 rfl) ?_
        refine z_get hS0 in_X10_dealt_X10 hK hw 0 4 rfl rfl rfl (by decide) (hts _ m_X10_dealt_0) (v := .ref (q ((o + 27) + 0))) rfl dX10_dealt_125 ?_
        refine lv_iload_n hx hb dX10_dealt_128 rfl (lv_at hl 2 rfl) ?_
        refine lv_aload_n hx hb dX10_dealt_129 rfl (lv_at hl 0 rfl) ?_
        refine z_get hS0 in_X10_dealt_X10 hK hw 0 1 rfl rfl rfl (by decide) (hts _ m_X10_dealt_1) (v := .ref (q ((o + 3) + 0))) rfl dX10_dealt_130 ?_
        refine lv_iload_n hx hb dX10_dealt_133 rfl (lv_at hl 1 rfl) ?_
        refine lv_iload_n hx hb dX10_dealt_134 rfl (lv_at hl 2 rfl) ?_
        obtain ⟨r5, e6, hf⟩ := z_bd hf
        refine z_callV1 (As := [.int v1, .int v3]) (rest := [.int v3, .ref (q ((o + 27) + 0))]) (bs' := [bX10 G q o, bX9 G q (o + 1) S.1.1 S.1.2.1 S.1.2.2.1 S.1.2.2.2.1 S.1.2.2.2.2, bX6 G q (o + 3) S.2.1.1 S.2.1.2, bX8 G q (o + 12) S.2.2.1.1 S.2.2.1.2, bX5 G q (o + 19) S.2.2.2.1.2.1 S.2.2.2.1.2.2.1 S.2.2.2.1.2.2.2.1 S.2.2.2.1.2.2.2.2, bX2 G q ((o + 19) + 2) S.2.2.2.1.1.1 S.2.2.2.1.1.2.1 S.2.2.2.1.1.2.2.1 S.2.2.2.1.1.2.2.2.1 S.2.2.2.1.1.2.2.2.2.1 S.2.2.2.1.1.2.2.2.2.2.1 S.2.2.2.1.1.2.2.2.2.2.2.1 S.2.2.2.1.1.2.2.2.2.2.2.2, bX2 G q (o + 27) S.2.2.2.2.1.1 S.2.2.2.2.1.2.1 S.2.2.2.2.1.2.2.1 S.2.2.2.2.1.2.2.2.1 S.2.2.2.2.1.2.2.2.2.1 S.2.2.2.2.1.2.2.2.2.2.1 S.2.2.2.2.1.2.2.2.2.2.2.1 S.2.2.2.2.1.2.2.2.2.2.2.2, bX1 G q (o + 33) S.2.2.2.2.2.1.1 S.2.2.2.2.2.1.2.1 S.2.2.2.2.2.1.2.2.1 S.2.2.2.2.2.1.2.2.2, bX4 G q (o + 36) S.2.2.2.2.2.2.1.1 S.2.2.2.2.2.2.1.2, bX3 G q (o + 38) S.2.2.2.2.2.2.2.1.1 S.2.2.2.2.2.2.2.1.2.1 S.2.2.2.2.2.2.2.1.2.2.1 S.2.2.2.2.2.2.2.1.2.2.2, bX0 G q (o + 43) S.2.2.2.2.2.2.2.2.1.2.2.1 S.2.2.2.2.2.2.2.2.1.2.2.2, bX2 G q ((o + 43) + 3) S.2.2.2.2.2.2.2.2.1.1.1 S.2.2.2.2.2.2.2.2.1.1.2.1 S.2.2.2.2.2.2.2.2.1.1.2.2.1 S.2.2.2.2.2.2.2.2.1.1.2.2.2.1 S.2.2.2.2.2.2.2.2.1.1.2.2.2.2.1 S.2.2.2.2.2.2.2.2.1.1.2.2.2.2.2.1 S.2.2.2.2.2.2.2.2.1.1.2.2.2.2.2.2.1 S.2.2.2.2.2.2.2.2.1.1.2.2.2.2.2.2.2, bX4 G q ((o + 43) + 9) S.2.2.2.2.2.2.2.2.1.2.1.1 S.2.2.2.2.2.2.2.2.1.2.1.2, bX7 G q (o + 54) S.2.2.2.2.2.2.2.2.2.1 S.2.2.2.2.2.2.2.2.2.2.1 S.2.2.2.2.2.2.2.2.2.2.2]) hS0 (c_X6_get l G q (o + 3) S.2.1 v1 v3 r5 e6) zc_X6_get rfl gX10_dealt_X6_get ⟨Nat.le_of_ble_eq_true rfl, Nat.le_of_ble_eq_true rfl⟩ hK hA hT hw (is := [2]) rfl rfl rfl rfl rfl rfl rfl hl.1 rfl (Nat.le_of_ble_eq_true rfl) dX10_dealt_135 (fun H locs hw => ?_)
        obtain ⟨r7, e8, hf⟩ := z_bd hf
        refine z_callV0 (As := [.int v3, .int r5]) (rest := []) (bs' := [bX10 G q o, bX9 G q (o + 1) S.1.1 S.1.2.1 S.1.2.2.1 S.1.2.2.2.1 S.1.2.2.2.2, bX6 G q (o + 3) S.2.1.1 S.2.1.2, bX8 G q (o + 12) S.2.2.1.1 S.2.2.1.2, bX5 G q (o + 19) S.2.2.2.1.2.1 S.2.2.2.1.2.2.1 S.2.2.2.1.2.2.2.1 S.2.2.2.1.2.2.2.2, bX2 G q ((o + 19) + 2) S.2.2.2.1.1.1 S.2.2.2.1.1.2.1 S.2.2.2.1.1.2.2.1 S.2.2.2.1.1.2.2.2.1 S.2.2.2.1.1.2.2.2.2.1 S.2.2.2.1.1.2.2.2.2.2.1 S.2.2.2.1.1.2.2.2.2.2.2.1 S.2.2.2.1.1.2.2.2.2.2.2.2, bX2 G q (o + 27) r7.1 r7.2.1 r7.2.2.1 r7.2.2.2.1 r7.2.2.2.2.1 r7.2.2.2.2.2.1 r7.2.2.2.2.2.2.1 r7.2.2.2.2.2.2.2, bX1 G q (o + 33) S.2.2.2.2.2.1.1 S.2.2.2.2.2.1.2.1 S.2.2.2.2.2.1.2.2.1 S.2.2.2.2.2.1.2.2.2, bX4 G q (o + 36) S.2.2.2.2.2.2.1.1 S.2.2.2.2.2.2.1.2, bX3 G q (o + 38) S.2.2.2.2.2.2.2.1.1 S.2.2.2.2.2.2.2.1.2.1 S.2.2.2.2.2.2.2.1.2.2.1 S.2.2.2.2.2.2.2.1.2.2.2, bX0 G q (o + 43) S.2.2.2.2.2.2.2.2.1.2.2.1 S.2.2.2.2.2.2.2.2.1.2.2.2, bX2 G q ((o + 43) + 3) S.2.2.2.2.2.2.2.2.1.1.1 S.2.2.2.2.2.2.2.2.1.1.2.1 S.2.2.2.2.2.2.2.2.1.1.2.2.1 S.2.2.2.2.2.2.2.2.1.1.2.2.2.1 S.2.2.2.2.2.2.2.2.1.1.2.2.2.2.1 S.2.2.2.2.2.2.2.2.1.1.2.2.2.2.2.1 S.2.2.2.2.2.2.2.2.1.1.2.2.2.2.2.2.1 S.2.2.2.2.2.2.2.2.1.1.2.2.2.2.2.2.2, bX4 G q ((o + 43) + 9) S.2.2.2.2.2.2.2.2.1.2.1.1 S.2.2.2.2.2.2.2.2.1.2.1.2, bX7 G q (o + 54) S.2.2.2.2.2.2.2.2.2.1 S.2.2.2.2.2.2.2.2.2.2.1 S.2.2.2.2.2.2.2.2.2.2.2]) hS0 (c_X2_setKeeper l G q (o + 27) S.2.2.2.2.1 v3 r5 r7 e8) zc_X2_setKeeper rfl gX10_dealt_X2_setKeeper ⟨Nat.le_of_ble_eq_true rfl, Nat.le_of_ble_eq_true rfl⟩ hK hA hT hw (is := [6]) rfl rfl rfl rfl rfl rfl rfl hl.1 rfl (Nat.le_of_ble_eq_true rfl) dX10_dealt_138 (fun H locs hw => ?_)
        refine lv_iinc (v := (v3 + 1)) (lv' := [(3, .int (v3 + 1)), (0, .ref (q (o + 0))), (1, .int v1)]) hx hb dX10_dealt_141 hl (k := 2) rfl rfl (by decide) rfl (fun ls hl => ?_)
        refine lv_goto (tgt := 101) hx hb dX10_dealt_144 rfl ?_
        exact ih _ _ _ _ _ _ hf hw (lv_sub hl [1, 2, 0] rfl)
set_option maxHeartbeats 4000000 in
set_option maxRecDepth 100000 in
theorem k_X10_dealt_41 {p : Program} {l : Launch} {e : Env} {s : State} {m : MethodId} {args : Array Value} {below : List Frame} {meth : Method} {c : Code} {A : Nat → Prop} {G : zG} {q : Nat → Nat} {o : Nat}  (hZ : zZ p s m args meth c A G cX10_dealt 4 RX10 wsX10_dealt (some .int)) (y : Int32 × VX10)  (n : Nat) : ∀ (S : VX10) (v1 : Int32) (v3 : Int32) (H : Heap) (locs : List Loc) (ls : Array Slot), f_X10_dealt_41 n S v1 v3 = some y → zH G A s.heap [bX10 G q o, bX9 G q (o + 1) S.1.1 S.1.2.1 S.1.2.2.1 S.1.2.2.2.1 S.1.2.2.2.2, bX6 G q (o + 3) S.2.1.1 S.2.1.2, bX8 G q (o + 12) S.2.2.1.1 S.2.2.1.2, bX5 G q (o + 19) S.2.2.2.1.2.1 S.2.2.2.1.2.2.1 S.2.2.2.1.2.2.2.1 S.2.2.2.1.2.2.2.2, bX2 G q ((o + 19) + 2) S.2.2.2.1.1.1 S.2.2.2.1.1.2.1 S.2.2.2.1.1.2.2.1 S.2.2.2.1.1.2.2.2.1 S.2.2.2.1.1.2.2.2.2.1 S.2.2.2.1.1.2.2.2.2.2.1 S.2.2.2.1.1.2.2.2.2.2.2.1 S.2.2.2.1.1.2.2.2.2.2.2.2, bX2 G q (o + 27) S.2.2.2.2.1.1 S.2.2.2.2.1.2.1 S.2.2.2.2.1.2.2.1 S.2.2.2.2.1.2.2.2.1 S.2.2.2.2.1.2.2.2.2.1 S.2.2.2.2.1.2.2.2.2.2.1 S.2.2.2.2.1.2.2.2.2.2.2.1 S.2.2.2.2.1.2.2.2.2.2.2.2, bX1 G q (o + 33) S.2.2.2.2.2.1.1 S.2.2.2.2.2.1.2.1 S.2.2.2.2.2.1.2.2.1 S.2.2.2.2.2.1.2.2.2, bX4 G q (o + 36) S.2.2.2.2.2.2.1.1 S.2.2.2.2.2.2.1.2, bX3 G q (o + 38) S.2.2.2.2.2.2.2.1.1 S.2.2.2.2.2.2.2.1.2.1 S.2.2.2.2.2.2.2.1.2.2.1 S.2.2.2.2.2.2.2.1.2.2.2, bX0 G q (o + 43) S.2.2.2.2.2.2.2.2.1.2.2.1 S.2.2.2.2.2.2.2.2.1.2.2.2, bX2 G q ((o + 43) + 3) S.2.2.2.2.2.2.2.2.1.1.1 S.2.2.2.2.2.2.2.2.1.1.2.1 S.2.2.2.2.2.2.2.2.1.1.2.2.1 S.2.2.2.2.2.2.2.2.1.1.2.2.2.1 S.2.2.2.2.2.2.2.2.1.1.2.2.2.2.1 S.2.2.2.2.2.2.2.2.1.1.2.2.2.2.2.1 S.2.2.2.2.2.2.2.2.1.1.2.2.2.2.2.2.1 S.2.2.2.2.2.2.2.2.1.1.2.2.2.2.2.2.2, bX4 G q ((o + 43) + 9) S.2.2.2.2.2.2.2.2.1.2.1.1 S.2.2.2.2.2.2.2.2.1.2.1.2, bX7 G q (o + 54) S.2.2.2.2.2.2.2.2.2.1 S.2.2.2.2.2.2.2.2.2.2.1 S.2.2.2.2.2.2.2.2.2.2.2] H locs → lv_has ls 4 [(0, .ref (q (o + 0))), (1, .int v1), (3, .int v3)] → W p l e { frames := 4, cells := 0, slots := 0, locals := 86 } s m args below meth c H locs 0 0 (MQ below (zQ (some (.int y.1)) (zPost G [bX10 G q o, bX9 G q (o + 1) y.2.1.1 y.2.1.2.1 y.2.1.2.2.1 y.2.1.2.2.2.1 y.2.1.2.2.2.2, bX6 G q (o + 3) y.2.2.1.1 y.2.2.1.2, bX8 G q (o + 12) y.2.2.2.1.1 y.2.2.2.1.2, bX5 G q (o + 19) y.2.2.2.2.1.2.1 y.2.2.2.2.1.2.2.1 y.2.2.2.2.1.2.2.2.1 y.2.2.2.2.1.2.2.2.2, bX2 G q ((o + 19) + 2) y.2.2.2.2.1.1.1 y.2.2.2.2.1.1.2.1 y.2.2.2.2.1.1.2.2.1 y.2.2.2.2.1.1.2.2.2.1 y.2.2.2.2.1.1.2.2.2.2.1 y.2.2.2.2.1.1.2.2.2.2.2.1 y.2.2.2.2.1.1.2.2.2.2.2.2.1 y.2.2.2.2.1.1.2.2.2.2.2.2.2, bX2 G q (o + 27) y.2.2.2.2.2.1.1 y.2.2.2.2.2.1.2.1 y.2.2.2.2.2.1.2.2.1 y.2.2.2.2.2.1.2.2.2.1 y.2.2.2.2.2.1.2.2.2.2.1 y.2.2.2.2.2.1.2.2.2.2.2.1 y.2.2.2.2.2.1.2.2.2.2.2.2.1 y.2.2.2.2.2.1.2.2.2.2.2.2.2, bX1 G q (o + 33) y.2.2.2.2.2.2.1.1 y.2.2.2.2.2.2.1.2.1 y.2.2.2.2.2.2.1.2.2.1 y.2.2.2.2.2.2.1.2.2.2, bX4 G q (o + 36) y.2.2.2.2.2.2.2.1.1 y.2.2.2.2.2.2.2.1.2, bX3 G q (o + 38) y.2.2.2.2.2.2.2.2.1.1 y.2.2.2.2.2.2.2.2.1.2.1 y.2.2.2.2.2.2.2.2.1.2.2.1 y.2.2.2.2.2.2.2.2.1.2.2.2, bX0 G q (o + 43) y.2.2.2.2.2.2.2.2.2.1.2.2.1 y.2.2.2.2.2.2.2.2.2.1.2.2.2, bX2 G q ((o + 43) + 3) y.2.2.2.2.2.2.2.2.2.1.1.1 y.2.2.2.2.2.2.2.2.2.1.1.2.1 y.2.2.2.2.2.2.2.2.2.1.1.2.2.1 y.2.2.2.2.2.2.2.2.2.1.1.2.2.2.1 y.2.2.2.2.2.2.2.2.2.1.1.2.2.2.2.1 y.2.2.2.2.2.2.2.2.2.1.1.2.2.2.2.2.1 y.2.2.2.2.2.2.2.2.2.1.1.2.2.2.2.2.2.1 y.2.2.2.2.2.2.2.2.2.1.1.2.2.2.2.2.2.2, bX4 G q ((o + 43) + 9) y.2.2.2.2.2.2.2.2.2.1.2.1.1 y.2.2.2.2.2.2.2.2.2.1.2.1.2, bX7 G q (o + 54) y.2.2.2.2.2.2.2.2.2.2.1 y.2.2.2.2.2.2.2.2.2.2.2.1 y.2.2.2.2.2.2.2.2.2.2.2.2]) A) args s 0 0 A) (F0 m 41 ls []) := by
  obtain ⟨hS0, hr, hlk, hK, hA, hT⟩ := id hZ
  have hx := hS0.1
  have hb := hS0.2.1
  have hml := hS0.2.2.1
  have hown : s.vm.findClass RX10 = some m.cls := hS0.2.2.2.1
  have hts := hS0.2.2.2.2
  induction n with
  | zero =>
    intro S v1 v3 H locs ls hf hw hl
    unfold f_X10_dealt_41 at hf
    cases hf
  | succ n ih =>
    intro S v1 v3 H locs ls hf hw hl
    unfold f_X10_dealt_41 at hf
    refine lv_iload_n hx hb dX10_dealt_41 rfl (lv_at hl 2 rfl) ?_
    refine lv_aload_n hx hb dX10_dealt_42 rfl (lv_at hl 0 rfl) ?_
    refine z_get hS0 in_X10_dealt_X10 hK hw 0 4 rfl rfl rfl (by decide) (hts _ m_X10_dealt_0) (v := .ref (q ((o + 27) + 0))) rfl dX10_dealt_43 ?_
    obtain ⟨r9, e10, hf⟩ := z_bd hf
    refine z_callV1 (As := []) (rest := [.int v3]) (bs' := [bX10 G q o, bX9 G q (o + 1) S.1.1 S.1.2.1 S.1.2.2.1 S.1.2.2.2.1 S.1.2.2.2.2, bX6 G q (o + 3) S.2.1.1 S.2.1.2, bX8 G q (o + 12) S.2.2.1.1 S.2.2.1.2, bX5 G q (o + 19) S.2.2.2.1.2.1 S.2.2.2.1.2.2.1 S.2.2.2.1.2.2.2.1 S.2.2.2.1.2.2.2.2, bX2 G q ((o + 19) + 2) S.2.2.2.1.1.1 S.2.2.2.1.1.2.1 S.2.2.2.1.1.2.2.1 S.2.2.2.1.1.2.2.2.1 S.2.2.2.1.1.2.2.2.2.1 S.2.2.2.1.1.2.2.2.2.2.1 S.2.2.2.1.1.2.2.2.2.2.2.1 S.2.2.2.1.1.2.2.2.2.2.2.2, bX2 G q (o + 27) S.2.2.2.2.1.1 S.2.2.2.2.1.2.1 S.2.2.2.2.1.2.2.1 S.2.2.2.2.1.2.2.2.1 S.2.2.2.2.1.2.2.2.2.1 S.2.2.2.2.1.2.2.2.2.2.1 S.2.2.2.2.1.2.2.2.2.2.2.1 S.2.2.2.2.1.2.2.2.2.2.2.2, bX1 G q (o + 33) S.2.2.2.2.2.1.1 S.2.2.2.2.2.1.2.1 S.2.2.2.2.2.1.2.2.1 S.2.2.2.2.2.1.2.2.2, bX4 G q (o + 36) S.2.2.2.2.2.2.1.1 S.2.2.2.2.2.2.1.2, bX3 G q (o + 38) S.2.2.2.2.2.2.2.1.1 S.2.2.2.2.2.2.2.1.2.1 S.2.2.2.2.2.2.2.1.2.2.1 S.2.2.2.2.2.2.2.1.2.2.2, bX0 G q (o + 43) S.2.2.2.2.2.2.2.2.1.2.2.1 S.2.2.2.2.2.2.2.2.1.2.2.2, bX2 G q ((o + 43) + 3) S.2.2.2.2.2.2.2.2.1.1.1 S.2.2.2.2.2.2.2.2.1.1.2.1 S.2.2.2.2.2.2.2.2.1.1.2.2.1 S.2.2.2.2.2.2.2.2.1.1.2.2.2.1 S.2.2.2.2.2.2.2.2.1.1.2.2.2.2.1 S.2.2.2.2.2.2.2.2.1.1.2.2.2.2.2.1 S.2.2.2.2.2.2.2.2.1.1.2.2.2.2.2.2.1 S.2.2.2.2.2.2.2.2.1.1.2.2.2.2.2.2.2, bX4 G q ((o + 43) + 9) S.2.2.2.2.2.2.2.2.1.2.1.1 S.2.2.2.2.2.2.2.2.1.2.1.2, bX7 G q (o + 54) S.2.2.2.2.2.2.2.2.2.1 S.2.2.2.2.2.2.2.2.2.2.1 S.2.2.2.2.2.2.2.2.2.2.2]) hS0 (c_X2_cells l G q (o + 27) S.2.2.2.2.1 r9 e10) zc_X2_cells rfl gX10_dealt_X2_cells ⟨Nat.le_of_ble_eq_true rfl, Nat.le_of_ble_eq_true rfl⟩ hK hA hT hw (is := [6]) rfl rfl rfl rfl rfl rfl rfl hl.1 rfl (Nat.le_of_ble_eq_true rfl) dX10_dealt_46 (fun H locs hw => ?_)
    refine lv_icmp_ge (tgt := 99) hx hb dX10_dealt_49 rfl (fun hc => ?_) (fun hc => ?_)
    · have hf := z_t hc hf
      refine lv_iconst (v := 0) hx hb dX10_dealt_99 rfl ?_
      refine lv_istore_n (lv' := [(3, .int 0), (0, .ref (q (o + 0))), (1, .int v1)]) hx hb dX10_dealt_100 rfl hl (by decide) rfl (fun ls hl => ?_)
      exact k_X10_dealt_101 hZ _ 4096 _ _ _ _ _ _ hf hw (lv_sub hl [1, 2, 0] rfl)
    · have hf := z_f hc hf
      refine lv_aload_n hx hb dX10_dealt_52 rfl (lv_at hl 0 rfl) ?_
      refine z_get hS0 in_X10_dealt_X10 hK hw 0 4 rfl rfl rfl (by decide) (hts _ m_X10_dealt_0) (v := .ref (q ((o + 27) + 0))) rfl dX10_dealt_53 ?_
      refine lv_iload_n hx hb dX10_dealt_56 rfl (lv_at hl 2 rfl) ?_
      refine lv_iconst (v := 2) hx hb dX10_dealt_57 rfl ?_
      obtain ⟨r11, e12, hf⟩ := z_bd hf
      refine z_callV1 (As := [.int v3, .int 2]) (rest := []) (bs' := [bX10 G q o, bX9 G q (o + 1) S.1.1 S.1.2.1 S.1.2.2.1 S.1.2.2.2.1 S.1.2.2.2.2, bX6 G q (o + 3) S.2.1.1 S.2.1.2, bX8 G q (o + 12) S.2.2.1.1 S.2.2.1.2, bX5 G q (o + 19) S.2.2.2.1.2.1 S.2.2.2.1.2.2.1 S.2.2.2.1.2.2.2.1 S.2.2.2.1.2.2.2.2, bX2 G q ((o + 19) + 2) S.2.2.2.1.1.1 S.2.2.2.1.1.2.1 S.2.2.2.1.1.2.2.1 S.2.2.2.1.1.2.2.2.1 S.2.2.2.1.1.2.2.2.2.1 S.2.2.2.1.1.2.2.2.2.2.1 S.2.2.2.1.1.2.2.2.2.2.2.1 S.2.2.2.1.1.2.2.2.2.2.2.2, bX2 G q (o + 27) S.2.2.2.2.1.1 S.2.2.2.2.1.2.1 S.2.2.2.2.1.2.2.1 S.2.2.2.2.1.2.2.2.1 S.2.2.2.2.1.2.2.2.2.1 S.2.2.2.2.1.2.2.2.2.2.1 S.2.2.2.2.1.2.2.2.2.2.2.1 S.2.2.2.2.1.2.2.2.2.2.2.2, bX1 G q (o + 33) S.2.2.2.2.2.1.1 S.2.2.2.2.2.1.2.1 S.2.2.2.2.2.1.2.2.1 S.2.2.2.2.2.1.2.2.2, bX4 G q (o + 36) S.2.2.2.2.2.2.1.1 S.2.2.2.2.2.2.1.2, bX3 G q (o + 38) S.2.2.2.2.2.2.2.1.1 S.2.2.2.2.2.2.2.1.2.1 S.2.2.2.2.2.2.2.1.2.2.1 S.2.2.2.2.2.2.2.1.2.2.2, bX0 G q (o + 43) S.2.2.2.2.2.2.2.2.1.2.2.1 S.2.2.2.2.2.2.2.2.1.2.2.2, bX2 G q ((o + 43) + 3) S.2.2.2.2.2.2.2.2.1.1.1 S.2.2.2.2.2.2.2.2.1.1.2.1 S.2.2.2.2.2.2.2.2.1.1.2.2.1 S.2.2.2.2.2.2.2.2.1.1.2.2.2.1 S.2.2.2.2.2.2.2.2.1.1.2.2.2.2.1 S.2.2.2.2.2.2.2.2.1.1.2.2.2.2.2.1 S.2.2.2.2.2.2.2.2.1.1.2.2.2.2.2.2.1 S.2.2.2.2.2.2.2.2.1.1.2.2.2.2.2.2.2, bX4 G q ((o + 43) + 9) S.2.2.2.2.2.2.2.2.1.2.1.1 S.2.2.2.2.2.2.2.2.1.2.1.2, bX7 G q (o + 54) S.2.2.2.2.2.2.2.2.2.1 S.2.2.2.2.2.2.2.2.2.2.1 S.2.2.2.2.2.2.2.2.2.2.2]) hS0 (c_X2_isOf l G q (o + 27) S.2.2.2.2.1 v3 2 r11 e12) zc_X2_isOf rfl gX10_dealt_X2_isOf ⟨Nat.le_of_ble_eq_true rfl, Nat.le_of_ble_eq_true rfl⟩ hK hA hT hw (is := [6]) rfl rfl rfl rfl rfl rfl rfl hl.1 rfl (Nat.le_of_ble_eq_true rfl) dX10_dealt_58 (fun H locs hw => ?_)
      refine lv_if_ne (tgt := 93) hx hb dX10_dealt_61 rfl (fun hc => ?_) (fun hc => ?_)
      · have hf := z_f hc hf
        refine lv_iinc (v := (v3 + 1)) (lv' := [(3, .int (v3 + 1)), (0, .ref (q (o + 0))), (1, .int v1)]) hx hb dX10_dealt_93 hl (k := 2) rfl rfl (by decide) rfl (fun ls hl => ?_)
        refine lv_goto (tgt := 41) hx hb dX10_dealt_96 rfl ?_
        exact ih _ _ _ _ _ _ hf hw (lv_sub hl [1, 2, 0] rfl)
      · have hf := z_t hc hf
        refine lv_aload_n hx hb dX10_dealt_64 rfl (lv_at hl 0 rfl) ?_
        refine z_get hS0 in_X10_dealt_X10 hK hw 0 4 rfl rfl rfl (by decide) (hts _ m_X10_dealt_0) (v := .ref (q ((o + 27) + 0))) rfl dX10_dealt_65 ?_
        refine lv_iload_n hx hb dX10_dealt_68 rfl (lv_at hl 2 rfl) ?_
        refine lv_aload_n hx hb dX10_dealt_69 rfl (lv_at hl 0 rfl) ?_
        refine z_get hS0 in_X10_dealt_X10 hK hw 0 1 rfl rfl rfl (by decide) (hts _ m_X10_dealt_1) (v := .ref (q ((o + 3) + 0))) rfl dX10_dealt_70 ?_
        refine lv_iload_n hx hb dX10_dealt_73 rfl (lv_at hl 1 rfl) ?_
        refine lv_iload_n hx hb dX10_dealt_74 rfl (lv_at hl 2 rfl) ?_
        obtain ⟨r13, e14, hf⟩ := z_bd hf
        refine z_callV1 (As := [.int v1, .int v3]) (rest := [.int v3, .ref (q ((o + 27) + 0))]) (bs' := [bX10 G q o, bX9 G q (o + 1) S.1.1 S.1.2.1 S.1.2.2.1 S.1.2.2.2.1 S.1.2.2.2.2, bX6 G q (o + 3) S.2.1.1 S.2.1.2, bX8 G q (o + 12) S.2.2.1.1 S.2.2.1.2, bX5 G q (o + 19) S.2.2.2.1.2.1 S.2.2.2.1.2.2.1 S.2.2.2.1.2.2.2.1 S.2.2.2.1.2.2.2.2, bX2 G q ((o + 19) + 2) S.2.2.2.1.1.1 S.2.2.2.1.1.2.1 S.2.2.2.1.1.2.2.1 S.2.2.2.1.1.2.2.2.1 S.2.2.2.1.1.2.2.2.2.1 S.2.2.2.1.1.2.2.2.2.2.1 S.2.2.2.1.1.2.2.2.2.2.2.1 S.2.2.2.1.1.2.2.2.2.2.2.2, bX2 G q (o + 27) S.2.2.2.2.1.1 S.2.2.2.2.1.2.1 S.2.2.2.2.1.2.2.1 S.2.2.2.2.1.2.2.2.1 S.2.2.2.2.1.2.2.2.2.1 S.2.2.2.2.1.2.2.2.2.2.1 S.2.2.2.2.1.2.2.2.2.2.2.1 S.2.2.2.2.1.2.2.2.2.2.2.2, bX1 G q (o + 33) S.2.2.2.2.2.1.1 S.2.2.2.2.2.1.2.1 S.2.2.2.2.2.1.2.2.1 S.2.2.2.2.2.1.2.2.2, bX4 G q (o + 36) S.2.2.2.2.2.2.1.1 S.2.2.2.2.2.2.1.2, bX3 G q (o + 38) S.2.2.2.2.2.2.2.1.1 S.2.2.2.2.2.2.2.1.2.1 S.2.2.2.2.2.2.2.1.2.2.1 S.2.2.2.2.2.2.2.1.2.2.2, bX0 G q (o + 43) S.2.2.2.2.2.2.2.2.1.2.2.1 S.2.2.2.2.2.2.2.2.1.2.2.2, bX2 G q ((o + 43) + 3) S.2.2.2.2.2.2.2.2.1.1.1 S.2.2.2.2.2.2.2.2.1.1.2.1 S.2.2.2.2.2.2.2.2.1.1.2.2.1 S.2.2.2.2.2.2.2.2.1.1.2.2.2.1 S.2.2.2.2.2.2.2.2.1.1.2.2.2.2.1 S.2.2.2.2.2.2.2.2.1.1.2.2.2.2.2.1 S.2.2.2.2.2.2.2.2.1.1.2.2.2.2.2.2.1 S.2.2.2.2.2.2.2.2.1.1.2.2.2.2.2.2.2, bX4 G q ((o + 43) + 9) S.2.2.2.2.2.2.2.2.1.2.1.1 S.2.2.2.2.2.2.2.2.1.2.1.2, bX7 G q (o + 54) S.2.2.2.2.2.2.2.2.2.1 S.2.2.2.2.2.2.2.2.2.2.1 S.2.2.2.2.2.2.2.2.2.2.2]) hS0 (c_X6_get l G q (o + 3) S.2.1 v1 v3 r13 e14) zc_X6_get rfl gX10_dealt_X6_get ⟨Nat.le_of_ble_eq_true rfl, Nat.le_of_ble_eq_true rfl⟩ hK hA hT hw (is := [2]) rfl rfl rfl rfl rfl rfl rfl hl.1 rfl (Nat.le_of_ble_eq_true rfl) dX10_dealt_75 (fun H locs hw => ?_)
        obtain ⟨r15, e16, hf⟩ := z_bd hf
        refine z_callV1 (As := [.int v3, .int r13]) (rest := []) (bs' := [bX10 G q o, bX9 G q (o + 1) S.1.1 S.1.2.1 S.1.2.2.1 S.1.2.2.2.1 S.1.2.2.2.2, bX6 G q (o + 3) S.2.1.1 S.2.1.2, bX8 G q (o + 12) S.2.2.1.1 S.2.2.1.2, bX5 G q (o + 19) S.2.2.2.1.2.1 S.2.2.2.1.2.2.1 S.2.2.2.1.2.2.2.1 S.2.2.2.1.2.2.2.2, bX2 G q ((o + 19) + 2) S.2.2.2.1.1.1 S.2.2.2.1.1.2.1 S.2.2.2.1.1.2.2.1 S.2.2.2.1.1.2.2.2.1 S.2.2.2.1.1.2.2.2.2.1 S.2.2.2.1.1.2.2.2.2.2.1 S.2.2.2.1.1.2.2.2.2.2.2.1 S.2.2.2.1.1.2.2.2.2.2.2.2, bX2 G q (o + 27) S.2.2.2.2.1.1 S.2.2.2.2.1.2.1 S.2.2.2.2.1.2.2.1 S.2.2.2.2.1.2.2.2.1 S.2.2.2.2.1.2.2.2.2.1 S.2.2.2.2.1.2.2.2.2.2.1 S.2.2.2.2.1.2.2.2.2.2.2.1 S.2.2.2.2.1.2.2.2.2.2.2.2, bX1 G q (o + 33) S.2.2.2.2.2.1.1 S.2.2.2.2.2.1.2.1 S.2.2.2.2.2.1.2.2.1 S.2.2.2.2.2.1.2.2.2, bX4 G q (o + 36) S.2.2.2.2.2.2.1.1 S.2.2.2.2.2.2.1.2, bX3 G q (o + 38) S.2.2.2.2.2.2.2.1.1 S.2.2.2.2.2.2.2.1.2.1 S.2.2.2.2.2.2.2.1.2.2.1 S.2.2.2.2.2.2.2.1.2.2.2, bX0 G q (o + 43) S.2.2.2.2.2.2.2.2.1.2.2.1 S.2.2.2.2.2.2.2.2.1.2.2.2, bX2 G q ((o + 43) + 3) S.2.2.2.2.2.2.2.2.1.1.1 S.2.2.2.2.2.2.2.2.1.1.2.1 S.2.2.2.2.2.2.2.2.1.1.2.2.1 S.2.2.2.2.2.2.2.2.1.1.2.2.2.1 S.2.2.2.2.2.2.2.2.1.1.2.2.2.2.1 S.2.2.2.2.2.2.2.2.1.1.2.2.2.2.2.1 S.2.2.2.2.2.2.2.2.1.1.2.2.2.2.2.2.1 S.2.2.2.2.2.2.2.2.1.1.2.2.2.2.2.2.2, bX4 G q ((o + 43) + 9) S.2.2.2.2.2.2.2.2.1.2.1.1 S.2.2.2.2.2.2.2.2.1.2.1.2, bX7 G q (o + 54) S.2.2.2.2.2.2.2.2.2.1 S.2.2.2.2.2.2.2.2.2.2.1 S.2.2.2.2.2.2.2.2.2.2.2]) hS0 (c_X2_mayKeep l G q (o + 27) S.2.2.2.2.1 v3 r13 r15 e16) zc_X2_mayKeep rfl gX10_dealt_X2_mayKeep ⟨Nat.le_of_ble_eq_true rfl, Nat.le_of_ble_eq_true rfl⟩ hK hA hT hw (is := [6]) rfl rfl rfl rfl rfl rfl rfl hl.1 rfl (Nat.le_of_ble_eq_true rfl) dX10_dealt_78 (fun H locs hw => ?_)
        refine lv_if_ne (tgt := 93) hx hb dX10_dealt_81 rfl (fun hc => ?_) (fun hc => ?_)
        · have hf := z_f hc hf
          refine lv_iinc (v := (v3 + 1)) (lv' := [(3, .int (v3 + 1)), (0, .ref (q (o + 0))), (1, .int v1)]) hx hb dX10_dealt_93 hl (k := 2) rfl rfl (by decide) rfl (fun ls hl => ?_)
          refine lv_goto (tgt := 41) hx hb dX10_dealt_96 rfl ?_
          exact ih _ _ _ _ _ _ hf hw (lv_sub hl [1, 2, 0] rfl)
        · have hf := z_t hc hf
          refine lv_aload_n hx hb dX10_dealt_84 rfl (lv_at hl 0 rfl) ?_
          refine z_get hS0 in_X10_dealt_X10 hK hw 0 0 rfl rfl rfl (by decide) (hts _ m_X10_dealt_2) (v := .ref (q ((o + 1) + 0))) rfl dX10_dealt_85 ?_
          refine lv_iconst (v := 3) hx hb dX10_dealt_88 rfl ?_
          obtain ⟨r17, e18, hf⟩ := z_bd hf
          refine z_callV1 (As := [.int 3]) (rest := []) (bs' := [bX10 G q o, bX9 G q (o + 1) r17.2.1 r17.2.2.1 r17.2.2.2.1 r17.2.2.2.2.1 r17.2.2.2.2.2, bX6 G q (o + 3) S.2.1.1 S.2.1.2, bX8 G q (o + 12) S.2.2.1.1 S.2.2.1.2, bX5 G q (o + 19) S.2.2.2.1.2.1 S.2.2.2.1.2.2.1 S.2.2.2.1.2.2.2.1 S.2.2.2.1.2.2.2.2, bX2 G q ((o + 19) + 2) S.2.2.2.1.1.1 S.2.2.2.1.1.2.1 S.2.2.2.1.1.2.2.1 S.2.2.2.1.1.2.2.2.1 S.2.2.2.1.1.2.2.2.2.1 S.2.2.2.1.1.2.2.2.2.2.1 S.2.2.2.1.1.2.2.2.2.2.2.1 S.2.2.2.1.1.2.2.2.2.2.2.2, bX2 G q (o + 27) S.2.2.2.2.1.1 S.2.2.2.2.1.2.1 S.2.2.2.2.1.2.2.1 S.2.2.2.2.1.2.2.2.1 S.2.2.2.2.1.2.2.2.2.1 S.2.2.2.2.1.2.2.2.2.2.1 S.2.2.2.2.1.2.2.2.2.2.2.1 S.2.2.2.2.1.2.2.2.2.2.2.2, bX1 G q (o + 33) S.2.2.2.2.2.1.1 S.2.2.2.2.2.1.2.1 S.2.2.2.2.2.1.2.2.1 S.2.2.2.2.2.1.2.2.2, bX4 G q (o + 36) S.2.2.2.2.2.2.1.1 S.2.2.2.2.2.2.1.2, bX3 G q (o + 38) S.2.2.2.2.2.2.2.1.1 S.2.2.2.2.2.2.2.1.2.1 S.2.2.2.2.2.2.2.1.2.2.1 S.2.2.2.2.2.2.2.1.2.2.2, bX0 G q (o + 43) S.2.2.2.2.2.2.2.2.1.2.2.1 S.2.2.2.2.2.2.2.2.1.2.2.2, bX2 G q ((o + 43) + 3) S.2.2.2.2.2.2.2.2.1.1.1 S.2.2.2.2.2.2.2.2.1.1.2.1 S.2.2.2.2.2.2.2.2.1.1.2.2.1 S.2.2.2.2.2.2.2.2.1.1.2.2.2.1 S.2.2.2.2.2.2.2.2.1.1.2.2.2.2.1 S.2.2.2.2.2.2.2.2.1.1.2.2.2.2.2.1 S.2.2.2.2.2.2.2.2.1.1.2.2.2.2.2.2.1 S.2.2.2.2.2.2.2.2.1.1.2.2.2.2.2.2.2, bX4 G q ((o + 43) + 9) S.2.2.2.2.2.2.2.2.1.2.1.1 S.2.2.2.2.2.2.2.2.1.2.1.2, bX7 G q (o + 54) S.2.2.2.2.2.2.2.2.2.1 S.2.2.2.2.2.2.2.2.2.2.1 S.2.2.2.2.2.2.2.2.2.2.2]) hS0 (c_X9_found l G q (o + 1) S.1 3 r17 e18) zc_X9_found rfl gX10_dealt_X9_found ⟨Nat.le_of_ble_eq_true rfl, Nat.le_of_ble_eq_true rfl⟩ hK hA hT hw (is := [1]) rfl rfl rfl rfl rfl rfl rfl hl.1 rfl (Nat.le_of_ble_eq_true rfl) dX10_dealt_89 (fun H locs hw => ?_)
          cases hf
          exact z_iret hx hb hr hlk hw dX10_dealt_92
set_option maxHeartbeats 4000000 in
set_option maxRecDepth 100000 in
theorem c_X10_dealt (l : Launch) (G : zG) (q : Nat → Nat) (o : Nat) (S : VX10) (v1 : Int32) (y : Int32 × VX10) (hf : f_X10_dealt S v1 = some y) : zMet l yX10_dealt wsX10_dealt 4 86 G [.ref (q (o + 0)), .int v1] [bX10 G q o, bX9 G q (o + 1) S.1.1 S.1.2.1 S.1.2.2.1 S.1.2.2.2.1 S.1.2.2.2.2, bX6 G q (o + 3) S.2.1.1 S.2.1.2, bX8 G q (o + 12) S.2.2.1.1 S.2.2.1.2, bX5 G q (o + 19) S.2.2.2.1.2.1 S.2.2.2.1.2.2.1 S.2.2.2.1.2.2.2.1 S.2.2.2.1.2.2.2.2, bX2 G q ((o + 19) + 2) S.2.2.2.1.1.1 S.2.2.2.1.1.2.1 S.2.2.2.1.1.2.2.1 S.2.2.2.1.1.2.2.2.1 S.2.2.2.1.1.2.2.2.2.1 S.2.2.2.1.1.2.2.2.2.2.1 S.2.2.2.1.1.2.2.2.2.2.2.1 S.2.2.2.1.1.2.2.2.2.2.2.2, bX2 G q (o + 27) S.2.2.2.2.1.1 S.2.2.2.2.1.2.1 S.2.2.2.2.1.2.2.1 S.2.2.2.2.1.2.2.2.1 S.2.2.2.2.1.2.2.2.2.1 S.2.2.2.2.1.2.2.2.2.2.1 S.2.2.2.2.1.2.2.2.2.2.2.1 S.2.2.2.2.1.2.2.2.2.2.2.2, bX1 G q (o + 33) S.2.2.2.2.2.1.1 S.2.2.2.2.2.1.2.1 S.2.2.2.2.2.1.2.2.1 S.2.2.2.2.2.1.2.2.2, bX4 G q (o + 36) S.2.2.2.2.2.2.1.1 S.2.2.2.2.2.2.1.2, bX3 G q (o + 38) S.2.2.2.2.2.2.2.1.1 S.2.2.2.2.2.2.2.1.2.1 S.2.2.2.2.2.2.2.1.2.2.1 S.2.2.2.2.2.2.2.1.2.2.2, bX0 G q (o + 43) S.2.2.2.2.2.2.2.2.1.2.2.1 S.2.2.2.2.2.2.2.2.1.2.2.2, bX2 G q ((o + 43) + 3) S.2.2.2.2.2.2.2.2.1.1.1 S.2.2.2.2.2.2.2.2.1.1.2.1 S.2.2.2.2.2.2.2.2.1.1.2.2.1 S.2.2.2.2.2.2.2.2.1.1.2.2.2.1 S.2.2.2.2.2.2.2.2.1.1.2.2.2.2.1 S.2.2.2.2.2.2.2.2.1.1.2.2.2.2.2.1 S.2.2.2.2.2.2.2.2.1.1.2.2.2.2.2.2.1 S.2.2.2.2.2.2.2.2.1.1.2.2.2.2.2.2.2, bX4 G q ((o + 43) + 9) S.2.2.2.2.2.2.2.2.1.2.1.1 S.2.2.2.2.2.2.2.2.1.2.1.2, bX7 G q (o + 54) S.2.2.2.2.2.2.2.2.2.1 S.2.2.2.2.2.2.2.2.2.2.1 S.2.2.2.2.2.2.2.2.2.2.2] (some (.int y.1)) [bX10 G q o, bX9 G q (o + 1) y.2.1.1 y.2.1.2.1 y.2.1.2.2.1 y.2.1.2.2.2.1 y.2.1.2.2.2.2, bX6 G q (o + 3) y.2.2.1.1 y.2.2.1.2, bX8 G q (o + 12) y.2.2.2.1.1 y.2.2.2.1.2, bX5 G q (o + 19) y.2.2.2.2.1.2.1 y.2.2.2.2.1.2.2.1 y.2.2.2.2.1.2.2.2.1 y.2.2.2.2.1.2.2.2.2, bX2 G q ((o + 19) + 2) y.2.2.2.2.1.1.1 y.2.2.2.2.1.1.2.1 y.2.2.2.2.1.1.2.2.1 y.2.2.2.2.1.1.2.2.2.1 y.2.2.2.2.1.1.2.2.2.2.1 y.2.2.2.2.1.1.2.2.2.2.2.1 y.2.2.2.2.1.1.2.2.2.2.2.2.1 y.2.2.2.2.1.1.2.2.2.2.2.2.2, bX2 G q (o + 27) y.2.2.2.2.2.1.1 y.2.2.2.2.2.1.2.1 y.2.2.2.2.2.1.2.2.1 y.2.2.2.2.2.1.2.2.2.1 y.2.2.2.2.2.1.2.2.2.2.1 y.2.2.2.2.2.1.2.2.2.2.2.1 y.2.2.2.2.2.1.2.2.2.2.2.2.1 y.2.2.2.2.2.1.2.2.2.2.2.2.2, bX1 G q (o + 33) y.2.2.2.2.2.2.1.1 y.2.2.2.2.2.2.1.2.1 y.2.2.2.2.2.2.1.2.2.1 y.2.2.2.2.2.2.1.2.2.2, bX4 G q (o + 36) y.2.2.2.2.2.2.2.1.1 y.2.2.2.2.2.2.2.1.2, bX3 G q (o + 38) y.2.2.2.2.2.2.2.2.1.1 y.2.2.2.2.2.2.2.2.1.2.1 y.2.2.2.2.2.2.2.2.1.2.2.1 y.2.2.2.2.2.2.2.2.1.2.2.2, bX0 G q (o + 43) y.2.2.2.2.2.2.2.2.2.1.2.2.1 y.2.2.2.2.2.2.2.2.2.1.2.2.2, bX2 G q ((o + 43) + 3) y.2.2.2.2.2.2.2.2.2.1.1.1 y.2.2.2.2.2.2.2.2.2.1.1.2.1 y.2.2.2.2.2.2.2.2.2.1.1.2.2.1 y.2.2.2.2.2.2.2.2.2.1.1.2.2.2.1 y.2.2.2.2.2.2.2.2.2.1.1.2.2.2.2.1 y.2.2.2.2.2.2.2.2.2.1.1.2.2.2.2.2.1 y.2.2.2.2.2.2.2.2.2.1.1.2.2.2.2.2.2.1 y.2.2.2.2.2.2.2.2.2.1.1.2.2.2.2.2.2.2, bX4 G q ((o + 43) + 9) y.2.2.2.2.2.2.2.2.2.1.2.1.1 y.2.2.2.2.2.2.2.2.2.1.2.1.2, bX7 G q (o + 54) y.2.2.2.2.2.2.2.2.2.2.1 y.2.2.2.2.2.2.2.2.2.2.2.1 y.2.2.2.2.2.2.2.2.2.2.2.2] := by
  refine z_met zc_X10_dealt (Nat.le_of_ble_eq_true rfl) ?_
  intro p e s m below meth c A ls hZ hl hw
  have hl : lv_has ls 4 [(0, .ref (q (o + 0))), (1, .int v1)] := hl
  obtain ⟨hS0, hr, hlk, hK, hA, hT⟩ := id hZ
  have hx := hS0.1
  have hb := hS0.2.1
  have hml := hS0.2.2.1
  have hown : s.vm.findClass RX10 = some m.cls := hS0.2.2.2.1
  have hts := hS0.2.2.2.2
  unfold f_X10_dealt at hf
  refine lv_aload_n hx hb dX10_dealt_0 rfl (lv_at hl 0 rfl) ?_
  refine lv_iload_n hx hb dX10_dealt_1 rfl (lv_at hl 1 rfl) ?_
  obtain ⟨r19, e20, hf⟩ := z_bd hf
  refine z_callV1 (As := [.int v1]) (rest := []) (bs' := [bX10 G q o, bX9 G q (o + 1) r19.2.1.1 r19.2.1.2.1 r19.2.1.2.2.1 r19.2.1.2.2.2.1 r19.2.1.2.2.2.2, bX6 G q (o + 3) r19.2.2.1.1 r19.2.2.1.2, bX8 G q (o + 12) r19.2.2.2.1.1 r19.2.2.2.1.2, bX5 G q (o + 19) r19.2.2.2.2.1.2.1 r19.2.2.2.2.1.2.2.1 r19.2.2.2.2.1.2.2.2.1 r19.2.2.2.2.1.2.2.2.2, bX2 G q ((o + 19) + 2) r19.2.2.2.2.1.1.1 r19.2.2.2.2.1.1.2.1 r19.2.2.2.2.1.1.2.2.1 r19.2.2.2.2.1.1.2.2.2.1 r19.2.2.2.2.1.1.2.2.2.2.1 r19.2.2.2.2.1.1.2.2.2.2.2.1 r19.2.2.2.2.1.1.2.2.2.2.2.2.1 r19.2.2.2.2.1.1.2.2.2.2.2.2.2, bX2 G q (o + 27) r19.2.2.2.2.2.1.1 r19.2.2.2.2.2.1.2.1 r19.2.2.2.2.2.1.2.2.1 r19.2.2.2.2.2.1.2.2.2.1 r19.2.2.2.2.2.1.2.2.2.2.1 r19.2.2.2.2.2.1.2.2.2.2.2.1 r19.2.2.2.2.2.1.2.2.2.2.2.2.1 r19.2.2.2.2.2.1.2.2.2.2.2.2.2, bX1 G q (o + 33) r19.2.2.2.2.2.2.1.1 r19.2.2.2.2.2.2.1.2.1 r19.2.2.2.2.2.2.1.2.2.1 r19.2.2.2.2.2.2.1.2.2.2, bX4 G q (o + 36) r19.2.2.2.2.2.2.2.1.1 r19.2.2.2.2.2.2.2.1.2, bX3 G q (o + 38) r19.2.2.2.2.2.2.2.2.1.1 r19.2.2.2.2.2.2.2.2.1.2.1 r19.2.2.2.2.2.2.2.2.1.2.2.1 r19.2.2.2.2.2.2.2.2.1.2.2.2, bX0 G q (o + 43) r19.2.2.2.2.2.2.2.2.2.1.2.2.1 r19.2.2.2.2.2.2.2.2.2.1.2.2.2, bX2 G q ((o + 43) + 3) r19.2.2.2.2.2.2.2.2.2.1.1.1 r19.2.2.2.2.2.2.2.2.2.1.1.2.1 r19.2.2.2.2.2.2.2.2.2.1.1.2.2.1 r19.2.2.2.2.2.2.2.2.2.1.1.2.2.2.1 r19.2.2.2.2.2.2.2.2.2.1.1.2.2.2.2.1 r19.2.2.2.2.2.2.2.2.2.1.1.2.2.2.2.2.1 r19.2.2.2.2.2.2.2.2.2.1.1.2.2.2.2.2.2.1 r19.2.2.2.2.2.2.2.2.2.1.1.2.2.2.2.2.2.2, bX4 G q ((o + 43) + 9) r19.2.2.2.2.2.2.2.2.2.1.2.1.1 r19.2.2.2.2.2.2.2.2.2.1.2.1.2, bX7 G q (o + 54) r19.2.2.2.2.2.2.2.2.2.2.1 r19.2.2.2.2.2.2.2.2.2.2.2.1 r19.2.2.2.2.2.2.2.2.2.2.2.2]) hS0 (c_X10_rowRefusal l G q o S v1 r19 e20) zc_X10_rowRefusal rfl gX10_dealt_X10_rowRefusal ⟨Nat.le_of_ble_eq_true rfl, Nat.le_of_ble_eq_true rfl⟩ hK hA hT hw (is := [0, 1, 2, 3, 4, 5, 6, 7, 8, 9, 10, 11, 12, 13]) rfl rfl rfl rfl rfl rfl rfl hl.1 rfl (Nat.le_of_ble_eq_true rfl) dX10_dealt_2 (fun H locs hw => ?_)
  refine lv_istore_n (lv' := [(2, .int r19.1), (0, .ref (q (o + 0))), (1, .int v1)]) hx hb dX10_dealt_5 rfl hl (by decide) rfl (fun ls hl => ?_)
  refine lv_iload_n hx hb dX10_dealt_6 rfl (lv_at hl 0 rfl) ?_
  refine lv_if_eq (tgt := 12) hx hb dX10_dealt_7 rfl (fun hc => ?_) (fun hc => ?_)
  · have hf := z_t hc hf
    refine lv_aload_n hx hb dX10_dealt_12 rfl (lv_at hl 1 rfl) ?_
    refine z_get hS0 in_X10_dealt_X10 hK hw 0 1 rfl rfl rfl (by decide) (hts _ m_X10_dealt_1) (v := .ref (q ((o + 3) + 0))) rfl dX10_dealt_13 ?_
    refine lv_iload_n hx hb dX10_dealt_16 rfl (lv_at hl 2 rfl) ?_
    obtain ⟨r21, e22, hf⟩ := z_bd hf
    refine z_callV1 (As := [.int v1]) (rest := []) (bs' := [bX10 G q o, bX9 G q (o + 1) r19.2.1.1 r19.2.1.2.1 r19.2.1.2.2.1 r19.2.1.2.2.2.1 r19.2.1.2.2.2.2, bX6 G q (o + 3) r19.2.2.1.1 r19.2.2.1.2, bX8 G q (o + 12) r19.2.2.2.1.1 r19.2.2.2.1.2, bX5 G q (o + 19) r19.2.2.2.2.1.2.1 r19.2.2.2.2.1.2.2.1 r19.2.2.2.2.1.2.2.2.1 r19.2.2.2.2.1.2.2.2.2, bX2 G q ((o + 19) + 2) r19.2.2.2.2.1.1.1 r19.2.2.2.2.1.1.2.1 r19.2.2.2.2.1.1.2.2.1 r19.2.2.2.2.1.1.2.2.2.1 r19.2.2.2.2.1.1.2.2.2.2.1 r19.2.2.2.2.1.1.2.2.2.2.2.1 r19.2.2.2.2.1.1.2.2.2.2.2.2.1 r19.2.2.2.2.1.1.2.2.2.2.2.2.2, bX2 G q (o + 27) r19.2.2.2.2.2.1.1 r19.2.2.2.2.2.1.2.1 r19.2.2.2.2.2.1.2.2.1 r19.2.2.2.2.2.1.2.2.2.1 r19.2.2.2.2.2.1.2.2.2.2.1 r19.2.2.2.2.2.1.2.2.2.2.2.1 r19.2.2.2.2.2.1.2.2.2.2.2.2.1 r19.2.2.2.2.2.1.2.2.2.2.2.2.2, bX1 G q (o + 33) r19.2.2.2.2.2.2.1.1 r19.2.2.2.2.2.2.1.2.1 r19.2.2.2.2.2.2.1.2.2.1 r19.2.2.2.2.2.2.1.2.2.2, bX4 G q (o + 36) r19.2.2.2.2.2.2.2.1.1 r19.2.2.2.2.2.2.2.1.2, bX3 G q (o + 38) r19.2.2.2.2.2.2.2.2.1.1 r19.2.2.2.2.2.2.2.2.1.2.1 r19.2.2.2.2.2.2.2.2.1.2.2.1 r19.2.2.2.2.2.2.2.2.1.2.2.2, bX0 G q (o + 43) r19.2.2.2.2.2.2.2.2.2.1.2.2.1 r19.2.2.2.2.2.2.2.2.2.1.2.2.2, bX2 G q ((o + 43) + 3) r19.2.2.2.2.2.2.2.2.2.1.1.1 r19.2.2.2.2.2.2.2.2.2.1.1.2.1 r19.2.2.2.2.2.2.2.2.2.1.1.2.2.1 r19.2.2.2.2.2.2.2.2.2.1.1.2.2.2.1 r19.2.2.2.2.2.2.2.2.2.1.1.2.2.2.2.1 r19.2.2.2.2.2.2.2.2.2.1.1.2.2.2.2.2.1 r19.2.2.2.2.2.2.2.2.2.1.1.2.2.2.2.2.2.1 r19.2.2.2.2.2.2.2.2.2.1.1.2.2.2.2.2.2.2, bX4 G q ((o + 43) + 9) r19.2.2.2.2.2.2.2.2.2.1.2.1.1 r19.2.2.2.2.2.2.2.2.2.1.2.1.2, bX7 G q (o + 54) r19.2.2.2.2.2.2.2.2.2.2.1 r19.2.2.2.2.2.2.2.2.2.2.2.1 r19.2.2.2.2.2.2.2.2.2.2.2.2]) hS0 (c_X6_sizeOf l G q (o + 3) r19.2.2.1 v1 r21 e22) zc_X6_sizeOf rfl gX10_dealt_X6_sizeOf ⟨Nat.le_of_ble_eq_true rfl, Nat.le_of_ble_eq_true rfl⟩ hK hA hT hw (is := [2]) rfl rfl rfl rfl rfl rfl rfl hl.1 rfl (Nat.le_of_ble_eq_true rfl) dX10_dealt_17 (fun H locs hw => ?_)
    refine lv_aload_n hx hb dX10_dealt_20 rfl (lv_at hl 1 rfl) ?_
    refine z_get hS0 in_X10_dealt_X10 hK hw 0 4 rfl rfl rfl (by decide) (hts _ m_X10_dealt_0) (v := .ref (q ((o + 27) + 0))) rfl dX10_dealt_21 ?_
    obtain ⟨r23, e24, hf⟩ := z_bd hf
    refine z_callV1 (As := []) (rest := [.int r21]) (bs' := [bX10 G q o, bX9 G q (o + 1) r19.2.1.1 r19.2.1.2.1 r19.2.1.2.2.1 r19.2.1.2.2.2.1 r19.2.1.2.2.2.2, bX6 G q (o + 3) r19.2.2.1.1 r19.2.2.1.2, bX8 G q (o + 12) r19.2.2.2.1.1 r19.2.2.2.1.2, bX5 G q (o + 19) r19.2.2.2.2.1.2.1 r19.2.2.2.2.1.2.2.1 r19.2.2.2.2.1.2.2.2.1 r19.2.2.2.2.1.2.2.2.2, bX2 G q ((o + 19) + 2) r19.2.2.2.2.1.1.1 r19.2.2.2.2.1.1.2.1 r19.2.2.2.2.1.1.2.2.1 r19.2.2.2.2.1.1.2.2.2.1 r19.2.2.2.2.1.1.2.2.2.2.1 r19.2.2.2.2.1.1.2.2.2.2.2.1 r19.2.2.2.2.1.1.2.2.2.2.2.2.1 r19.2.2.2.2.1.1.2.2.2.2.2.2.2, bX2 G q (o + 27) r19.2.2.2.2.2.1.1 r19.2.2.2.2.2.1.2.1 r19.2.2.2.2.2.1.2.2.1 r19.2.2.2.2.2.1.2.2.2.1 r19.2.2.2.2.2.1.2.2.2.2.1 r19.2.2.2.2.2.1.2.2.2.2.2.1 r19.2.2.2.2.2.1.2.2.2.2.2.2.1 r19.2.2.2.2.2.1.2.2.2.2.2.2.2, bX1 G q (o + 33) r19.2.2.2.2.2.2.1.1 r19.2.2.2.2.2.2.1.2.1 r19.2.2.2.2.2.2.1.2.2.1 r19.2.2.2.2.2.2.1.2.2.2, bX4 G q (o + 36) r19.2.2.2.2.2.2.2.1.1 r19.2.2.2.2.2.2.2.1.2, bX3 G q (o + 38) r19.2.2.2.2.2.2.2.2.1.1 r19.2.2.2.2.2.2.2.2.1.2.1 r19.2.2.2.2.2.2.2.2.1.2.2.1 r19.2.2.2.2.2.2.2.2.1.2.2.2, bX0 G q (o + 43) r19.2.2.2.2.2.2.2.2.2.1.2.2.1 r19.2.2.2.2.2.2.2.2.2.1.2.2.2, bX2 G q ((o + 43) + 3) r19.2.2.2.2.2.2.2.2.2.1.1.1 r19.2.2.2.2.2.2.2.2.2.1.1.2.1 r19.2.2.2.2.2.2.2.2.2.1.1.2.2.1 r19.2.2.2.2.2.2.2.2.2.1.1.2.2.2.1 r19.2.2.2.2.2.2.2.2.2.1.1.2.2.2.2.1 r19.2.2.2.2.2.2.2.2.2.1.1.2.2.2.2.2.1 r19.2.2.2.2.2.2.2.2.2.1.1.2.2.2.2.2.2.1 r19.2.2.2.2.2.2.2.2.2.1.1.2.2.2.2.2.2.2, bX4 G q ((o + 43) + 9) r19.2.2.2.2.2.2.2.2.2.1.2.1.1 r19.2.2.2.2.2.2.2.2.2.1.2.1.2, bX7 G q (o + 54) r19.2.2.2.2.2.2.2.2.2.2.1 r19.2.2.2.2.2.2.2.2.2.2.2.1 r19.2.2.2.2.2.2.2.2.2.2.2.2]) hS0 (c_X2_cells l G q (o + 27) r19.2.2.2.2.2.1 r23 e24) zc_X2_cells rfl gX10_dealt_X2_cells ⟨Nat.le_of_ble_eq_true rfl, Nat.le_of_ble_eq_true rfl⟩ hK hA hT hw (is := [6]) rfl rfl rfl rfl rfl rfl rfl hl.1 rfl (Nat.le_of_ble_eq_true rfl) dX10_dealt_24 (fun H locs hw => ?_)
    refine lv_icmp_eq (tgt := 39) hx hb dX10_dealt_27 rfl (fun hc => ?_) (fun hc => ?_)
    · have hf := z_t hc hf
      refine lv_iconst (v := 0) hx hb dX10_dealt_39 rfl ?_
      refine lv_istore_n (lv' := [(3, .int 0), (2, .int r19.1), (0, .ref (q (o + 0))), (1, .int v1)]) hx hb dX10_dealt_40 rfl hl (by decide) rfl (fun ls hl => ?_)
      exact k_X10_dealt_41 hZ _ 4096 _ _ _ _ _ _ hf hw (lv_sub hl [2, 3, 0] rfl)
    · have hf := z_f hc hf
      refine lv_aload_n hx hb dX10_dealt_30 rfl (lv_at hl 1 rfl) ?_
      refine z_get hS0 in_X10_dealt_X10 hK hw 0 0 rfl rfl rfl (by decide) (hts _ m_X10_dealt_2) (v := .ref (q ((o + 1) + 0))) rfl dX10_dealt_31 ?_
      refine lv_iconst (v := 5) hx hb dX10_dealt_34 rfl ?_
      obtain ⟨r25, e26, hf⟩ := z_bd hf
      refine z_callV1 (As := [.int 5]) (rest := []) (bs' := [bX10 G q o, bX9 G q (o + 1) r25.2.1 r25.2.2.1 r25.2.2.2.1 r25.2.2.2.2.1 r25.2.2.2.2.2, bX6 G q (o + 3) r19.2.2.1.1 r19.2.2.1.2, bX8 G q (o + 12) r19.2.2.2.1.1 r19.2.2.2.1.2, bX5 G q (o + 19) r19.2.2.2.2.1.2.1 r19.2.2.2.2.1.2.2.1 r19.2.2.2.2.1.2.2.2.1 r19.2.2.2.2.1.2.2.2.2, bX2 G q ((o + 19) + 2) r19.2.2.2.2.1.1.1 r19.2.2.2.2.1.1.2.1 r19.2.2.2.2.1.1.2.2.1 r19.2.2.2.2.1.1.2.2.2.1 r19.2.2.2.2.1.1.2.2.2.2.1 r19.2.2.2.2.1.1.2.2.2.2.2.1 r19.2.2.2.2.1.1.2.2.2.2.2.2.1 r19.2.2.2.2.1.1.2.2.2.2.2.2.2, bX2 G q (o + 27) r19.2.2.2.2.2.1.1 r19.2.2.2.2.2.1.2.1 r19.2.2.2.2.2.1.2.2.1 r19.2.2.2.2.2.1.2.2.2.1 r19.2.2.2.2.2.1.2.2.2.2.1 r19.2.2.2.2.2.1.2.2.2.2.2.1 r19.2.2.2.2.2.1.2.2.2.2.2.2.1 r19.2.2.2.2.2.1.2.2.2.2.2.2.2, bX1 G q (o + 33) r19.2.2.2.2.2.2.1.1 r19.2.2.2.2.2.2.1.2.1 r19.2.2.2.2.2.2.1.2.2.1 r19.2.2.2.2.2.2.1.2.2.2, bX4 G q (o + 36) r19.2.2.2.2.2.2.2.1.1 r19.2.2.2.2.2.2.2.1.2, bX3 G q (o + 38) r19.2.2.2.2.2.2.2.2.1.1 r19.2.2.2.2.2.2.2.2.1.2.1 r19.2.2.2.2.2.2.2.2.1.2.2.1 r19.2.2.2.2.2.2.2.2.1.2.2.2, bX0 G q (o + 43) r19.2.2.2.2.2.2.2.2.2.1.2.2.1 r19.2.2.2.2.2.2.2.2.2.1.2.2.2, bX2 G q ((o + 43) + 3) r19.2.2.2.2.2.2.2.2.2.1.1.1 r19.2.2.2.2.2.2.2.2.2.1.1.2.1 r19.2.2.2.2.2.2.2.2.2.1.1.2.2.1 r19.2.2.2.2.2.2.2.2.2.1.1.2.2.2.1 r19.2.2.2.2.2.2.2.2.2.1.1.2.2.2.2.1 r19.2.2.2.2.2.2.2.2.2.1.1.2.2.2.2.2.1 r19.2.2.2.2.2.2.2.2.2.1.1.2.2.2.2.2.2.1 r19.2.2.2.2.2.2.2.2.2.1.1.2.2.2.2.2.2.2, bX4 G q ((o + 43) + 9) r19.2.2.2.2.2.2.2.2.2.1.2.1.1 r19.2.2.2.2.2.2.2.2.2.1.2.1.2, bX7 G q (o + 54) r19.2.2.2.2.2.2.2.2.2.2.1 r19.2.2.2.2.2.2.2.2.2.2.2.1 r19.2.2.2.2.2.2.2.2.2.2.2.2]) hS0 (c_X9_found l G q (o + 1) r19.2.1 5 r25 e26) zc_X9_found rfl gX10_dealt_X9_found ⟨Nat.le_of_ble_eq_true rfl, Nat.le_of_ble_eq_true rfl⟩ hK hA hT hw (is := [1]) rfl rfl rfl rfl rfl rfl rfl hl.1 rfl (Nat.le_of_ble_eq_true rfl) dX10_dealt_35 (fun H locs hw => ?_)
      cases hf
      exact z_iret hx hb hr hlk hw dX10_dealt_38
  · have hf := z_f hc hf
    refine lv_iload_n hx hb dX10_dealt_10 rfl (lv_at hl 0 rfl) ?_
    cases hf
    exact z_iret hx hb hr hlk hw dX10_dealt_11
theorem zc_X10_digest : zC yX10_digest wsX10_digest cX10_digest 4 (some .long) 0 := ⟨⟨_, rfl⟩, by decide +kernel, by decide +kernel, by decide +kernel, by decide +kernel⟩
theorem m_X10_digest_0 : (.constantLong RX10 348 (31) : Cond) ∈ wsX10_digest := by decide +kernel
theorem m_X10_digest_1 : (.fieldLink RX10 47 "CellKeys" "evenings" "LCellKeys$Evenings;" : Cond) ∈ wsX10_digest := by decide +kernel
theorem in_X10_digest_X10 : ∀ w ∈ u_ws RX10 TX10 10, w ∈ wsX10_digest := by decide +kernel
theorem m_X10_digest_2 : (.fieldLink RX10 40 "CellKeys" "jail" "LCellKeys$Jail;" : Cond) ∈ wsX10_digest := by decide +kernel
theorem m_X10_digest_3 : (.fieldLink RX10 75 "CellKeys" "sightings" "LCellKeys$Sightings;" : Cond) ∈ wsX10_digest := by decide +kernel
theorem m_X10_digest_4 : (.fieldLink RX10 19 "CellKeys" "rows" "LCellKeys$Rows;" : Cond) ∈ wsX10_digest := by decide +kernel
theorem m_X10_digest_5 : (.fieldLink RX10 26 "CellKeys" "texts" "LCellKeys$Texts;" : Cond) ∈ wsX10_digest := by decide +kernel
theorem m_X10_digest_6 : (.constantLong RX10 346 (17) : Cond) ∈ wsX10_digest := by decide +kernel
set_option maxHeartbeats 4000000 in
set_option maxRecDepth 100000 in
theorem k_X10_digest_6 {p : Program} {l : Launch} {e : Env} {s : State} {m : MethodId} {args : Array Value} {below : List Frame} {meth : Method} {c : Code} {A : Nat → Prop} {G : zG} {q : Nat → Nat} {o : Nat}  (hZ : zZ p s m args meth c A G cX10_digest 4 RX10 wsX10_digest (some .long)) (y : Int64)  (n : Nat) : ∀ (S : VX10) (v1 : Int64) (v3 : Int32) (H : Heap) (locs : List Loc) (ls : Array Slot), f_X10_digest_6 n S v1 v3 = some y → zH G A s.heap [bX10 G q o, bX9 G q (o + 1) S.1.1 S.1.2.1 S.1.2.2.1 S.1.2.2.2.1 S.1.2.2.2.2, bX6 G q (o + 3) S.2.1.1 S.2.1.2, bX8 G q (o + 12) S.2.2.1.1 S.2.2.1.2, bX5 G q (o + 19) S.2.2.2.1.2.1 S.2.2.2.1.2.2.1 S.2.2.2.1.2.2.2.1 S.2.2.2.1.2.2.2.2, bX2 G q ((o + 19) + 2) S.2.2.2.1.1.1 S.2.2.2.1.1.2.1 S.2.2.2.1.1.2.2.1 S.2.2.2.1.1.2.2.2.1 S.2.2.2.1.1.2.2.2.2.1 S.2.2.2.1.1.2.2.2.2.2.1 S.2.2.2.1.1.2.2.2.2.2.2.1 S.2.2.2.1.1.2.2.2.2.2.2.2, bX2 G q (o + 27) S.2.2.2.2.1.1 S.2.2.2.2.1.2.1 S.2.2.2.2.1.2.2.1 S.2.2.2.2.1.2.2.2.1 S.2.2.2.2.1.2.2.2.2.1 S.2.2.2.2.1.2.2.2.2.2.1 S.2.2.2.2.1.2.2.2.2.2.2.1 S.2.2.2.2.1.2.2.2.2.2.2.2, bX1 G q (o + 33) S.2.2.2.2.2.1.1 S.2.2.2.2.2.1.2.1 S.2.2.2.2.2.1.2.2.1 S.2.2.2.2.2.1.2.2.2, bX4 G q (o + 36) S.2.2.2.2.2.2.1.1 S.2.2.2.2.2.2.1.2, bX3 G q (o + 38) S.2.2.2.2.2.2.2.1.1 S.2.2.2.2.2.2.2.1.2.1 S.2.2.2.2.2.2.2.1.2.2.1 S.2.2.2.2.2.2.2.1.2.2.2, bX0 G q (o + 43) S.2.2.2.2.2.2.2.2.1.2.2.1 S.2.2.2.2.2.2.2.2.1.2.2.2, bX2 G q ((o + 43) + 3) S.2.2.2.2.2.2.2.2.1.1.1 S.2.2.2.2.2.2.2.2.1.1.2.1 S.2.2.2.2.2.2.2.2.1.1.2.2.1 S.2.2.2.2.2.2.2.2.1.1.2.2.2.1 S.2.2.2.2.2.2.2.2.1.1.2.2.2.2.1 S.2.2.2.2.2.2.2.2.1.1.2.2.2.2.2.1 S.2.2.2.2.2.2.2.2.1.1.2.2.2.2.2.2.1 S.2.2.2.2.2.2.2.2.1.1.2.2.2.2.2.2.2, bX4 G q ((o + 43) + 9) S.2.2.2.2.2.2.2.2.1.2.1.1 S.2.2.2.2.2.2.2.2.1.2.1.2, bX7 G q (o + 54) S.2.2.2.2.2.2.2.2.2.1 S.2.2.2.2.2.2.2.2.2.2.1 S.2.2.2.2.2.2.2.2.2.2.2] H locs → lv_has ls 4 [(0, .ref (q (o + 0))), (1, .long v1), (3, .int v3)] → W p l e { frames := 5, cells := 0, slots := 0, locals := 110 } s m args below meth c H locs 0 0 (MQ below (zQ (some (.long y)) (zPost G [bX10 G q o, bX9 G q (o + 1) S.1.1 S.1.2.1 S.1.2.2.1 S.1.2.2.2.1 S.1.2.2.2.2, bX6 G q (o + 3) S.2.1.1 S.2.1.2, bX8 G q (o + 12) S.2.2.1.1 S.2.2.1.2, bX5 G q (o + 19) S.2.2.2.1.2.1 S.2.2.2.1.2.2.1 S.2.2.2.1.2.2.2.1 S.2.2.2.1.2.2.2.2, bX2 G q ((o + 19) + 2) S.2.2.2.1.1.1 S.2.2.2.1.1.2.1 S.2.2.2.1.1.2.2.1 S.2.2.2.1.1.2.2.2.1 S.2.2.2.1.1.2.2.2.2.1 S.2.2.2.1.1.2.2.2.2.2.1 S.2.2.2.1.1.2.2.2.2.2.2.1 S.2.2.2.1.1.2.2.2.2.2.2.2, bX2 G q (o + 27) S.2.2.2.2.1.1 S.2.2.2.2.1.2.1 S.2.2.2.2.1.2.2.1 S.2.2.2.2.1.2.2.2.1 S.2.2.2.2.1.2.2.2.2.1 S.2.2.2.2.1.2.2.2.2.2.1 S.2.2.2.2.1.2.2.2.2.2.2.1 S.2.2.2.2.1.2.2.2.2.2.2.2, bX1 G q (o + 33) S.2.2.2.2.2.1.1 S.2.2.2.2.2.1.2.1 S.2.2.2.2.2.1.2.2.1 S.2.2.2.2.2.1.2.2.2, bX4 G q (o + 36) S.2.2.2.2.2.2.1.1 S.2.2.2.2.2.2.1.2, bX3 G q (o + 38) S.2.2.2.2.2.2.2.1.1 S.2.2.2.2.2.2.2.1.2.1 S.2.2.2.2.2.2.2.1.2.2.1 S.2.2.2.2.2.2.2.1.2.2.2, bX0 G q (o + 43) S.2.2.2.2.2.2.2.2.1.2.2.1 S.2.2.2.2.2.2.2.2.1.2.2.2, bX2 G q ((o + 43) + 3) S.2.2.2.2.2.2.2.2.1.1.1 S.2.2.2.2.2.2.2.2.1.1.2.1 S.2.2.2.2.2.2.2.2.1.1.2.2.1 S.2.2.2.2.2.2.2.2.1.1.2.2.2.1 S.2.2.2.2.2.2.2.2.1.1.2.2.2.2.1 S.2.2.2.2.2.2.2.2.1.1.2.2.2.2.2.1 S.2.2.2.2.2.2.2.2.1.1.2.2.2.2.2.2.1 S.2.2.2.2.2.2.2.2.1.1.2.2.2.2.2.2.2, bX4 G q ((o + 43) + 9) S.2.2.2.2.2.2.2.2.1.2.1.1 S.2.2.2.2.2.2.2.2.1.2.1.2, bX7 G q (o + 54) S.2.2.2.2.2.2.2.2.2.1 S.2.2.2.2.2.2.2.2.2.2.1 S.2.2.2.2.2.2.2.2.2.2.2]) A) args s 0 0 A) (F0 m 6 ls []) := by
  obtain ⟨hS0, hr, hlk, hK, hA, hT⟩ := id hZ
  have hx := hS0.1
  have hb := hS0.2.1
  have hml := hS0.2.2.1
  have hown : s.vm.findClass RX10 = some m.cls := hS0.2.2.2.1
  have hts := hS0.2.2.2.2
  induction n with
  | zero =>
    intro S v1 v3 H locs ls hf hw hl
    unfold f_X10_digest_6 at hf
    cases hf
  | succ n ih =>
    intro S v1 v3 H locs ls hf hw hl
    unfold f_X10_digest_6 at hf
    refine lv_iload_n hx hb dX10_digest_6 rfl (lv_at hl 2 rfl) ?_
    refine lv_bipush (v := 8) hx hb dX10_digest_7 rfl ?_
    refine lv_icmp_ge (tgt := 31) hx hb dX10_digest_9 rfl (fun hc => ?_) (fun hc => ?_)
    · have hf := z_t hc hf
      refine lv_ldc2 (v := 31) hx hb hown (hts _ m_X10_digest_0) dX10_digest_31 ?_
      refine lv_lload_n hx hb dX10_digest_34 rfl (lv_at hl 1 rfl) ?_
      refine lv_lmul hx hb dX10_digest_35 ?_
      refine lv_aload_n hx hb dX10_digest_36 rfl (lv_at hl 0 rfl) ?_
      refine z_get hS0 in_X10_digest_X10 hK hw 0 5 rfl rfl rfl (by decide) (hts _ m_X10_digest_1) (v := .ref (q ((o + 33) + 0))) rfl dX10_digest_37 ?_
      obtain ⟨r1, e2, hf⟩ := z_bd hf
      refine z_callV1 (As := []) (rest := [.long (31 * v1)]) (bs' := [bX10 G q o, bX9 G q (o + 1) S.1.1 S.1.2.1 S.1.2.2.1 S.1.2.2.2.1 S.1.2.2.2.2, bX6 G q (o + 3) S.2.1.1 S.2.1.2, bX8 G q (o + 12) S.2.2.1.1 S.2.2.1.2, bX5 G q (o + 19) S.2.2.2.1.2.1 S.2.2.2.1.2.2.1 S.2.2.2.1.2.2.2.1 S.2.2.2.1.2.2.2.2, bX2 G q ((o + 19) + 2) S.2.2.2.1.1.1 S.2.2.2.1.1.2.1 S.2.2.2.1.1.2.2.1 S.2.2.2.1.1.2.2.2.1 S.2.2.2.1.1.2.2.2.2.1 S.2.2.2.1.1.2.2.2.2.2.1 S.2.2.2.1.1.2.2.2.2.2.2.1 S.2.2.2.1.1.2.2.2.2.2.2.2, bX2 G q (o + 27) S.2.2.2.2.1.1 S.2.2.2.2.1.2.1 S.2.2.2.2.1.2.2.1 S.2.2.2.2.1.2.2.2.1 S.2.2.2.2.1.2.2.2.2.1 S.2.2.2.2.1.2.2.2.2.2.1 S.2.2.2.2.1.2.2.2.2.2.2.1 S.2.2.2.2.1.2.2.2.2.2.2.2, bX1 G q (o + 33) S.2.2.2.2.2.1.1 S.2.2.2.2.2.1.2.1 S.2.2.2.2.2.1.2.2.1 S.2.2.2.2.2.1.2.2.2, bX4 G q (o + 36) S.2.2.2.2.2.2.1.1 S.2.2.2.2.2.2.1.2, bX3 G q (o + 38) S.2.2.2.2.2.2.2.1.1 S.2.2.2.2.2.2.2.1.2.1 S.2.2.2.2.2.2.2.1.2.2.1 S.2.2.2.2.2.2.2.1.2.2.2, bX0 G q (o + 43) S.2.2.2.2.2.2.2.2.1.2.2.1 S.2.2.2.2.2.2.2.2.1.2.2.2, bX2 G q ((o + 43) + 3) S.2.2.2.2.2.2.2.2.1.1.1 S.2.2.2.2.2.2.2.2.1.1.2.1 S.2.2.2.2.2.2.2.2.1.1.2.2.1 S.2.2.2.2.2.2.2.2.1.1.2.2.2.1 S.2.2.2.2.2.2.2.2.1.1.2.2.2.2.1 S.2.2.2.2.2.2.2.2.1.1.2.2.2.2.2.1 S.2.2.2.2.2.2.2.2.1.1.2.2.2.2.2.2.1 S.2.2.2.2.2.2.2.2.1.1.2.2.2.2.2.2.2, bX4 G q ((o + 43) + 9) S.2.2.2.2.2.2.2.2.1.2.1.1 S.2.2.2.2.2.2.2.2.1.2.1.2, bX7 G q (o + 54) S.2.2.2.2.2.2.2.2.2.1 S.2.2.2.2.2.2.2.2.2.2.1 S.2.2.2.2.2.2.2.2.2.2.2]) hS0 (c_X1_whoIsOut l G q (o + 33) S.2.2.2.2.2.1 r1 e2) zc_X1_whoIsOut rfl gX10_digest_X1_whoIsOut ⟨Nat.le_of_ble_eq_true rfl, Nat.le_of_ble_eq_true rfl⟩ hK hA hT hw (is := [7]) rfl rfl rfl rfl rfl rfl rfl hl.1 rfl (Nat.le_of_ble_eq_true rfl) dX10_digest_40 (fun H locs hw => ?_)
      refine lv_i2l (v := r1.toInt64) hx hb dX10_digest_43 rfl ?_
      refine lv_ladd hx hb dX10_digest_44 ?_
      refine lv_lstore_n (lv' := [(1, .long ((31 * v1) + r1.toInt64)), (0, .ref (q (o + 0))), (3, .int v3)]) hx hb dX10_digest_45 rfl hl (by decide) rfl (fun ls hl => ?_)
      refine lv_ldc2 (v := 31) hx hb hown (hts _ m_X10_digest_0) dX10_digest_46 ?_
      refine lv_lload_n hx hb dX10_digest_49 rfl (lv_at hl 0 rfl) ?_
      refine lv_lmul hx hb dX10_digest_50 ?_
      refine lv_aload_n hx hb dX10_digest_51 rfl (lv_at hl 1 rfl) ?_
      refine z_get hS0 in_X10_digest_X10 hK hw 0 5 rfl rfl rfl (by decide) (hts _ m_X10_digest_1) (v := .ref (q ((o + 33) + 0))) rfl dX10_digest_52 ?_
      obtain ⟨r3, e4, hf⟩ := z_bd hf
      refine z_callV1 (As := []) (rest := [.long (31 * ((31 * v1) + r1.toInt64))]) (bs' := [bX10 G q o, bX9 G q (o + 1) S.1.1 S.1.2.1 S.1.2.2.1 S.1.2.2.2.1 S.1.2.2.2.2, bX6 G q (o + 3) S.2.1.1 S.2.1.2, bX8 G q (o + 12) S.2.2.1.1 S.2.2.1.2, bX5 G q (o + 19) S.2.2.2.1.2.1 S.2.2.2.1.2.2.1 S.2.2.2.1.2.2.2.1 S.2.2.2.1.2.2.2.2, bX2 G q ((o + 19) + 2) S.2.2.2.1.1.1 S.2.2.2.1.1.2.1 S.2.2.2.1.1.2.2.1 S.2.2.2.1.1.2.2.2.1 S.2.2.2.1.1.2.2.2.2.1 S.2.2.2.1.1.2.2.2.2.2.1 S.2.2.2.1.1.2.2.2.2.2.2.1 S.2.2.2.1.1.2.2.2.2.2.2.2, bX2 G q (o + 27) S.2.2.2.2.1.1 S.2.2.2.2.1.2.1 S.2.2.2.2.1.2.2.1 S.2.2.2.2.1.2.2.2.1 S.2.2.2.2.1.2.2.2.2.1 S.2.2.2.2.1.2.2.2.2.2.1 S.2.2.2.2.1.2.2.2.2.2.2.1 S.2.2.2.2.1.2.2.2.2.2.2.2, bX1 G q (o + 33) S.2.2.2.2.2.1.1 S.2.2.2.2.2.1.2.1 S.2.2.2.2.2.1.2.2.1 S.2.2.2.2.2.1.2.2.2, bX4 G q (o + 36) S.2.2.2.2.2.2.1.1 S.2.2.2.2.2.2.1.2, bX3 G q (o + 38) S.2.2.2.2.2.2.2.1.1 S.2.2.2.2.2.2.2.1.2.1 S.2.2.2.2.2.2.2.1.2.2.1 S.2.2.2.2.2.2.2.1.2.2.2, bX0 G q (o + 43) S.2.2.2.2.2.2.2.2.1.2.2.1 S.2.2.2.2.2.2.2.2.1.2.2.2, bX2 G q ((o + 43) + 3) S.2.2.2.2.2.2.2.2.1.1.1 S.2.2.2.2.2.2.2.2.1.1.2.1 S.2.2.2.2.2.2.2.2.1.1.2.2.1 S.2.2.2.2.2.2.2.2.1.1.2.2.2.1 S.2.2.2.2.2.2.2.2.1.1.2.2.2.2.1 S.2.2.2.2.2.2.2.2.1.1.2.2.2.2.2.1 S.2.2.2.2.2.2.2.2.1.1.2.2.2.2.2.2.1 S.2.2.2.2.2.2.2.2.1.1.2.2.2.2.2.2.2, bX4 G q ((o + 43) + 9) S.2.2.2.2.2.2.2.2.1.2.1.1 S.2.2.2.2.2.2.2.2.1.2.1.2, bX7 G q (o + 54) S.2.2.2.2.2.2.2.2.2.1 S.2.2.2.2.2.2.2.2.2.2.1 S.2.2.2.2.2.2.2.2.2.2.2]) hS0 (c_X1_favours l G q (o + 33) S.2.2.2.2.2.1 r3 e4) zc_X1_favours rfl gX10_digest_X1_favours ⟨Nat.le_of_ble_eq_true rfl, Nat.le_of_ble_eq_true rfl⟩ hK hA hT hw (is := [7]) rfl rfl rfl rfl rfl rfl rfl hl.1 rfl (Nat.le_of_ble_eq_true rfl) dX10_digest_55 (fun H locs hw => ?_)
      refine lv_i2l (v := r3.toInt64) hx hb dX10_digest_58 rfl ?_
      refine lv_ladd hx hb dX10_digest_59 ?_
      refine lv_lstore_n (lv' := [(1, .long ((31 * ((31 * v1) + r1.toInt64)) + r3.toInt64)), (0, .ref (q (o + 0))), (3, .int v3)]) hx hb dX10_digest_60 rfl hl (by decide) rfl (fun ls hl => ?_)
      refine lv_aload_n hx hb dX10_digest_61 rfl (lv_at hl 1 rfl) ?_
      refine z_get hS0 in_X10_digest_X10 hK hw 0 4 rfl rfl rfl (by decide) (hts _ m_X10_digest_2) (v := .ref (q ((o + 27) + 0))) rfl dX10_digest_62 ?_
      refine lv_lload_n hx hb dX10_digest_65 rfl (lv_at hl 0 rfl) ?_
      obtain ⟨r5, e6, hf⟩ := z_bd hf
      refine z_callV1 (As := [.long ((31 * ((31 * v1) + r1.toInt64)) + r3.toInt64)]) (rest := []) (bs' := [bX10 G q o, bX9 G q (o + 1) S.1.1 S.1.2.1 S.1.2.2.1 S.1.2.2.2.1 S.1.2.2.2.2, bX6 G q (o + 3) S.2.1.1 S.2.1.2, bX8 G q (o + 12) S.2.2.1.1 S.2.2.1.2, bX5 G q (o + 19) S.2.2.2.1.2.1 S.2.2.2.1.2.2.1 S.2.2.2.1.2.2.2.1 S.2.2.2.1.2.2.2.2, bX2 G q ((o + 19) + 2) S.2.2.2.1.1.1 S.2.2.2.1.1.2.1 S.2.2.2.1.1.2.2.1 S.2.2.2.1.1.2.2.2.1 S.2.2.2.1.1.2.2.2.2.1 S.2.2.2.1.1.2.2.2.2.2.1 S.2.2.2.1.1.2.2.2.2.2.2.1 S.2.2.2.1.1.2.2.2.2.2.2.2, bX2 G q (o + 27) S.2.2.2.2.1.1 S.2.2.2.2.1.2.1 S.2.2.2.2.1.2.2.1 S.2.2.2.2.1.2.2.2.1 S.2.2.2.2.1.2.2.2.2.1 S.2.2.2.2.1.2.2.2.2.2.1 S.2.2.2.2.1.2.2.2.2.2.2.1 S.2.2.2.2.1.2.2.2.2.2.2.2, bX1 G q (o + 33) S.2.2.2.2.2.1.1 S.2.2.2.2.2.1.2.1 S.2.2.2.2.2.1.2.2.1 S.2.2.2.2.2.1.2.2.2, bX4 G q (o + 36) S.2.2.2.2.2.2.1.1 S.2.2.2.2.2.2.1.2, bX3 G q (o + 38) S.2.2.2.2.2.2.2.1.1 S.2.2.2.2.2.2.2.1.2.1 S.2.2.2.2.2.2.2.1.2.2.1 S.2.2.2.2.2.2.2.1.2.2.2, bX0 G q (o + 43) S.2.2.2.2.2.2.2.2.1.2.2.1 S.2.2.2.2.2.2.2.2.1.2.2.2, bX2 G q ((o + 43) + 3) S.2.2.2.2.2.2.2.2.1.1.1 S.2.2.2.2.2.2.2.2.1.1.2.1 S.2.2.2.2.2.2.2.2.1.1.2.2.1 S.2.2.2.2.2.2.2.2.1.1.2.2.2.1 S.2.2.2.2.2.2.2.2.1.1.2.2.2.2.1 S.2.2.2.2.2.2.2.2.1.1.2.2.2.2.2.1 S.2.2.2.2.2.2.2.2.1.1.2.2.2.2.2.2.1 S.2.2.2.2.2.2.2.2.1.1.2.2.2.2.2.2.2, bX4 G q ((o + 43) + 9) S.2.2.2.2.2.2.2.2.1.2.1.1 S.2.2.2.2.2.2.2.2.1.2.1.2, bX7 G q (o + 54) S.2.2.2.2.2.2.2.2.2.1 S.2.2.2.2.2.2.2.2.2.2.1 S.2.2.2.2.2.2.2.2.2.2.2]) hS0 (c_X2_mix l G q (o + 27) S.2.2.2.2.1 ((31 * ((31 * v1) + r1.toInt64)) + r3.toInt64) r5 e6) zc_X2_mix rfl gX10_digest_X2_mix ⟨Nat.le_of_ble_eq_true rfl, Nat.le_of_ble_eq_true rfl⟩ hK hA hT hw (is := [6]) rfl rfl rfl rfl rfl rfl rfl hl.1 rfl (Nat.le_of_ble_eq_true rfl) dX10_digest_66 (fun H locs hw => ?_)
      refine lv_lstore_n (lv' := [(1, .long r5), (0, .ref (q (o + 0))), (3, .int v3)]) hx hb dX10_digest_69 rfl hl (by decide) rfl (fun ls hl => ?_)
      refine lv_aload_n hx hb dX10_digest_70 rfl (lv_at hl 1 rfl) ?_
      refine z_get hS0 in_X10_digest_X10 hK hw 0 9 rfl rfl rfl (by decide) (hts _ m_X10_digest_3) (v := .ref (q ((o + 54) + 0))) rfl dX10_digest_71 ?_
      refine lv_lload_n hx hb dX10_digest_74 rfl (lv_at hl 0 rfl) ?_
      obtain ⟨r7, e8, hf⟩ := z_bd hf
      refine z_callV1 (As := [.long r5]) (rest := []) (bs' := [bX10 G q o, bX9 G q (o + 1) S.1.1 S.1.2.1 S.1.2.2.1 S.1.2.2.2.1 S.1.2.2.2.2, bX6 G q (o + 3) S.2.1.1 S.2.1.2, bX8 G q (o + 12) S.2.2.1.1 S.2.2.1.2, bX5 G q (o + 19) S.2.2.2.1.2.1 S.2.2.2.1.2.2.1 S.2.2.2.1.2.2.2.1 S.2.2.2.1.2.2.2.2, bX2 G q ((o + 19) + 2) S.2.2.2.1.1.1 S.2.2.2.1.1.2.1 S.2.2.2.1.1.2.2.1 S.2.2.2.1.1.2.2.2.1 S.2.2.2.1.1.2.2.2.2.1 S.2.2.2.1.1.2.2.2.2.2.1 S.2.2.2.1.1.2.2.2.2.2.2.1 S.2.2.2.1.1.2.2.2.2.2.2.2, bX2 G q (o + 27) S.2.2.2.2.1.1 S.2.2.2.2.1.2.1 S.2.2.2.2.1.2.2.1 S.2.2.2.2.1.2.2.2.1 S.2.2.2.2.1.2.2.2.2.1 S.2.2.2.2.1.2.2.2.2.2.1 S.2.2.2.2.1.2.2.2.2.2.2.1 S.2.2.2.2.1.2.2.2.2.2.2.2, bX1 G q (o + 33) S.2.2.2.2.2.1.1 S.2.2.2.2.2.1.2.1 S.2.2.2.2.2.1.2.2.1 S.2.2.2.2.2.1.2.2.2, bX4 G q (o + 36) S.2.2.2.2.2.2.1.1 S.2.2.2.2.2.2.1.2, bX3 G q (o + 38) S.2.2.2.2.2.2.2.1.1 S.2.2.2.2.2.2.2.1.2.1 S.2.2.2.2.2.2.2.1.2.2.1 S.2.2.2.2.2.2.2.1.2.2.2, bX0 G q (o + 43) S.2.2.2.2.2.2.2.2.1.2.2.1 S.2.2.2.2.2.2.2.2.1.2.2.2, bX2 G q ((o + 43) + 3) S.2.2.2.2.2.2.2.2.1.1.1 S.2.2.2.2.2.2.2.2.1.1.2.1 S.2.2.2.2.2.2.2.2.1.1.2.2.1 S.2.2.2.2.2.2.2.2.1.1.2.2.2.1 S.2.2.2.2.2.2.2.2.1.1.2.2.2.2.1 S.2.2.2.2.2.2.2.2.1.1.2.2.2.2.2.1 S.2.2.2.2.2.2.2.2.1.1.2.2.2.2.2.2.1 S.2.2.2.2.2.2.2.2.1.1.2.2.2.2.2.2.2, bX4 G q ((o + 43) + 9) S.2.2.2.2.2.2.2.2.1.2.1.1 S.2.2.2.2.2.2.2.2.1.2.1.2, bX7 G q (o + 54) S.2.2.2.2.2.2.2.2.2.1 S.2.2.2.2.2.2.2.2.2.2.1 S.2.2.2.2.2.2.2.2.2.2.2]) hS0 (c_X7_mix l G q (o + 54) S.2.2.2.2.2.2.2.2.2 r5 r7 e8) zc_X7_mix rfl gX10_digest_X7_mix ⟨Nat.le_of_ble_eq_true rfl, Nat.le_of_ble_eq_true rfl⟩ hK hA hT hw (is := [13]) rfl rfl rfl rfl rfl rfl rfl hl.1 rfl (Nat.le_of_ble_eq_true rfl) dX10_digest_75 (fun H locs hw => ?_)
      refine lv_lstore_n (lv' := [(1, .long r7), (0, .ref (q (o + 0))), (3, .int v3)]) hx hb dX10_digest_78 rfl hl (by decide) rfl (fun ls hl => ?_)
      refine lv_aload_n hx hb dX10_digest_79 rfl (lv_at hl 1 rfl) ?_
      refine z_get hS0 in_X10_digest_X10 hK hw 0 5 rfl rfl rfl (by decide) (hts _ m_X10_digest_1) (v := .ref (q ((o + 33) + 0))) rfl dX10_digest_80 ?_
      refine lv_lload_n hx hb dX10_digest_83 rfl (lv_at hl 0 rfl) ?_
      obtain ⟨r9, e10, hf⟩ := z_bd hf
      refine z_callV1 (As := [.long r7]) (rest := []) (bs' := [bX10 G q o, bX9 G q (o + 1) S.1.1 S.1.2.1 S.1.2.2.1 S.1.2.2.2.1 S.1.2.2.2.2, bX6 G q (o + 3) S.2.1.1 S.2.1.2, bX8 G q (o + 12) S.2.2.1.1 S.2.2.1.2, bX5 G q (o + 19) S.2.2.2.1.2.1 S.2.2.2.1.2.2.1 S.2.2.2.1.2.2.2.1 S.2.2.2.1.2.2.2.2, bX2 G q ((o + 19) + 2) S.2.2.2.1.1.1 S.2.2.2.1.1.2.1 S.2.2.2.1.1.2.2.1 S.2.2.2.1.1.2.2.2.1 S.2.2.2.1.1.2.2.2.2.1 S.2.2.2.1.1.2.2.2.2.2.1 S.2.2.2.1.1.2.2.2.2.2.2.1 S.2.2.2.1.1.2.2.2.2.2.2.2, bX2 G q (o + 27) S.2.2.2.2.1.1 S.2.2.2.2.1.2.1 S.2.2.2.2.1.2.2.1 S.2.2.2.2.1.2.2.2.1 S.2.2.2.2.1.2.2.2.2.1 S.2.2.2.2.1.2.2.2.2.2.1 S.2.2.2.2.1.2.2.2.2.2.2.1 S.2.2.2.2.1.2.2.2.2.2.2.2, bX1 G q (o + 33) S.2.2.2.2.2.1.1 S.2.2.2.2.2.1.2.1 S.2.2.2.2.2.1.2.2.1 S.2.2.2.2.2.1.2.2.2, bX4 G q (o + 36) S.2.2.2.2.2.2.1.1 S.2.2.2.2.2.2.1.2, bX3 G q (o + 38) S.2.2.2.2.2.2.2.1.1 S.2.2.2.2.2.2.2.1.2.1 S.2.2.2.2.2.2.2.1.2.2.1 S.2.2.2.2.2.2.2.1.2.2.2, bX0 G q (o + 43) S.2.2.2.2.2.2.2.2.1.2.2.1 S.2.2.2.2.2.2.2.2.1.2.2.2, bX2 G q ((o + 43) + 3) S.2.2.2.2.2.2.2.2.1.1.1 S.2.2.2.2.2.2.2.2.1.1.2.1 S.2.2.2.2.2.2.2.2.1.1.2.2.1 S.2.2.2.2.2.2.2.2.1.1.2.2.2.1 S.2.2.2.2.2.2.2.2.1.1.2.2.2.2.1 S.2.2.2.2.2.2.2.2.1.1.2.2.2.2.2.1 S.2.2.2.2.2.2.2.2.1.1.2.2.2.2.2.2.1 S.2.2.2.2.2.2.2.2.1.1.2.2.2.2.2.2.2, bX4 G q ((o + 43) + 9) S.2.2.2.2.2.2.2.2.1.2.1.1 S.2.2.2.2.2.2.2.2.1.2.1.2, bX7 G q (o + 54) S.2.2.2.2.2.2.2.2.2.1 S.2.2.2.2.2.2.2.2.2.2.1 S.2.2.2.2.2.2.2.2.2.2.2]) hS0 (c_X1_mixKept l G q (o + 33) S.2.2.2.2.2.1 r7 r9 e10) zc_X1_mixKept rfl gX10_digest_X1_mixKept ⟨Nat.le_of_ble_eq_true rfl, Nat.le_of_ble_eq_true rfl⟩ hK hA hT hw (is := [7]) rfl rfl rfl rfl rfl rfl rfl hl.1 rfl (Nat.le_of_ble_eq_true rfl) dX10_digest_84 (fun H locs hw => ?_)
      refine lv_lstore_n (lv' := [(1, .long r9), (0, .ref (q (o + 0))), (3, .int v3)]) hx hb dX10_digest_87 rfl hl (by decide) rfl (fun ls hl => ?_)
      refine lv_aload_n hx hb dX10_digest_88 rfl (lv_at hl 1 rfl) ?_
      refine z_get hS0 in_X10_digest_X10 hK hw 0 1 rfl rfl rfl (by decide) (hts _ m_X10_digest_4) (v := .ref (q ((o + 3) + 0))) rfl dX10_digest_89 ?_
      refine lv_lload_n hx hb dX10_digest_92 rfl (lv_at hl 0 rfl) ?_
      obtain ⟨r11, e12, hf⟩ := z_bd hf
      refine z_callV1 (As := [.long r9]) (rest := []) (bs' := [bX10 G q o, bX9 G q (o + 1) S.1.1 S.1.2.1 S.1.2.2.1 S.1.2.2.2.1 S.1.2.2.2.2, bX6 G q (o + 3) S.2.1.1 S.2.1.2, bX8 G q (o + 12) S.2.2.1.1 S.2.2.1.2, bX5 G q (o + 19) S.2.2.2.1.2.1 S.2.2.2.1.2.2.1 S.2.2.2.1.2.2.2.1 S.2.2.2.1.2.2.2.2, bX2 G q ((o + 19) + 2) S.2.2.2.1.1.1 S.2.2.2.1.1.2.1 S.2.2.2.1.1.2.2.1 S.2.2.2.1.1.2.2.2.1 S.2.2.2.1.1.2.2.2.2.1 S.2.2.2.1.1.2.2.2.2.2.1 S.2.2.2.1.1.2.2.2.2.2.2.1 S.2.2.2.1.1.2.2.2.2.2.2.2, bX2 G q (o + 27) S.2.2.2.2.1.1 S.2.2.2.2.1.2.1 S.2.2.2.2.1.2.2.1 S.2.2.2.2.1.2.2.2.1 S.2.2.2.2.1.2.2.2.2.1 S.2.2.2.2.1.2.2.2.2.2.1 S.2.2.2.2.1.2.2.2.2.2.2.1 S.2.2.2.2.1.2.2.2.2.2.2.2, bX1 G q (o + 33) S.2.2.2.2.2.1.1 S.2.2.2.2.2.1.2.1 S.2.2.2.2.2.1.2.2.1 S.2.2.2.2.2.1.2.2.2, bX4 G q (o + 36) S.2.2.2.2.2.2.1.1 S.2.2.2.2.2.2.1.2, bX3 G q (o + 38) S.2.2.2.2.2.2.2.1.1 S.2.2.2.2.2.2.2.1.2.1 S.2.2.2.2.2.2.2.1.2.2.1 S.2.2.2.2.2.2.2.1.2.2.2, bX0 G q (o + 43) S.2.2.2.2.2.2.2.2.1.2.2.1 S.2.2.2.2.2.2.2.2.1.2.2.2, bX2 G q ((o + 43) + 3) S.2.2.2.2.2.2.2.2.1.1.1 S.2.2.2.2.2.2.2.2.1.1.2.1 S.2.2.2.2.2.2.2.2.1.1.2.2.1 S.2.2.2.2.2.2.2.2.1.1.2.2.2.1 S.2.2.2.2.2.2.2.2.1.1.2.2.2.2.1 S.2.2.2.2.2.2.2.2.1.1.2.2.2.2.2.1 S.2.2.2.2.2.2.2.2.1.1.2.2.2.2.2.2.1 S.2.2.2.2.2.2.2.2.1.1.2.2.2.2.2.2.2, bX4 G q ((o + 43) + 9) S.2.2.2.2.2.2.2.2.1.2.1.1 S.2.2.2.2.2.2.2.2.1.2.1.2, bX7 G q (o + 54) S.2.2.2.2.2.2.2.2.2.1 S.2.2.2.2.2.2.2.2.2.2.1 S.2.2.2.2.2.2.2.2.2.2.2]) hS0 (c_X6_mix l G q (o + 3) S.2.1 r9 r11 e12) zc_X6_mix rfl gX10_digest_X6_mix ⟨Nat.le_of_ble_eq_true rfl, Nat.le_of_ble_eq_true rfl⟩ hK hA hT hw (is := [2]) rfl rfl rfl rfl rfl rfl rfl hl.1 rfl (Nat.le_of_ble_eq_true rfl) dX10_digest_93 (fun H locs hw => ?_)
      refine lv_lstore_n (lv' := [(1, .long r11), (0, .ref (q (o + 0))), (3, .int v3)]) hx hb dX10_digest_96 rfl hl (by decide) rfl (fun ls hl => ?_)
      refine lv_aload_n hx hb dX10_digest_97 rfl (lv_at hl 1 rfl) ?_
      refine z_get hS0 in_X10_digest_X10 hK hw 0 2 rfl rfl rfl (by decide) (hts _ m_X10_digest_5) (v := .ref (q ((o + 12) + 0))) rfl dX10_digest_98 ?_
      refine lv_lload_n hx hb dX10_digest_101 rfl (lv_at hl 0 rfl) ?_
      obtain ⟨r13, e14, hf⟩ := z_bd hf
      refine z_callV1 (As := [.long r11]) (rest := []) (bs' := [bX10 G q o, bX9 G q (o + 1) S.1.1 S.1.2.1 S.1.2.2.1 S.1.2.2.2.1 S.1.2.2.2.2, bX6 G q (o + 3) S.2.1.1 S.2.1.2, bX8 G q (o + 12) S.2.2.1.1 S.2.2.1.2, bX5 G q (o + 19) S.2.2.2.1.2.1 S.2.2.2.1.2.2.1 S.2.2.2.1.2.2.2.1 S.2.2.2.1.2.2.2.2, bX2 G q ((o + 19) + 2) S.2.2.2.1.1.1 S.2.2.2.1.1.2.1 S.2.2.2.1.1.2.2.1 S.2.2.2.1.1.2.2.2.1 S.2.2.2.1.1.2.2.2.2.1 S.2.2.2.1.1.2.2.2.2.2.1 S.2.2.2.1.1.2.2.2.2.2.2.1 S.2.2.2.1.1.2.2.2.2.2.2.2, bX2 G q (o + 27) S.2.2.2.2.1.1 S.2.2.2.2.1.2.1 S.2.2.2.2.1.2.2.1 S.2.2.2.2.1.2.2.2.1 S.2.2.2.2.1.2.2.2.2.1 S.2.2.2.2.1.2.2.2.2.2.1 S.2.2.2.2.1.2.2.2.2.2.2.1 S.2.2.2.2.1.2.2.2.2.2.2.2, bX1 G q (o + 33) S.2.2.2.2.2.1.1 S.2.2.2.2.2.1.2.1 S.2.2.2.2.2.1.2.2.1 S.2.2.2.2.2.1.2.2.2, bX4 G q (o + 36) S.2.2.2.2.2.2.1.1 S.2.2.2.2.2.2.1.2, bX3 G q (o + 38) S.2.2.2.2.2.2.2.1.1 S.2.2.2.2.2.2.2.1.2.1 S.2.2.2.2.2.2.2.1.2.2.1 S.2.2.2.2.2.2.2.1.2.2.2, bX0 G q (o + 43) S.2.2.2.2.2.2.2.2.1.2.2.1 S.2.2.2.2.2.2.2.2.1.2.2.2, bX2 G q ((o + 43) + 3) S.2.2.2.2.2.2.2.2.1.1.1 S.2.2.2.2.2.2.2.2.1.1.2.1 S.2.2.2.2.2.2.2.2.1.1.2.2.1 S.2.2.2.2.2.2.2.2.1.1.2.2.2.1 S.2.2.2.2.2.2.2.2.1.1.2.2.2.2.1 S.2.2.2.2.2.2.2.2.1.1.2.2.2.2.2.1 S.2.2.2.2.2.2.2.2.1.1.2.2.2.2.2.2.1 S.2.2.2.2.2.2.2.2.1.1.2.2.2.2.2.2.2, bX4 G q ((o + 43) + 9) S.2.2.2.2.2.2.2.2.1.2.1.1 S.2.2.2.2.2.2.2.2.1.2.1.2, bX7 G q (o + 54) S.2.2.2.2.2.2.2.2.2.1 S.2.2.2.2.2.2.2.2.2.2.1 S.2.2.2.2.2.2.2.2.2.2.2]) hS0 (c_X8_mix l G q (o + 12) S.2.2.1 r11 r13 e14) zc_X8_mix rfl gX10_digest_X8_mix ⟨Nat.le_of_ble_eq_true rfl, Nat.le_of_ble_eq_true rfl⟩ hK hA hT hw (is := [3]) rfl rfl rfl rfl rfl rfl rfl hl.1 rfl (Nat.le_of_ble_eq_true rfl) dX10_digest_102 (fun H locs hw => ?_)
      cases hf
      exact z_lret hx hb hr hlk hw dX10_digest_105
    · have hf := z_f hc hf
      refine lv_ldc2 (v := 31) hx hb hown (hts _ m_X10_digest_0) dX10_digest_12 ?_
      refine lv_lload_n hx hb dX10_digest_15 rfl (lv_at hl 1 rfl) ?_
      refine lv_lmul hx hb dX10_digest_16 ?_
      refine lv_aload_n hx hb dX10_digest_17 rfl (lv_at hl 0 rfl) ?_
      refine lv_iload_n hx hb dX10_digest_18 rfl (lv_at hl 2 rfl) ?_
      obtain ⟨r15, e16, hf⟩ := z_bd hf
      refine z_callV1 (As := [.int v3]) (rest := [.long (31 * v1)]) (bs' := [bX10 G q o, bX9 G q (o + 1) S.1.1 S.1.2.1 S.1.2.2.1 S.1.2.2.2.1 S.1.2.2.2.2, bX6 G q (o + 3) S.2.1.1 S.2.1.2, bX8 G q (o + 12) S.2.2.1.1 S.2.2.1.2, bX5 G q (o + 19) S.2.2.2.1.2.1 S.2.2.2.1.2.2.1 S.2.2.2.1.2.2.2.1 S.2.2.2.1.2.2.2.2, bX2 G q ((o + 19) + 2) S.2.2.2.1.1.1 S.2.2.2.1.1.2.1 S.2.2.2.1.1.2.2.1 S.2.2.2.1.1.2.2.2.1 S.2.2.2.1.1.2.2.2.2.1 S.2.2.2.1.1.2.2.2.2.2.1 S.2.2.2.1.1.2.2.2.2.2.2.1 S.2.2.2.1.1.2.2.2.2.2.2.2, bX2 G q (o + 27) S.2.2.2.2.1.1 S.2.2.2.2.1.2.1 S.2.2.2.2.1.2.2.1 S.2.2.2.2.1.2.2.2.1 S.2.2.2.2.1.2.2.2.2.1 S.2.2.2.2.1.2.2.2.2.2.1 S.2.2.2.2.1.2.2.2.2.2.2.1 S.2.2.2.2.1.2.2.2.2.2.2.2, bX1 G q (o + 33) S.2.2.2.2.2.1.1 S.2.2.2.2.2.1.2.1 S.2.2.2.2.2.1.2.2.1 S.2.2.2.2.2.1.2.2.2, bX4 G q (o + 36) S.2.2.2.2.2.2.1.1 S.2.2.2.2.2.2.1.2, bX3 G q (o + 38) S.2.2.2.2.2.2.2.1.1 S.2.2.2.2.2.2.2.1.2.1 S.2.2.2.2.2.2.2.1.2.2.1 S.2.2.2.2.2.2.2.1.2.2.2, bX0 G q (o + 43) S.2.2.2.2.2.2.2.2.1.2.2.1 S.2.2.2.2.2.2.2.2.1.2.2.2, bX2 G q ((o + 43) + 3) S.2.2.2.2.2.2.2.2.1.1.1 S.2.2.2.2.2.2.2.2.1.1.2.1 S.2.2.2.2.2.2.2.2.1.1.2.2.1 S.2.2.2.2.2.2.2.2.1.1.2.2.2.1 S.2.2.2.2.2.2.2.2.1.1.2.2.2.2.1 S.2.2.2.2.2.2.2.2.1.1.2.2.2.2.2.1 S.2.2.2.2.2.2.2.2.1.1.2.2.2.2.2.2.1 S.2.2.2.2.2.2.2.2.1.1.2.2.2.2.2.2.2, bX4 G q ((o + 43) + 9) S.2.2.2.2.2.2.2.2.1.2.1.1 S.2.2.2.2.2.2.2.2.1.2.1.2, bX7 G q (o + 54) S.2.2.2.2.2.2.2.2.2.1 S.2.2.2.2.2.2.2.2.2.2.1 S.2.2.2.2.2.2.2.2.2.2.2]) hS0 (c_X10_count l G q o S v3 r15 e16) zc_X10_count rfl gX10_digest_X10_count ⟨Nat.le_of_ble_eq_true rfl, Nat.le_of_ble_eq_true rfl⟩ hK hA hT hw (is := [0, 1, 2, 3, 4, 5, 6, 7, 8, 9, 10, 11, 12, 13]) rfl rfl rfl rfl rfl rfl rfl hl.1 rfl (Nat.le_of_ble_eq_true rfl) dX10_digest_19 (fun H locs hw => ?_)
      refine lv_i2l (v := r15.toInt64) hx hb dX10_digest_22 rfl ?_
      refine lv_ladd hx hb dX10_digest_23 ?_
      refine lv_lstore_n (lv' := [(1, .long ((31 * v1) + r15.toInt64)), (0, .ref (q (o + 0))), (3, .int v3)]) hx hb dX10_digest_24 rfl hl (by decide) rfl (fun ls hl => ?_)
      refine lv_iinc (v := (v3 + 1)) (lv' := [(3, .int (v3 + 1)), (1, .long ((31 * v1) + r15.toInt64)), (0, .ref (q (o + 0)))]) hx hb dX10_digest_25 hl (k := 2) rfl rfl (by decide) rfl (fun ls hl => ?_)
      refine lv_goto (tgt := 6) hx hb dX10_digest_28 rfl ?_
      exact ih _ _ _ _ _ _ hf hw (lv_sub hl [2, 1, 0] rfl)
set_option maxHeartbeats 4000000 in
set_option maxRecDepth 100000 in
theorem c_X10_digest (l : Launch) (G : zG) (q : Nat → Nat) (o : Nat) (S : VX10)  (y : Int64) (hf : f_X10_digest S = some y) : zMet l yX10_digest wsX10_digest 5 110 G [.ref (q (o + 0))] [bX10 G q o, bX9 G q (o + 1) S.1.1 S.1.2.1 S.1.2.2.1 S.1.2.2.2.1 S.1.2.2.2.2, bX6 G q (o + 3) S.2.1.1 S.2.1.2, bX8 G q (o + 12) S.2.2.1.1 S.2.2.1.2, bX5 G q (o + 19) S.2.2.2.1.2.1 S.2.2.2.1.2.2.1 S.2.2.2.1.2.2.2.1 S.2.2.2.1.2.2.2.2, bX2 G q ((o + 19) + 2) S.2.2.2.1.1.1 S.2.2.2.1.1.2.1 S.2.2.2.1.1.2.2.1 S.2.2.2.1.1.2.2.2.1 S.2.2.2.1.1.2.2.2.2.1 S.2.2.2.1.1.2.2.2.2.2.1 S.2.2.2.1.1.2.2.2.2.2.2.1 S.2.2.2.1.1.2.2.2.2.2.2.2, bX2 G q (o + 27) S.2.2.2.2.1.1 S.2.2.2.2.1.2.1 S.2.2.2.2.1.2.2.1 S.2.2.2.2.1.2.2.2.1 S.2.2.2.2.1.2.2.2.2.1 S.2.2.2.2.1.2.2.2.2.2.1 S.2.2.2.2.1.2.2.2.2.2.2.1 S.2.2.2.2.1.2.2.2.2.2.2.2, bX1 G q (o + 33) S.2.2.2.2.2.1.1 S.2.2.2.2.2.1.2.1 S.2.2.2.2.2.1.2.2.1 S.2.2.2.2.2.1.2.2.2, bX4 G q (o + 36) S.2.2.2.2.2.2.1.1 S.2.2.2.2.2.2.1.2, bX3 G q (o + 38) S.2.2.2.2.2.2.2.1.1 S.2.2.2.2.2.2.2.1.2.1 S.2.2.2.2.2.2.2.1.2.2.1 S.2.2.2.2.2.2.2.1.2.2.2, bX0 G q (o + 43) S.2.2.2.2.2.2.2.2.1.2.2.1 S.2.2.2.2.2.2.2.2.1.2.2.2, bX2 G q ((o + 43) + 3) S.2.2.2.2.2.2.2.2.1.1.1 S.2.2.2.2.2.2.2.2.1.1.2.1 S.2.2.2.2.2.2.2.2.1.1.2.2.1 S.2.2.2.2.2.2.2.2.1.1.2.2.2.1 S.2.2.2.2.2.2.2.2.1.1.2.2.2.2.1 S.2.2.2.2.2.2.2.2.1.1.2.2.2.2.2.1 S.2.2.2.2.2.2.2.2.1.1.2.2.2.2.2.2.1 S.2.2.2.2.2.2.2.2.1.1.2.2.2.2.2.2.2, bX4 G q ((o + 43) + 9) S.2.2.2.2.2.2.2.2.1.2.1.1 S.2.2.2.2.2.2.2.2.1.2.1.2, bX7 G q (o + 54) S.2.2.2.2.2.2.2.2.2.1 S.2.2.2.2.2.2.2.2.2.2.1 S.2.2.2.2.2.2.2.2.2.2.2] (some (.long y)) [bX10 G q o, bX9 G q (o + 1) S.1.1 S.1.2.1 S.1.2.2.1 S.1.2.2.2.1 S.1.2.2.2.2, bX6 G q (o + 3) S.2.1.1 S.2.1.2, bX8 G q (o + 12) S.2.2.1.1 S.2.2.1.2, bX5 G q (o + 19) S.2.2.2.1.2.1 S.2.2.2.1.2.2.1 S.2.2.2.1.2.2.2.1 S.2.2.2.1.2.2.2.2, bX2 G q ((o + 19) + 2) S.2.2.2.1.1.1 S.2.2.2.1.1.2.1 S.2.2.2.1.1.2.2.1 S.2.2.2.1.1.2.2.2.1 S.2.2.2.1.1.2.2.2.2.1 S.2.2.2.1.1.2.2.2.2.2.1 S.2.2.2.1.1.2.2.2.2.2.2.1 S.2.2.2.1.1.2.2.2.2.2.2.2, bX2 G q (o + 27) S.2.2.2.2.1.1 S.2.2.2.2.1.2.1 S.2.2.2.2.1.2.2.1 S.2.2.2.2.1.2.2.2.1 S.2.2.2.2.1.2.2.2.2.1 S.2.2.2.2.1.2.2.2.2.2.1 S.2.2.2.2.1.2.2.2.2.2.2.1 S.2.2.2.2.1.2.2.2.2.2.2.2, bX1 G q (o + 33) S.2.2.2.2.2.1.1 S.2.2.2.2.2.1.2.1 S.2.2.2.2.2.1.2.2.1 S.2.2.2.2.2.1.2.2.2, bX4 G q (o + 36) S.2.2.2.2.2.2.1.1 S.2.2.2.2.2.2.1.2, bX3 G q (o + 38) S.2.2.2.2.2.2.2.1.1 S.2.2.2.2.2.2.2.1.2.1 S.2.2.2.2.2.2.2.1.2.2.1 S.2.2.2.2.2.2.2.1.2.2.2, bX0 G q (o + 43) S.2.2.2.2.2.2.2.2.1.2.2.1 S.2.2.2.2.2.2.2.2.1.2.2.2, bX2 G q ((o + 43) + 3) S.2.2.2.2.2.2.2.2.1.1.1 S.2.2.2.2.2.2.2.2.1.1.2.1 S.2.2.2.2.2.2.2.2.1.1.2.2.1 S.2.2.2.2.2.2.2.2.1.1.2.2.2.1 S.2.2.2.2.2.2.2.2.1.1.2.2.2.2.1 S.2.2.2.2.2.2.2.2.1.1.2.2.2.2.2.1 S.2.2.2.2.2.2.2.2.1.1.2.2.2.2.2.2.1 S.2.2.2.2.2.2.2.2.1.1.2.2.2.2.2.2.2, bX4 G q ((o + 43) + 9) S.2.2.2.2.2.2.2.2.1.2.1.1 S.2.2.2.2.2.2.2.2.1.2.1.2, bX7 G q (o + 54) S.2.2.2.2.2.2.2.2.2.1 S.2.2.2.2.2.2.2.2.2.2.1 S.2.2.2.2.2.2.2.2.2.2.2] := by
  refine z_met zc_X10_digest (Nat.le_of_ble_eq_true rfl) ?_
  intro p e s m below meth c A ls hZ hl hw
  have hl : lv_has ls 4 [(0, .ref (q (o + 0)))] := hl
  obtain ⟨hS0, hr, hlk, hK, hA, hT⟩ := id hZ
  have hx := hS0.1
  have hb := hS0.2.1
  have hml := hS0.2.2.1
  have hown : s.vm.findClass RX10 = some m.cls := hS0.2.2.2.1
  have hts := hS0.2.2.2.2
  unfold f_X10_digest at hf
  refine lv_ldc2 (v := 17) hx hb hown (hts _ m_X10_digest_6) dX10_digest_0 ?_
  refine lv_lstore_n (lv' := [(1, .long 17), (0, .ref (q (o + 0)))]) hx hb dX10_digest_3 rfl hl (by decide) rfl (fun ls hl => ?_)
  refine lv_iconst (v := 0) hx hb dX10_digest_4 rfl ?_
  refine lv_istore_n (lv' := [(3, .int 0), (1, .long 17), (0, .ref (q (o + 0)))]) hx hb dX10_digest_5 rfl hl (by decide) rfl (fun ls hl => ?_)
  exact k_X10_digest_6 hZ _ 4096 _ _ _ _ _ _ hf hw (lv_sub hl [2, 1, 0] rfl)
theorem zc_X10_door : zC yX10_door wsX10_door cX10_door 3 (some .int) 2 := ⟨⟨_, rfl⟩, by decide +kernel, by decide +kernel, by decide +kernel, by decide +kernel⟩
theorem m_X10_door_0 : (.fieldLink RX10 40 "CellKeys" "jail" "LCellKeys$Jail;" : Cond) ∈ wsX10_door := by decide +kernel
theorem in_X10_door_X10 : ∀ w ∈ u_ws RX10 TX10 10, w ∈ wsX10_door := by decide +kernel
theorem m_X10_door_1 : (.fieldLink RX10 10 "CellKeys" "told" "LCellKeys$Told;" : Cond) ∈ wsX10_door := by decide +kernel
set_option maxHeartbeats 4000000 in
set_option maxRecDepth 100000 in
theorem c_X10_door (l : Launch) (G : zG) (q : Nat → Nat) (o : Nat) (S : VX10) (v1 : Int32) (v2 : Int32) (y : Int32 × VX10) (hf : f_X10_door S v1 v2 = some y) : zMet l yX10_door wsX10_door 2 43 G [.ref (q (o + 0)), .int v1, .int v2] [bX10 G q o, bX9 G q (o + 1) S.1.1 S.1.2.1 S.1.2.2.1 S.1.2.2.2.1 S.1.2.2.2.2, bX6 G q (o + 3) S.2.1.1 S.2.1.2, bX8 G q (o + 12) S.2.2.1.1 S.2.2.1.2, bX5 G q (o + 19) S.2.2.2.1.2.1 S.2.2.2.1.2.2.1 S.2.2.2.1.2.2.2.1 S.2.2.2.1.2.2.2.2, bX2 G q ((o + 19) + 2) S.2.2.2.1.1.1 S.2.2.2.1.1.2.1 S.2.2.2.1.1.2.2.1 S.2.2.2.1.1.2.2.2.1 S.2.2.2.1.1.2.2.2.2.1 S.2.2.2.1.1.2.2.2.2.2.1 S.2.2.2.1.1.2.2.2.2.2.2.1 S.2.2.2.1.1.2.2.2.2.2.2.2, bX2 G q (o + 27) S.2.2.2.2.1.1 S.2.2.2.2.1.2.1 S.2.2.2.2.1.2.2.1 S.2.2.2.2.1.2.2.2.1 S.2.2.2.2.1.2.2.2.2.1 S.2.2.2.2.1.2.2.2.2.2.1 S.2.2.2.2.1.2.2.2.2.2.2.1 S.2.2.2.2.1.2.2.2.2.2.2.2, bX1 G q (o + 33) S.2.2.2.2.2.1.1 S.2.2.2.2.2.1.2.1 S.2.2.2.2.2.1.2.2.1 S.2.2.2.2.2.1.2.2.2, bX4 G q (o + 36) S.2.2.2.2.2.2.1.1 S.2.2.2.2.2.2.1.2, bX3 G q (o + 38) S.2.2.2.2.2.2.2.1.1 S.2.2.2.2.2.2.2.1.2.1 S.2.2.2.2.2.2.2.1.2.2.1 S.2.2.2.2.2.2.2.1.2.2.2, bX0 G q (o + 43) S.2.2.2.2.2.2.2.2.1.2.2.1 S.2.2.2.2.2.2.2.2.1.2.2.2, bX2 G q ((o + 43) + 3) S.2.2.2.2.2.2.2.2.1.1.1 S.2.2.2.2.2.2.2.2.1.1.2.1 S.2.2.2.2.2.2.2.2.1.1.2.2.1 S.2.2.2.2.2.2.2.2.1.1.2.2.2.1 S.2.2.2.2.2.2.2.2.1.1.2.2.2.2.1 S.2.2.2.2.2.2.2.2.1.1.2.2.2.2.2.1 S.2.2.2.2.2.2.2.2.1.1.2.2.2.2.2.2.1 S.2.2.2.2.2.2.2.2.1.1.2.2.2.2.2.2.2, bX4 G q ((o + 43) + 9) S.2.2.2.2.2.2.2.2.1.2.1.1 S.2.2.2.2.2.2.2.2.1.2.1.2, bX7 G q (o + 54) S.2.2.2.2.2.2.2.2.2.1 S.2.2.2.2.2.2.2.2.2.2.1 S.2.2.2.2.2.2.2.2.2.2.2] (some (.int y.1)) [bX10 G q o, bX9 G q (o + 1) y.2.1.1 y.2.1.2.1 y.2.1.2.2.1 y.2.1.2.2.2.1 y.2.1.2.2.2.2, bX6 G q (o + 3) y.2.2.1.1 y.2.2.1.2, bX8 G q (o + 12) y.2.2.2.1.1 y.2.2.2.1.2, bX5 G q (o + 19) y.2.2.2.2.1.2.1 y.2.2.2.2.1.2.2.1 y.2.2.2.2.1.2.2.2.1 y.2.2.2.2.1.2.2.2.2, bX2 G q ((o + 19) + 2) y.2.2.2.2.1.1.1 y.2.2.2.2.1.1.2.1 y.2.2.2.2.1.1.2.2.1 y.2.2.2.2.1.1.2.2.2.1 y.2.2.2.2.1.1.2.2.2.2.1 y.2.2.2.2.1.1.2.2.2.2.2.1 y.2.2.2.2.1.1.2.2.2.2.2.2.1 y.2.2.2.2.1.1.2.2.2.2.2.2.2, bX2 G q (o + 27) y.2.2.2.2.2.1.1 y.2.2.2.2.2.1.2.1 y.2.2.2.2.2.1.2.2.1 y.2.2.2.2.2.1.2.2.2.1 y.2.2.2.2.2.1.2.2.2.2.1 y.2.2.2.2.2.1.2.2.2.2.2.1 y.2.2.2.2.2.1.2.2.2.2.2.2.1 y.2.2.2.2.2.1.2.2.2.2.2.2.2, bX1 G q (o + 33) y.2.2.2.2.2.2.1.1 y.2.2.2.2.2.2.1.2.1 y.2.2.2.2.2.2.1.2.2.1 y.2.2.2.2.2.2.1.2.2.2, bX4 G q (o + 36) y.2.2.2.2.2.2.2.1.1 y.2.2.2.2.2.2.2.1.2, bX3 G q (o + 38) y.2.2.2.2.2.2.2.2.1.1 y.2.2.2.2.2.2.2.2.1.2.1 y.2.2.2.2.2.2.2.2.1.2.2.1 y.2.2.2.2.2.2.2.2.1.2.2.2, bX0 G q (o + 43) y.2.2.2.2.2.2.2.2.2.1.2.2.1 y.2.2.2.2.2.2.2.2.2.1.2.2.2, bX2 G q ((o + 43) + 3) y.2.2.2.2.2.2.2.2.2.1.1.1 y.2.2.2.2.2.2.2.2.2.1.1.2.1 y.2.2.2.2.2.2.2.2.2.1.1.2.2.1 y.2.2.2.2.2.2.2.2.2.1.1.2.2.2.1 y.2.2.2.2.2.2.2.2.2.1.1.2.2.2.2.1 y.2.2.2.2.2.2.2.2.2.1.1.2.2.2.2.2.1 y.2.2.2.2.2.2.2.2.2.1.1.2.2.2.2.2.2.1 y.2.2.2.2.2.2.2.2.2.1.1.2.2.2.2.2.2.2, bX4 G q ((o + 43) + 9) y.2.2.2.2.2.2.2.2.2.1.2.1.1 y.2.2.2.2.2.2.2.2.2.1.2.1.2, bX7 G q (o + 54) y.2.2.2.2.2.2.2.2.2.2.1 y.2.2.2.2.2.2.2.2.2.2.2.1 y.2.2.2.2.2.2.2.2.2.2.2.2] := by
  refine z_met zc_X10_door (Nat.le_of_ble_eq_true rfl) ?_
  intro p e s m below meth c A ls hZ hl hw
  have hl : lv_has ls 3 [(0, .ref (q (o + 0))), (1, .int v1), (2, .int v2)] := hl
  obtain ⟨hS0, hr, hlk, hK, hA, hT⟩ := id hZ
  have hx := hS0.1
  have hb := hS0.2.1
  have hml := hS0.2.2.1
  have hown : s.vm.findClass RX10 = some m.cls := hS0.2.2.2.1
  have hts := hS0.2.2.2.2
  unfold f_X10_door at hf
  refine lv_aload_n hx hb dX10_door_0 rfl (lv_at hl 0 rfl) ?_
  refine z_get hS0 in_X10_door_X10 hK hw 0 4 rfl rfl rfl (by decide) (hts _ m_X10_door_0) (v := .ref (q ((o + 27) + 0))) rfl dX10_door_1 ?_
  refine lv_iload_n hx hb dX10_door_4 rfl (lv_at hl 1 rfl) ?_
  obtain ⟨r1, e2, hf⟩ := z_bd hf
  refine z_callV1 (As := [.int v1]) (rest := []) (bs' := [bX10 G q o, bX9 G q (o + 1) S.1.1 S.1.2.1 S.1.2.2.1 S.1.2.2.2.1 S.1.2.2.2.2, bX6 G q (o + 3) S.2.1.1 S.2.1.2, bX8 G q (o + 12) S.2.2.1.1 S.2.2.1.2, bX5 G q (o + 19) S.2.2.2.1.2.1 S.2.2.2.1.2.2.1 S.2.2.2.1.2.2.2.1 S.2.2.2.1.2.2.2.2, bX2 G q ((o + 19) + 2) S.2.2.2.1.1.1 S.2.2.2.1.1.2.1 S.2.2.2.1.1.2.2.1 S.2.2.2.1.1.2.2.2.1 S.2.2.2.1.1.2.2.2.2.1 S.2.2.2.1.1.2.2.2.2.2.1 S.2.2.2.1.1.2.2.2.2.2.2.1 S.2.2.2.1.1.2.2.2.2.2.2.2, bX2 G q (o + 27) S.2.2.2.2.1.1 S.2.2.2.2.1.2.1 S.2.2.2.2.1.2.2.1 S.2.2.2.2.1.2.2.2.1 S.2.2.2.2.1.2.2.2.2.1 S.2.2.2.2.1.2.2.2.2.2.1 S.2.2.2.2.1.2.2.2.2.2.2.1 S.2.2.2.2.1.2.2.2.2.2.2.2, bX1 G q (o + 33) S.2.2.2.2.2.1.1 S.2.2.2.2.2.1.2.1 S.2.2.2.2.2.1.2.2.1 S.2.2.2.2.2.1.2.2.2, bX4 G q (o + 36) S.2.2.2.2.2.2.1.1 S.2.2.2.2.2.2.1.2, bX3 G q (o + 38) S.2.2.2.2.2.2.2.1.1 S.2.2.2.2.2.2.2.1.2.1 S.2.2.2.2.2.2.2.1.2.2.1 S.2.2.2.2.2.2.2.1.2.2.2, bX0 G q (o + 43) S.2.2.2.2.2.2.2.2.1.2.2.1 S.2.2.2.2.2.2.2.2.1.2.2.2, bX2 G q ((o + 43) + 3) S.2.2.2.2.2.2.2.2.1.1.1 S.2.2.2.2.2.2.2.2.1.1.2.1 S.2.2.2.2.2.2.2.2.1.1.2.2.1 S.2.2.2.2.2.2.2.2.1.1.2.2.2.1 S.2.2.2.2.2.2.2.2.1.1.2.2.2.2.1 S.2.2.2.2.2.2.2.2.1.1.2.2.2.2.2.1 S.2.2.2.2.2.2.2.2.1.1.2.2.2.2.2.2.1 S.2.2.2.2.2.2.2.2.1.1.2.2.2.2.2.2.2, bX4 G q ((o + 43) + 9) S.2.2.2.2.2.2.2.2.1.2.1.1 S.2.2.2.2.2.2.2.2.1.2.1.2, bX7 G q (o + 54) S.2.2.2.2.2.2.2.2.2.1 S.2.2.2.2.2.2.2.2.2.2.1 S.2.2.2.2.2.2.2.2.2.2.2]) hS0 (c_X2_isCell l G q (o + 27) S.2.2.2.2.1 v1 r1 e2) zc_X2_isCell rfl gX10_door_X2_isCell ⟨Nat.le_of_ble_eq_true rfl, Nat.le_of_ble_eq_true rfl⟩ hK hA hT hw (is := [6]) rfl rfl rfl rfl rfl rfl rfl hl.1 rfl (Nat.le_of_ble_eq_true rfl) dX10_door_5 (fun H locs hw => ?_)
  refine lv_if_eq (tgt := 20) hx hb dX10_door_8 rfl (fun hc => ?_) (fun hc => ?_)
  · have hf := z_t hc hf
    refine lv_iconst (v := (-1)) hx hb dX10_door_20 rfl ?_
    cases hf
    exact z_iret hx hb hr hlk hw dX10_door_21
  · have hf := z_f hc hf
    refine lv_iload_n hx hb dX10_door_11 rfl (lv_at hl 2 rfl) ?_
    refine lv_if_lt (tgt := 20) hx hb dX10_door_12 rfl (fun hc => ?_) (fun hc => ?_)
    · have hf := z_t hc hf
      refine lv_iconst (v := (-1)) hx hb dX10_door_20 rfl ?_
      cases hf
      exact z_iret hx hb hr hlk hw dX10_door_21
    · have hf := z_f hc hf
      refine lv_iload_n hx hb dX10_door_15 rfl (lv_at hl 2 rfl) ?_
      refine lv_iconst (v := 4) hx hb dX10_door_16 rfl ?_
      refine lv_icmp_lt (tgt := 22) hx hb dX10_door_17 rfl (fun hc => ?_) (fun hc => ?_)
      · have hf := z_t hc hf
        refine lv_aload_n hx hb dX10_door_22 rfl (lv_at hl 0 rfl) ?_
        refine z_get hS0 in_X10_door_X10 hK hw 0 0 rfl rfl rfl (by decide) (hts _ m_X10_door_1) (v := .ref (q ((o + 1) + 0))) rfl dX10_door_23 ?_
        refine lv_aload_n hx hb dX10_door_26 rfl (lv_at hl 0 rfl) ?_
        refine z_get hS0 in_X10_door_X10 hK hw 0 4 rfl rfl rfl (by decide) (hts _ m_X10_door_0) (v := .ref (q ((o + 27) + 0))) rfl dX10_door_27 ?_
        refine lv_iload_n hx hb dX10_door_30 rfl (lv_at hl 1 rfl) ?_
        refine lv_iload_n hx hb dX10_door_31 rfl (lv_at hl 2 rfl) ?_
        obtain ⟨r3, e4, hf⟩ := z_bd hf
        refine z_callV1 (As := [.int v1, .int v2]) (rest := [.ref (q ((o + 1) + 0))]) (bs' := [bX10 G q o, bX9 G q (o + 1) S.1.1 S.1.2.1 S.1.2.2.1 S.1.2.2.2.1 S.1.2.2.2.2, bX6 G q (o + 3) S.2.1.1 S.2.1.2, bX8 G q (o + 12) S.2.2.1.1 S.2.2.1.2, bX5 G q (o + 19) S.2.2.2.1.2.1 S.2.2.2.1.2.2.1 S.2.2.2.1.2.2.2.1 S.2.2.2.1.2.2.2.2, bX2 G q ((o + 19) + 2) S.2.2.2.1.1.1 S.2.2.2.1.1.2.1 S.2.2.2.1.1.2.2.1 S.2.2.2.1.1.2.2.2.1 S.2.2.2.1.1.2.2.2.2.1 S.2.2.2.1.1.2.2.2.2.2.1 S.2.2.2.1.1.2.2.2.2.2.2.1 S.2.2.2.1.1.2.2.2.2.2.2.2, bX2 G q (o + 27) S.2.2.2.2.1.1 S.2.2.2.2.1.2.1 S.2.2.2.2.1.2.2.1 S.2.2.2.2.1.2.2.2.1 S.2.2.2.2.1.2.2.2.2.1 S.2.2.2.2.1.2.2.2.2.2.1 S.2.2.2.2.1.2.2.2.2.2.2.1 S.2.2.2.2.1.2.2.2.2.2.2.2, bX1 G q (o + 33) S.2.2.2.2.2.1.1 S.2.2.2.2.2.1.2.1 S.2.2.2.2.2.1.2.2.1 S.2.2.2.2.2.1.2.2.2, bX4 G q (o + 36) S.2.2.2.2.2.2.1.1 S.2.2.2.2.2.2.1.2, bX3 G q (o + 38) S.2.2.2.2.2.2.2.1.1 S.2.2.2.2.2.2.2.1.2.1 S.2.2.2.2.2.2.2.1.2.2.1 S.2.2.2.2.2.2.2.1.2.2.2, bX0 G q (o + 43) S.2.2.2.2.2.2.2.2.1.2.2.1 S.2.2.2.2.2.2.2.2.1.2.2.2, bX2 G q ((o + 43) + 3) S.2.2.2.2.2.2.2.2.1.1.1 S.2.2.2.2.2.2.2.2.1.1.2.1 S.2.2.2.2.2.2.2.2.1.1.2.2.1 S.2.2.2.2.2.2.2.2.1.1.2.2.2.1 S.2.2.2.2.2.2.2.2.1.1.2.2.2.2.1 S.2.2.2.2.2.2.2.2.1.1.2.2.2.2.2.1 S.2.2.2.2.2.2.2.2.1.1.2.2.2.2.2.2.1 S.2.2.2.2.2.2.2.2.1.1.2.2.2.2.2.2.2, bX4 G q ((o + 43) + 9) S.2.2.2.2.2.2.2.2.1.2.1.1 S.2.2.2.2.2.2.2.2.1.2.1.2, bX7 G q (o + 54) S.2.2.2.2.2.2.2.2.2.1 S.2.2.2.2.2.2.2.2.2.2.1 S.2.2.2.2.2.2.2.2.2.2.2]) hS0 (c_X2_doorAnswer l G q (o + 27) S.2.2.2.2.1 v1 v2 r3 e4) zc_X2_doorAnswer rfl gX10_door_X2_doorAnswer ⟨Nat.le_of_ble_eq_true rfl, Nat.le_of_ble_eq_true rfl⟩ hK hA hT hw (is := [6]) rfl rfl rfl rfl rfl rfl rfl hl.1 rfl (Nat.le_of_ble_eq_true rfl) dX10_door_32 (fun H locs hw => ?_)
        obtain ⟨r5, e6, hf⟩ := z_bd hf
        refine z_callV0 (As := [.int r3]) (rest := []) (bs' := [bX10 G q o, bX9 G q (o + 1) r5.1 r5.2.1 r5.2.2.1 r5.2.2.2.1 r5.2.2.2.2, bX6 G q (o + 3) S.2.1.1 S.2.1.2, bX8 G q (o + 12) S.2.2.1.1 S.2.2.1.2, bX5 G q (o + 19) S.2.2.2.1.2.1 S.2.2.2.1.2.2.1 S.2.2.2.1.2.2.2.1 S.2.2.2.1.2.2.2.2, bX2 G q ((o + 19) + 2) S.2.2.2.1.1.1 S.2.2.2.1.1.2.1 S.2.2.2.1.1.2.2.1 S.2.2.2.1.1.2.2.2.1 S.2.2.2.1.1.2.2.2.2.1 S.2.2.2.1.1.2.2.2.2.2.1 S.2.2.2.1.1.2.2.2.2.2.2.1 S.2.2.2.1.1.2.2.2.2.2.2.2, bX2 G q (o + 27) S.2.2.2.2.1.1 S.2.2.2.2.1.2.1 S.2.2.2.2.1.2.2.1 S.2.2.2.2.1.2.2.2.1 S.2.2.2.2.1.2.2.2.2.1 S.2.2.2.2.1.2.2.2.2.2.1 S.2.2.2.2.1.2.2.2.2.2.2.1 S.2.2.2.2.1.2.2.2.2.2.2.2, bX1 G q (o + 33) S.2.2.2.2.2.1.1 S.2.2.2.2.2.1.2.1 S.2.2.2.2.2.1.2.2.1 S.2.2.2.2.2.1.2.2.2, bX4 G q (o + 36) S.2.2.2.2.2.2.1.1 S.2.2.2.2.2.2.1.2, bX3 G q (o + 38) S.2.2.2.2.2.2.2.1.1 S.2.2.2.2.2.2.2.1.2.1 S.2.2.2.2.2.2.2.1.2.2.1 S.2.2.2.2.2.2.2.1.2.2.2, bX0 G q (o + 43) S.2.2.2.2.2.2.2.2.1.2.2.1 S.2.2.2.2.2.2.2.2.1.2.2.2, bX2 G q ((o + 43) + 3) S.2.2.2.2.2.2.2.2.1.1.1 S.2.2.2.2.2.2.2.2.1.1.2.1 S.2.2.2.2.2.2.2.2.1.1.2.2.1 S.2.2.2.2.2.2.2.2.1.1.2.2.2.1 S.2.2.2.2.2.2.2.2.1.1.2.2.2.2.1 S.2.2.2.2.2.2.2.2.1.1.2.2.2.2.2.1 S.2.2.2.2.2.2.2.2.1.1.2.2.2.2.2.2.1 S.2.2.2.2.2.2.2.2.1.1.2.2.2.2.2.2.2, bX4 G q ((o + 43) + 9) S.2.2.2.2.2.2.2.2.1.2.1.1 S.2.2.2.2.2.2.2.2.1.2.1.2, bX7 G q (o + 54) S.2.2.2.2.2.2.2.2.2.1 S.2.2.2.2.2.2.2.2.2.2.1 S.2.2.2.2.2.2.2.2.2.2.2]) hS0 (c_X9_tell l G q (o + 1) S.1 r3 r5 e6) zc_X9_tell rfl gX10_door_X9_tell ⟨Nat.le_of_ble_eq_true rfl, Nat.le_of_ble_eq_true rfl⟩ hK hA hT hw (is := [1]) rfl rfl rfl rfl rfl rfl rfl hl.1 rfl (Nat.le_of_ble_eq_true rfl) dX10_door_35 (fun H locs hw => ?_)
        refine lv_iconst (v := 1) hx hb dX10_door_38 rfl ?_
        cases hf
        exact z_iret hx hb hr hlk hw dX10_door_39
      · have hf := z_f hc hf
        refine lv_iconst (v := (-1)) hx hb dX10_door_20 rfl ?_
        cases hf
        exact z_iret hx hb hr hlk hw dX10_door_21
theorem zc_X10_ever : zC yX10_ever wsX10_ever cX10_ever 2 (some .int) 0 := ⟨⟨_, rfl⟩, by decide +kernel, by decide +kernel, by decide +kernel, by decide +kernel⟩
theorem m_X10_ever_0 : (.fieldLink RX10 54 "CellKeys" "reach" "LCellKeys$Reach;" : Cond) ∈ wsX10_ever := by decide +kernel
theorem in_X10_ever_X10 : ∀ w ∈ u_ws RX10 TX10 10, w ∈ wsX10_ever := by decide +kernel
theorem m_X10_ever_1 : (.fieldLink RX10 10 "CellKeys" "told" "LCellKeys$Told;" : Cond) ∈ wsX10_ever := by decide +kernel
theorem m_X10_ever_2 : (.fieldLink RX10 40 "CellKeys" "jail" "LCellKeys$Jail;" : Cond) ∈ wsX10_ever := by decide +kernel
set_option maxHeartbeats 4000000 in
set_option maxRecDepth 100000 in
theorem c_X10_ever (l : Launch) (G : zG) (q : Nat → Nat) (o : Nat) (S : VX10)  (y : Int32 × VX10) (hf : f_X10_ever S = some y) : zMet l yX10_ever wsX10_ever 5 127 G [.ref (q (o + 0))] [bX10 G q o, bX9 G q (o + 1) S.1.1 S.1.2.1 S.1.2.2.1 S.1.2.2.2.1 S.1.2.2.2.2, bX6 G q (o + 3) S.2.1.1 S.2.1.2, bX8 G q (o + 12) S.2.2.1.1 S.2.2.1.2, bX5 G q (o + 19) S.2.2.2.1.2.1 S.2.2.2.1.2.2.1 S.2.2.2.1.2.2.2.1 S.2.2.2.1.2.2.2.2, bX2 G q ((o + 19) + 2) S.2.2.2.1.1.1 S.2.2.2.1.1.2.1 S.2.2.2.1.1.2.2.1 S.2.2.2.1.1.2.2.2.1 S.2.2.2.1.1.2.2.2.2.1 S.2.2.2.1.1.2.2.2.2.2.1 S.2.2.2.1.1.2.2.2.2.2.2.1 S.2.2.2.1.1.2.2.2.2.2.2.2, bX2 G q (o + 27) S.2.2.2.2.1.1 S.2.2.2.2.1.2.1 S.2.2.2.2.1.2.2.1 S.2.2.2.2.1.2.2.2.1 S.2.2.2.2.1.2.2.2.2.1 S.2.2.2.2.1.2.2.2.2.2.1 S.2.2.2.2.1.2.2.2.2.2.2.1 S.2.2.2.2.1.2.2.2.2.2.2.2, bX1 G q (o + 33) S.2.2.2.2.2.1.1 S.2.2.2.2.2.1.2.1 S.2.2.2.2.2.1.2.2.1 S.2.2.2.2.2.1.2.2.2, bX4 G q (o + 36) S.2.2.2.2.2.2.1.1 S.2.2.2.2.2.2.1.2, bX3 G q (o + 38) S.2.2.2.2.2.2.2.1.1 S.2.2.2.2.2.2.2.1.2.1 S.2.2.2.2.2.2.2.1.2.2.1 S.2.2.2.2.2.2.2.1.2.2.2, bX0 G q (o + 43) S.2.2.2.2.2.2.2.2.1.2.2.1 S.2.2.2.2.2.2.2.2.1.2.2.2, bX2 G q ((o + 43) + 3) S.2.2.2.2.2.2.2.2.1.1.1 S.2.2.2.2.2.2.2.2.1.1.2.1 S.2.2.2.2.2.2.2.2.1.1.2.2.1 S.2.2.2.2.2.2.2.2.1.1.2.2.2.1 S.2.2.2.2.2.2.2.2.1.1.2.2.2.2.1 S.2.2.2.2.2.2.2.2.1.1.2.2.2.2.2.1 S.2.2.2.2.2.2.2.2.1.1.2.2.2.2.2.2.1 S.2.2.2.2.2.2.2.2.1.1.2.2.2.2.2.2.2, bX4 G q ((o + 43) + 9) S.2.2.2.2.2.2.2.2.1.2.1.1 S.2.2.2.2.2.2.2.2.1.2.1.2, bX7 G q (o + 54) S.2.2.2.2.2.2.2.2.2.1 S.2.2.2.2.2.2.2.2.2.2.1 S.2.2.2.2.2.2.2.2.2.2.2] (some (.int y.1)) [bX10 G q o, bX9 G q (o + 1) y.2.1.1 y.2.1.2.1 y.2.1.2.2.1 y.2.1.2.2.2.1 y.2.1.2.2.2.2, bX6 G q (o + 3) y.2.2.1.1 y.2.2.1.2, bX8 G q (o + 12) y.2.2.2.1.1 y.2.2.2.1.2, bX5 G q (o + 19) y.2.2.2.2.1.2.1 y.2.2.2.2.1.2.2.1 y.2.2.2.2.1.2.2.2.1 y.2.2.2.2.1.2.2.2.2, bX2 G q ((o + 19) + 2) y.2.2.2.2.1.1.1 y.2.2.2.2.1.1.2.1 y.2.2.2.2.1.1.2.2.1 y.2.2.2.2.1.1.2.2.2.1 y.2.2.2.2.1.1.2.2.2.2.1 y.2.2.2.2.1.1.2.2.2.2.2.1 y.2.2.2.2.1.1.2.2.2.2.2.2.1 y.2.2.2.2.1.1.2.2.2.2.2.2.2, bX2 G q (o + 27) y.2.2.2.2.2.1.1 y.2.2.2.2.2.1.2.1 y.2.2.2.2.2.1.2.2.1 y.2.2.2.2.2.1.2.2.2.1 y.2.2.2.2.2.1.2.2.2.2.1 y.2.2.2.2.2.1.2.2.2.2.2.1 y.2.2.2.2.2.1.2.2.2.2.2.2.1 y.2.2.2.2.2.1.2.2.2.2.2.2.2, bX1 G q (o + 33) y.2.2.2.2.2.2.1.1 y.2.2.2.2.2.2.1.2.1 y.2.2.2.2.2.2.1.2.2.1 y.2.2.2.2.2.2.1.2.2.2, bX4 G q (o + 36) y.2.2.2.2.2.2.2.1.1 y.2.2.2.2.2.2.2.1.2, bX3 G q (o + 38) y.2.2.2.2.2.2.2.2.1.1 y.2.2.2.2.2.2.2.2.1.2.1 y.2.2.2.2.2.2.2.2.1.2.2.1 y.2.2.2.2.2.2.2.2.1.2.2.2, bX0 G q (o + 43) y.2.2.2.2.2.2.2.2.2.1.2.2.1 y.2.2.2.2.2.2.2.2.2.1.2.2.2, bX2 G q ((o + 43) + 3) y.2.2.2.2.2.2.2.2.2.1.1.1 y.2.2.2.2.2.2.2.2.2.1.1.2.1 y.2.2.2.2.2.2.2.2.2.1.1.2.2.1 y.2.2.2.2.2.2.2.2.2.1.1.2.2.2.1 y.2.2.2.2.2.2.2.2.2.1.1.2.2.2.2.1 y.2.2.2.2.2.2.2.2.2.1.1.2.2.2.2.2.1 y.2.2.2.2.2.2.2.2.2.1.1.2.2.2.2.2.2.1 y.2.2.2.2.2.2.2.2.2.1.1.2.2.2.2.2.2.2, bX4 G q ((o + 43) + 9) y.2.2.2.2.2.2.2.2.2.1.2.1.1 y.2.2.2.2.2.2.2.2.2.1.2.1.2, bX7 G q (o + 54) y.2.2.2.2.2.2.2.2.2.2.1 y.2.2.2.2.2.2.2.2.2.2.2.1 y.2.2.2.2.2.2.2.2.2.2.2.2] := by
  refine z_met zc_X10_ever (Nat.le_of_ble_eq_true rfl) ?_
  intro p e s m below meth c A ls hZ hl hw
  have hl : lv_has ls 2 [(0, .ref (q (o + 0)))] := hl
  obtain ⟨hS0, hr, hlk, hK, hA, hT⟩ := id hZ
  have hx := hS0.1
  have hb := hS0.2.1
  have hml := hS0.2.2.1
  have hown : s.vm.findClass RX10 = some m.cls := hS0.2.2.2.1
  have hts := hS0.2.2.2.2
  unfold f_X10_ever at hf
  refine lv_aload_n hx hb dX10_ever_0 rfl (lv_at hl 0 rfl) ?_
  obtain ⟨r1, e2, hf⟩ := z_bd hf
  refine z_callV0 (As := []) (rest := []) (bs' := [bX10 G q o, bX9 G q (o + 1) r1.1.1 r1.1.2.1 r1.1.2.2.1 r1.1.2.2.2.1 r1.1.2.2.2.2, bX6 G q (o + 3) r1.2.1.1 r1.2.1.2, bX8 G q (o + 12) r1.2.2.1.1 r1.2.2.1.2, bX5 G q (o + 19) r1.2.2.2.1.2.1 r1.2.2.2.1.2.2.1 r1.2.2.2.1.2.2.2.1 r1.2.2.2.1.2.2.2.2, bX2 G q ((o + 19) + 2) r1.2.2.2.1.1.1 r1.2.2.2.1.1.2.1 r1.2.2.2.1.1.2.2.1 r1.2.2.2.1.1.2.2.2.1 r1.2.2.2.1.1.2.2.2.2.1 r1.2.2.2.1.1.2.2.2.2.2.1 r1.2.2.2.1.1.2.2.2.2.2.2.1 r1.2.2.2.1.1.2.2.2.2.2.2.2, bX2 G q (o + 27) r1.2.2.2.2.1.1 r1.2.2.2.2.1.2.1 r1.2.2.2.2.1.2.2.1 r1.2.2.2.2.1.2.2.2.1 r1.2.2.2.2.1.2.2.2.2.1 r1.2.2.2.2.1.2.2.2.2.2.1 r1.2.2.2.2.1.2.2.2.2.2.2.1 r1.2.2.2.2.1.2.2.2.2.2.2.2, bX1 G q (o + 33) r1.2.2.2.2.2.1.1 r1.2.2.2.2.2.1.2.1 r1.2.2.2.2.2.1.2.2.1 r1.2.2.2.2.2.1.2.2.2, bX4 G q (o + 36) r1.2.2.2.2.2.2.1.1 r1.2.2.2.2.2.2.1.2, bX3 G q (o + 38) r1.2.2.2.2.2.2.2.1.1 r1.2.2.2.2.2.2.2.1.2.1 r1.2.2.2.2.2.2.2.1.2.2.1 r1.2.2.2.2.2.2.2.1.2.2.2, bX0 G q (o + 43) r1.2.2.2.2.2.2.2.2.1.2.2.1 r1.2.2.2.2.2.2.2.2.1.2.2.2, bX2 G q ((o + 43) + 3) r1.2.2.2.2.2.2.2.2.1.1.1 r1.2.2.2.2.2.2.2.2.1.1.2.1 r1.2.2.2.2.2.2.2.2.1.1.2.2.1 r1.2.2.2.2.2.2.2.2.1.1.2.2.2.1 r1.2.2.2.2.2.2.2.2.1.1.2.2.2.2.1 r1.2.2.2.2.2.2.2.2.1.1.2.2.2.2.2.1 r1.2.2.2.2.2.2.2.2.1.1.2.2.2.2.2.2.1 r1.2.2.2.2.2.2.2.2.1.1.2.2.2.2.2.2.2, bX4 G q ((o + 43) + 9) r1.2.2.2.2.2.2.2.2.1.2.1.1 r1.2.2.2.2.2.2.2.2.1.2.1.2, bX7 G q (o + 54) r1.2.2.2.2.2.2.2.2.2.1 r1.2.2.2.2.2.2.2.2.2.2.1 r1.2.2.2.2.2.2.2.2.2.2.2]) hS0 (c_X10_reachAll l G q o S r1 e2) zc_X10_reachAll rfl gX10_ever_X10_reachAll ⟨Nat.le_of_ble_eq_true rfl, Nat.le_of_ble_eq_true rfl⟩ hK hA hT hw (is := [0, 1, 2, 3, 4, 5, 6, 7, 8, 9, 10, 11, 12, 13]) rfl rfl rfl rfl rfl rfl rfl hl.1 rfl (Nat.le_of_ble_eq_true rfl) dX10_ever_1 (fun H locs hw => ?_)
  refine lv_aload_n hx hb dX10_ever_4 rfl (lv_at hl 0 rfl) ?_
  refine z_get hS0 in_X10_ever_X10 hK hw 0 6 rfl rfl rfl (by decide) (hts _ m_X10_ever_0) (v := .ref (q ((o + 36) + 0))) rfl dX10_ever_5 ?_
  obtain ⟨r3, e4, hf⟩ := z_bd hf
  refine z_callV1 (As := []) (rest := []) (bs' := [bX10 G q o, bX9 G q (o + 1) r1.1.1 r1.1.2.1 r1.1.2.2.1 r1.1.2.2.2.1 r1.1.2.2.2.2, bX6 G q (o + 3) r1.2.1.1 r1.2.1.2, bX8 G q (o + 12) r1.2.2.1.1 r1.2.2.1.2, bX5 G q (o + 19) r1.2.2.2.1.2.1 r1.2.2.2.1.2.2.1 r1.2.2.2.1.2.2.2.1 r1.2.2.2.1.2.2.2.2, bX2 G q ((o + 19) + 2) r1.2.2.2.1.1.1 r1.2.2.2.1.1.2.1 r1.2.2.2.1.1.2.2.1 r1.2.2.2.1.1.2.2.2.1 r1.2.2.2.1.1.2.2.2.2.1 r1.2.2.2.1.1.2.2.2.2.2.1 r1.2.2.2.1.1.2.2.2.2.2.2.1 r1.2.2.2.1.1.2.2.2.2.2.2.2, bX2 G q (o + 27) r1.2.2.2.2.1.1 r1.2.2.2.2.1.2.1 r1.2.2.2.2.1.2.2.1 r1.2.2.2.2.1.2.2.2.1 r1.2.2.2.2.1.2.2.2.2.1 r1.2.2.2.2.1.2.2.2.2.2.1 r1.2.2.2.2.1.2.2.2.2.2.2.1 r1.2.2.2.2.1.2.2.2.2.2.2.2, bX1 G q (o + 33) r1.2.2.2.2.2.1.1 r1.2.2.2.2.2.1.2.1 r1.2.2.2.2.2.1.2.2.1 r1.2.2.2.2.2.1.2.2.2, bX4 G q (o + 36) r1.2.2.2.2.2.2.1.1 r1.2.2.2.2.2.2.1.2, bX3 G q (o + 38) r1.2.2.2.2.2.2.2.1.1 r1.2.2.2.2.2.2.2.1.2.1 r1.2.2.2.2.2.2.2.1.2.2.1 r1.2.2.2.2.2.2.2.1.2.2.2, bX0 G q (o + 43) r1.2.2.2.2.2.2.2.2.1.2.2.1 r1.2.2.2.2.2.2.2.2.1.2.2.2, bX2 G q ((o + 43) + 3) r1.2.2.2.2.2.2.2.2.1.1.1 r1.2.2.2.2.2.2.2.2.1.1.2.1 r1.2.2.2.2.2.2.2.2.1.1.2.2.1 r1.2.2.2.2.2.2.2.2.1.1.2.2.2.1 r1.2.2.2.2.2.2.2.2.1.1.2.2.2.2.1 r1.2.2.2.2.2.2.2.2.1.1.2.2.2.2.2.1 r1.2.2.2.2.2.2.2.2.1.1.2.2.2.2.2.2.1 r1.2.2.2.2.2.2.2.2.1.1.2.2.2.2.2.2.2, bX4 G q ((o + 43) + 9) r1.2.2.2.2.2.2.2.2.1.2.1.1 r1.2.2.2.2.2.2.2.2.1.2.1.2, bX7 G q (o + 54) r1.2.2.2.2.2.2.2.2.2.1 r1.2.2.2.2.2.2.2.2.2.2.1 r1.2.2.2.2.2.2.2.2.2.2.2]) hS0 (c_X4_inSome l G q (o + 36) r1.2.2.2.2.2.2.1 r3 e4) zc_X4_inSome rfl gX10_ever_X4_inSome ⟨Nat.le_of_ble_eq_true rfl, Nat.le_of_ble_eq_true rfl⟩ hK hA hT hw (is := [8]) rfl rfl rfl rfl rfl rfl rfl hl.1 rfl (Nat.le_of_ble_eq_true rfl) dX10_ever_8 (fun H locs hw => ?_)
  refine lv_istore_n (lv' := [(1, .int r3), (0, .ref (q (o + 0)))]) hx hb dX10_ever_11 rfl hl (by decide) rfl (fun ls hl => ?_)
  refine lv_aload_n hx hb dX10_ever_12 rfl (lv_at hl 1 rfl) ?_
  refine z_get hS0 in_X10_ever_X10 hK hw 0 0 rfl rfl rfl (by decide) (hts _ m_X10_ever_1) (v := .ref (q ((o + 1) + 0))) rfl dX10_ever_13 ?_
  refine lv_aload_n hx hb dX10_ever_16 rfl (lv_at hl 1 rfl) ?_
  refine z_get hS0 in_X10_ever_X10 hK hw 0 4 rfl rfl rfl (by decide) (hts _ m_X10_ever_2) (v := .ref (q ((o + 27) + 0))) rfl dX10_ever_17 ?_
  obtain ⟨r5, e6, hf⟩ := z_bd hf
  refine z_callV1 (As := []) (rest := [.ref (q ((o + 1) + 0))]) (bs' := [bX10 G q o, bX9 G q (o + 1) r1.1.1 r1.1.2.1 r1.1.2.2.1 r1.1.2.2.2.1 r1.1.2.2.2.2, bX6 G q (o + 3) r1.2.1.1 r1.2.1.2, bX8 G q (o + 12) r1.2.2.1.1 r1.2.2.1.2, bX5 G q (o + 19) r1.2.2.2.1.2.1 r1.2.2.2.1.2.2.1 r1.2.2.2.1.2.2.2.1 r1.2.2.2.1.2.2.2.2, bX2 G q ((o + 19) + 2) r1.2.2.2.1.1.1 r1.2.2.2.1.1.2.1 r1.2.2.2.1.1.2.2.1 r1.2.2.2.1.1.2.2.2.1 r1.2.2.2.1.1.2.2.2.2.1 r1.2.2.2.1.1.2.2.2.2.2.1 r1.2.2.2.1.1.2.2.2.2.2.2.1 r1.2.2.2.1.1.2.2.2.2.2.2.2, bX2 G q (o + 27) r1.2.2.2.2.1.1 r1.2.2.2.2.1.2.1 r1.2.2.2.2.1.2.2.1 r1.2.2.2.2.1.2.2.2.1 r1.2.2.2.2.1.2.2.2.2.1 r1.2.2.2.2.1.2.2.2.2.2.1 r1.2.2.2.2.1.2.2.2.2.2.2.1 r1.2.2.2.2.1.2.2.2.2.2.2.2, bX1 G q (o + 33) r1.2.2.2.2.2.1.1 r1.2.2.2.2.2.1.2.1 r1.2.2.2.2.2.1.2.2.1 r1.2.2.2.2.2.1.2.2.2, bX4 G q (o + 36) r1.2.2.2.2.2.2.1.1 r1.2.2.2.2.2.2.1.2, bX3 G q (o + 38) r1.2.2.2.2.2.2.2.1.1 r1.2.2.2.2.2.2.2.1.2.1 r1.2.2.2.2.2.2.2.1.2.2.1 r1.2.2.2.2.2.2.2.1.2.2.2, bX0 G q (o + 43) r1.2.2.2.2.2.2.2.2.1.2.2.1 r1.2.2.2.2.2.2.2.2.1.2.2.2, bX2 G q ((o + 43) + 3) r1.2.2.2.2.2.2.2.2.1.1.1 r1.2.2.2.2.2.2.2.2.1.1.2.1 r1.2.2.2.2.2.2.2.2.1.1.2.2.1 r1.2.2.2.2.2.2.2.2.1.1.2.2.2.1 r1.2.2.2.2.2.2.2.2.1.1.2.2.2.2.1 r1.2.2.2.2.2.2.2.2.1.1.2.2.2.2.2.1 r1.2.2.2.2.2.2.2.2.1.1.2.2.2.2.2.2.1 r1.2.2.2.2.2.2.2.2.1.1.2.2.2.2.2.2.2, bX4 G q ((o + 43) + 9) r1.2.2.2.2.2.2.2.2.1.2.1.1 r1.2.2.2.2.2.2.2.2.1.2.1.2, bX7 G q (o + 54) r1.2.2.2.2.2.2.2.2.2.1 r1.2.2.2.2.2.2.2.2.2.2.1 r1.2.2.2.2.2.2.2.2.2.2.2]) hS0 (c_X2_everyone l G q (o + 27) r1.2.2.2.2.1 r5 e6) zc_X2_everyone rfl gX10_ever_X2_everyone ⟨Nat.le_of_ble_eq_true rfl, Nat.le_of_ble_eq_true rfl⟩ hK hA hT hw (is := [6]) rfl rfl rfl rfl rfl rfl rfl hl.1 rfl (Nat.le_of_ble_eq_true rfl) dX10_ever_20 (fun H locs hw => ?_)
  refine lv_iload_n hx hb dX10_ever_23 rfl (lv_at hl 0 rfl) ?_
  refine lv_iconst (v := (-1)) hx hb dX10_ever_24 rfl ?_
  refine lv_ixor hx hb dX10_ever_25 ?_
  refine lv_iand hx hb dX10_ever_26 ?_
  obtain ⟨r7, e8, hf⟩ := z_bd hf
  refine z_callV0 (As := [.int (r5 &&& (r3 ^^^ ((-1) : Int32)))]) (rest := []) (bs' := [bX10 G q o, bX9 G q (o + 1) r7.1 r7.2.1 r7.2.2.1 r7.2.2.2.1 r7.2.2.2.2, bX6 G q (o + 3) r1.2.1.1 r1.2.1.2, bX8 G q (o + 12) r1.2.2.1.1 r1.2.2.1.2, bX5 G q (o + 19) r1.2.2.2.1.2.1 r1.2.2.2.1.2.2.1 r1.2.2.2.1.2.2.2.1 r1.2.2.2.1.2.2.2.2, bX2 G q ((o + 19) + 2) r1.2.2.2.1.1.1 r1.2.2.2.1.1.2.1 r1.2.2.2.1.1.2.2.1 r1.2.2.2.1.1.2.2.2.1 r1.2.2.2.1.1.2.2.2.2.1 r1.2.2.2.1.1.2.2.2.2.2.1 r1.2.2.2.1.1.2.2.2.2.2.2.1 r1.2.2.2.1.1.2.2.2.2.2.2.2, bX2 G q (o + 27) r1.2.2.2.2.1.1 r1.2.2.2.2.1.2.1 r1.2.2.2.2.1.2.2.1 r1.2.2.2.2.1.2.2.2.1 r1.2.2.2.2.1.2.2.2.2.1 r1.2.2.2.2.1.2.2.2.2.2.1 r1.2.2.2.2.1.2.2.2.2.2.2.1 r1.2.2.2.2.1.2.2.2.2.2.2.2, bX1 G q (o + 33) r1.2.2.2.2.2.1.1 r1.2.2.2.2.2.1.2.1 r1.2.2.2.2.2.1.2.2.1 r1.2.2.2.2.2.1.2.2.2, bX4 G q (o + 36) r1.2.2.2.2.2.2.1.1 r1.2.2.2.2.2.2.1.2, bX3 G q (o + 38) r1.2.2.2.2.2.2.2.1.1 r1.2.2.2.2.2.2.2.1.2.1 r1.2.2.2.2.2.2.2.1.2.2.1 r1.2.2.2.2.2.2.2.1.2.2.2, bX0 G q (o + 43) r1.2.2.2.2.2.2.2.2.1.2.2.1 r1.2.2.2.2.2.2.2.2.1.2.2.2, bX2 G q ((o + 43) + 3) r1.2.2.2.2.2.2.2.2.1.1.1 r1.2.2.2.2.2.2.2.2.1.1.2.1 r1.2.2.2.2.2.2.2.2.1.1.2.2.1 r1.2.2.2.2.2.2.2.2.1.1.2.2.2.1 r1.2.2.2.2.2.2.2.2.1.1.2.2.2.2.1 r1.2.2.2.2.2.2.2.2.1.1.2.2.2.2.2.1 r1.2.2.2.2.2.2.2.2.1.1.2.2.2.2.2.2.1 r1.2.2.2.2.2.2.2.2.1.1.2.2.2.2.2.2.2, bX4 G q ((o + 43) + 9) r1.2.2.2.2.2.2.2.2.1.2.1.1 r1.2.2.2.2.2.2.2.2.1.2.1.2, bX7 G q (o + 54) r1.2.2.2.2.2.2.2.2.2.1 r1.2.2.2.2.2.2.2.2.2.2.1 r1.2.2.2.2.2.2.2.2.2.2.2]) hS0 (c_X9_tell l G q (o + 1) r1.1 (r5 &&& (r3 ^^^ ((-1) : Int32))) r7 e8) zc_X9_tell rfl gX10_ever_X9_tell ⟨Nat.le_of_ble_eq_true rfl, Nat.le_of_ble_eq_true rfl⟩ hK hA hT hw (is := [1]) rfl rfl rfl rfl rfl rfl rfl hl.1 rfl (Nat.le_of_ble_eq_true rfl) dX10_ever_27 (fun H locs hw => ?_)
  refine lv_iload_n hx hb dX10_ever_30 rfl (lv_at hl 0 rfl) ?_
  cases hf
  exact z_iret hx hb hr hlk hw dX10_ever_31
theorem zc_X10_textRefusal : zC yX10_textRefusal wsX10_textRefusal cX10_textRefusal 2 (some .int) 1 := ⟨⟨_, rfl⟩, by decide +kernel, by decide +kernel, by decide +kernel, by decide +kernel⟩
theorem m_X10_textRefusal_0 : (.fieldLink RX10 26 "CellKeys" "texts" "LCellKeys$Texts;" : Cond) ∈ wsX10_textRefusal := by decide +kernel
theorem in_X10_textRefusal_X10 : ∀ w ∈ u_ws RX10 TX10 10, w ∈ wsX10_textRefusal := by decide +kernel
theorem m_X10_textRefusal_1 : (.fieldLink RX10 10 "CellKeys" "told" "LCellKeys$Told;" : Cond) ∈ wsX10_textRefusal := by decide +kernel
set_option maxHeartbeats 4000000 in
set_option maxRecDepth 100000 in
theorem c_X10_textRefusal (l : Launch) (G : zG) (q : Nat → Nat) (o : Nat) (S : VX10) (v1 : Int32) (y : Int32 × VX10) (hf : f_X10_textRefusal S v1 = some y) : zMet l yX10_textRefusal wsX10_textRefusal 3 63 G [.ref (q (o + 0)), .int v1] [bX10 G q o, bX9 G q (o + 1) S.1.1 S.1.2.1 S.1.2.2.1 S.1.2.2.2.1 S.1.2.2.2.2, bX6 G q (o + 3) S.2.1.1 S.2.1.2, bX8 G q (o + 12) S.2.2.1.1 S.2.2.1.2, bX5 G q (o + 19) S.2.2.2.1.2.1 S.2.2.2.1.2.2.1 S.2.2.2.1.2.2.2.1 S.2.2.2.1.2.2.2.2, bX2 G q ((o + 19) + 2) S.2.2.2.1.1.1 S.2.2.2.1.1.2.1 S.2.2.2.1.1.2.2.1 S.2.2.2.1.1.2.2.2.1 S.2.2.2.1.1.2.2.2.2.1 S.2.2.2.1.1.2.2.2.2.2.1 S.2.2.2.1.1.2.2.2.2.2.2.1 S.2.2.2.1.1.2.2.2.2.2.2.2, bX2 G q (o + 27) S.2.2.2.2.1.1 S.2.2.2.2.1.2.1 S.2.2.2.2.1.2.2.1 S.2.2.2.2.1.2.2.2.1 S.2.2.2.2.1.2.2.2.2.1 S.2.2.2.2.1.2.2.2.2.2.1 S.2.2.2.2.1.2.2.2.2.2.2.1 S.2.2.2.2.1.2.2.2.2.2.2.2, bX1 G q (o + 33) S.2.2.2.2.2.1.1 S.2.2.2.2.2.1.2.1 S.2.2.2.2.2.1.2.2.1 S.2.2.2.2.2.1.2.2.2, bX4 G q (o + 36) S.2.2.2.2.2.2.1.1 S.2.2.2.2.2.2.1.2, bX3 G q (o + 38) S.2.2.2.2.2.2.2.1.1 S.2.2.2.2.2.2.2.1.2.1 S.2.2.2.2.2.2.2.1.2.2.1 S.2.2.2.2.2.2.2.1.2.2.2, bX0 G q (o + 43) S.2.2.2.2.2.2.2.2.1.2.2.1 S.2.2.2.2.2.2.2.2.1.2.2.2, bX2 G q ((o + 43) + 3) S.2.2.2.2.2.2.2.2.1.1.1 S.2.2.2.2.2.2.2.2.1.1.2.1 S.2.2.2.2.2.2.2.2.1.1.2.2.1 S.2.2.2.2.2.2.2.2.1.1.2.2.2.1 S.2.2.2.2.2.2.2.2.1.1.2.2.2.2.1 S.2.2.2.2.2.2.2.2.1.1.2.2.2.2.2.1 S.2.2.2.2.2.2.2.2.1.1.2.2.2.2.2.2.1 S.2.2.2.2.2.2.2.2.1.1.2.2.2.2.2.2.2, bX4 G q ((o + 43) + 9) S.2.2.2.2.2.2.2.2.1.2.1.1 S.2.2.2.2.2.2.2.2.1.2.1.2, bX7 G q (o + 54) S.2.2.2.2.2.2.2.2.2.1 S.2.2.2.2.2.2.2.2.2.2.1 S.2.2.2.2.2.2.2.2.2.2.2] (some (.int y.1)) [bX10 G q o, bX9 G q (o + 1) y.2.1.1 y.2.1.2.1 y.2.1.2.2.1 y.2.1.2.2.2.1 y.2.1.2.2.2.2, bX6 G q (o + 3) y.2.2.1.1 y.2.2.1.2, bX8 G q (o + 12) y.2.2.2.1.1 y.2.2.2.1.2, bX5 G q (o + 19) y.2.2.2.2.1.2.1 y.2.2.2.2.1.2.2.1 y.2.2.2.2.1.2.2.2.1 y.2.2.2.2.1.2.2.2.2, bX2 G q ((o + 19) + 2) y.2.2.2.2.1.1.1 y.2.2.2.2.1.1.2.1 y.2.2.2.2.1.1.2.2.1 y.2.2.2.2.1.1.2.2.2.1 y.2.2.2.2.1.1.2.2.2.2.1 y.2.2.2.2.1.1.2.2.2.2.2.1 y.2.2.2.2.1.1.2.2.2.2.2.2.1 y.2.2.2.2.1.1.2.2.2.2.2.2.2, bX2 G q (o + 27) y.2.2.2.2.2.1.1 y.2.2.2.2.2.1.2.1 y.2.2.2.2.2.1.2.2.1 y.2.2.2.2.2.1.2.2.2.1 y.2.2.2.2.2.1.2.2.2.2.1 y.2.2.2.2.2.1.2.2.2.2.2.1 y.2.2.2.2.2.1.2.2.2.2.2.2.1 y.2.2.2.2.2.1.2.2.2.2.2.2.2, bX1 G q (o + 33) y.2.2.2.2.2.2.1.1 y.2.2.2.2.2.2.1.2.1 y.2.2.2.2.2.2.1.2.2.1 y.2.2.2.2.2.2.1.2.2.2, bX4 G q (o + 36) y.2.2.2.2.2.2.2.1.1 y.2.2.2.2.2.2.2.1.2, bX3 G q (o + 38) y.2.2.2.2.2.2.2.2.1.1 y.2.2.2.2.2.2.2.2.1.2.1 y.2.2.2.2.2.2.2.2.1.2.2.1 y.2.2.2.2.2.2.2.2.1.2.2.2, bX0 G q (o + 43) y.2.2.2.2.2.2.2.2.2.1.2.2.1 y.2.2.2.2.2.2.2.2.2.1.2.2.2, bX2 G q ((o + 43) + 3) y.2.2.2.2.2.2.2.2.2.1.1.1 y.2.2.2.2.2.2.2.2.2.1.1.2.1 y.2.2.2.2.2.2.2.2.2.1.1.2.2.1 y.2.2.2.2.2.2.2.2.2.1.1.2.2.2.1 y.2.2.2.2.2.2.2.2.2.1.1.2.2.2.2.1 y.2.2.2.2.2.2.2.2.2.1.1.2.2.2.2.2.1 y.2.2.2.2.2.2.2.2.2.1.1.2.2.2.2.2.2.1 y.2.2.2.2.2.2.2.2.2.1.1.2.2.2.2.2.2.2, bX4 G q ((o + 43) + 9) y.2.2.2.2.2.2.2.2.2.1.2.1.1 y.2.2.2.2.2.2.2.2.2.1.2.1.2, bX7 G q (o + 54) y.2.2.2.2.2.2.2.2.2.2.1 y.2.2.2.2.2.2.2.2.2.2.2.1 y.2.2.2.2.2.2.2.2.2.2.2.2] := by
  refine z_met zc_X10_textRefusal (Nat.le_of_ble_eq_true rfl) ?_
  intro p e s m below meth c A ls hZ hl hw
  have hl : lv_has ls 2 [(0, .ref (q (o + 0))), (1, .int v1)] := hl
  obtain ⟨hS0, hr, hlk, hK, hA, hT⟩ := id hZ
  have hx := hS0.1
  have hb := hS0.2.1
  have hml := hS0.2.2.1
  have hown : s.vm.findClass RX10 = some m.cls := hS0.2.2.2.1
  have hts := hS0.2.2.2.2
  unfold f_X10_textRefusal at hf
  refine lv_aload_n hx hb dX10_textRefusal_0 rfl (lv_at hl 0 rfl) ?_
  refine z_get hS0 in_X10_textRefusal_X10 hK hw 0 2 rfl rfl rfl (by decide) (hts _ m_X10_textRefusal_0) (v := .ref (q ((o + 12) + 0))) rfl dX10_textRefusal_1 ?_
  refine lv_iload_n hx hb dX10_textRefusal_4 rfl (lv_at hl 1 rfl) ?_
  obtain ⟨r1, e2, hf⟩ := z_bd hf
  refine z_callV1 (As := [.int v1]) (rest := []) (bs' := [bX10 G q o, bX9 G q (o + 1) S.1.1 S.1.2.1 S.1.2.2.1 S.1.2.2.2.1 S.1.2.2.2.2, bX6 G q (o + 3) S.2.1.1 S.2.1.2, bX8 G q (o + 12) S.2.2.1.1 S.2.2.1.2, bX5 G q (o + 19) S.2.2.2.1.2.1 S.2.2.2.1.2.2.1 S.2.2.2.1.2.2.2.1 S.2.2.2.1.2.2.2.2, bX2 G q ((o + 19) + 2) S.2.2.2.1.1.1 S.2.2.2.1.1.2.1 S.2.2.2.1.1.2.2.1 S.2.2.2.1.1.2.2.2.1 S.2.2.2.1.1.2.2.2.2.1 S.2.2.2.1.1.2.2.2.2.2.1 S.2.2.2.1.1.2.2.2.2.2.2.1 S.2.2.2.1.1.2.2.2.2.2.2.2, bX2 G q (o + 27) S.2.2.2.2.1.1 S.2.2.2.2.1.2.1 S.2.2.2.2.1.2.2.1 S.2.2.2.2.1.2.2.2.1 S.2.2.2.2.1.2.2.2.2.1 S.2.2.2.2.1.2.2.2.2.2.1 S.2.2.2.2.1.2.2.2.2.2.2.1 S.2.2.2.2.1.2.2.2.2.2.2.2, bX1 G q (o + 33) S.2.2.2.2.2.1.1 S.2.2.2.2.2.1.2.1 S.2.2.2.2.2.1.2.2.1 S.2.2.2.2.2.1.2.2.2, bX4 G q (o + 36) S.2.2.2.2.2.2.1.1 S.2.2.2.2.2.2.1.2, bX3 G q (o + 38) S.2.2.2.2.2.2.2.1.1 S.2.2.2.2.2.2.2.1.2.1 S.2.2.2.2.2.2.2.1.2.2.1 S.2.2.2.2.2.2.2.1.2.2.2, bX0 G q (o + 43) S.2.2.2.2.2.2.2.2.1.2.2.1 S.2.2.2.2.2.2.2.2.1.2.2.2, bX2 G q ((o + 43) + 3) S.2.2.2.2.2.2.2.2.1.1.1 S.2.2.2.2.2.2.2.2.1.1.2.1 S.2.2.2.2.2.2.2.2.1.1.2.2.1 S.2.2.2.2.2.2.2.2.1.1.2.2.2.1 S.2.2.2.2.2.2.2.2.1.1.2.2.2.2.1 S.2.2.2.2.2.2.2.2.1.1.2.2.2.2.2.1 S.2.2.2.2.2.2.2.2.1.1.2.2.2.2.2.2.1 S.2.2.2.2.2.2.2.2.1.1.2.2.2.2.2.2.2, bX4 G q ((o + 43) + 9) S.2.2.2.2.2.2.2.2.1.2.1.1 S.2.2.2.2.2.2.2.2.1.2.1.2, bX7 G q (o + 54) S.2.2.2.2.2.2.2.2.2.1 S.2.2.2.2.2.2.2.2.2.2.1 S.2.2.2.2.2.2.2.2.2.2.2]) hS0 (c_X8_isNumber l G q (o + 12) S.2.2.1 v1 r1 e2) zc_X8_isNumber rfl gX10_textRefusal_X8_isNumber ⟨Nat.le_of_ble_eq_true rfl, Nat.le_of_ble_eq_true rfl⟩ hK hA hT hw (is := [3]) rfl rfl rfl rfl rfl rfl rfl hl.1 rfl (Nat.le_of_ble_eq_true rfl) dX10_textRefusal_5 (fun H locs hw => ?_)
  refine lv_if_ne (tgt := 13) hx hb dX10_textRefusal_8 rfl (fun hc => ?_) (fun hc => ?_)
  · have hf := z_f hc hf
    refine lv_aload_n hx hb dX10_textRefusal_13 rfl (lv_at hl 0 rfl) ?_
    refine z_get hS0 in_X10_textRefusal_X10 hK hw 0 2 rfl rfl rfl (by decide) (hts _ m_X10_textRefusal_0) (v := .ref (q ((o + 12) + 0))) rfl dX10_textRefusal_14 ?_
    refine lv_iload_n hx hb dX10_textRefusal_17 rfl (lv_at hl 1 rfl) ?_
    obtain ⟨r3, e4, hf⟩ := z_bd hf
    refine z_callV1 (As := [.int v1]) (rest := []) (bs' := [bX10 G q o, bX9 G q (o + 1) S.1.1 S.1.2.1 S.1.2.2.1 S.1.2.2.2.1 S.1.2.2.2.2, bX6 G q (o + 3) S.2.1.1 S.2.1.2, bX8 G q (o + 12) S.2.2.1.1 S.2.2.1.2, bX5 G q (o + 19) S.2.2.2.1.2.1 S.2.2.2.1.2.2.1 S.2.2.2.1.2.2.2.1 S.2.2.2.1.2.2.2.2, bX2 G q ((o + 19) + 2) S.2.2.2.1.1.1 S.2.2.2.1.1.2.1 S.2.2.2.1.1.2.2.1 S.2.2.2.1.1.2.2.2.1 S.2.2.2.1.1.2.2.2.2.1 S.2.2.2.1.1.2.2.2.2.2.1 S.2.2.2.1.1.2.2.2.2.2.2.1 S.2.2.2.1.1.2.2.2.2.2.2.2, bX2 G q (o + 27) S.2.2.2.2.1.1 S.2.2.2.2.1.2.1 S.2.2.2.2.1.2.2.1 S.2.2.2.2.1.2.2.2.1 S.2.2.2.2.1.2.2.2.2.1 S.2.2.2.2.1.2.2.2.2.2.1 S.2.2.2.2.1.2.2.2.2.2.2.1 S.2.2.2.2.1.2.2.2.2.2.2.2, bX1 G q (o + 33) S.2.2.2.2.2.1.1 S.2.2.2.2.2.1.2.1 S.2.2.2.2.2.1.2.2.1 S.2.2.2.2.2.1.2.2.2, bX4 G q (o + 36) S.2.2.2.2.2.2.1.1 S.2.2.2.2.2.2.1.2, bX3 G q (o + 38) S.2.2.2.2.2.2.2.1.1 S.2.2.2.2.2.2.2.1.2.1 S.2.2.2.2.2.2.2.1.2.2.1 S.2.2.2.2.2.2.2.1.2.2.2, bX0 G q (o + 43) S.2.2.2.2.2.2.2.2.1.2.2.1 S.2.2.2.2.2.2.2.2.1.2.2.2, bX2 G q ((o + 43) + 3) S.2.2.2.2.2.2.2.2.1.1.1 S.2.2.2.2.2.2.2.2.1.1.2.1 S.2.2.2.2.2.2.2.2.1.1.2.2.1 S.2.2.2.2.2.2.2.2.1.1.2.2.2.1 S.2.2.2.2.2.2.2.2.1.1.2.2.2.2.1 S.2.2.2.2.2.2.2.2.1.1.2.2.2.2.2.1 S.2.2.2.2.2.2.2.2.1.1.2.2.2.2.2.2.1 S.2.2.2.2.2.2.2.2.1.1.2.2.2.2.2.2.2, bX4 G q ((o + 43) + 9) S.2.2.2.2.2.2.2.2.1.2.1.1 S.2.2.2.2.2.2.2.2.1.2.1.2, bX7 G q (o + 54) S.2.2.2.2.2.2.2.2.2.1 S.2.2.2.2.2.2.2.2.2.2.1 S.2.2.2.2.2.2.2.2.2.2.2]) hS0 (c_X8_isThere l G q (o + 12) S.2.2.1 v1 r3 e4) zc_X8_isThere rfl gX10_textRefusal_X8_isThere ⟨Nat.le_of_ble_eq_true rfl, Nat.le_of_ble_eq_true rfl⟩ hK hA hT hw (is := [3]) rfl rfl rfl rfl rfl rfl rfl hl.1 rfl (Nat.le_of_ble_eq_true rfl) dX10_textRefusal_18 (fun H locs hw => ?_)
    refine lv_if_eq (tgt := 28) hx hb dX10_textRefusal_21 rfl (fun hc => ?_) (fun hc => ?_)
    · have hf := z_t hc hf
      refine lv_aload_n hx hb dX10_textRefusal_28 rfl (lv_at hl 0 rfl) ?_
      refine z_get hS0 in_X10_textRefusal_X10 hK hw 0 0 rfl rfl rfl (by decide) (hts _ m_X10_textRefusal_1) (v := .ref (q ((o + 1) + 0))) rfl dX10_textRefusal_29 ?_
      refine lv_iconst (v := 1) hx hb dX10_textRefusal_32 rfl ?_
      obtain ⟨r5, e6, hf⟩ := z_bd hf
      refine z_callV1 (As := [.int 1]) (rest := []) (bs' := [bX10 G q o, bX9 G q (o + 1) r5.2.1 r5.2.2.1 r5.2.2.2.1 r5.2.2.2.2.1 r5.2.2.2.2.2, bX6 G q (o + 3) S.2.1.1 S.2.1.2, bX8 G q (o + 12) S.2.2.1.1 S.2.2.1.2, bX5 G q (o + 19) S.2.2.2.1.2.1 S.2.2.2.1.2.2.1 S.2.2.2.1.2.2.2.1 S.2.2.2.1.2.2.2.2, bX2 G q ((o + 19) + 2) S.2.2.2.1.1.1 S.2.2.2.1.1.2.1 S.2.2.2.1.1.2.2.1 S.2.2.2.1.1.2.2.2.1 S.2.2.2.1.1.2.2.2.2.1 S.2.2.2.1.1.2.2.2.2.2.1 S.2.2.2.1.1.2.2.2.2.2.2.1 S.2.2.2.1.1.2.2.2.2.2.2.2, bX2 G q (o + 27) S.2.2.2.2.1.1 S.2.2.2.2.1.2.1 S.2.2.2.2.1.2.2.1 S.2.2.2.2.1.2.2.2.1 S.2.2.2.2.1.2.2.2.2.1 S.2.2.2.2.1.2.2.2.2.2.1 S.2.2.2.2.1.2.2.2.2.2.2.1 S.2.2.2.2.1.2.2.2.2.2.2.2, bX1 G q (o + 33) S.2.2.2.2.2.1.1 S.2.2.2.2.2.1.2.1 S.2.2.2.2.2.1.2.2.1 S.2.2.2.2.2.1.2.2.2, bX4 G q (o + 36) S.2.2.2.2.2.2.1.1 S.2.2.2.2.2.2.1.2, bX3 G q (o + 38) S.2.2.2.2.2.2.2.1.1 S.2.2.2.2.2.2.2.1.2.1 S.2.2.2.2.2.2.2.1.2.2.1 S.2.2.2.2.2.2.2.1.2.2.2, bX0 G q (o + 43) S.2.2.2.2.2.2.2.2.1.2.2.1 S.2.2.2.2.2.2.2.2.1.2.2.2, bX2 G q ((o + 43) + 3) S.2.2.2.2.2.2.2.2.1.1.1 S.2.2.2.2.2.2.2.2.1.1.2.1 S.2.2.2.2.2.2.2.2.1.1.2.2.1 S.2.2.2.2.2.2.2.2.1.1.2.2.2.1 S.2.2.2.2.2.2.2.2.1.1.2.2.2.2.1 S.2.2.2.2.2.2.2.2.1.1.2.2.2.2.2.1 S.2.2.2.2.2.2.2.2.1.1.2.2.2.2.2.2.1 S.2.2.2.2.2.2.2.2.1.1.2.2.2.2.2.2.2, bX4 G q ((o + 43) + 9) S.2.2.2.2.2.2.2.2.1.2.1.1 S.2.2.2.2.2.2.2.2.1.2.1.2, bX7 G q (o + 54) S.2.2.2.2.2.2.2.2.2.1 S.2.2.2.2.2.2.2.2.2.2.1 S.2.2.2.2.2.2.2.2.2.2.2]) hS0 (c_X9_found l G q (o + 1) S.1 1 r5 e6) zc_X9_found rfl gX10_textRefusal_X9_found ⟨Nat.le_of_ble_eq_true rfl, Nat.le_of_ble_eq_true rfl⟩ hK hA hT hw (is := [1]) rfl rfl rfl rfl rfl rfl rfl hl.1 rfl (Nat.le_of_ble_eq_true rfl) dX10_textRefusal_33 (fun H locs hw => ?_)
      cases hf
      exact z_iret hx hb hr hlk hw dX10_textRefusal_36
    · have hf := z_f hc hf
      refine lv_iconst (v := 0) hx hb dX10_textRefusal_24 rfl ?_
      refine lv_goto (tgt := 36) hx hb dX10_textRefusal_25 rfl ?_
      cases hf
      exact z_iret hx hb hr hlk hw dX10_textRefusal_36
  · have hf := z_t hc hf
    refine lv_iconst (v := (-1)) hx hb dX10_textRefusal_11 rfl ?_
    cases hf
    exact z_iret hx hb hr hlk hw dX10_textRefusal_12
theorem zc_X10_fault : zC yX10_fault wsX10_fault cX10_fault 3 (some .int) 1 := ⟨⟨_, rfl⟩, by decide +kernel, by decide +kernel, by decide +kernel, by decide +kernel⟩
theorem m_X10_fault_0 : (.fieldLink RX10 33 "CellKeys" "reader" "LCellKeys$Reader;" : Cond) ∈ wsX10_fault := by decide +kernel
theorem in_X10_fault_X10 : ∀ w ∈ u_ws RX10 TX10 10, w ∈ wsX10_fault := by decide +kernel
theorem m_X10_fault_1 : (.fieldLink RX10 26 "CellKeys" "texts" "LCellKeys$Texts;" : Cond) ∈ wsX10_fault := by decide +kernel
set_option maxHeartbeats 4000000 in
set_option maxRecDepth 100000 in
theorem c_X10_fault (l : Launch) (G : zG) (q : Nat → Nat) (o : Nat) (S : VX10) (v1 : Int32) (y : Int32 × VX10) (hf : f_X10_fault S v1 = some y) : zMet l yX10_fault wsX10_fault 6 141 G [.ref (q (o + 0)), .int v1] [bX10 G q o, bX9 G q (o + 1) S.1.1 S.1.2.1 S.1.2.2.1 S.1.2.2.2.1 S.1.2.2.2.2, bX6 G q (o + 3) S.2.1.1 S.2.1.2, bX8 G q (o + 12) S.2.2.1.1 S.2.2.1.2, bX5 G q (o + 19) S.2.2.2.1.2.1 S.2.2.2.1.2.2.1 S.2.2.2.1.2.2.2.1 S.2.2.2.1.2.2.2.2, bX2 G q ((o + 19) + 2) S.2.2.2.1.1.1 S.2.2.2.1.1.2.1 S.2.2.2.1.1.2.2.1 S.2.2.2.1.1.2.2.2.1 S.2.2.2.1.1.2.2.2.2.1 S.2.2.2.1.1.2.2.2.2.2.1 S.2.2.2.1.1.2.2.2.2.2.2.1 S.2.2.2.1.1.2.2.2.2.2.2.2, bX2 G q (o + 27) S.2.2.2.2.1.1 S.2.2.2.2.1.2.1 S.2.2.2.2.1.2.2.1 S.2.2.2.2.1.2.2.2.1 S.2.2.2.2.1.2.2.2.2.1 S.2.2.2.2.1.2.2.2.2.2.1 S.2.2.2.2.1.2.2.2.2.2.2.1 S.2.2.2.2.1.2.2.2.2.2.2.2, bX1 G q (o + 33) S.2.2.2.2.2.1.1 S.2.2.2.2.2.1.2.1 S.2.2.2.2.2.1.2.2.1 S.2.2.2.2.2.1.2.2.2, bX4 G q (o + 36) S.2.2.2.2.2.2.1.1 S.2.2.2.2.2.2.1.2, bX3 G q (o + 38) S.2.2.2.2.2.2.2.1.1 S.2.2.2.2.2.2.2.1.2.1 S.2.2.2.2.2.2.2.1.2.2.1 S.2.2.2.2.2.2.2.1.2.2.2, bX0 G q (o + 43) S.2.2.2.2.2.2.2.2.1.2.2.1 S.2.2.2.2.2.2.2.2.1.2.2.2, bX2 G q ((o + 43) + 3) S.2.2.2.2.2.2.2.2.1.1.1 S.2.2.2.2.2.2.2.2.1.1.2.1 S.2.2.2.2.2.2.2.2.1.1.2.2.1 S.2.2.2.2.2.2.2.2.1.1.2.2.2.1 S.2.2.2.2.2.2.2.2.1.1.2.2.2.2.1 S.2.2.2.2.2.2.2.2.1.1.2.2.2.2.2.1 S.2.2.2.2.2.2.2.2.1.1.2.2.2.2.2.2.1 S.2.2.2.2.2.2.2.2.1.1.2.2.2.2.2.2.2, bX4 G q ((o + 43) + 9) S.2.2.2.2.2.2.2.2.1.2.1.1 S.2.2.2.2.2.2.2.2.1.2.1.2, bX7 G q (o + 54) S.2.2.2.2.2.2.2.2.2.1 S.2.2.2.2.2.2.2.2.2.2.1 S.2.2.2.2.2.2.2.2.2.2.2] (some (.int y.1)) [bX10 G q o, bX9 G q (o + 1) y.2.1.1 y.2.1.2.1 y.2.1.2.2.1 y.2.1.2.2.2.1 y.2.1.2.2.2.2, bX6 G q (o + 3) y.2.2.1.1 y.2.2.1.2, bX8 G q (o + 12) y.2.2.2.1.1 y.2.2.2.1.2, bX5 G q (o + 19) y.2.2.2.2.1.2.1 y.2.2.2.2.1.2.2.1 y.2.2.2.2.1.2.2.2.1 y.2.2.2.2.1.2.2.2.2, bX2 G q ((o + 19) + 2) y.2.2.2.2.1.1.1 y.2.2.2.2.1.1.2.1 y.2.2.2.2.1.1.2.2.1 y.2.2.2.2.1.1.2.2.2.1 y.2.2.2.2.1.1.2.2.2.2.1 y.2.2.2.2.1.1.2.2.2.2.2.1 y.2.2.2.2.1.1.2.2.2.2.2.2.1 y.2.2.2.2.1.1.2.2.2.2.2.2.2, bX2 G q (o + 27) y.2.2.2.2.2.1.1 y.2.2.2.2.2.1.2.1 y.2.2.2.2.2.1.2.2.1 y.2.2.2.2.2.1.2.2.2.1 y.2.2.2.2.2.1.2.2.2.2.1 y.2.2.2.2.2.1.2.2.2.2.2.1 y.2.2.2.2.2.1.2.2.2.2.2.2.1 y.2.2.2.2.2.1.2.2.2.2.2.2.2, bX1 G q (o + 33) y.2.2.2.2.2.2.1.1 y.2.2.2.2.2.2.1.2.1 y.2.2.2.2.2.2.1.2.2.1 y.2.2.2.2.2.2.1.2.2.2, bX4 G q (o + 36) y.2.2.2.2.2.2.2.1.1 y.2.2.2.2.2.2.2.1.2, bX3 G q (o + 38) y.2.2.2.2.2.2.2.2.1.1 y.2.2.2.2.2.2.2.2.1.2.1 y.2.2.2.2.2.2.2.2.1.2.2.1 y.2.2.2.2.2.2.2.2.1.2.2.2, bX0 G q (o + 43) y.2.2.2.2.2.2.2.2.2.1.2.2.1 y.2.2.2.2.2.2.2.2.2.1.2.2.2, bX2 G q ((o + 43) + 3) y.2.2.2.2.2.2.2.2.2.1.1.1 y.2.2.2.2.2.2.2.2.2.1.1.2.1 y.2.2.2.2.2.2.2.2.2.1.1.2.2.1 y.2.2.2.2.2.2.2.2.2.1.1.2.2.2.1 y.2.2.2.2.2.2.2.2.2.1.1.2.2.2.2.1 y.2.2.2.2.2.2.2.2.2.1.1.2.2.2.2.2.1 y.2.2.2.2.2.2.2.2.2.1.1.2.2.2.2.2.2.1 y.2.2.2.2.2.2.2.2.2.1.1.2.2.2.2.2.2.2, bX4 G q ((o + 43) + 9) y.2.2.2.2.2.2.2.2.2.1.2.1.1 y.2.2.2.2.2.2.2.2.2.1.2.1.2, bX7 G q (o + 54) y.2.2.2.2.2.2.2.2.2.2.1 y.2.2.2.2.2.2.2.2.2.2.2.1 y.2.2.2.2.2.2.2.2.2.2.2.2] := by
  refine z_met zc_X10_fault (Nat.le_of_ble_eq_true rfl) ?_
  intro p e s m below meth c A ls hZ hl hw
  have hl : lv_has ls 3 [(0, .ref (q (o + 0))), (1, .int v1)] := hl
  obtain ⟨hS0, hr, hlk, hK, hA, hT⟩ := id hZ
  have hx := hS0.1
  have hb := hS0.2.1
  have hml := hS0.2.2.1
  have hown : s.vm.findClass RX10 = some m.cls := hS0.2.2.2.1
  have hts := hS0.2.2.2.2
  unfold f_X10_fault at hf
  refine lv_aload_n hx hb dX10_fault_0 rfl (lv_at hl 0 rfl) ?_
  refine lv_iload_n hx hb dX10_fault_1 rfl (lv_at hl 1 rfl) ?_
  obtain ⟨r1, e2, hf⟩ := z_bd hf
  refine z_callV1 (As := [.int v1]) (rest := []) (bs' := [bX10 G q o, bX9 G q (o + 1) r1.2.1.1 r1.2.1.2.1 r1.2.1.2.2.1 r1.2.1.2.2.2.1 r1.2.1.2.2.2.2, bX6 G q (o + 3) r1.2.2.1.1 r1.2.2.1.2, bX8 G q (o + 12) r1.2.2.2.1.1 r1.2.2.2.1.2, bX5 G q (o + 19) r1.2.2.2.2.1.2.1 r1.2.2.2.2.1.2.2.1 r1.2.2.2.2.1.2.2.2.1 r1.2.2.2.2.1.2.2.2.2, bX2 G q ((o + 19) + 2) r1.2.2.2.2.1.1.1 r1.2.2.2.2.1.1.2.1 r1.2.2.2.2.1.1.2.2.1 r1.2.2.2.2.1.1.2.2.2.1 r1.2.2.2.2.1.1.2.2.2.2.1 r1.2.2.2.2.1.1.2.2.2.2.2.1 r1.2.2.2.2.1.1.2.2.2.2.2.2.1 r1.2.2.2.2.1.1.2.2.2.2.2.2.2, bX2 G q (o + 27) r1.2.2.2.2.2.1.1 r1.2.2.2.2.2.1.2.1 r1.2.2.2.2.2.1.2.2.1 r1.2.2.2.2.2.1.2.2.2.1 r1.2.2.2.2.2.1.2.2.2.2.1 r1.2.2.2.2.2.1.2.2.2.2.2.1 r1.2.2.2.2.2.1.2.2.2.2.2.2.1 r1.2.2.2.2.2.1.2.2.2.2.2.2.2, bX1 G q (o + 33) r1.2.2.2.2.2.2.1.1 r1.2.2.2.2.2.2.1.2.1 r1.2.2.2.2.2.2.1.2.2.1 r1.2.2.2.2.2.2.1.2.2.2, bX4 G q (o + 36) r1.2.2.2.2.2.2.2.1.1 r1.2.2.2.2.2.2.2.1.2, bX3 G q (o + 38) r1.2.2.2.2.2.2.2.2.1.1 r1.2.2.2.2.2.2.2.2.1.2.1 r1.2.2.2.2.2.2.2.2.1.2.2.1 r1.2.2.2.2.2.2.2.2.1.2.2.2, bX0 G q (o + 43) r1.2.2.2.2.2.2.2.2.2.1.2.2.1 r1.2.2.2.2.2.2.2.2.2.1.2.2.2, bX2 G q ((o + 43) + 3) r1.2.2.2.2.2.2.2.2.2.1.1.1 r1.2.2.2.2.2.2.2.2.2.1.1.2.1 r1.2.2.2.2.2.2.2.2.2.1.1.2.2.1 r1.2.2.2.2.2.2.2.2.2.1.1.2.2.2.1 r1.2.2.2.2.2.2.2.2.2.1.1.2.2.2.2.1 r1.2.2.2.2.2.2.2.2.2.1.1.2.2.2.2.2.1 r1.2.2.2.2.2.2.2.2.2.1.1.2.2.2.2.2.2.1 r1.2.2.2.2.2.2.2.2.2.1.1.2.2.2.2.2.2.2, bX4 G q ((o + 43) + 9) r1.2.2.2.2.2.2.2.2.2.1.2.1.1 r1.2.2.2.2.2.2.2.2.2.1.2.1.2, bX7 G q (o + 54) r1.2.2.2.2.2.2.2.2.2.2.1 r1.2.2.2.2.2.2.2.2.2.2.2.1 r1.2.2.2.2.2.2.2.2.2.2.2.2]) hS0 (c_X10_textRefusal l G q o S v1 r1 e2) zc_X10_textRefusal rfl gX10_fault_X10_textRefusal ⟨Nat.le_of_ble_eq_true rfl, Nat.le_of_ble_eq_true rfl⟩ hK hA hT hw (is := [0, 1, 2, 3, 4, 5, 6, 7, 8, 9, 10, 11, 12, 13]) rfl rfl rfl rfl rfl rfl rfl hl.1 rfl (Nat.le_of_ble_eq_true rfl) dX10_fault_2 (fun H locs hw => ?_)
  refine lv_istore_n (lv' := [(2, .int r1.1), (0, .ref (q (o + 0))), (1, .int v1)]) hx hb dX10_fault_5 rfl hl (by decide) rfl (fun ls hl => ?_)
  refine lv_iload_n hx hb dX10_fault_6 rfl (lv_at hl 0 rfl) ?_
  refine lv_if_eq (tgt := 12) hx hb dX10_fault_7 rfl (fun hc => ?_) (fun hc => ?_)
  · have hf := z_t hc hf
    refine lv_aload_n hx hb dX10_fault_12 rfl (lv_at hl 1 rfl) ?_
    refine z_get hS0 in_X10_fault_X10 hK hw 0 3 rfl rfl rfl (by decide) (hts _ m_X10_fault_0) (v := .ref (q ((o + 19) + 0))) rfl dX10_fault_13 ?_
    refine lv_aload_n hx hb dX10_fault_16 rfl (lv_at hl 1 rfl) ?_
    refine z_get hS0 in_X10_fault_X10 hK hw 0 2 rfl rfl rfl (by decide) (hts _ m_X10_fault_1) (v := .ref (q ((o + 12) + 0))) rfl dX10_fault_17 ?_
    refine lv_iload_n hx hb dX10_fault_20 rfl (lv_at hl 2 rfl) ?_
    obtain ⟨r3, e4, hf⟩ := z_bd hf
    refine z_callV1 (As := [.ref (q ((o + 12) + 0)), .int v1]) (rest := []) (bs' := [bX10 G q o, bX9 G q (o + 1) r1.2.1.1 r1.2.1.2.1 r1.2.1.2.2.1 r1.2.1.2.2.2.1 r1.2.1.2.2.2.2, bX6 G q (o + 3) r1.2.2.1.1 r1.2.2.1.2, bX8 G q (o + 12) r1.2.2.2.1.1 r1.2.2.2.1.2, bX5 G q (o + 19) r3.2.2.1 r3.2.2.2.1 r3.2.2.2.2.1 r3.2.2.2.2.2, bX2 G q ((o + 19) + 2) r3.2.1.1 r3.2.1.2.1 r3.2.1.2.2.1 r3.2.1.2.2.2.1 r3.2.1.2.2.2.2.1 r3.2.1.2.2.2.2.2.1 r3.2.1.2.2.2.2.2.2.1 r3.2.1.2.2.2.2.2.2.2, bX2 G q (o + 27) r1.2.2.2.2.2.1.1 r1.2.2.2.2.2.1.2.1 r1.2.2.2.2.2.1.2.2.1 r1.2.2.2.2.2.1.2.2.2.1 r1.2.2.2.2.2.1.2.2.2.2.1 r1.2.2.2.2.2.1.2.2.2.2.2.1 r1.2.2.2.2.2.1.2.2.2.2.2.2.1 r1.2.2.2.2.2.1.2.2.2.2.2.2.2, bX1 G q (o + 33) r1.2.2.2.2.2.2.1.1 r1.2.2.2.2.2.2.1.2.1 r1.2.2.2.2.2.2.1.2.2.1 r1.2.2.2.2.2.2.1.2.2.2, bX4 G q (o + 36) r1.2.2.2.2.2.2.2.1.1 r1.2.2.2.2.2.2.2.1.2, bX3 G q (o + 38) r1.2.2.2.2.2.2.2.2.1.1 r1.2.2.2.2.2.2.2.2.1.2.1 r1.2.2.2.2.2.2.2.2.1.2.2.1 r1.2.2.2.2.2.2.2.2.1.2.2.2, bX0 G q (o + 43) r1.2.2.2.2.2.2.2.2.2.1.2.2.1 r1.2.2.2.2.2.2.2.2.2.1.2.2.2, bX2 G q ((o + 43) + 3) r1.2.2.2.2.2.2.2.2.2.1.1.1 r1.2.2.2.2.2.2.2.2.2.1.1.2.1 r1.2.2.2.2.2.2.2.2.2.1.1.2.2.1 r1.2.2.2.2.2.2.2.2.2.1.1.2.2.2.1 r1.2.2.2.2.2.2.2.2.2.1.1.2.2.2.2.1 r1.2.2.2.2.2.2.2.2.2.1.1.2.2.2.2.2.1 r1.2.2.2.2.2.2.2.2.2.1.1.2.2.2.2.2.2.1 r1.2.2.2.2.2.2.2.2.2.1.1.2.2.2.2.2.2.2, bX4 G q ((o + 43) + 9) r1.2.2.2.2.2.2.2.2.2.1.2.1.1 r1.2.2.2.2.2.2.2.2.2.1.2.1.2, bX7 G q (o + 54) r1.2.2.2.2.2.2.2.2.2.2.1 r1.2.2.2.2.2.2.2.2.2.2.2.1 r1.2.2.2.2.2.2.2.2.2.2.2.2]) hS0 (c_X5_read l G q (o + 19) q (o + 12) r1.2.2.2.2.1 r1.2.2.2.1 v1 r3 e4) zc_X5_read rfl gX10_fault_X5_read ⟨Nat.le_of_ble_eq_true rfl, Nat.le_of_ble_eq_true rfl⟩ hK hA hT hw (is := [4, 5, 3]) rfl rfl rfl rfl rfl rfl rfl hl.1 rfl (Nat.le_of_ble_eq_true rfl) dX10_fault_21 (fun H locs hw => ?_)
    cases hf
    exact z_iret hx hb hr hlk hw dX10_fault_24
  · have hf := z_f hc hf
    refine lv_iload_n hx hb dX10_fault_10 rfl (lv_at hl 0 rfl) ?_
    cases hf
    exact z_iret hx hb hr hlk hw dX10_fault_11
theorem zc_X10_finding : zC yX10_finding wsX10_finding cX10_finding 1 (some .int) 0 := ⟨⟨_, rfl⟩, by decide +kernel, by decide +kernel, by decide +kernel, by decide +kernel⟩
theorem m_X10_finding_0 : (.fieldLink RX10 10 "CellKeys" "told" "LCellKeys$Told;" : Cond) ∈ wsX10_finding := by decide +kernel
theorem in_X10_finding_X10 : ∀ w ∈ u_ws RX10 TX10 10, w ∈ wsX10_finding := by decide +kernel
set_option maxHeartbeats 4000000 in
set_option maxRecDepth 100000 in
theorem c_X10_finding (l : Launch) (G : zG) (q : Nat → Nat) (o : Nat) (S : VX10)  (y : Int32) (hf : f_X10_finding S = some y) : zMet l yX10_finding wsX10_finding 1 20 G [.ref (q (o + 0))] [bX10 G q o, bX9 G q (o + 1) S.1.1 S.1.2.1 S.1.2.2.1 S.1.2.2.2.1 S.1.2.2.2.2, bX6 G q (o + 3) S.2.1.1 S.2.1.2, bX8 G q (o + 12) S.2.2.1.1 S.2.2.1.2, bX5 G q (o + 19) S.2.2.2.1.2.1 S.2.2.2.1.2.2.1 S.2.2.2.1.2.2.2.1 S.2.2.2.1.2.2.2.2, bX2 G q ((o + 19) + 2) S.2.2.2.1.1.1 S.2.2.2.1.1.2.1 S.2.2.2.1.1.2.2.1 S.2.2.2.1.1.2.2.2.1 S.2.2.2.1.1.2.2.2.2.1 S.2.2.2.1.1.2.2.2.2.2.1 S.2.2.2.1.1.2.2.2.2.2.2.1 S.2.2.2.1.1.2.2.2.2.2.2.2, bX2 G q (o + 27) S.2.2.2.2.1.1 S.2.2.2.2.1.2.1 S.2.2.2.2.1.2.2.1 S.2.2.2.2.1.2.2.2.1 S.2.2.2.2.1.2.2.2.2.1 S.2.2.2.2.1.2.2.2.2.2.1 S.2.2.2.2.1.2.2.2.2.2.2.1 S.2.2.2.2.1.2.2.2.2.2.2.2, bX1 G q (o + 33) S.2.2.2.2.2.1.1 S.2.2.2.2.2.1.2.1 S.2.2.2.2.2.1.2.2.1 S.2.2.2.2.2.1.2.2.2, bX4 G q (o + 36) S.2.2.2.2.2.2.1.1 S.2.2.2.2.2.2.1.2, bX3 G q (o + 38) S.2.2.2.2.2.2.2.1.1 S.2.2.2.2.2.2.2.1.2.1 S.2.2.2.2.2.2.2.1.2.2.1 S.2.2.2.2.2.2.2.1.2.2.2, bX0 G q (o + 43) S.2.2.2.2.2.2.2.2.1.2.2.1 S.2.2.2.2.2.2.2.2.1.2.2.2, bX2 G q ((o + 43) + 3) S.2.2.2.2.2.2.2.2.1.1.1 S.2.2.2.2.2.2.2.2.1.1.2.1 S.2.2.2.2.2.2.2.2.1.1.2.2.1 S.2.2.2.2.2.2.2.2.1.1.2.2.2.1 S.2.2.2.2.2.2.2.2.1.1.2.2.2.2.1 S.2.2.2.2.2.2.2.2.1.1.2.2.2.2.2.1 S.2.2.2.2.2.2.2.2.1.1.2.2.2.2.2.2.1 S.2.2.2.2.2.2.2.2.1.1.2.2.2.2.2.2.2, bX4 G q ((o + 43) + 9) S.2.2.2.2.2.2.2.2.1.2.1.1 S.2.2.2.2.2.2.2.2.1.2.1.2, bX7 G q (o + 54) S.2.2.2.2.2.2.2.2.2.1 S.2.2.2.2.2.2.2.2.2.2.1 S.2.2.2.2.2.2.2.2.2.2.2] (some (.int y)) [bX10 G q o, bX9 G q (o + 1) S.1.1 S.1.2.1 S.1.2.2.1 S.1.2.2.2.1 S.1.2.2.2.2, bX6 G q (o + 3) S.2.1.1 S.2.1.2, bX8 G q (o + 12) S.2.2.1.1 S.2.2.1.2, bX5 G q (o + 19) S.2.2.2.1.2.1 S.2.2.2.1.2.2.1 S.2.2.2.1.2.2.2.1 S.2.2.2.1.2.2.2.2, bX2 G q ((o + 19) + 2) S.2.2.2.1.1.1 S.2.2.2.1.1.2.1 S.2.2.2.1.1.2.2.1 S.2.2.2.1.1.2.2.2.1 S.2.2.2.1.1.2.2.2.2.1 S.2.2.2.1.1.2.2.2.2.2.1 S.2.2.2.1.1.2.2.2.2.2.2.1 S.2.2.2.1.1.2.2.2.2.2.2.2, bX2 G q (o + 27) S.2.2.2.2.1.1 S.2.2.2.2.1.2.1 S.2.2.2.2.1.2.2.1 S.2.2.2.2.1.2.2.2.1 S.2.2.2.2.1.2.2.2.2.1 S.2.2.2.2.1.2.2.2.2.2.1 S.2.2.2.2.1.2.2.2.2.2.2.1 S.2.2.2.2.1.2.2.2.2.2.2.2, bX1 G q (o + 33) S.2.2.2.2.2.1.1 S.2.2.2.2.2.1.2.1 S.2.2.2.2.2.1.2.2.1 S.2.2.2.2.2.1.2.2.2, bX4 G q (o + 36) S.2.2.2.2.2.2.1.1 S.2.2.2.2.2.2.1.2, bX3 G q (o + 38) S.2.2.2.2.2.2.2.1.1 S.2.2.2.2.2.2.2.1.2.1 S.2.2.2.2.2.2.2.1.2.2.1 S.2.2.2.2.2.2.2.1.2.2.2, bX0 G q (o + 43) S.2.2.2.2.2.2.2.2.1.2.2.1 S.2.2.2.2.2.2.2.2.1.2.2.2, bX2 G q ((o + 43) + 3) S.2.2.2.2.2.2.2.2.1.1.1 S.2.2.2.2.2.2.2.2.1.1.2.1 S.2.2.2.2.2.2.2.2.1.1.2.2.1 S.2.2.2.2.2.2.2.2.1.1.2.2.2.1 S.2.2.2.2.2.2.2.2.1.1.2.2.2.2.1 S.2.2.2.2.2.2.2.2.1.1.2.2.2.2.2.1 S.2.2.2.2.2.2.2.2.1.1.2.2.2.2.2.2.1 S.2.2.2.2.2.2.2.2.1.1.2.2.2.2.2.2.2, bX4 G q ((o + 43) + 9) S.2.2.2.2.2.2.2.2.1.2.1.1 S.2.2.2.2.2.2.2.2.1.2.1.2, bX7 G q (o + 54) S.2.2.2.2.2.2.2.2.2.1 S.2.2.2.2.2.2.2.2.2.2.1 S.2.2.2.2.2.2.2.2.2.2.2] := by
  refine z_met zc_X10_finding (Nat.le_of_ble_eq_true rfl) ?_
  intro p e s m below meth c A ls hZ hl hw
  have hl : lv_has ls 1 [(0, .ref (q (o + 0)))] := hl
  obtain ⟨hS0, hr, hlk, hK, hA, hT⟩ := id hZ
  have hx := hS0.1
  have hb := hS0.2.1
  have hml := hS0.2.2.1
  have hown : s.vm.findClass RX10 = some m.cls := hS0.2.2.2.1
  have hts := hS0.2.2.2.2
  unfold f_X10_finding at hf
  refine lv_aload_n hx hb dX10_finding_0 rfl (lv_at hl 0 rfl) ?_
  refine z_get hS0 in_X10_finding_X10 hK hw 0 0 rfl rfl rfl (by decide) (hts _ m_X10_finding_0) (v := .ref (q ((o + 1) + 0))) rfl dX10_finding_1 ?_
  obtain ⟨r1, e2, hf⟩ := z_bd hf
  refine z_callV1 (As := []) (rest := []) (bs' := [bX10 G q o, bX9 G q (o + 1) S.1.1 S.1.2.1 S.1.2.2.1 S.1.2.2.2.1 S.1.2.2.2.2, bX6 G q (o + 3) S.2.1.1 S.2.1.2, bX8 G q (o + 12) S.2.2.1.1 S.2.2.1.2, bX5 G q (o + 19) S.2.2.2.1.2.1 S.2.2.2.1.2.2.1 S.2.2.2.1.2.2.2.1 S.2.2.2.1.2.2.2.2, bX2 G q ((o + 19) + 2) S.2.2.2.1.1.1 S.2.2.2.1.1.2.1 S.2.2.2.1.1.2.2.1 S.2.2.2.1.1.2.2.2.1 S.2.2.2.1.1.2.2.2.2.1 S.2.2.2.1.1.2.2.2.2.2.1 S.2.2.2.1.1.2.2.2.2.2.2.1 S.2.2.2.1.1.2.2.2.2.2.2.2, bX2 G q (o + 27) S.2.2.2.2.1.1 S.2.2.2.2.1.2.1 S.2.2.2.2.1.2.2.1 S.2.2.2.2.1.2.2.2.1 S.2.2.2.2.1.2.2.2.2.1 S.2.2.2.2.1.2.2.2.2.2.1 S.2.2.2.2.1.2.2.2.2.2.2.1 S.2.2.2.2.1.2.2.2.2.2.2.2, bX1 G q (o + 33) S.2.2.2.2.2.1.1 S.2.2.2.2.2.1.2.1 S.2.2.2.2.2.1.2.2.1 S.2.2.2.2.2.1.2.2.2, bX4 G q (o + 36) S.2.2.2.2.2.2.1.1 S.2.2.2.2.2.2.1.2, bX3 G q (o + 38) S.2.2.2.2.2.2.2.1.1 S.2.2.2.2.2.2.2.1.2.1 S.2.2.2.2.2.2.2.1.2.2.1 S.2.2.2.2.2.2.2.1.2.2.2, bX0 G q (o + 43) S.2.2.2.2.2.2.2.2.1.2.2.1 S.2.2.2.2.2.2.2.2.1.2.2.2, bX2 G q ((o + 43) + 3) S.2.2.2.2.2.2.2.2.1.1.1 S.2.2.2.2.2.2.2.2.1.1.2.1 S.2.2.2.2.2.2.2.2.1.1.2.2.1 S.2.2.2.2.2.2.2.2.1.1.2.2.2.1 S.2.2.2.2.2.2.2.2.1.1.2.2.2.2.1 S.2.2.2.2.2.2.2.2.1.1.2.2.2.2.2.1 S.2.2.2.2.2.2.2.2.1.1.2.2.2.2.2.2.1 S.2.2.2.2.2.2.2.2.1.1.2.2.2.2.2.2.2, bX4 G q ((o + 43) + 9) S.2.2.2.2.2.2.2.2.1.2.1.1 S.2.2.2.2.2.2.2.2.1.2.1.2, bX7 G q (o + 54) S.2.2.2.2.2.2.2.2.2.1 S.2.2.2.2.2.2.2.2.2.2.1 S.2.2.2.2.2.2.2.2.2.2.2]) hS0 (c_X9_latestFinding l G q (o + 1) S.1 r1 e2) zc_X9_latestFinding rfl gX10_finding_X9_latestFinding ⟨Nat.le_of_ble_eq_true rfl, Nat.le_of_ble_eq_true rfl⟩ hK hA hT hw (is := [1]) rfl rfl rfl rfl rfl rfl rfl hl.1 rfl (Nat.le_of_ble_eq_true rfl) dX10_finding_4 (fun H locs hw => ?_)
  cases hf
  exact z_iret hx hb hr hlk hw dX10_finding_7
theorem zc_X10_findings : zC yX10_findings wsX10_findings cX10_findings 2 (some .int) 1 := ⟨⟨_, rfl⟩, by decide +kernel, by decide +kernel, by decide +kernel, by decide +kernel⟩
theorem m_X10_findings_0 : (.fieldLink RX10 10 "CellKeys" "told" "LCellKeys$Told;" : Cond) ∈ wsX10_findings := by decide +kernel
theorem in_X10_findings_X10 : ∀ w ∈ u_ws RX10 TX10 10, w ∈ wsX10_findings := by decide +kernel
set_option maxHeartbeats 4000000 in
set_option maxRecDepth 100000 in
theorem c_X10_findings (l : Launch) (G : zG) (q : Nat → Nat) (o : Nat) (S : VX10) (v1 : Int32) (y : Int32) (hf : f_X10_findings S v1 = some y) : zMet l yX10_findings wsX10_findings 1 21 G [.ref (q (o + 0)), .int v1] [bX10 G q o, bX9 G q (o + 1) S.1.1 S.1.2.1 S.1.2.2.1 S.1.2.2.2.1 S.1.2.2.2.2, bX6 G q (o + 3) S.2.1.1 S.2.1.2, bX8 G q (o + 12) S.2.2.1.1 S.2.2.1.2, bX5 G q (o + 19) S.2.2.2.1.2.1 S.2.2.2.1.2.2.1 S.2.2.2.1.2.2.2.1 S.2.2.2.1.2.2.2.2, bX2 G q ((o + 19) + 2) S.2.2.2.1.1.1 S.2.2.2.1.1.2.1 S.2.2.2.1.1.2.2.1 S.2.2.2.1.1.2.2.2.1 S.2.2.2.1.1.2.2.2.2.1 S.2.2.2.1.1.2.2.2.2.2.1 S.2.2.2.1.1.2.2.2.2.2.2.1 S.2.2.2.1.1.2.2.2.2.2.2.2, bX2 G q (o + 27) S.2.2.2.2.1.1 S.2.2.2.2.1.2.1 S.2.2.2.2.1.2.2.1 S.2.2.2.2.1.2.2.2.1 S.2.2.2.2.1.2.2.2.2.1 S.2.2.2.2.1.2.2.2.2.2.1 S.2.2.2.2.1.2.2.2.2.2.2.1 S.2.2.2.2.1.2.2.2.2.2.2.2, bX1 G q (o + 33) S.2.2.2.2.2.1.1 S.2.2.2.2.2.1.2.1 S.2.2.2.2.2.1.2.2.1 S.2.2.2.2.2.1.2.2.2, bX4 G q (o + 36) S.2.2.2.2.2.2.1.1 S.2.2.2.2.2.2.1.2, bX3 G q (o + 38) S.2.2.2.2.2.2.2.1.1 S.2.2.2.2.2.2.2.1.2.1 S.2.2.2.2.2.2.2.1.2.2.1 S.2.2.2.2.2.2.2.1.2.2.2, bX0 G q (o + 43) S.2.2.2.2.2.2.2.2.1.2.2.1 S.2.2.2.2.2.2.2.2.1.2.2.2, bX2 G q ((o + 43) + 3) S.2.2.2.2.2.2.2.2.1.1.1 S.2.2.2.2.2.2.2.2.1.1.2.1 S.2.2.2.2.2.2.2.2.1.1.2.2.1 S.2.2.2.2.2.2.2.2.1.1.2.2.2.1 S.2.2.2.2.2.2.2.2.1.1.2.2.2.2.1 S.2.2.2.2.2.2.2.2.1.1.2.2.2.2.2.1 S.2.2.2.2.2.2.2.2.1.1.2.2.2.2.2.2.1 S.2.2.2.2.2.2.2.2.1.1.2.2.2.2.2.2.2, bX4 G q ((o + 43) + 9) S.2.2.2.2.2.2.2.2.1.2.1.1 S.2.2.2.2.2.2.2.2.1.2.1.2, bX7 G q (o + 54) S.2.2.2.2.2.2.2.2.2.1 S.2.2.2.2.2.2.2.2.2.2.1 S.2.2.2.2.2.2.2.2.2.2.2] (some (.int y)) [bX10 G q o, bX9 G q (o + 1) S.1.1 S.1.2.1 S.1.2.2.1 S.1.2.2.2.1 S.1.2.2.2.2, bX6 G q (o + 3) S.2.1.1 S.2.1.2, bX8 G q (o + 12) S.2.2.1.1 S.2.2.1.2, bX5 G q (o + 19) S.2.2.2.1.2.1 S.2.2.2.1.2.2.1 S.2.2.2.1.2.2.2.1 S.2.2.2.1.2.2.2.2, bX2 G q ((o + 19) + 2) S.2.2.2.1.1.1 S.2.2.2.1.1.2.1 S.2.2.2.1.1.2.2.1 S.2.2.2.1.1.2.2.2.1 S.2.2.2.1.1.2.2.2.2.1 S.2.2.2.1.1.2.2.2.2.2.1 S.2.2.2.1.1.2.2.2.2.2.2.1 S.2.2.2.1.1.2.2.2.2.2.2.2, bX2 G q (o + 27) S.2.2.2.2.1.1 S.2.2.2.2.1.2.1 S.2.2.2.2.1.2.2.1 S.2.2.2.2.1.2.2.2.1 S.2.2.2.2.1.2.2.2.2.1 S.2.2.2.2.1.2.2.2.2.2.1 S.2.2.2.2.1.2.2.2.2.2.2.1 S.2.2.2.2.1.2.2.2.2.2.2.2, bX1 G q (o + 33) S.2.2.2.2.2.1.1 S.2.2.2.2.2.1.2.1 S.2.2.2.2.2.1.2.2.1 S.2.2.2.2.2.1.2.2.2, bX4 G q (o + 36) S.2.2.2.2.2.2.1.1 S.2.2.2.2.2.2.1.2, bX3 G q (o + 38) S.2.2.2.2.2.2.2.1.1 S.2.2.2.2.2.2.2.1.2.1 S.2.2.2.2.2.2.2.1.2.2.1 S.2.2.2.2.2.2.2.1.2.2.2, bX0 G q (o + 43) S.2.2.2.2.2.2.2.2.1.2.2.1 S.2.2.2.2.2.2.2.2.1.2.2.2, bX2 G q ((o + 43) + 3) S.2.2.2.2.2.2.2.2.1.1.1 S.2.2.2.2.2.2.2.2.1.1.2.1 S.2.2.2.2.2.2.2.2.1.1.2.2.1 S.2.2.2.2.2.2.2.2.1.1.2.2.2.1 S.2.2.2.2.2.2.2.2.1.1.2.2.2.2.1 S.2.2.2.2.2.2.2.2.1.1.2.2.2.2.2.1 S.2.2.2.2.2.2.2.2.1.1.2.2.2.2.2.2.1 S.2.2.2.2.2.2.2.2.1.1.2.2.2.2.2.2.2, bX4 G q ((o + 43) + 9) S.2.2.2.2.2.2.2.2.1.2.1.1 S.2.2.2.2.2.2.2.2.1.2.1.2, bX7 G q (o + 54) S.2.2.2.2.2.2.2.2.2.1 S.2.2.2.2.2.2.2.2.2.2.1 S.2.2.2.2.2.2.2.2.2.2.2] := by
  refine z_met zc_X10_findings (Nat.le_of_ble_eq_true rfl) ?_
  intro p e s m below meth c A ls hZ hl hw
  have hl : lv_has ls 2 [(0, .ref (q (o + 0))), (1, .int v1)] := hl
  obtain ⟨hS0, hr, hlk, hK, hA, hT⟩ := id hZ
  have hx := hS0.1
  have hb := hS0.2.1
  have hml := hS0.2.2.1
  have hown : s.vm.findClass RX10 = some m.cls := hS0.2.2.2.1
  have hts := hS0.2.2.2.2
  unfold f_X10_findings at hf
  refine lv_iload_n hx hb dX10_findings_0 rfl (lv_at hl 1 rfl) ?_
  refine lv_iconst (v := 1) hx hb dX10_findings_1 rfl ?_
  refine lv_icmp_lt (tgt := 10) hx hb dX10_findings_2 rfl (fun hc => ?_) (fun hc => ?_)
  · have hf := z_t hc hf
    refine lv_iconst (v := (-1)) hx hb dX10_findings_10 rfl ?_
    refine lv_goto (tgt := 22) hx hb dX10_findings_11 rfl ?_
    cases hf
    exact z_iret hx hb hr hlk hw dX10_findings_22
  · have hf := z_f hc hf
    refine lv_iload_n hx hb dX10_findings_5 rfl (lv_at hl 1 rfl) ?_
    refine lv_iconst (v := 5) hx hb dX10_findings_6 rfl ?_
    refine lv_icmp_le (tgt := 14) hx hb dX10_findings_7 rfl (fun hc => ?_) (fun hc => ?_)
    · have hf := z_t hc hf
      refine lv_aload_n hx hb dX10_findings_14 rfl (lv_at hl 0 rfl) ?_
      refine z_get hS0 in_X10_findings_X10 hK hw 0 0 rfl rfl rfl (by decide) (hts _ m_X10_findings_0) (v := .ref (q ((o + 1) + 0))) rfl dX10_findings_15 ?_
      refine lv_iload_n hx hb dX10_findings_18 rfl (lv_at hl 1 rfl) ?_
      obtain ⟨r1, e2, hf⟩ := z_bd hf
      refine z_callV1 (As := [.int v1]) (rest := []) (bs' := [bX10 G q o, bX9 G q (o + 1) S.1.1 S.1.2.1 S.1.2.2.1 S.1.2.2.2.1 S.1.2.2.2.2, bX6 G q (o + 3) S.2.1.1 S.2.1.2, bX8 G q (o + 12) S.2.2.1.1 S.2.2.1.2, bX5 G q (o + 19) S.2.2.2.1.2.1 S.2.2.2.1.2.2.1 S.2.2.2.1.2.2.2.1 S.2.2.2.1.2.2.2.2, bX2 G q ((o + 19) + 2) S.2.2.2.1.1.1 S.2.2.2.1.1.2.1 S.2.2.2.1.1.2.2.1 S.2.2.2.1.1.2.2.2.1 S.2.2.2.1.1.2.2.2.2.1 S.2.2.2.1.1.2.2.2.2.2.1 S.2.2.2.1.1.2.2.2.2.2.2.1 S.2.2.2.1.1.2.2.2.2.2.2.2, bX2 G q (o + 27) S.2.2.2.2.1.1 S.2.2.2.2.1.2.1 S.2.2.2.2.1.2.2.1 S.2.2.2.2.1.2.2.2.1 S.2.2.2.2.1.2.2.2.2.1 S.2.2.2.2.1.2.2.2.2.2.1 S.2.2.2.2.1.2.2.2.2.2.2.1 S.2.2.2.2.1.2.2.2.2.2.2.2, bX1 G q (o + 33) S.2.2.2.2.2.1.1 S.2.2.2.2.2.1.2.1 S.2.2.2.2.2.1.2.2.1 S.2.2.2.2.2.1.2.2.2, bX4 G q (o + 36) S.2.2.2.2.2.2.1.1 S.2.2.2.2.2.2.1.2, bX3 G q (o + 38) S.2.2.2.2.2.2.2.1.1 S.2.2.2.2.2.2.2.1.2.1 S.2.2.2.2.2.2.2.1.2.2.1 S.2.2.2.2.2.2.2.1.2.2.2, bX0 G q (o + 43) S.2.2.2.2.2.2.2.2.1.2.2.1 S.2.2.2.2.2.2.2.2.1.2.2.2, bX2 G q ((o + 43) + 3) S.2.2.2.2.2.2.2.2.1.1.1 S.2.2.2.2.2.2.2.2.1.1.2.1 S.2.2.2.2.2.2.2.2.1.1.2.2.1 S.2.2.2.2.2.2.2.2.1.1.2.2.2.1 S.2.2.2.2.2.2.2.2.1.1.2.2.2.2.1 S.2.2.2.2.2.2.2.2.1.1.2.2.2.2.2.1 S.2.2.2.2.2.2.2.2.1.1.2.2.2.2.2.2.1 S.2.2.2.2.2.2.2.2.1.1.2.2.2.2.2.2.2, bX4 G q ((o + 43) + 9) S.2.2.2.2.2.2.2.2.1.2.1.1 S.2.2.2.2.2.2.2.2.1.2.1.2, bX7 G q (o + 54) S.2.2.2.2.2.2.2.2.2.1 S.2.2.2.2.2.2.2.2.2.2.1 S.2.2.2.2.2.2.2.2.2.2.2]) hS0 (c_X9_howOften l G q (o + 1) S.1 v1 r1 e2) zc_X9_howOften rfl gX10_findings_X9_howOften ⟨Nat.le_of_ble_eq_true rfl, Nat.le_of_ble_eq_true rfl⟩ hK hA hT hw (is := [1]) rfl rfl rfl rfl rfl rfl rfl hl.1 rfl (Nat.le_of_ble_eq_true rfl) dX10_findings_19 (fun H locs hw => ?_)
      cases hf
      exact z_iret hx hb hr hlk hw dX10_findings_22
    · have hf := z_f hc hf
      refine lv_iconst (v := (-1)) hx hb dX10_findings_10 rfl ?_
      refine lv_goto (tgt := 22) hx hb dX10_findings_11 rfl ?_
      cases hf
      exact z_iret hx hb hr hlk hw dX10_findings_22
theorem zc_X10_foes : zC yX10_foes wsX10_foes cX10_foes 2 (some .int) 1 := ⟨⟨_, rfl⟩, by decide +kernel, by decide +kernel, by decide +kernel, by decide +kernel⟩
theorem m_X10_foes_0 : (.fieldLink RX10 40 "CellKeys" "jail" "LCellKeys$Jail;" : Cond) ∈ wsX10_foes := by decide +kernel
theorem in_X10_foes_X10 : ∀ w ∈ u_ws RX10 TX10 10, w ∈ wsX10_foes := by decide +kernel
set_option maxHeartbeats 4000000 in
set_option maxRecDepth 100000 in
theorem c_X10_foes (l : Launch) (G : zG) (q : Nat → Nat) (o : Nat) (S : VX10) (v1 : Int32) (y : Int32) (hf : f_X10_foes S v1 = some y) : zMet l yX10_foes wsX10_foes 2 42 G [.ref (q (o + 0)), .int v1] [bX10 G q o, bX9 G q (o + 1) S.1.1 S.1.2.1 S.1.2.2.1 S.1.2.2.2.1 S.1.2.2.2.2, bX6 G q (o + 3) S.2.1.1 S.2.1.2, bX8 G q (o + 12) S.2.2.1.1 S.2.2.1.2, bX5 G q (o + 19) S.2.2.2.1.2.1 S.2.2.2.1.2.2.1 S.2.2.2.1.2.2.2.1 S.2.2.2.1.2.2.2.2, bX2 G q ((o + 19) + 2) S.2.2.2.1.1.1 S.2.2.2.1.1.2.1 S.2.2.2.1.1.2.2.1 S.2.2.2.1.1.2.2.2.1 S.2.2.2.1.1.2.2.2.2.1 S.2.2.2.1.1.2.2.2.2.2.1 S.2.2.2.1.1.2.2.2.2.2.2.1 S.2.2.2.1.1.2.2.2.2.2.2.2, bX2 G q (o + 27) S.2.2.2.2.1.1 S.2.2.2.2.1.2.1 S.2.2.2.2.1.2.2.1 S.2.2.2.2.1.2.2.2.1 S.2.2.2.2.1.2.2.2.2.1 S.2.2.2.2.1.2.2.2.2.2.1 S.2.2.2.2.1.2.2.2.2.2.2.1 S.2.2.2.2.1.2.2.2.2.2.2.2, bX1 G q (o + 33) S.2.2.2.2.2.1.1 S.2.2.2.2.2.1.2.1 S.2.2.2.2.2.1.2.2.1 S.2.2.2.2.2.1.2.2.2, bX4 G q (o + 36) S.2.2.2.2.2.2.1.1 S.2.2.2.2.2.2.1.2, bX3 G q (o + 38) S.2.2.2.2.2.2.2.1.1 S.2.2.2.2.2.2.2.1.2.1 S.2.2.2.2.2.2.2.1.2.2.1 S.2.2.2.2.2.2.2.1.2.2.2, bX0 G q (o + 43) S.2.2.2.2.2.2.2.2.1.2.2.1 S.2.2.2.2.2.2.2.2.1.2.2.2, bX2 G q ((o + 43) + 3) S.2.2.2.2.2.2.2.2.1.1.1 S.2.2.2.2.2.2.2.2.1.1.2.1 S.2.2.2.2.2.2.2.2.1.1.2.2.1 S.2.2.2.2.2.2.2.2.1.1.2.2.2.1 S.2.2.2.2.2.2.2.2.1.1.2.2.2.2.1 S.2.2.2.2.2.2.2.2.1.1.2.2.2.2.2.1 S.2.2.2.2.2.2.2.2.1.1.2.2.2.2.2.2.1 S.2.2.2.2.2.2.2.2.1.1.2.2.2.2.2.2.2, bX4 G q ((o + 43) + 9) S.2.2.2.2.2.2.2.2.1.2.1.1 S.2.2.2.2.2.2.2.2.1.2.1.2, bX7 G q (o + 54) S.2.2.2.2.2.2.2.2.2.1 S.2.2.2.2.2.2.2.2.2.2.1 S.2.2.2.2.2.2.2.2.2.2.2] (some (.int y)) [bX10 G q o, bX9 G q (o + 1) S.1.1 S.1.2.1 S.1.2.2.1 S.1.2.2.2.1 S.1.2.2.2.2, bX6 G q (o + 3) S.2.1.1 S.2.1.2, bX8 G q (o + 12) S.2.2.1.1 S.2.2.1.2, bX5 G q (o + 19) S.2.2.2.1.2.1 S.2.2.2.1.2.2.1 S.2.2.2.1.2.2.2.1 S.2.2.2.1.2.2.2.2, bX2 G q ((o + 19) + 2) S.2.2.2.1.1.1 S.2.2.2.1.1.2.1 S.2.2.2.1.1.2.2.1 S.2.2.2.1.1.2.2.2.1 S.2.2.2.1.1.2.2.2.2.1 S.2.2.2.1.1.2.2.2.2.2.1 S.2.2.2.1.1.2.2.2.2.2.2.1 S.2.2.2.1.1.2.2.2.2.2.2.2, bX2 G q (o + 27) S.2.2.2.2.1.1 S.2.2.2.2.1.2.1 S.2.2.2.2.1.2.2.1 S.2.2.2.2.1.2.2.2.1 S.2.2.2.2.1.2.2.2.2.1 S.2.2.2.2.1.2.2.2.2.2.1 S.2.2.2.2.1.2.2.2.2.2.2.1 S.2.2.2.2.1.2.2.2.2.2.2.2, bX1 G q (o + 33) S.2.2.2.2.2.1.1 S.2.2.2.2.2.1.2.1 S.2.2.2.2.2.1.2.2.1 S.2.2.2.2.2.1.2.2.2, bX4 G q (o + 36) S.2.2.2.2.2.2.1.1 S.2.2.2.2.2.2.1.2, bX3 G q (o + 38) S.2.2.2.2.2.2.2.1.1 S.2.2.2.2.2.2.2.1.2.1 S.2.2.2.2.2.2.2.1.2.2.1 S.2.2.2.2.2.2.2.1.2.2.2, bX0 G q (o + 43) S.2.2.2.2.2.2.2.2.1.2.2.1 S.2.2.2.2.2.2.2.2.1.2.2.2, bX2 G q ((o + 43) + 3) S.2.2.2.2.2.2.2.2.1.1.1 S.2.2.2.2.2.2.2.2.1.1.2.1 S.2.2.2.2.2.2.2.2.1.1.2.2.1 S.2.2.2.2.2.2.2.2.1.1.2.2.2.1 S.2.2.2.2.2.2.2.2.1.1.2.2.2.2.1 S.2.2.2.2.2.2.2.2.1.1.2.2.2.2.2.1 S.2.2.2.2.2.2.2.2.1.1.2.2.2.2.2.2.1 S.2.2.2.2.2.2.2.2.1.1.2.2.2.2.2.2.2, bX4 G q ((o + 43) + 9) S.2.2.2.2.2.2.2.2.1.2.1.1 S.2.2.2.2.2.2.2.2.1.2.1.2, bX7 G q (o + 54) S.2.2.2.2.2.2.2.2.2.1 S.2.2.2.2.2.2.2.2.2.2.1 S.2.2.2.2.2.2.2.2.2.2.2] := by
  refine z_met zc_X10_foes (Nat.le_of_ble_eq_true rfl) ?_
  intro p e s m below meth c A ls hZ hl hw
  have hl : lv_has ls 2 [(0, .ref (q (o + 0))), (1, .int v1)] := hl
  obtain ⟨hS0, hr, hlk, hK, hA, hT⟩ := id hZ
  have hx := hS0.1
  have hb := hS0.2.1
  have hml := hS0.2.2.1
  have hown : s.vm.findClass RX10 = some m.cls := hS0.2.2.2.1
  have hts := hS0.2.2.2.2
  unfold f_X10_foes at hf
  refine lv_aload_n hx hb dX10_foes_0 rfl (lv_at hl 0 rfl) ?_
  refine z_get hS0 in_X10_foes_X10 hK hw 0 4 rfl rfl rfl (by decide) (hts _ m_X10_foes_0) (v := .ref (q ((o + 27) + 0))) rfl dX10_foes_1 ?_
  refine lv_iload_n hx hb dX10_foes_4 rfl (lv_at hl 1 rfl) ?_
  obtain ⟨r1, e2, hf⟩ := z_bd hf
  refine z_callV1 (As := [.int v1]) (rest := []) (bs' := [bX10 G q o, bX9 G q (o + 1) S.1.1 S.1.2.1 S.1.2.2.1 S.1.2.2.2.1 S.1.2.2.2.2, bX6 G q (o + 3) S.2.1.1 S.2.1.2, bX8 G q (o + 12) S.2.2.1.1 S.2.2.1.2, bX5 G q (o + 19) S.2.2.2.1.2.1 S.2.2.2.1.2.2.1 S.2.2.2.1.2.2.2.1 S.2.2.2.1.2.2.2.2, bX2 G q ((o + 19) + 2) S.2.2.2.1.1.1 S.2.2.2.1.1.2.1 S.2.2.2.1.1.2.2.1 S.2.2.2.1.1.2.2.2.1 S.2.2.2.1.1.2.2.2.2.1 S.2.2.2.1.1.2.2.2.2.2.1 S.2.2.2.1.1.2.2.2.2.2.2.1 S.2.2.2.1.1.2.2.2.2.2.2.2, bX2 G q (o + 27) S.2.2.2.2.1.1 S.2.2.2.2.1.2.1 S.2.2.2.2.1.2.2.1 S.2.2.2.2.1.2.2.2.1 S.2.2.2.2.1.2.2.2.2.1 S.2.2.2.2.1.2.2.2.2.2.1 S.2.2.2.2.1.2.2.2.2.2.2.1 S.2.2.2.2.1.2.2.2.2.2.2.2, bX1 G q (o + 33) S.2.2.2.2.2.1.1 S.2.2.2.2.2.1.2.1 S.2.2.2.2.2.1.2.2.1 S.2.2.2.2.2.1.2.2.2, bX4 G q (o + 36) S.2.2.2.2.2.2.1.1 S.2.2.2.2.2.2.1.2, bX3 G q (o + 38) S.2.2.2.2.2.2.2.1.1 S.2.2.2.2.2.2.2.1.2.1 S.2.2.2.2.2.2.2.1.2.2.1 S.2.2.2.2.2.2.2.1.2.2.2, bX0 G q (o + 43) S.2.2.2.2.2.2.2.2.1.2.2.1 S.2.2.2.2.2.2.2.2.1.2.2.2, bX2 G q ((o + 43) + 3) S.2.2.2.2.2.2.2.2.1.1.1 S.2.2.2.2.2.2.2.2.1.1.2.1 S.2.2.2.2.2.2.2.2.1.1.2.2.1 S.2.2.2.2.2.2.2.2.1.1.2.2.2.1 S.2.2.2.2.2.2.2.2.1.1.2.2.2.2.1 S.2.2.2.2.2.2.2.2.1.1.2.2.2.2.2.1 S.2.2.2.2.2.2.2.2.1.1.2.2.2.2.2.2.1 S.2.2.2.2.2.2.2.2.1.1.2.2.2.2.2.2.2, bX4 G q ((o + 43) + 9) S.2.2.2.2.2.2.2.2.1.2.1.1 S.2.2.2.2.2.2.2.2.1.2.1.2, bX7 G q (o + 54) S.2.2.2.2.2.2.2.2.2.1 S.2.2.2.2.2.2.2.2.2.2.1 S.2.2.2.2.2.2.2.2.2.2.2]) hS0 (c_X2_isCell l G q (o + 27) S.2.2.2.2.1 v1 r1 e2) zc_X2_isCell rfl gX10_foes_X2_isCell ⟨Nat.le_of_ble_eq_true rfl, Nat.le_of_ble_eq_true rfl⟩ hK hA hT hw (is := [6]) rfl rfl rfl rfl rfl rfl rfl hl.1 rfl (Nat.le_of_ble_eq_true rfl) dX10_foes_5 (fun H locs hw => ?_)
  refine lv_if_eq (tgt := 22) hx hb dX10_foes_8 rfl (fun hc => ?_) (fun hc => ?_)
  · have hf := z_t hc hf
    refine lv_iconst (v := (-1)) hx hb dX10_foes_22 rfl ?_
    cases hf
    exact z_iret hx hb hr hlk hw dX10_foes_23
  · have hf := z_f hc hf
    refine lv_aload_n hx hb dX10_foes_11 rfl (lv_at hl 0 rfl) ?_
    refine z_get hS0 in_X10_foes_X10 hK hw 0 4 rfl rfl rfl (by decide) (hts _ m_X10_foes_0) (v := .ref (q ((o + 27) + 0))) rfl dX10_foes_12 ?_
    refine lv_iload_n hx hb dX10_foes_15 rfl (lv_at hl 1 rfl) ?_
    obtain ⟨r3, e4, hf⟩ := z_bd hf
    refine z_callV1 (As := [.int v1]) (rest := []) (bs' := [bX10 G q o, bX9 G q (o + 1) S.1.1 S.1.2.1 S.1.2.2.1 S.1.2.2.2.1 S.1.2.2.2.2, bX6 G q (o + 3) S.2.1.1 S.2.1.2, bX8 G q (o + 12) S.2.2.1.1 S.2.2.1.2, bX5 G q (o + 19) S.2.2.2.1.2.1 S.2.2.2.1.2.2.1 S.2.2.2.1.2.2.2.1 S.2.2.2.1.2.2.2.2, bX2 G q ((o + 19) + 2) S.2.2.2.1.1.1 S.2.2.2.1.1.2.1 S.2.2.2.1.1.2.2.1 S.2.2.2.1.1.2.2.2.1 S.2.2.2.1.1.2.2.2.2.1 S.2.2.2.1.1.2.2.2.2.2.1 S.2.2.2.1.1.2.2.2.2.2.2.1 S.2.2.2.1.1.2.2.2.2.2.2.2, bX2 G q (o + 27) S.2.2.2.2.1.1 S.2.2.2.2.1.2.1 S.2.2.2.2.1.2.2.1 S.2.2.2.2.1.2.2.2.1 S.2.2.2.2.1.2.2.2.2.1 S.2.2.2.2.1.2.2.2.2.2.1 S.2.2.2.2.1.2.2.2.2.2.2.1 S.2.2.2.2.1.2.2.2.2.2.2.2, bX1 G q (o + 33) S.2.2.2.2.2.1.1 S.2.2.2.2.2.1.2.1 S.2.2.2.2.2.1.2.2.1 S.2.2.2.2.2.1.2.2.2, bX4 G q (o + 36) S.2.2.2.2.2.2.1.1 S.2.2.2.2.2.2.1.2, bX3 G q (o + 38) S.2.2.2.2.2.2.2.1.1 S.2.2.2.2.2.2.2.1.2.1 S.2.2.2.2.2.2.2.1.2.2.1 S.2.2.2.2.2.2.2.1.2.2.2, bX0 G q (o + 43) S.2.2.2.2.2.2.2.2.1.2.2.1 S.2.2.2.2.2.2.2.2.1.2.2.2, bX2 G q ((o + 43) + 3) S.2.2.2.2.2.2.2.2.1.1.1 S.2.2.2.2.2.2.2.2.1.1.2.1 S.2.2.2.2.2.2.2.2.1.1.2.2.1 S.2.2.2.2.2.2.2.2.1.1.2.2.2.1 S.2.2.2.2.2.2.2.2.1.1.2.2.2.2.1 S.2.2.2.2.2.2.2.2.1.1.2.2.2.2.2.1 S.2.2.2.2.2.2.2.2.1.1.2.2.2.2.2.2.1 S.2.2.2.2.2.2.2.2.1.1.2.2.2.2.2.2.2, bX4 G q ((o + 43) + 9) S.2.2.2.2.2.2.2.2.1.2.1.1 S.2.2.2.2.2.2.2.2.1.2.1.2, bX7 G q (o + 54) S.2.2.2.2.2.2.2.2.2.1 S.2.2.2.2.2.2.2.2.2.2.1 S.2.2.2.2.2.2.2.2.2.2.2]) hS0 (c_X2_foesOf l G q (o + 27) S.2.2.2.2.1 v1 r3 e4) zc_X2_foesOf rfl gX10_foes_X2_foesOf ⟨Nat.le_of_ble_eq_true rfl, Nat.le_of_ble_eq_true rfl⟩ hK hA hT hw (is := [6]) rfl rfl rfl rfl rfl rfl rfl hl.1 rfl (Nat.le_of_ble_eq_true rfl) dX10_foes_16 (fun H locs hw => ?_)
    refine lv_goto (tgt := 23) hx hb dX10_foes_19 rfl ?_
    cases hf
    exact z_iret hx hb hr hlk hw dX10_foes_23
theorem zc_X10_forget : zC yX10_forget wsX10_forget cX10_forget 2 (some .int) 1 := ⟨⟨_, rfl⟩, by decide +kernel, by decide +kernel, by decide +kernel, by decide +kernel⟩
theorem m_X10_forget_0 : (.fieldLink RX10 75 "CellKeys" "sightings" "LCellKeys$Sightings;" : Cond) ∈ wsX10_forget := by decide +kernel
theorem in_X10_forget_X10 : ∀ w ∈ u_ws RX10 TX10 10, w ∈ wsX10_forget := by decide +kernel
set_option maxHeartbeats 4000000 in
set_option maxRecDepth 100000 in
theorem c_X10_forget (l : Launch) (G : zG) (q : Nat → Nat) (o : Nat) (S : VX10) (v1 : Int32) (y : Int32 × VX10) (hf : f_X10_forget S v1 = some y) : zMet l yX10_forget wsX10_forget 1 22 G [.ref (q (o + 0)), .int v1] [bX10 G q o, bX9 G q (o + 1) S.1.1 S.1.2.1 S.1.2.2.1 S.1.2.2.2.1 S.1.2.2.2.2, bX6 G q (o + 3) S.2.1.1 S.2.1.2, bX8 G q (o + 12) S.2.2.1.1 S.2.2.1.2, bX5 G q (o + 19) S.2.2.2.1.2.1 S.2.2.2.1.2.2.1 S.2.2.2.1.2.2.2.1 S.2.2.2.1.2.2.2.2, bX2 G q ((o + 19) + 2) S.2.2.2.1.1.1 S.2.2.2.1.1.2.1 S.2.2.2.1.1.2.2.1 S.2.2.2.1.1.2.2.2.1 S.2.2.2.1.1.2.2.2.2.1 S.2.2.2.1.1.2.2.2.2.2.1 S.2.2.2.1.1.2.2.2.2.2.2.1 S.2.2.2.1.1.2.2.2.2.2.2.2, bX2 G q (o + 27) S.2.2.2.2.1.1 S.2.2.2.2.1.2.1 S.2.2.2.2.1.2.2.1 S.2.2.2.2.1.2.2.2.1 S.2.2.2.2.1.2.2.2.2.1 S.2.2.2.2.1.2.2.2.2.2.1 S.2.2.2.2.1.2.2.2.2.2.2.1 S.2.2.2.2.1.2.2.2.2.2.2.2, bX1 G q (o + 33) S.2.2.2.2.2.1.1 S.2.2.2.2.2.1.2.1 S.2.2.2.2.2.1.2.2.1 S.2.2.2.2.2.1.2.2.2, bX4 G q (o + 36) S.2.2.2.2.2.2.1.1 S.2.2.2.2.2.2.1.2, bX3 G q (o + 38) S.2.2.2.2.2.2.2.1.1 S.2.2.2.2.2.2.2.1.2.1 S.2.2.2.2.2.2.2.1.2.2.1 S.2.2.2.2.2.2.2.1.2.2.2, bX0 G q (o + 43) S.2.2.2.2.2.2.2.2.1.2.2.1 S.2.2.2.2.2.2.2.2.1.2.2.2, bX2 G q ((o + 43) + 3) S.2.2.2.2.2.2.2.2.1.1.1 S.2.2.2.2.2.2.2.2.1.1.2.1 S.2.2.2.2.2.2.2.2.1.1.2.2.1 S.2.2.2.2.2.2.2.2.1.1.2.2.2.1 S.2.2.2.2.2.2.2.2.1.1.2.2.2.2.1 S.2.2.2.2.2.2.2.2.1.1.2.2.2.2.2.1 S.2.2.2.2.2.2.2.2.1.1.2.2.2.2.2.2.1 S.2.2.2.2.2.2.2.2.1.1.2.2.2.2.2.2.2, bX4 G q ((o + 43) + 9) S.2.2.2.2.2.2.2.2.1.2.1.1 S.2.2.2.2.2.2.2.2.1.2.1.2, bX7 G q (o + 54) S.2.2.2.2.2.2.2.2.2.1 S.2.2.2.2.2.2.2.2.2.2.1 S.2.2.2.2.2.2.2.2.2.2.2] (some (.int y.1)) [bX10 G q o, bX9 G q (o + 1) y.2.1.1 y.2.1.2.1 y.2.1.2.2.1 y.2.1.2.2.2.1 y.2.1.2.2.2.2, bX6 G q (o + 3) y.2.2.1.1 y.2.2.1.2, bX8 G q (o + 12) y.2.2.2.1.1 y.2.2.2.1.2, bX5 G q (o + 19) y.2.2.2.2.1.2.1 y.2.2.2.2.1.2.2.1 y.2.2.2.2.1.2.2.2.1 y.2.2.2.2.1.2.2.2.2, bX2 G q ((o + 19) + 2) y.2.2.2.2.1.1.1 y.2.2.2.2.1.1.2.1 y.2.2.2.2.1.1.2.2.1 y.2.2.2.2.1.1.2.2.2.1 y.2.2.2.2.1.1.2.2.2.2.1 y.2.2.2.2.1.1.2.2.2.2.2.1 y.2.2.2.2.1.1.2.2.2.2.2.2.1 y.2.2.2.2.1.1.2.2.2.2.2.2.2, bX2 G q (o + 27) y.2.2.2.2.2.1.1 y.2.2.2.2.2.1.2.1 y.2.2.2.2.2.1.2.2.1 y.2.2.2.2.2.1.2.2.2.1 y.2.2.2.2.2.1.2.2.2.2.1 y.2.2.2.2.2.1.2.2.2.2.2.1 y.2.2.2.2.2.1.2.2.2.2.2.2.1 y.2.2.2.2.2.1.2.2.2.2.2.2.2, bX1 G q (o + 33) y.2.2.2.2.2.2.1.1 y.2.2.2.2.2.2.1.2.1 y.2.2.2.2.2.2.1.2.2.1 y.2.2.2.2.2.2.1.2.2.2, bX4 G q (o + 36) y.2.2.2.2.2.2.2.1.1 y.2.2.2.2.2.2.2.1.2, bX3 G q (o + 38) y.2.2.2.2.2.2.2.2.1.1 y.2.2.2.2.2.2.2.2.1.2.1 y.2.2.2.2.2.2.2.2.1.2.2.1 y.2.2.2.2.2.2.2.2.1.2.2.2, bX0 G q (o + 43) y.2.2.2.2.2.2.2.2.2.1.2.2.1 y.2.2.2.2.2.2.2.2.2.1.2.2.2, bX2 G q ((o + 43) + 3) y.2.2.2.2.2.2.2.2.2.1.1.1 y.2.2.2.2.2.2.2.2.2.1.1.2.1 y.2.2.2.2.2.2.2.2.2.1.1.2.2.1 y.2.2.2.2.2.2.2.2.2.1.1.2.2.2.1 y.2.2.2.2.2.2.2.2.2.1.1.2.2.2.2.1 y.2.2.2.2.2.2.2.2.2.1.1.2.2.2.2.2.1 y.2.2.2.2.2.2.2.2.2.1.1.2.2.2.2.2.2.1 y.2.2.2.2.2.2.2.2.2.1.1.2.2.2.2.2.2.2, bX4 G q ((o + 43) + 9) y.2.2.2.2.2.2.2.2.2.1.2.1.1 y.2.2.2.2.2.2.2.2.2.1.2.1.2, bX7 G q (o + 54) y.2.2.2.2.2.2.2.2.2.2.1 y.2.2.2.2.2.2.2.2.2.2.2.1 y.2.2.2.2.2.2.2.2.2.2.2.2] := by
  refine z_met zc_X10_forget (Nat.le_of_ble_eq_true rfl) ?_
  intro p e s m below meth c A ls hZ hl hw
  have hl : lv_has ls 2 [(0, .ref (q (o + 0))), (1, .int v1)] := hl
  obtain ⟨hS0, hr, hlk, hK, hA, hT⟩ := id hZ
  have hx := hS0.1
  have hb := hS0.2.1
  have hml := hS0.2.2.1
  have hown : s.vm.findClass RX10 = some m.cls := hS0.2.2.2.1
  have hts := hS0.2.2.2.2
  unfold f_X10_forget at hf
  refine lv_iload_n hx hb dX10_forget_0 rfl (lv_at hl 1 rfl) ?_
  refine lv_if_lt (tgt := 15) hx hb dX10_forget_1 rfl (fun hc => ?_) (fun hc => ?_)
  · have hf := z_t hc hf
    refine lv_iconst (v := (-1)) hx hb dX10_forget_15 rfl ?_
    cases hf
    exact z_iret hx hb hr hlk hw dX10_forget_16
  · have hf := z_f hc hf
    refine lv_iload_n hx hb dX10_forget_4 rfl (lv_at hl 1 rfl) ?_
    refine lv_aload_n hx hb dX10_forget_5 rfl (lv_at hl 0 rfl) ?_
    refine z_get hS0 in_X10_forget_X10 hK hw 0 9 rfl rfl rfl (by decide) (hts _ m_X10_forget_0) (v := .ref (q ((o + 54) + 0))) rfl dX10_forget_6 ?_
    obtain ⟨r1, e2, hf⟩ := z_bd hf
    refine z_callV1 (As := []) (rest := [.int v1]) (bs' := [bX10 G q o, bX9 G q (o + 1) S.1.1 S.1.2.1 S.1.2.2.1 S.1.2.2.2.1 S.1.2.2.2.2, bX6 G q (o + 3) S.2.1.1 S.2.1.2, bX8 G q (o + 12) S.2.2.1.1 S.2.2.1.2, bX5 G q (o + 19) S.2.2.2.1.2.1 S.2.2.2.1.2.2.1 S.2.2.2.1.2.2.2.1 S.2.2.2.1.2.2.2.2, bX2 G q ((o + 19) + 2) S.2.2.2.1.1.1 S.2.2.2.1.1.2.1 S.2.2.2.1.1.2.2.1 S.2.2.2.1.1.2.2.2.1 S.2.2.2.1.1.2.2.2.2.1 S.2.2.2.1.1.2.2.2.2.2.1 S.2.2.2.1.1.2.2.2.2.2.2.1 S.2.2.2.1.1.2.2.2.2.2.2.2, bX2 G q (o + 27) S.2.2.2.2.1.1 S.2.2.2.2.1.2.1 S.2.2.2.2.1.2.2.1 S.2.2.2.2.1.2.2.2.1 S.2.2.2.2.1.2.2.2.2.1 S.2.2.2.2.1.2.2.2.2.2.1 S.2.2.2.2.1.2.2.2.2.2.2.1 S.2.2.2.2.1.2.2.2.2.2.2.2, bX1 G q (o + 33) S.2.2.2.2.2.1.1 S.2.2.2.2.2.1.2.1 S.2.2.2.2.2.1.2.2.1 S.2.2.2.2.2.1.2.2.2, bX4 G q (o + 36) S.2.2.2.2.2.2.1.1 S.2.2.2.2.2.2.1.2, bX3 G q (o + 38) S.2.2.2.2.2.2.2.1.1 S.2.2.2.2.2.2.2.1.2.1 S.2.2.2.2.2.2.2.1.2.2.1 S.2.2.2.2.2.2.2.1.2.2.2, bX0 G q (o + 43) S.2.2.2.2.2.2.2.2.1.2.2.1 S.2.2.2.2.2.2.2.2.1.2.2.2, bX2 G q ((o + 43) + 3) S.2.2.2.2.2.2.2.2.1.1.1 S.2.2.2.2.2.2.2.2.1.1.2.1 S.2.2.2.2.2.2.2.2.1.1.2.2.1 S.2.2.2.2.2.2.2.2.1.1.2.2.2.1 S.2.2.2.2.2.2.2.2.1.1.2.2.2.2.1 S.2.2.2.2.2.2.2.2.1.1.2.2.2.2.2.1 S.2.2.2.2.2.2.2.2.1.1.2.2.2.2.2.2.1 S.2.2.2.2.2.2.2.2.1.1.2.2.2.2.2.2.2, bX4 G q ((o + 43) + 9) S.2.2.2.2.2.2.2.2.1.2.1.1 S.2.2.2.2.2.2.2.2.1.2.1.2, bX7 G q (o + 54) S.2.2.2.2.2.2.2.2.2.1 S.2.2.2.2.2.2.2.2.2.2.1 S.2.2.2.2.2.2.2.2.2.2.2]) hS0 (c_X7_size l G q (o + 54) S.2.2.2.2.2.2.2.2.2 r1 e2) zc_X7_size rfl gX10_forget_X7_size ⟨Nat.le_of_ble_eq_true rfl, Nat.le_of_ble_eq_true rfl⟩ hK hA hT hw (is := [13]) rfl rfl rfl rfl rfl rfl rfl hl.1 rfl (Nat.le_of_ble_eq_true rfl) dX10_forget_9 (fun H locs hw => ?_)
    refine lv_icmp_le (tgt := 17) hx hb dX10_forget_12 rfl (fun hc => ?_) (fun hc => ?_)
    · have hf := z_t hc hf
      refine lv_aload_n hx hb dX10_forget_17 rfl (lv_at hl 0 rfl) ?_
      refine z_get hS0 in_X10_forget_X10 hK hw 0 9 rfl rfl rfl (by decide) (hts _ m_X10_forget_0) (v := .ref (q ((o + 54) + 0))) rfl dX10_forget_18 ?_
      refine lv_iload_n hx hb dX10_forget_21 rfl (lv_at hl 1 rfl) ?_
      obtain ⟨r3, e4, hf⟩ := z_bd hf
      refine z_callV1 (As := [.int v1]) (rest := []) (bs' := [bX10 G q o, bX9 G q (o + 1) S.1.1 S.1.2.1 S.1.2.2.1 S.1.2.2.2.1 S.1.2.2.2.2, bX6 G q (o + 3) S.2.1.1 S.2.1.2, bX8 G q (o + 12) S.2.2.1.1 S.2.2.1.2, bX5 G q (o + 19) S.2.2.2.1.2.1 S.2.2.2.1.2.2.1 S.2.2.2.1.2.2.2.1 S.2.2.2.1.2.2.2.2, bX2 G q ((o + 19) + 2) S.2.2.2.1.1.1 S.2.2.2.1.1.2.1 S.2.2.2.1.1.2.2.1 S.2.2.2.1.1.2.2.2.1 S.2.2.2.1.1.2.2.2.2.1 S.2.2.2.1.1.2.2.2.2.2.1 S.2.2.2.1.1.2.2.2.2.2.2.1 S.2.2.2.1.1.2.2.2.2.2.2.2, bX2 G q (o + 27) S.2.2.2.2.1.1 S.2.2.2.2.1.2.1 S.2.2.2.2.1.2.2.1 S.2.2.2.2.1.2.2.2.1 S.2.2.2.2.1.2.2.2.2.1 S.2.2.2.2.1.2.2.2.2.2.1 S.2.2.2.2.1.2.2.2.2.2.2.1 S.2.2.2.2.1.2.2.2.2.2.2.2, bX1 G q (o + 33) S.2.2.2.2.2.1.1 S.2.2.2.2.2.1.2.1 S.2.2.2.2.2.1.2.2.1 S.2.2.2.2.2.1.2.2.2, bX4 G q (o + 36) S.2.2.2.2.2.2.1.1 S.2.2.2.2.2.2.1.2, bX3 G q (o + 38) S.2.2.2.2.2.2.2.1.1 S.2.2.2.2.2.2.2.1.2.1 S.2.2.2.2.2.2.2.1.2.2.1 S.2.2.2.2.2.2.2.1.2.2.2, bX0 G q (o + 43) S.2.2.2.2.2.2.2.2.1.2.2.1 S.2.2.2.2.2.2.2.2.1.2.2.2, bX2 G q ((o + 43) + 3) S.2.2.2.2.2.2.2.2.1.1.1 S.2.2.2.2.2.2.2.2.1.1.2.1 S.2.2.2.2.2.2.2.2.1.1.2.2.1 S.2.2.2.2.2.2.2.2.1.1.2.2.2.1 S.2.2.2.2.2.2.2.2.1.1.2.2.2.2.1 S.2.2.2.2.2.2.2.2.1.1.2.2.2.2.2.1 S.2.2.2.2.2.2.2.2.1.1.2.2.2.2.2.2.1 S.2.2.2.2.2.2.2.2.1.1.2.2.2.2.2.2.2, bX4 G q ((o + 43) + 9) S.2.2.2.2.2.2.2.2.1.2.1.1 S.2.2.2.2.2.2.2.2.1.2.1.2, bX7 G q (o + 54) r3.2.1 r3.2.2.1 r3.2.2.2]) hS0 (c_X7_dropFrom l G q (o + 54) S.2.2.2.2.2.2.2.2.2 v1 r3 e4) zc_X7_dropFrom rfl gX10_forget_X7_dropFrom ⟨Nat.le_of_ble_eq_true rfl, Nat.le_of_ble_eq_true rfl⟩ hK hA hT hw (is := [13]) rfl rfl rfl rfl rfl rfl rfl hl.1 rfl (Nat.le_of_ble_eq_true rfl) dX10_forget_22 (fun H locs hw => ?_)
      cases hf
      exact z_iret hx hb hr hlk hw dX10_forget_25
    · have hf := z_f hc hf
      refine lv_iconst (v := (-1)) hx hb dX10_forget_15 rfl ?_
      cases hf
      exact z_iret hx hb hr hlk hw dX10_forget_16
theorem zc_X10_ill : zC yX10_ill wsX10_ill cX10_ill 7 (some .int) 1 := ⟨⟨_, rfl⟩, by decide +kernel, by decide +kernel, by decide +kernel, by decide +kernel⟩
theorem m_X10_ill_0 : (.fieldLink RX10 40 "CellKeys" "jail" "LCellKeys$Jail;" : Cond) ∈ wsX10_ill := by decide +kernel
theorem in_X10_ill_X10 : ∀ w ∈ u_ws RX10 TX10 10, w ∈ wsX10_ill := by decide +kernel
theorem m_X10_ill_1 : (.fieldLink RX10 10 "CellKeys" "told" "LCellKeys$Told;" : Cond) ∈ wsX10_ill := by decide +kernel
theorem m_X10_ill_2 : (.fieldLink RX10 54 "CellKeys" "reach" "LCellKeys$Reach;" : Cond) ∈ wsX10_ill := by decide +kernel
set_option maxHeartbeats 4000000 in
set_option maxRecDepth 100000 in
theorem k_X10_ill_98 {p : Program} {l : Launch} {e : Env} {s : State} {m : MethodId} {args : Array Value} {below : List Frame} {meth : Method} {c : Code} {A : Nat → Prop} {G : zG} {q : Nat → Nat} {o : Nat} {r_62 : VX10 → Int32 → Int32 → Int32 → Int32 → Option (Int32 × VX10)} (hZ : zZ p s m args meth c A G cX10_ill 7 RX10 wsX10_ill (some .int)) (y : Int32 × VX10) (h_62 : ∀ (S : VX10) (v2 : Int32) (v3 : Int32) (v4 : Int32) (v5 : Int32) (H : Heap) (locs : List Loc) (ls : Array Slot), r_62 S v2 v3 v4 v5 = some y → zH G A s.heap [bX10 G q o, bX9 G q (o + 1) S.1.1 S.1.2.1 S.1.2.2.1 S.1.2.2.2.1 S.1.2.2.2.2, bX6 G q (o + 3) S.2.1.1 S.2.1.2, bX8 G q (o + 12) S.2.2.1.1 S.2.2.1.2, bX5 G q (o + 19) S.2.2.2.1.2.1 S.2.2.2.1.2.2.1 S.2.2.2.1.2.2.2.1 S.2.2.2.1.2.2.2.2, bX2 G q ((o + 19) + 2) S.2.2.2.1.1.1 S.2.2.2.1.1.2.1 S.2.2.2.1.1.2.2.1 S.2.2.2.1.1.2.2.2.1 S.2.2.2.1.1.2.2.2.2.1 S.2.2.2.1.1.2.2.2.2.2.1 S.2.2.2.1.1.2.2.2.2.2.2.1 S.2.2.2.1.1.2.2.2.2.2.2.2, bX2 G q (o + 27) S.2.2.2.2.1.1 S.2.2.2.2.1.2.1 S.2.2.2.2.1.2.2.1 S.2.2.2.2.1.2.2.2.1 S.2.2.2.2.1.2.2.2.2.1 S.2.2.2.2.1.2.2.2.2.2.1 S.2.2.2.2.1.2.2.2.2.2.2.1 S.2.2.2.2.1.2.2.2.2.2.2.2, bX1 G q (o + 33) S.2.2.2.2.2.1.1 S.2.2.2.2.2.1.2.1 S.2.2.2.2.2.1.2.2.1 S.2.2.2.2.2.1.2.2.2, bX4 G q (o + 36) S.2.2.2.2.2.2.1.1 S.2.2.2.2.2.2.1.2, bX3 G q (o + 38) S.2.2.2.2.2.2.2.1.1 S.2.2.2.2.2.2.2.1.2.1 S.2.2.2.2.2.2.2.1.2.2.1 S.2.2.2.2.2.2.2.1.2.2.2, bX0 G q (o + 43) S.2.2.2.2.2.2.2.2.1.2.2.1 S.2.2.2.2.2.2.2.2.1.2.2.2, bX2 G q ((o + 43) + 3) S.2.2.2.2.2.2.2.2.1.1.1 S.2.2.2.2.2.2.2.2.1.1.2.1 S.2.2.2.2.2.2.2.2.1.1.2.2.1 S.2.2.2.2.2.2.2.2.1.1.2.2.2.1 S.2.2.2.2.2.2.2.2.1.1.2.2.2.2.1 S.2.2.2.2.2.2.2.2.1.1.2.2.2.2.2.1 S.2.2.2.2.2.2.2.2.1.1.2.2.2.2.2.2.1 S.2.2.2.2.2.2.2.2.1.1.2.2.2.2.2.2.2, bX4 G q ((o + 43) + 9) S.2.2.2.2.2.2.2.2.1.2.1.1 S.2.2.2.2.2.2.2.2.1.2.1.2, bX7 G q (o + 54) S.2.2.2.2.2.2.2.2.2.1 S.2.2.2.2.2.2.2.2.2.2.1 S.2.2.2.2.2.2.2.2.2.2.2] H locs → lv_has ls 7 [(0, .ref (q (o + 0))), (2, .int v2), (3, .int v3), (4, .int v4), (5, .int v5)] → W p l e { frames := 5, cells := 0, slots := 0, locals := 127 } s m args below meth c H locs 0 0 (MQ below (zQ (some (.int y.1)) (zPost G [bX10 G q o, bX9 G q (o + 1) y.2.1.1 y.2.1.2.1 y.2.1.2.2.1 y.2.1.2.2.2.1 y.2.1.2.2.2.2, bX6 G q (o + 3) y.2.2.1.1 y.2.2.1.2, bX8 G q (o + 12) y.2.2.2.1.1 y.2.2.2.1.2, bX5 G q (o + 19) y.2.2.2.2.1.2.1 y.2.2.2.2.1.2.2.1 y.2.2.2.2.1.2.2.2.1 y.2.2.2.2.1.2.2.2.2, bX2 G q ((o + 19) + 2) y.2.2.2.2.1.1.1 y.2.2.2.2.1.1.2.1 y.2.2.2.2.1.1.2.2.1 y.2.2.2.2.1.1.2.2.2.1 y.2.2.2.2.1.1.2.2.2.2.1 y.2.2.2.2.1.1.2.2.2.2.2.1 y.2.2.2.2.1.1.2.2.2.2.2.2.1 y.2.2.2.2.1.1.2.2.2.2.2.2.2, bX2 G q (o + 27) y.2.2.2.2.2.1.1 y.2.2.2.2.2.1.2.1 y.2.2.2.2.2.1.2.2.1 y.2.2.2.2.2.1.2.2.2.1 y.2.2.2.2.2.1.2.2.2.2.1 y.2.2.2.2.2.1.2.2.2.2.2.1 y.2.2.2.2.2.1.2.2.2.2.2.2.1 y.2.2.2.2.2.1.2.2.2.2.2.2.2, bX1 G q (o + 33) y.2.2.2.2.2.2.1.1 y.2.2.2.2.2.2.1.2.1 y.2.2.2.2.2.2.1.2.2.1 y.2.2.2.2.2.2.1.2.2.2, bX4 G q (o + 36) y.2.2.2.2.2.2.2.1.1 y.2.2.2.2.2.2.2.1.2, bX3 G q (o + 38) y.2.2.2.2.2.2.2.2.1.1 y.2.2.2.2.2.2.2.2.1.2.1 y.2.2.2.2.2.2.2.2.1.2.2.1 y.2.2.2.2.2.2.2.2.1.2.2.2, bX0 G q (o + 43) y.2.2.2.2.2.2.2.2.2.1.2.2.1 y.2.2.2.2.2.2.2.2.2.1.2.2.2, bX2 G q ((o + 43) + 3) y.2.2.2.2.2.2.2.2.2.1.1.1 y.2.2.2.2.2.2.2.2.2.1.1.2.1 y.2.2.2.2.2.2.2.2.2.1.1.2.2.1 y.2.2.2.2.2.2.2.2.2.1.1.2.2.2.1 y.2.2.2.2.2.2.2.2.2.1.1.2.2.2.2.1 y.2.2.2.2.2.2.2.2.2.1.1.2.2.2.2.2.1 y.2.2.2.2.2.2.2.2.2.1.1.2.2.2.2.2.2.1 y.2.2.2.2.2.2.2.2.2.1.1.2.2.2.2.2.2.2, bX4 G q ((o + 43) + 9) y.2.2.2.2.2.2.2.2.2.1.2.1.1 y.2.2.2.2.2.2.2.2.2.1.2.1.2, bX7 G q (o + 54) y.2.2.2.2.2.2.2.2.2.2.1 y.2.2.2.2.2.2.2.2.2.2.2.1 y.2.2.2.2.2.2.2.2.2.2.2.2]) A) args s 0 0 A) (F0 m 62 ls [])) : ∀ (S : VX10) (v2 : Int32) (v3 : Int32) (v4 : Int32) (v5 : Int32) (t0 : Int32) (H : Heap) (locs : List Loc) (ls : Array Slot), f_X10_ill_98 r_62 S v2 v3 v4 v5 t0 = some y → zH G A s.heap [bX10 G q o, bX9 G q (o + 1) S.1.1 S.1.2.1 S.1.2.2.1 S.1.2.2.2.1 S.1.2.2.2.2, bX6 G q (o + 3) S.2.1.1 S.2.1.2, bX8 G q (o + 12) S.2.2.1.1 S.2.2.1.2, bX5 G q (o + 19) S.2.2.2.1.2.1 S.2.2.2.1.2.2.1 S.2.2.2.1.2.2.2.1 S.2.2.2.1.2.2.2.2, bX2 G q ((o + 19) + 2) S.2.2.2.1.1.1 S.2.2.2.1.1.2.1 S.2.2.2.1.1.2.2.1 S.2.2.2.1.1.2.2.2.1 S.2.2.2.1.1.2.2.2.2.1 S.2.2.2.1.1.2.2.2.2.2.1 S.2.2.2.1.1.2.2.2.2.2.2.1 S.2.2.2.1.1.2.2.2.2.2.2.2, bX2 G q (o + 27) S.2.2.2.2.1.1 S.2.2.2.2.1.2.1 S.2.2.2.2.1.2.2.1 S.2.2.2.2.1.2.2.2.1 S.2.2.2.2.1.2.2.2.2.1 S.2.2.2.2.1.2.2.2.2.2.1 S.2.2.2.2.1.2.2.2.2.2.2.1 S.2.2.2.2.1.2.2.2.2.2.2.2, bX1 G q (o + 33) S.2.2.2.2.2.1.1 S.2.2.2.2.2.1.2.1 S.2.2.2.2.2.1.2.2.1 S.2.2.2.2.2.1.2.2.2, bX4 G q (o + 36) S.2.2.2.2.2.2.1.1 S.2.2.2.2.2.2.1.2, bX3 G q (o + 38) S.2.2.2.2.2.2.2.1.1 S.2.2.2.2.2.2.2.1.2.1 S.2.2.2.2.2.2.2.1.2.2.1 S.2.2.2.2.2.2.2.1.2.2.2, bX0 G q (o + 43) S.2.2.2.2.2.2.2.2.1.2.2.1 S.2.2.2.2.2.2.2.2.1.2.2.2, bX2 G q ((o + 43) + 3) S.2.2.2.2.2.2.2.2.1.1.1 S.2.2.2.2.2.2.2.2.1.1.2.1 S.2.2.2.2.2.2.2.2.1.1.2.2.1 S.2.2.2.2.2.2.2.2.1.1.2.2.2.1 S.2.2.2.2.2.2.2.2.1.1.2.2.2.2.1 S.2.2.2.2.2.2.2.2.1.1.2.2.2.2.2.1 S.2.2.2.2.2.2.2.2.1.1.2.2.2.2.2.2.1 S.2.2.2.2.2.2.2.2.1.1.2.2.2.2.2.2.2, bX4 G q ((o + 43) + 9) S.2.2.2.2.2.2.2.2.1.2.1.1 S.2.2.2.2.2.2.2.2.1.2.1.2, bX7 G q (o + 54) S.2.2.2.2.2.2.2.2.2.1 S.2.2.2.2.2.2.2.2.2.2.1 S.2.2.2.2.2.2.2.2.2.2.2] H locs → lv_has ls 7 [(0, .ref (q (o + 0))), (2, .int v2), (3, .int v3), (4, .int v4), (5, .int v5)] → W p l e { frames := 5, cells := 0, slots := 0, locals := 127 } s m args below meth c H locs 0 0 (MQ below (zQ (some (.int y.1)) (zPost G [bX10 G q o, bX9 G q (o + 1) y.2.1.1 y.2.1.2.1 y.2.1.2.2.1 y.2.1.2.2.2.1 y.2.1.2.2.2.2, bX6 G q (o + 3) y.2.2.1.1 y.2.2.1.2, bX8 G q (o + 12) y.2.2.2.1.1 y.2.2.2.1.2, bX5 G q (o + 19) y.2.2.2.2.1.2.1 y.2.2.2.2.1.2.2.1 y.2.2.2.2.1.2.2.2.1 y.2.2.2.2.1.2.2.2.2, bX2 G q ((o + 19) + 2) y.2.2.2.2.1.1.1 y.2.2.2.2.1.1.2.1 y.2.2.2.2.1.1.2.2.1 y.2.2.2.2.1.1.2.2.2.1 y.2.2.2.2.1.1.2.2.2.2.1 y.2.2.2.2.1.1.2.2.2.2.2.1 y.2.2.2.2.1.1.2.2.2.2.2.2.1 y.2.2.2.2.1.1.2.2.2.2.2.2.2, bX2 G q (o + 27) y.2.2.2.2.2.1.1 y.2.2.2.2.2.1.2.1 y.2.2.2.2.2.1.2.2.1 y.2.2.2.2.2.1.2.2.2.1 y.2.2.2.2.2.1.2.2.2.2.1 y.2.2.2.2.2.1.2.2.2.2.2.1 y.2.2.2.2.2.1.2.2.2.2.2.2.1 y.2.2.2.2.2.1.2.2.2.2.2.2.2, bX1 G q (o + 33) y.2.2.2.2.2.2.1.1 y.2.2.2.2.2.2.1.2.1 y.2.2.2.2.2.2.1.2.2.1 y.2.2.2.2.2.2.1.2.2.2, bX4 G q (o + 36) y.2.2.2.2.2.2.2.1.1 y.2.2.2.2.2.2.2.1.2, bX3 G q (o + 38) y.2.2.2.2.2.2.2.2.1.1 y.2.2.2.2.2.2.2.2.1.2.1 y.2.2.2.2.2.2.2.2.1.2.2.1 y.2.2.2.2.2.2.2.2.1.2.2.2, bX0 G q (o + 43) y.2.2.2.2.2.2.2.2.2.1.2.2.1 y.2.2.2.2.2.2.2.2.2.1.2.2.2, bX2 G q ((o + 43) + 3) y.2.2.2.2.2.2.2.2.2.1.1.1 y.2.2.2.2.2.2.2.2.2.1.1.2.1 y.2.2.2.2.2.2.2.2.2.1.1.2.2.1 y.2.2.2.2.2.2.2.2.2.1.1.2.2.2.1 y.2.2.2.2.2.2.2.2.2.1.1.2.2.2.2.1 y.2.2.2.2.2.2.2.2.2.1.1.2.2.2.2.2.1 y.2.2.2.2.2.2.2.2.2.1.1.2.2.2.2.2.2.1 y.2.2.2.2.2.2.2.2.2.1.1.2.2.2.2.2.2.2, bX4 G q ((o + 43) + 9) y.2.2.2.2.2.2.2.2.2.1.2.1.1 y.2.2.2.2.2.2.2.2.2.1.2.1.2, bX7 G q (o + 54) y.2.2.2.2.2.2.2.2.2.2.1 y.2.2.2.2.2.2.2.2.2.2.2.1 y.2.2.2.2.2.2.2.2.2.2.2.2]) A) args s 0 0 A) (F0 m 98 ls [.int t0]) := by
  obtain ⟨hS0, hr, hlk, hK, hA, hT⟩ := id hZ
  have hx := hS0.1
  have hb := hS0.2.1
  have hml := hS0.2.2.1
  have hown : s.vm.findClass RX10 = some m.cls := hS0.2.2.2.1
  have hts := hS0.2.2.2.2
  intro S v2 v3 v4 v5 t0 H locs ls hf hw hl
  unfold f_X10_ill_98 at hf
  refine lv_istore (lv' := [(6, .int t0), (0, .ref (q (o + 0))), (2, .int v2), (3, .int v3), (4, .int v4), (5, .int v5)]) hx hb dX10_ill_98 hl (by decide) rfl (fun ls hl => ?_)
  refine lv_iload hx hb dX10_ill_100 (lv_at hl 0 rfl) ?_
  refine lv_bipush (v := (-9)) hx hb dX10_ill_102 rfl ?_
  refine lv_icmp_eq (tgt := 126) hx hb dX10_ill_104 rfl (fun hc => ?_) (fun hc => ?_)
  · have hf := z_t hc hf
    refine lv_iinc (v := (v5 + 1)) (lv' := [(5, .int (v5 + 1)), (6, .int t0), (0, .ref (q (o + 0))), (2, .int v2), (3, .int v3), (4, .int v4)]) hx hb dX10_ill_126 hl (k := 5) rfl rfl (by decide) rfl (fun ls hl => ?_)
    refine lv_goto (tgt := 62) hx hb dX10_ill_129 rfl ?_
    exact h_62 _ _ _ _ _ _ _ _ hf hw (lv_sub hl [2, 3, 4, 5, 0] rfl)
  · have hf := z_f hc hf
    refine lv_iload_n hx hb dX10_ill_107 rfl (lv_at hl 3 rfl) ?_
    refine lv_bipush (v := (-9)) hx hb dX10_ill_108 rfl ?_
    refine lv_icmp_eq (tgt := 119) hx hb dX10_ill_110 rfl (fun hc => ?_) (fun hc => ?_)
    · have hf := z_t hc hf
      refine lv_iload hx hb dX10_ill_119 (lv_at hl 0 rfl) ?_
      refine lv_istore_n (lv' := [(3, .int t0), (6, .int t0), (0, .ref (q (o + 0))), (2, .int v2), (4, .int v4), (5, .int v5)]) hx hb dX10_ill_121 rfl hl (by decide) rfl (fun ls hl => ?_)
      refine lv_iload hx hb dX10_ill_122 (lv_at hl 5 rfl) ?_
      refine lv_istore (lv' := [(4, .int v5), (3, .int t0), (6, .int t0), (0, .ref (q (o + 0))), (2, .int v2), (5, .int v5)]) hx hb dX10_ill_124 hl (by decide) rfl (fun ls hl => ?_)
      refine lv_iinc (v := (v5 + 1)) (lv' := [(5, .int (v5 + 1)), (4, .int v5), (3, .int t0), (6, .int t0), (0, .ref (q (o + 0))), (2, .int v2)]) hx hb dX10_ill_126 hl (k := 5) rfl rfl (by decide) rfl (fun ls hl => ?_)
      refine lv_goto (tgt := 62) hx hb dX10_ill_129 rfl ?_
      exact h_62 _ _ _ _ _ _ _ _ hf hw (lv_sub hl [4, 5, 2, 1, 0] rfl)
    · have hf := z_f hc hf
      refine lv_iload hx hb dX10_ill_113 (lv_at hl 0 rfl) ?_
      refine lv_iload_n hx hb dX10_ill_115 rfl (lv_at hl 3 rfl) ?_
      refine lv_icmp_ge (tgt := 126) hx hb dX10_ill_116 rfl (fun hc => ?_) (fun hc => ?_)
      · have hf := z_t hc hf
        refine lv_iinc (v := (v5 + 1)) (lv' := [(5, .int (v5 + 1)), (6, .int t0), (0, .ref (q (o + 0))), (2, .int v2), (3, .int v3), (4, .int v4)]) hx hb dX10_ill_126 hl (k := 5) rfl rfl (by decide) rfl (fun ls hl => ?_)
        refine lv_goto (tgt := 62) hx hb dX10_ill_129 rfl ?_
        exact h_62 _ _ _ _ _ _ _ _ hf hw (lv_sub hl [2, 3, 4, 5, 0] rfl)
      · have hf := z_f hc hf
        refine lv_iload hx hb dX10_ill_119 (lv_at hl 0 rfl) ?_
        refine lv_istore_n (lv' := [(3, .int t0), (6, .int t0), (0, .ref (q (o + 0))), (2, .int v2), (4, .int v4), (5, .int v5)]) hx hb dX10_ill_121 rfl hl (by decide) rfl (fun ls hl => ?_)
        refine lv_iload hx hb dX10_ill_122 (lv_at hl 5 rfl) ?_
        refine lv_istore (lv' := [(4, .int v5), (3, .int t0), (6, .int t0), (0, .ref (q (o + 0))), (2, .int v2), (5, .int v5)]) hx hb dX10_ill_124 hl (by decide) rfl (fun ls hl => ?_)
        refine lv_iinc (v := (v5 + 1)) (lv' := [(5, .int (v5 + 1)), (4, .int v5), (3, .int t0), (6, .int t0), (0, .ref (q (o + 0))), (2, .int v2)]) hx hb dX10_ill_126 hl (k := 5) rfl rfl (by decide) rfl (fun ls hl => ?_)
        refine lv_goto (tgt := 62) hx hb dX10_ill_129 rfl ?_
        exact h_62 _ _ _ _ _ _ _ _ hf hw (lv_sub hl [4, 5, 2, 1, 0] rfl)
set_option maxHeartbeats 4000000 in
set_option maxRecDepth 100000 in
theorem k_X10_ill_62 {p : Program} {l : Launch} {e : Env} {s : State} {m : MethodId} {args : Array Value} {below : List Frame} {meth : Method} {c : Code} {A : Nat → Prop} {G : zG} {q : Nat → Nat} {o : Nat}  (hZ : zZ p s m args meth c A G cX10_ill 7 RX10 wsX10_ill (some .int)) (y : Int32 × VX10)  (n : Nat) : ∀ (S : VX10) (v2 : Int32) (v3 : Int32) (v4 : Int32) (v5 : Int32) (H : Heap) (locs : List Loc) (ls : Array Slot), f_X10_ill_62 n S v2 v3 v4 v5 = some y → zH G A s.heap [bX10 G q o, bX9 G q (o + 1) S.1.1 S.1.2.1 S.1.2.2.1 S.1.2.2.2.1 S.1.2.2.2.2, bX6 G q (o + 3) S.2.1.1 S.2.1.2, bX8 G q (o + 12) S.2.2.1.1 S.2.2.1.2, bX5 G q (o + 19) S.2.2.2.1.2.1 S.2.2.2.1.2.2.1 S.2.2.2.1.2.2.2.1 S.2.2.2.1.2.2.2.2, bX2 G q ((o + 19) + 2) S.2.2.2.1.1.1 S.2.2.2.1.1.2.1 S.2.2.2.1.1.2.2.1 S.2.2.2.1.1.2.2.2.1 S.2.2.2.1.1.2.2.2.2.1 S.2.2.2.1.1.2.2.2.2.2.1 S.2.2.2.1.1.2.2.2.2.2.2.1 S.2.2.2.1.1.2.2.2.2.2.2.2, bX2 G q (o + 27) S.2.2.2.2.1.1 S.2.2.2.2.1.2.1 S.2.2.2.2.1.2.2.1 S.2.2.2.2.1.2.2.2.1 S.2.2.2.2.1.2.2.2.2.1 S.2.2.2.2.1.2.2.2.2.2.1 S.2.2.2.2.1.2.2.2.2.2.2.1 S.2.2.2.2.1.2.2.2.2.2.2.2, bX1 G q (o + 33) S.2.2.2.2.2.1.1 S.2.2.2.2.2.1.2.1 S.2.2.2.2.2.1.2.2.1 S.2.2.2.2.2.1.2.2.2, bX4 G q (o + 36) S.2.2.2.2.2.2.1.1 S.2.2.2.2.2.2.1.2, bX3 G q (o + 38) S.2.2.2.2.2.2.2.1.1 S.2.2.2.2.2.2.2.1.2.1 S.2.2.2.2.2.2.2.1.2.2.1 S.2.2.2.2.2.2.2.1.2.2.2, bX0 G q (o + 43) S.2.2.2.2.2.2.2.2.1.2.2.1 S.2.2.2.2.2.2.2.2.1.2.2.2, bX2 G q ((o + 43) + 3) S.2.2.2.2.2.2.2.2.1.1.1 S.2.2.2.2.2.2.2.2.1.1.2.1 S.2.2.2.2.2.2.2.2.1.1.2.2.1 S.2.2.2.2.2.2.2.2.1.1.2.2.2.1 S.2.2.2.2.2.2.2.2.1.1.2.2.2.2.1 S.2.2.2.2.2.2.2.2.1.1.2.2.2.2.2.1 S.2.2.2.2.2.2.2.2.1.1.2.2.2.2.2.2.1 S.2.2.2.2.2.2.2.2.1.1.2.2.2.2.2.2.2, bX4 G q ((o + 43) + 9) S.2.2.2.2.2.2.2.2.1.2.1.1 S.2.2.2.2.2.2.2.2.1.2.1.2, bX7 G q (o + 54) S.2.2.2.2.2.2.2.2.2.1 S.2.2.2.2.2.2.2.2.2.2.1 S.2.2.2.2.2.2.2.2.2.2.2] H locs → lv_has ls 7 [(0, .ref (q (o + 0))), (2, .int v2), (3, .int v3), (4, .int v4), (5, .int v5)] → W p l e { frames := 5, cells := 0, slots := 0, locals := 127 } s m args below meth c H locs 0 0 (MQ below (zQ (some (.int y.1)) (zPost G [bX10 G q o, bX9 G q (o + 1) y.2.1.1 y.2.1.2.1 y.2.1.2.2.1 y.2.1.2.2.2.1 y.2.1.2.2.2.2, bX6 G q (o + 3) y.2.2.1.1 y.2.2.1.2, bX8 G q (o + 12) y.2.2.2.1.1 y.2.2.2.1.2, bX5 G q (o + 19) y.2.2.2.2.1.2.1 y.2.2.2.2.1.2.2.1 y.2.2.2.2.1.2.2.2.1 y.2.2.2.2.1.2.2.2.2, bX2 G q ((o + 19) + 2) y.2.2.2.2.1.1.1 y.2.2.2.2.1.1.2.1 y.2.2.2.2.1.1.2.2.1 y.2.2.2.2.1.1.2.2.2.1 y.2.2.2.2.1.1.2.2.2.2.1 y.2.2.2.2.1.1.2.2.2.2.2.1 y.2.2.2.2.1.1.2.2.2.2.2.2.1 y.2.2.2.2.1.1.2.2.2.2.2.2.2, bX2 G q (o + 27) y.2.2.2.2.2.1.1 y.2.2.2.2.2.1.2.1 y.2.2.2.2.2.1.2.2.1 y.2.2.2.2.2.1.2.2.2.1 y.2.2.2.2.2.1.2.2.2.2.1 y.2.2.2.2.2.1.2.2.2.2.2.1 y.2.2.2.2.2.1.2.2.2.2.2.2.1 y.2.2.2.2.2.1.2.2.2.2.2.2.2, bX1 G q (o + 33) y.2.2.2.2.2.2.1.1 y.2.2.2.2.2.2.1.2.1 y.2.2.2.2.2.2.1.2.2.1 y.2.2.2.2.2.2.1.2.2.2, bX4 G q (o + 36) y.2.2.2.2.2.2.2.1.1 y.2.2.2.2.2.2.2.1.2, bX3 G q (o + 38) y.2.2.2.2.2.2.2.2.1.1 y.2.2.2.2.2.2.2.2.1.2.1 y.2.2.2.2.2.2.2.2.1.2.2.1 y.2.2.2.2.2.2.2.2.1.2.2.2, bX0 G q (o + 43) y.2.2.2.2.2.2.2.2.2.1.2.2.1 y.2.2.2.2.2.2.2.2.2.1.2.2.2, bX2 G q ((o + 43) + 3) y.2.2.2.2.2.2.2.2.2.1.1.1 y.2.2.2.2.2.2.2.2.2.1.1.2.1 y.2.2.2.2.2.2.2.2.2.1.1.2.2.1 y.2.2.2.2.2.2.2.2.2.1.1.2.2.2.1 y.2.2.2.2.2.2.2.2.2.1.1.2.2.2.2.1 y.2.2.2.2.2.2.2.2.2.1.1.2.2.2.2.2.1 y.2.2.2.2.2.2.2.2.2.1.1.2.2.2.2.2.2.1 y.2.2.2.2.2.2.2.2.2.1.1.2.2.2.2.2.2.2, bX4 G q ((o + 43) + 9) y.2.2.2.2.2.2.2.2.2.1.2.1.1 y.2.2.2.2.2.2.2.2.2.1.2.1.2, bX7 G q (o + 54) y.2.2.2.2.2.2.2.2.2.2.1 y.2.2.2.2.2.2.2.2.2.2.2.1 y.2.2.2.2.2.2.2.2.2.2.2.2]) A) args s 0 0 A) (F0 m 62 ls []) := by
  obtain ⟨hS0, hr, hlk, hK, hA, hT⟩ := id hZ
  have hx := hS0.1
  have hb := hS0.2.1
  have hml := hS0.2.2.1
  have hown : s.vm.findClass RX10 = some m.cls := hS0.2.2.2.1
  have hts := hS0.2.2.2.2
  induction n with
  | zero =>
    intro S v2 v3 v4 v5 H locs ls hf hw hl
    unfold f_X10_ill_62 at hf
    cases hf
  | succ n ih =>
    intro S v2 v3 v4 v5 H locs ls hf hw hl
    unfold f_X10_ill_62 at hf
    refine lv_iload hx hb dX10_ill_62 (lv_at hl 4 rfl) ?_
    refine lv_aload_n hx hb dX10_ill_64 rfl (lv_at hl 0 rfl) ?_
    refine z_get hS0 in_X10_ill_X10 hK hw 0 4 rfl rfl rfl (by decide) (hts _ m_X10_ill_0) (v := .ref (q ((o + 27) + 0))) rfl dX10_ill_65 ?_
    obtain ⟨r1, e2, hf⟩ := z_bd hf
    refine z_callV1 (As := []) (rest := [.int v5]) (bs' := [bX10 G q o, bX9 G q (o + 1) S.1.1 S.1.2.1 S.1.2.2.1 S.1.2.2.2.1 S.1.2.2.2.2, bX6 G q (o + 3) S.2.1.1 S.2.1.2, bX8 G q (o + 12) S.2.2.1.1 S.2.2.1.2, bX5 G q (o + 19) S.2.2.2.1.2.1 S.2.2.2.1.2.2.1 S.2.2.2.1.2.2.2.1 S.2.2.2.1.2.2.2.2, bX2 G q ((o + 19) + 2) S.2.2.2.1.1.1 S.2.2.2.1.1.2.1 S.2.2.2.1.1.2.2.1 S.2.2.2.1.1.2.2.2.1 S.2.2.2.1.1.2.2.2.2.1 S.2.2.2.1.1.2.2.2.2.2.1 S.2.2.2.1.1.2.2.2.2.2.2.1 S.2.2.2.1.1.2.2.2.2.2.2.2, bX2 G q (o + 27) S.2.2.2.2.1.1 S.2.2.2.2.1.2.1 S.2.2.2.2.1.2.2.1 S.2.2.2.2.1.2.2.2.1 S.2.2.2.2.1.2.2.2.2.1 S.2.2.2.2.1.2.2.2.2.2.1 S.2.2.2.2.1.2.2.2.2.2.2.1 S.2.2.2.2.1.2.2.2.2.2.2.2, bX1 G q (o + 33) S.2.2.2.2.2.1.1 S.2.2.2.2.2.1.2.1 S.2.2.2.2.2.1.2.2.1 S.2.2.2.2.2.1.2.2.2, bX4 G q (o + 36) S.2.2.2.2.2.2.1.1 S.2.2.2.2.2.2.1.2, bX3 G q (o + 38) S.2.2.2.2.2.2.2.1.1 S.2.2.2.2.2.2.2.1.2.1 S.2.2.2.2.2.2.2.1.2.2.1 S.2.2.2.2.2.2.2.1.2.2.2, bX0 G q (o + 43) S.2.2.2.2.2.2.2.2.1.2.2.1 S.2.2.2.2.2.2.2.2.1.2.2.2, bX2 G q ((o + 43) + 3) S.2.2.2.2.2.2.2.2.1.1.1 S.2.2.2.2.2.2.2.2.1.1.2.1 S.2.2.2.2.2.2.2.2.1.1.2.2.1 S.2.2.2.2.2.2.2.2.1.1.2.2.2.1 S.2.2.2.2.2.2.2.2.1.1.2.2.2.2.1 S.2.2.2.2.2.2.2.2.1.1.2.2.2.2.2.1 S.2.2.2.2.2.2.2.2.1.1.2.2.2.2.2.2.1 S.2.2.2.2.2.2.2.2.1.1.2.2.2.2.2.2.2, bX4 G q ((o + 43) + 9) S.2.2.2.2.2.2.2.2.1.2.1.1 S.2.2.2.2.2.2.2.2.1.2.1.2, bX7 G q (o + 54) S.2.2.2.2.2.2.2.2.2.1 S.2.2.2.2.2.2.2.2.2.2.1 S.2.2.2.2.2.2.2.2.2.2.2]) hS0 (c_X2_cells l G q (o + 27) S.2.2.2.2.1 r1 e2) zc_X2_cells rfl gX10_ill_X2_cells ⟨Nat.le_of_ble_eq_true rfl, Nat.le_of_ble_eq_true rfl⟩ hK hA hT hw (is := [6]) rfl rfl rfl rfl rfl rfl rfl hl.1 rfl (Nat.le_of_ble_eq_true rfl) dX10_ill_68 (fun H locs hw => ?_)
    refine lv_icmp_ge (tgt := 132) hx hb dX10_ill_71 rfl (fun hc => ?_) (fun hc => ?_)
    · have hf := z_t hc hf
      refine lv_iload_n hx hb dX10_ill_132 rfl (lv_at hl 2 rfl) ?_
      refine lv_bipush (v := (-9)) hx hb dX10_ill_133 rfl ?_
      refine lv_icmp_eq (tgt := 147) hx hb dX10_ill_135 rfl (fun hc => ?_) (fun hc => ?_)
      · have hf := z_t hc hf
        refine lv_iload_n hx hb dX10_ill_147 rfl (lv_at hl 2 rfl) ?_
        cases hf
        exact z_iret hx hb hr hlk hw dX10_ill_148
      · have hf := z_f hc hf
        refine lv_aload_n hx hb dX10_ill_138 rfl (lv_at hl 0 rfl) ?_
        refine z_get hS0 in_X10_ill_X10 hK hw 0 0 rfl rfl rfl (by decide) (hts _ m_X10_ill_1) (v := .ref (q ((o + 1) + 0))) rfl dX10_ill_139 ?_
        refine lv_iload hx hb dX10_ill_142 (lv_at hl 3 rfl) ?_
        obtain ⟨r3, e4, hf⟩ := z_bd hf
        refine z_callV0 (As := [.int v4]) (rest := []) (bs' := [bX10 G q o, bX9 G q (o + 1) r3.1 r3.2.1 r3.2.2.1 r3.2.2.2.1 r3.2.2.2.2, bX6 G q (o + 3) S.2.1.1 S.2.1.2, bX8 G q (o + 12) S.2.2.1.1 S.2.2.1.2, bX5 G q (o + 19) S.2.2.2.1.2.1 S.2.2.2.1.2.2.1 S.2.2.2.1.2.2.2.1 S.2.2.2.1.2.2.2.2, bX2 G q ((o + 19) + 2) S.2.2.2.1.1.1 S.2.2.2.1.1.2.1 S.2.2.2.1.1.2.2.1 S.2.2.2.1.1.2.2.2.1 S.2.2.2.1.1.2.2.2.2.1 S.2.2.2.1.1.2.2.2.2.2.1 S.2.2.2.1.1.2.2.2.2.2.2.1 S.2.2.2.1.1.2.2.2.2.2.2.2, bX2 G q (o + 27) S.2.2.2.2.1.1 S.2.2.2.2.1.2.1 S.2.2.2.2.1.2.2.1 S.2.2.2.2.1.2.2.2.1 S.2.2.2.2.1.2.2.2.2.1 S.2.2.2.2.1.2.2.2.2.2.1 S.2.2.2.2.1.2.2.2.2.2.2.1 S.2.2.2.2.1.2.2.2.2.2.2.2, bX1 G q (o + 33) S.2.2.2.2.2.1.1 S.2.2.2.2.2.1.2.1 S.2.2.2.2.2.1.2.2.1 S.2.2.2.2.2.1.2.2.2, bX4 G q (o + 36) S.2.2.2.2.2.2.1.1 S.2.2.2.2.2.2.1.2, bX3 G q (o + 38) S.2.2.2.2.2.2.2.1.1 S.2.2.2.2.2.2.2.1.2.1 S.2.2.2.2.2.2.2.1.2.2.1 S.2.2.2.2.2.2.2.1.2.2.2, bX0 G q (o + 43) S.2.2.2.2.2.2.2.2.1.2.2.1 S.2.2.2.2.2.2.2.2.1.2.2.2, bX2 G q ((o + 43) + 3) S.2.2.2.2.2.2.2.2.1.1.1 S.2.2.2.2.2.2.2.2.1.1.2.1 S.2.2.2.2.2.2.2.2.1.1.2.2.1 S.2.2.2.2.2.2.2.2.1.1.2.2.2.1 S.2.2.2.2.2.2.2.2.1.1.2.2.2.2.1 S.2.2.2.2.2.2.2.2.1.1.2.2.2.2.2.1 S.2.2.2.2.2.2.2.2.1.1.2.2.2.2.2.2.1 S.2.2.2.2.2.2.2.2.1.1.2.2.2.2.2.2.2, bX4 G q ((o + 43) + 9) S.2.2.2.2.2.2.2.2.1.2.1.1 S.2.2.2.2.2.2.2.2.1.2.1.2, bX7 G q (o + 54) S.2.2.2.2.2.2.2.2.2.1 S.2.2.2.2.2.2.2.2.2.2.1 S.2.2.2.2.2.2.2.2.2.2.2]) hS0 (c_X9_tell l G q (o + 1) S.1 v4 r3 e4) zc_X9_tell rfl gX10_ill_X9_tell ⟨Nat.le_of_ble_eq_true rfl, Nat.le_of_ble_eq_true rfl⟩ hK hA hT hw (is := [1]) rfl rfl rfl rfl rfl rfl rfl hl.1 rfl (Nat.le_of_ble_eq_true rfl) dX10_ill_144 (fun H locs hw => ?_)
        refine lv_iload_n hx hb dX10_ill_147 rfl (lv_at hl 2 rfl) ?_
        cases hf
        exact z_iret hx hb hr hlk hw dX10_ill_148
    · have hf := z_f hc hf
      refine lv_iload_n hx hb dX10_ill_74 rfl (lv_at hl 1 rfl) ?_
      refine lv_iload hx hb dX10_ill_75 (lv_at hl 4 rfl) ?_
      refine lv_ishr hx hb dX10_ill_77 ?_
      refine lv_iconst (v := 1) hx hb dX10_ill_78 rfl ?_
      refine lv_iand hx hb dX10_ill_79 ?_
      refine lv_iconst (v := 1) hx hb dX10_ill_80 rfl ?_
      refine lv_icmp_ne (tgt := 96) hx hb dX10_ill_81 rfl (fun hc => ?_) (fun hc => ?_)
      · have hf := z_f hc hf
        refine lv_bipush (v := (-9)) hx hb dX10_ill_96 rfl ?_
        exact k_X10_ill_98 hZ _ ih _ _ _ _ _ _ _ _ _ hf hw (lv_sub hl [0, 1, 2, 3, 4] rfl)
      · have hf := z_t hc hf
        refine lv_aload_n hx hb dX10_ill_84 rfl (lv_at hl 0 rfl) ?_
        refine z_get hS0 in_X10_ill_X10 hK hw 0 6 rfl rfl rfl (by decide) (hts _ m_X10_ill_2) (v := .ref (q ((o + 36) + 0))) rfl dX10_ill_85 ?_
        refine lv_iload hx hb dX10_ill_88 (lv_at hl 4 rfl) ?_
        obtain ⟨r5, e6, hf⟩ := z_bd hf
        refine z_callV1 (As := [.int v5]) (rest := []) (bs' := [bX10 G q o, bX9 G q (o + 1) S.1.1 S.1.2.1 S.1.2.2.1 S.1.2.2.2.1 S.1.2.2.2.2, bX6 G q (o + 3) S.2.1.1 S.2.1.2, bX8 G q (o + 12) S.2.2.1.1 S.2.2.1.2, bX5 G q (o + 19) S.2.2.2.1.2.1 S.2.2.2.1.2.2.1 S.2.2.2.1.2.2.2.1 S.2.2.2.1.2.2.2.2, bX2 G q ((o + 19) + 2) S.2.2.2.1.1.1 S.2.2.2.1.1.2.1 S.2.2.2.1.1.2.2.1 S.2.2.2.1.1.2.2.2.1 S.2.2.2.1.1.2.2.2.2.1 S.2.2.2.1.1.2.2.2.2.2.1 S.2.2.2.1.1.2.2.2.2.2.2.1 S.2.2.2.1.1.2.2.2.2.2.2.2, bX2 G q (o + 27) S.2.2.2.2.1.1 S.2.2.2.2.1.2.1 S.2.2.2.2.1.2.2.1 S.2.2.2.2.1.2.2.2.1 S.2.2.2.2.1.2.2.2.2.1 S.2.2.2.2.1.2.2.2.2.2.1 S.2.2.2.2.1.2.2.2.2.2.2.1 S.2.2.2.2.1.2.2.2.2.2.2.2, bX1 G q (o + 33) S.2.2.2.2.2.1.1 S.2.2.2.2.2.1.2.1 S.2.2.2.2.2.1.2.2.1 S.2.2.2.2.2.1.2.2.2, bX4 G q (o + 36) S.2.2.2.2.2.2.1.1 S.2.2.2.2.2.2.1.2, bX3 G q (o + 38) S.2.2.2.2.2.2.2.1.1 S.2.2.2.2.2.2.2.1.2.1 S.2.2.2.2.2.2.2.1.2.2.1 S.2.2.2.2.2.2.2.1.2.2.2, bX0 G q (o + 43) S.2.2.2.2.2.2.2.2.1.2.2.1 S.2.2.2.2.2.2.2.2.1.2.2.2, bX2 G q ((o + 43) + 3) S.2.2.2.2.2.2.2.2.1.1.1 S.2.2.2.2.2.2.2.2.1.1.2.1 S.2.2.2.2.2.2.2.2.1.1.2.2.1 S.2.2.2.2.2.2.2.2.1.1.2.2.2.1 S.2.2.2.2.2.2.2.2.1.1.2.2.2.2.1 S.2.2.2.2.2.2.2.2.1.1.2.2.2.2.2.1 S.2.2.2.2.2.2.2.2.1.1.2.2.2.2.2.2.1 S.2.2.2.2.2.2.2.2.1.1.2.2.2.2.2.2.2, bX4 G q ((o + 43) + 9) S.2.2.2.2.2.2.2.2.1.2.1.1 S.2.2.2.2.2.2.2.2.1.2.1.2, bX7 G q (o + 54) S.2.2.2.2.2.2.2.2.2.1 S.2.2.2.2.2.2.2.2.2.2.1 S.2.2.2.2.2.2.2.2.2.2.2]) hS0 (c_X4_leastFor l G q (o + 36) S.2.2.2.2.2.2.1 v5 r5 e6) zc_X4_leastFor rfl gX10_ill_X4_leastFor ⟨Nat.le_of_ble_eq_true rfl, Nat.le_of_ble_eq_true rfl⟩ hK hA hT hw (is := [8]) rfl rfl rfl rfl rfl rfl rfl hl.1 rfl (Nat.le_of_ble_eq_true rfl) dX10_ill_90 (fun H locs hw => ?_)
        refine lv_goto (tgt := 98) hx hb dX10_ill_93 rfl ?_
        exact k_X10_ill_98 hZ _ ih _ _ _ _ _ _ _ _ _ hf hw (lv_sub hl [0, 1, 2, 3, 4] rfl)
set_option maxHeartbeats 4000000 in
set_option maxRecDepth 100000 in
theorem c_X10_ill (l : Launch) (G : zG) (q : Nat → Nat) (o : Nat) (S : VX10) (v1 : Int32) (y : Int32 × VX10) (hf : f_X10_ill S v1 = some y) : zMet l yX10_ill wsX10_ill 5 127 G [.ref (q (o + 0)), .int v1] [bX10 G q o, bX9 G q (o + 1) S.1.1 S.1.2.1 S.1.2.2.1 S.1.2.2.2.1 S.1.2.2.2.2, bX6 G q (o + 3) S.2.1.1 S.2.1.2, bX8 G q (o + 12) S.2.2.1.1 S.2.2.1.2, bX5 G q (o + 19) S.2.2.2.1.2.1 S.2.2.2.1.2.2.1 S.2.2.2.1.2.2.2.1 S.2.2.2.1.2.2.2.2, bX2 G q ((o + 19) + 2) S.2.2.2.1.1.1 S.2.2.2.1.1.2.1 S.2.2.2.1.1.2.2.1 S.2.2.2.1.1.2.2.2.1 S.2.2.2.1.1.2.2.2.2.1 S.2.2.2.1.1.2.2.2.2.2.1 S.2.2.2.1.1.2.2.2.2.2.2.1 S.2.2.2.1.1.2.2.2.2.2.2.2, bX2 G q (o + 27) S.2.2.2.2.1.1 S.2.2.2.2.1.2.1 S.2.2.2.2.1.2.2.1 S.2.2.2.2.1.2.2.2.1 S.2.2.2.2.1.2.2.2.2.1 S.2.2.2.2.1.2.2.2.2.2.1 S.2.2.2.2.1.2.2.2.2.2.2.1 S.2.2.2.2.1.2.2.2.2.2.2.2, bX1 G q (o + 33) S.2.2.2.2.2.1.1 S.2.2.2.2.2.1.2.1 S.2.2.2.2.2.1.2.2.1 S.2.2.2.2.2.1.2.2.2, bX4 G q (o + 36) S.2.2.2.2.2.2.1.1 S.2.2.2.2.2.2.1.2, bX3 G q (o + 38) S.2.2.2.2.2.2.2.1.1 S.2.2.2.2.2.2.2.1.2.1 S.2.2.2.2.2.2.2.1.2.2.1 S.2.2.2.2.2.2.2.1.2.2.2, bX0 G q (o + 43) S.2.2.2.2.2.2.2.2.1.2.2.1 S.2.2.2.2.2.2.2.2.1.2.2.2, bX2 G q ((o + 43) + 3) S.2.2.2.2.2.2.2.2.1.1.1 S.2.2.2.2.2.2.2.2.1.1.2.1 S.2.2.2.2.2.2.2.2.1.1.2.2.1 S.2.2.2.2.2.2.2.2.1.1.2.2.2.1 S.2.2.2.2.2.2.2.2.1.1.2.2.2.2.1 S.2.2.2.2.2.2.2.2.1.1.2.2.2.2.2.1 S.2.2.2.2.2.2.2.2.1.1.2.2.2.2.2.2.1 S.2.2.2.2.2.2.2.2.1.1.2.2.2.2.2.2.2, bX4 G q ((o + 43) + 9) S.2.2.2.2.2.2.2.2.1.2.1.1 S.2.2.2.2.2.2.2.2.1.2.1.2, bX7 G q (o + 54) S.2.2.2.2.2.2.2.2.2.1 S.2.2.2.2.2.2.2.2.2.2.1 S.2.2.2.2.2.2.2.2.2.2.2] (some (.int y.1)) [bX10 G q o, bX9 G q (o + 1) y.2.1.1 y.2.1.2.1 y.2.1.2.2.1 y.2.1.2.2.2.1 y.2.1.2.2.2.2, bX6 G q (o + 3) y.2.2.1.1 y.2.2.1.2, bX8 G q (o + 12) y.2.2.2.1.1 y.2.2.2.1.2, bX5 G q (o + 19) y.2.2.2.2.1.2.1 y.2.2.2.2.1.2.2.1 y.2.2.2.2.1.2.2.2.1 y.2.2.2.2.1.2.2.2.2, bX2 G q ((o + 19) + 2) y.2.2.2.2.1.1.1 y.2.2.2.2.1.1.2.1 y.2.2.2.2.1.1.2.2.1 y.2.2.2.2.1.1.2.2.2.1 y.2.2.2.2.1.1.2.2.2.2.1 y.2.2.2.2.1.1.2.2.2.2.2.1 y.2.2.2.2.1.1.2.2.2.2.2.2.1 y.2.2.2.2.1.1.2.2.2.2.2.2.2, bX2 G q (o + 27) y.2.2.2.2.2.1.1 y.2.2.2.2.2.1.2.1 y.2.2.2.2.2.1.2.2.1 y.2.2.2.2.2.1.2.2.2.1 y.2.2.2.2.2.1.2.2.2.2.1 y.2.2.2.2.2.1.2.2.2.2.2.1 y.2.2.2.2.2.1.2.2.2.2.2.2.1 y.2.2.2.2.2.1.2.2.2.2.2.2.2, bX1 G q (o + 33) y.2.2.2.2.2.2.1.1 y.2.2.2.2.2.2.1.2.1 y.2.2.2.2.2.2.1.2.2.1 y.2.2.2.2.2.2.1.2.2.2, bX4 G q (o + 36) y.2.2.2.2.2.2.2.1.1 y.2.2.2.2.2.2.2.1.2, bX3 G q (o + 38) y.2.2.2.2.2.2.2.2.1.1 y.2.2.2.2.2.2.2.2.1.2.1 y.2.2.2.2.2.2.2.2.1.2.2.1 y.2.2.2.2.2.2.2.2.1.2.2.2, bX0 G q (o + 43) y.2.2.2.2.2.2.2.2.2.1.2.2.1 y.2.2.2.2.2.2.2.2.2.1.2.2.2, bX2 G q ((o + 43) + 3) y.2.2.2.2.2.2.2.2.2.1.1.1 y.2.2.2.2.2.2.2.2.2.1.1.2.1 y.2.2.2.2.2.2.2.2.2.1.1.2.2.1 y.2.2.2.2.2.2.2.2.2.1.1.2.2.2.1 y.2.2.2.2.2.2.2.2.2.1.1.2.2.2.2.1 y.2.2.2.2.2.2.2.2.2.1.1.2.2.2.2.2.1 y.2.2.2.2.2.2.2.2.2.1.1.2.2.2.2.2.2.1 y.2.2.2.2.2.2.2.2.2.1.1.2.2.2.2.2.2.2, bX4 G q ((o + 43) + 9) y.2.2.2.2.2.2.2.2.2.1.2.1.1 y.2.2.2.2.2.2.2.2.2.1.2.1.2, bX7 G q (o + 54) y.2.2.2.2.2.2.2.2.2.2.1 y.2.2.2.2.2.2.2.2.2.2.2.1 y.2.2.2.2.2.2.2.2.2.2.2.2] := by
  refine z_met zc_X10_ill (Nat.le_of_ble_eq_true rfl) ?_
  intro p e s m below meth c A ls hZ hl hw
  have hl : lv_has ls 7 [(0, .ref (q (o + 0))), (1, .int v1)] := hl
  obtain ⟨hS0, hr, hlk, hK, hA, hT⟩ := id hZ
  have hx := hS0.1
  have hb := hS0.2.1
  have hml := hS0.2.2.1
  have hown : s.vm.findClass RX10 = some m.cls := hS0.2.2.2.1
  have hts := hS0.2.2.2.2
  unfold f_X10_ill at hf
  refine lv_aload_n hx hb dX10_ill_0 rfl (lv_at hl 0 rfl) ?_
  refine z_get hS0 in_X10_ill_X10 hK hw 0 4 rfl rfl rfl (by decide) (hts _ m_X10_ill_0) (v := .ref (q ((o + 27) + 0))) rfl dX10_ill_1 ?_
  refine lv_iload_n hx hb dX10_ill_4 rfl (lv_at hl 1 rfl) ?_
  obtain ⟨r7, e8, hf⟩ := z_bd hf
  refine z_callV1 (As := [.int v1]) (rest := []) (bs' := [bX10 G q o, bX9 G q (o + 1) S.1.1 S.1.2.1 S.1.2.2.1 S.1.2.2.2.1 S.1.2.2.2.2, bX6 G q (o + 3) S.2.1.1 S.2.1.2, bX8 G q (o + 12) S.2.2.1.1 S.2.2.1.2, bX5 G q (o + 19) S.2.2.2.1.2.1 S.2.2.2.1.2.2.1 S.2.2.2.1.2.2.2.1 S.2.2.2.1.2.2.2.2, bX2 G q ((o + 19) + 2) S.2.2.2.1.1.1 S.2.2.2.1.1.2.1 S.2.2.2.1.1.2.2.1 S.2.2.2.1.1.2.2.2.1 S.2.2.2.1.1.2.2.2.2.1 S.2.2.2.1.1.2.2.2.2.2.1 S.2.2.2.1.1.2.2.2.2.2.2.1 S.2.2.2.1.1.2.2.2.2.2.2.2, bX2 G q (o + 27) S.2.2.2.2.1.1 S.2.2.2.2.1.2.1 S.2.2.2.2.1.2.2.1 S.2.2.2.2.1.2.2.2.1 S.2.2.2.2.1.2.2.2.2.1 S.2.2.2.2.1.2.2.2.2.2.1 S.2.2.2.2.1.2.2.2.2.2.2.1 S.2.2.2.2.1.2.2.2.2.2.2.2, bX1 G q (o + 33) S.2.2.2.2.2.1.1 S.2.2.2.2.2.1.2.1 S.2.2.2.2.2.1.2.2.1 S.2.2.2.2.2.1.2.2.2, bX4 G q (o + 36) S.2.2.2.2.2.2.1.1 S.2.2.2.2.2.2.1.2, bX3 G q (o + 38) S.2.2.2.2.2.2.2.1.1 S.2.2.2.2.2.2.2.1.2.1 S.2.2.2.2.2.2.2.1.2.2.1 S.2.2.2.2.2.2.2.1.2.2.2, bX0 G q (o + 43) S.2.2.2.2.2.2.2.2.1.2.2.1 S.2.2.2.2.2.2.2.2.1.2.2.2, bX2 G q ((o + 43) + 3) S.2.2.2.2.2.2.2.2.1.1.1 S.2.2.2.2.2.2.2.2.1.1.2.1 S.2.2.2.2.2.2.2.2.1.1.2.2.1 S.2.2.2.2.2.2.2.2.1.1.2.2.2.1 S.2.2.2.2.2.2.2.2.1.1.2.2.2.2.1 S.2.2.2.2.2.2.2.2.1.1.2.2.2.2.2.1 S.2.2.2.2.2.2.2.2.1.1.2.2.2.2.2.2.1 S.2.2.2.2.2.2.2.2.1.1.2.2.2.2.2.2.2, bX4 G q ((o + 43) + 9) S.2.2.2.2.2.2.2.2.1.2.1.1 S.2.2.2.2.2.2.2.2.1.2.1.2, bX7 G q (o + 54) S.2.2.2.2.2.2.2.2.2.1 S.2.2.2.2.2.2.2.2.2.2.1 S.2.2.2.2.2.2.2.2.2.2.2]) hS0 (c_X2_isCell l G q (o + 27) S.2.2.2.2.1 v1 r7 e8) zc_X2_isCell rfl gX10_ill_X2_isCell ⟨Nat.le_of_ble_eq_true rfl, Nat.le_of_ble_eq_true rfl⟩ hK hA hT hw (is := [6]) rfl rfl rfl rfl rfl rfl rfl hl.1 rfl (Nat.le_of_ble_eq_true rfl) dX10_ill_5 (fun H locs hw => ?_)
  refine lv_if_ne (tgt := 13) hx hb dX10_ill_8 rfl (fun hc => ?_) (fun hc => ?_)
  · have hf := z_f hc hf
    refine lv_aload_n hx hb dX10_ill_13 rfl (lv_at hl 0 rfl) ?_
    obtain ⟨r9, e10, hf⟩ := z_bd hf
    refine z_callV0 (As := []) (rest := []) (bs' := [bX10 G q o, bX9 G q (o + 1) r9.1.1 r9.1.2.1 r9.1.2.2.1 r9.1.2.2.2.1 r9.1.2.2.2.2, bX6 G q (o + 3) r9.2.1.1 r9.2.1.2, bX8 G q (o + 12) r9.2.2.1.1 r9.2.2.1.2, bX5 G q (o + 19) r9.2.2.2.1.2.1 r9.2.2.2.1.2.2.1 r9.2.2.2.1.2.2.2.1 r9.2.2.2.1.2.2.2.2, bX2 G q ((o + 19) + 2) r9.2.2.2.1.1.1 r9.2.2.2.1.1.2.1 r9.2.2.2.1.1.2.2.1 r9.2.2.2.1.1.2.2.2.1 r9.2.2.2.1.1.2.2.2.2.1 r9.2.2.2.1.1.2.2.2.2.2.1 r9.2.2.2.1.1.2.2.2.2.2.2.1 r9.2.2.2.1.1.2.2.2.2.2.2.2, bX2 G q (o + 27) r9.2.2.2.2.1.1 r9.2.2.2.2.1.2.1 r9.2.2.2.2.1.2.2.1 r9.2.2.2.2.1.2.2.2.1 r9.2.2.2.2.1.2.2.2.2.1 r9.2.2.2.2.1.2.2.2.2.2.1 r9.2.2.2.2.1.2.2.2.2.2.2.1 r9.2.2.2.2.1.2.2.2.2.2.2.2, bX1 G q (o + 33) r9.2.2.2.2.2.1.1 r9.2.2.2.2.2.1.2.1 r9.2.2.2.2.2.1.2.2.1 r9.2.2.2.2.2.1.2.2.2, bX4 G q (o + 36) r9.2.2.2.2.2.2.1.1 r9.2.2.2.2.2.2.1.2, bX3 G q (o + 38) r9.2.2.2.2.2.2.2.1.1 r9.2.2.2.2.2.2.2.1.2.1 r9.2.2.2.2.2.2.2.1.2.2.1 r9.2.2.2.2.2.2.2.1.2.2.2, bX0 G q (o + 43) r9.2.2.2.2.2.2.2.2.1.2.2.1 r9.2.2.2.2.2.2.2.2.1.2.2.2, bX2 G q ((o + 43) + 3) r9.2.2.2.2.2.2.2.2.1.1.1 r9.2.2.2.2.2.2.2.2.1.1.2.1 r9.2.2.2.2.2.2.2.2.1.1.2.2.1 r9.2.2.2.2.2.2.2.2.1.1.2.2.2.1 r9.2.2.2.2.2.2.2.2.1.1.2.2.2.2.1 r9.2.2.2.2.2.2.2.2.1.1.2.2.2.2.2.1 r9.2.2.2.2.2.2.2.2.1.1.2.2.2.2.2.2.1 r9.2.2.2.2.2.2.2.2.1.1.2.2.2.2.2.2.2, bX4 G q ((o + 43) + 9) r9.2.2.2.2.2.2.2.2.1.2.1.1 r9.2.2.2.2.2.2.2.2.1.2.1.2, bX7 G q (o + 54) r9.2.2.2.2.2.2.2.2.2.1 r9.2.2.2.2.2.2.2.2.2.2.1 r9.2.2.2.2.2.2.2.2.2.2.2]) hS0 (c_X10_reachAll l G q o S r9 e10) zc_X10_reachAll rfl gX10_ill_X10_reachAll ⟨Nat.le_of_ble_eq_true rfl, Nat.le_of_ble_eq_true rfl⟩ hK hA hT hw (is := [0, 1, 2, 3, 4, 5, 6, 7, 8, 9, 10, 11, 12, 13]) rfl rfl rfl rfl rfl rfl rfl hl.1 rfl (Nat.le_of_ble_eq_true rfl) dX10_ill_14 (fun H locs hw => ?_)
    refine lv_aload_n hx hb dX10_ill_17 rfl (lv_at hl 0 rfl) ?_
    refine z_get hS0 in_X10_ill_X10 hK hw 0 4 rfl rfl rfl (by decide) (hts _ m_X10_ill_0) (v := .ref (q ((o + 27) + 0))) rfl dX10_ill_18 ?_
    obtain ⟨r11, e12, hf⟩ := z_bd hf
    refine z_callV1 (As := []) (rest := []) (bs' := [bX10 G q o, bX9 G q (o + 1) r9.1.1 r9.1.2.1 r9.1.2.2.1 r9.1.2.2.2.1 r9.1.2.2.2.2, bX6 G q (o + 3) r9.2.1.1 r9.2.1.2, bX8 G q (o + 12) r9.2.2.1.1 r9.2.2.1.2, bX5 G q (o + 19) r9.2.2.2.1.2.1 r9.2.2.2.1.2.2.1 r9.2.2.2.1.2.2.2.1 r9.2.2.2.1.2.2.2.2, bX2 G q ((o + 19) + 2) r9.2.2.2.1.1.1 r9.2.2.2.1.1.2.1 r9.2.2.2.1.1.2.2.1 r9.2.2.2.1.1.2.2.2.1 r9.2.2.2.1.1.2.2.2.2.1 r9.2.2.2.1.1.2.2.2.2.2.1 r9.2.2.2.1.1.2.2.2.2.2.2.1 r9.2.2.2.1.1.2.2.2.2.2.2.2, bX2 G q (o + 27) r9.2.2.2.2.1.1 r9.2.2.2.2.1.2.1 r9.2.2.2.2.1.2.2.1 r9.2.2.2.2.1.2.2.2.1 r9.2.2.2.2.1.2.2.2.2.1 r9.2.2.2.2.1.2.2.2.2.2.1 r9.2.2.2.2.1.2.2.2.2.2.2.1 r9.2.2.2.2.1.2.2.2.2.2.2.2, bX1 G q (o + 33) r9.2.2.2.2.2.1.1 r9.2.2.2.2.2.1.2.1 r9.2.2.2.2.2.1.2.2.1 r9.2.2.2.2.2.1.2.2.2, bX4 G q (o + 36) r9.2.2.2.2.2.2.1.1 r9.2.2.2.2.2.2.1.2, bX3 G q (o + 38) r9.2.2.2.2.2.2.2.1.1 r9.2.2.2.2.2.2.2.1.2.1 r9.2.2.2.2.2.2.2.1.2.2.1 r9.2.2.2.2.2.2.2.1.2.2.2, bX0 G q (o + 43) r9.2.2.2.2.2.2.2.2.1.2.2.1 r9.2.2.2.2.2.2.2.2.1.2.2.2, bX2 G q ((o + 43) + 3) r9.2.2.2.2.2.2.2.2.1.1.1 r9.2.2.2.2.2.2.2.2.1.1.2.1 r9.2.2.2.2.2.2.2.2.1.1.2.2.1 r9.2.2.2.2.2.2.2.2.1.1.2.2.2.1 r9.2.2.2.2.2.2.2.2.1.1.2.2.2.2.1 r9.2.2.2.2.2.2.2.2.1.1.2.2.2.2.2.1 r9.2.2.2.2.2.2.2.2.1.1.2.2.2.2.2.2.1 r9.2.2.2.2.2.2.2.2.1.1.2.2.2.2.2.2.2, bX4 G q ((o + 43) + 9) r9.2.2.2.2.2.2.2.2.1.2.1.1 r9.2.2.2.2.2.2.2.2.1.2.1.2, bX7 G q (o + 54) r9.2.2.2.2.2.2.2.2.2.1 r9.2.2.2.2.2.2.2.2.2.2.1 r9.2.2.2.2.2.2.2.2.2.2.2]) hS0 (c_X2_everyone l G q (o + 27) r9.2.2.2.2.1 r11 e12) zc_X2_everyone rfl gX10_ill_X2_everyone ⟨Nat.le_of_ble_eq_true rfl, Nat.le_of_ble_eq_true rfl⟩ hK hA hT hw (is := [6]) rfl rfl rfl rfl rfl rfl rfl hl.1 rfl (Nat.le_of_ble_eq_true rfl) dX10_ill_21 (fun H locs hw => ?_)
    refine lv_aload_n hx hb dX10_ill_24 rfl (lv_at hl 0 rfl) ?_
    refine z_get hS0 in_X10_ill_X10 hK hw 0 4 rfl rfl rfl (by decide) (hts _ m_X10_ill_0) (v := .ref (q ((o + 27) + 0))) rfl dX10_ill_25 ?_
    refine lv_iload_n hx hb dX10_ill_28 rfl (lv_at hl 1 rfl) ?_
    obtain ⟨r13, e14, hf⟩ := z_bd hf
    refine z_callV1 (As := [.int v1]) (rest := [.int r11]) (bs' := [bX10 G q o, bX9 G q (o + 1) r9.1.1 r9.1.2.1 r9.1.2.2.1 r9.1.2.2.2.1 r9.1.2.2.2.2, bX6 G q (o + 3) r9.2.1.1 r9.2.1.2, bX8 G q (o + 12) r9.2.2.1.1 r9.2.2.1.2, bX5 G q (o + 19) r9.2.2.2.1.2.1 r9.2.2.2.1.2.2.1 r9.2.2.2.1.2.2.2.1 r9.2.2.2.1.2.2.2.2, bX2 G q ((o + 19) + 2) r9.2.2.2.1.1.1 r9.2.2.2.1.1.2.1 r9.2.2.2.1.1.2.2.1 r9.2.2.2.1.1.2.2.2.1 r9.2.2.2.1.1.2.2.2.2.1 r9.2.2.2.1.1.2.2.2.2.2.1 r9.2.2.2.1.1.2.2.2.2.2.2.1 r9.2.2.2.1.1.2.2.2.2.2.2.2, bX2 G q (o + 27) r9.2.2.2.2.1.1 r9.2.2.2.2.1.2.1 r9.2.2.2.2.1.2.2.1 r9.2.2.2.2.1.2.2.2.1 r9.2.2.2.2.1.2.2.2.2.1 r9.2.2.2.2.1.2.2.2.2.2.1 r9.2.2.2.2.1.2.2.2.2.2.2.1 r9.2.2.2.2.1.2.2.2.2.2.2.2, bX1 G q (o + 33) r9.2.2.2.2.2.1.1 r9.2.2.2.2.2.1.2.1 r9.2.2.2.2.2.1.2.2.1 r9.2.2.2.2.2.1.2.2.2, bX4 G q (o + 36) r9.2.2.2.2.2.2.1.1 r9.2.2.2.2.2.2.1.2, bX3 G q (o + 38) r9.2.2.2.2.2.2.2.1.1 r9.2.2.2.2.2.2.2.1.2.1 r9.2.2.2.2.2.2.2.1.2.2.1 r9.2.2.2.2.2.2.2.1.2.2.2, bX0 G q (o + 43) r9.2.2.2.2.2.2.2.2.1.2.2.1 r9.2.2.2.2.2.2.2.2.1.2.2.2, bX2 G q ((o + 43) + 3) r9.2.2.2.2.2.2.2.2.1.1.1 r9.2.2.2.2.2.2.2.2.1.1.2.1 r9.2.2.2.2.2.2.2.2.1.1.2.2.1 r9.2.2.2.2.2.2.2.2.1.1.2.2.2.1 r9.2.2.2.2.2.2.2.2.1.1.2.2.2.2.1 r9.2.2.2.2.2.2.2.2.1.1.2.2.2.2.2.1 r9.2.2.2.2.2.2.2.2.1.1.2.2.2.2.2.2.1 r9.2.2.2.2.2.2.2.2.1.1.2.2.2.2.2.2.2, bX4 G q ((o + 43) + 9) r9.2.2.2.2.2.2.2.2.1.2.1.1 r9.2.2.2.2.2.2.2.2.1.2.1.2, bX7 G q (o + 54) r9.2.2.2.2.2.2.2.2.2.1 r9.2.2.2.2.2.2.2.2.2.2.1 r9.2.2.2.2.2.2.2.2.2.2.2]) hS0 (c_X2_foesOf l G q (o + 27) r9.2.2.2.2.1 v1 r13 e14) zc_X2_foesOf rfl gX10_ill_X2_foesOf ⟨Nat.le_of_ble_eq_true rfl, Nat.le_of_ble_eq_true rfl⟩ hK hA hT hw (is := [6]) rfl rfl rfl rfl rfl rfl rfl hl.1 rfl (Nat.le_of_ble_eq_true rfl) dX10_ill_29 (fun H locs hw => ?_)
    refine lv_iconst (v := (-1)) hx hb dX10_ill_32 rfl ?_
    refine lv_ixor hx hb dX10_ill_33 ?_
    refine lv_iand hx hb dX10_ill_34 ?_
    refine lv_aload_n hx hb dX10_ill_35 rfl (lv_at hl 0 rfl) ?_
    refine z_get hS0 in_X10_ill_X10 hK hw 0 4 rfl rfl rfl (by decide) (hts _ m_X10_ill_0) (v := .ref (q ((o + 27) + 0))) rfl dX10_ill_36 ?_
    obtain ⟨r15, e16, hf⟩ := z_bd hf
    refine z_callV1 (As := []) (rest := [.int (r11 &&& (r13 ^^^ ((-1) : Int32)))]) (bs' := [bX10 G q o, bX9 G q (o + 1) r9.1.1 r9.1.2.1 r9.1.2.2.1 r9.1.2.2.2.1 r9.1.2.2.2.2, bX6 G q (o + 3) r9.2.1.1 r9.2.1.2, bX8 G q (o + 12) r9.2.2.1.1 r9.2.2.1.2, bX5 G q (o + 19) r9.2.2.2.1.2.1 r9.2.2.2.1.2.2.1 r9.2.2.2.1.2.2.2.1 r9.2.2.2.1.2.2.2.2, bX2 G q ((o + 19) + 2) r9.2.2.2.1.1.1 r9.2.2.2.1.1.2.1 r9.2.2.2.1.1.2.2.1 r9.2.2.2.1.1.2.2.2.1 r9.2.2.2.1.1.2.2.2.2.1 r9.2.2.2.1.1.2.2.2.2.2.1 r9.2.2.2.1.1.2.2.2.2.2.2.1 r9.2.2.2.1.1.2.2.2.2.2.2.2, bX2 G q (o + 27) r9.2.2.2.2.1.1 r9.2.2.2.2.1.2.1 r9.2.2.2.2.1.2.2.1 r9.2.2.2.2.1.2.2.2.1 r9.2.2.2.2.1.2.2.2.2.1 r9.2.2.2.2.1.2.2.2.2.2.1 r9.2.2.2.2.1.2.2.2.2.2.2.1 r9.2.2.2.2.1.2.2.2.2.2.2.2, bX1 G q (o + 33) r9.2.2.2.2.2.1.1 r9.2.2.2.2.2.1.2.1 r9.2.2.2.2.2.1.2.2.1 r9.2.2.2.2.2.1.2.2.2, bX4 G q (o + 36) r9.2.2.2.2.2.2.1.1 r9.2.2.2.2.2.2.1.2, bX3 G q (o + 38) r9.2.2.2.2.2.2.2.1.1 r9.2.2.2.2.2.2.2.1.2.1 r9.2.2.2.2.2.2.2.1.2.2.1 r9.2.2.2.2.2.2.2.1.2.2.2, bX0 G q (o + 43) r9.2.2.2.2.2.2.2.2.1.2.2.1 r9.2.2.2.2.2.2.2.2.1.2.2.2, bX2 G q ((o + 43) + 3) r9.2.2.2.2.2.2.2.2.1.1.1 r9.2.2.2.2.2.2.2.2.1.1.2.1 r9.2.2.2.2.2.2.2.2.1.1.2.2.1 r9.2.2.2.2.2.2.2.2.1.1.2.2.2.1 r9.2.2.2.2.2.2.2.2.1.1.2.2.2.2.1 r9.2.2.2.2.2.2.2.2.1.1.2.2.2.2.2.1 r9.2.2.2.2.2.2.2.2.1.1.2.2.2.2.2.2.1 r9.2.2.2.2.2.2.2.2.1.1.2.2.2.2.2.2.2, bX4 G q ((o + 43) + 9) r9.2.2.2.2.2.2.2.2.1.2.1.1 r9.2.2.2.2.2.2.2.2.1.2.1.2, bX7 G q (o + 54) r9.2.2.2.2.2.2.2.2.2.1 r9.2.2.2.2.2.2.2.2.2.2.1 r9.2.2.2.2.2.2.2.2.2.2.2]) hS0 (c_X2_sprungOnes l G q (o + 27) r9.2.2.2.2.1 r15 e16) zc_X2_sprungOnes rfl gX10_ill_X2_sprungOnes ⟨Nat.le_of_ble_eq_true rfl, Nat.le_of_ble_eq_true rfl⟩ hK hA hT hw (is := [6]) rfl rfl rfl rfl rfl rfl rfl hl.1 rfl (Nat.le_of_ble_eq_true rfl) dX10_ill_39 (fun H locs hw => ?_)
    refine lv_iconst (v := (-1)) hx hb dX10_ill_42 rfl ?_
    refine lv_ixor hx hb dX10_ill_43 ?_
    refine lv_iand hx hb dX10_ill_44 ?_
    refine lv_iconst (v := 1) hx hb dX10_ill_45 rfl ?_
    refine lv_iload_n hx hb dX10_ill_46 rfl (lv_at hl 1 rfl) ?_
    refine lv_ishl hx hb dX10_ill_47 ?_
    refine lv_iconst (v := (-1)) hx hb dX10_ill_48 rfl ?_
    refine lv_ixor hx hb dX10_ill_49 ?_
    refine lv_iand hx hb dX10_ill_50 ?_
    refine lv_istore_n (lv' := [(2, .int (((r11 &&& (r13 ^^^ ((-1) : Int32))) &&& (r15 ^^^ ((-1) : Int32))) &&& (((1 : Int32) <<< (v1 &&& 31)) ^^^ ((-1) : Int32)))), (0, .ref (q (o + 0))), (1, .int v1)]) hx hb dX10_ill_51 rfl hl (by decide) rfl (fun ls hl => ?_)
    refine lv_bipush (v := (-9)) hx hb dX10_ill_52 rfl ?_
    refine lv_istore_n (lv' := [(3, .int (-9)), (2, .int (((r11 &&& (r13 ^^^ ((-1) : Int32))) &&& (r15 ^^^ ((-1) : Int32))) &&& (((1 : Int32) <<< (v1 &&& 31)) ^^^ ((-1) : Int32)))), (0, .ref (q (o + 0))), (1, .int v1)]) hx hb dX10_ill_54 rfl hl (by decide) rfl (fun ls hl => ?_)
    refine lv_bipush (v := (-9)) hx hb dX10_ill_55 rfl ?_
    refine lv_istore (lv' := [(4, .int (-9)), (3, .int (-9)), (2, .int (((r11 &&& (r13 ^^^ ((-1) : Int32))) &&& (r15 ^^^ ((-1) : Int32))) &&& (((1 : Int32) <<< (v1 &&& 31)) ^^^ ((-1) : Int32)))), (0, .ref (q (o + 0))), (1, .int v1)]) hx hb dX10_ill_57 hl (by decide) rfl (fun ls hl => ?_)
    refine lv_iconst (v := 0) hx hb dX10_ill_59 rfl ?_
    refine lv_istore (lv' := [(5, .int 0), (4, .int (-9)), (3, .int (-9)), (2, .int (((r11 &&& (r13 ^^^ ((-1) : Int32))) &&& (r15 ^^^ ((-1) : Int32))) &&& (((1 : Int32) <<< (v1 &&& 31)) ^^^ ((-1) : Int32)))), (0, .ref (q (o + 0))), (1, .int v1)]) hx hb dX10_ill_60 hl (by decide) rfl (fun ls hl => ?_)
    exact k_X10_ill_62 hZ _ 4096 _ _ _ _ _ _ _ _ hf hw (lv_sub hl [4, 3, 2, 1, 0] rfl)
  · have hf := z_t hc hf
    refine lv_iconst (v := (-1)) hx hb dX10_ill_11 rfl ?_
    cases hf
    exact z_iret hx hb hr hlk hw dX10_ill_12
theorem zc_X10_isYesOrNo : zC yX10_isYesOrNo wsX10_isYesOrNo cX10_isYesOrNo 1 (some .boolean) 1 := ⟨⟨_, rfl⟩, by decide +kernel, by decide +kernel, by decide +kernel, by decide +kernel⟩
set_option maxHeartbeats 4000000 in
set_option maxRecDepth 100000 in
theorem c_X10_isYesOrNo (l : Launch) (G : zG)   (v0 : Int32) (y : Int32) (hf : f_X10_isYesOrNo v0 = some y) : zMet l yX10_isYesOrNo wsX10_isYesOrNo 0 0 G [.int v0] [] (some (.int y)) [] := by
  refine z_met zc_X10_isYesOrNo (Nat.le_of_ble_eq_true rfl) ?_
  intro p e s m below meth c A ls hZ hl hw
  have hl : lv_has ls 1 [(0, .int v0)] := hl
  obtain ⟨hS0, hr, hlk, hK, hA, hT⟩ := id hZ
  have hx := hS0.1
  have hb := hS0.2.1
  have hml := hS0.2.2.1
  have hown : s.vm.findClass RX10 = some m.cls := hS0.2.2.2.1
  have hts := hS0.2.2.2.2
  unfold f_X10_isYesOrNo at hf
  refine lv_iload_n hx hb dX10_isYesOrNo_0 rfl (lv_at hl 0 rfl) ?_
  refine lv_if_eq (tgt := 9) hx hb dX10_isYesOrNo_1 rfl (fun hc => ?_) (fun hc => ?_)
  · have hf := z_t hc hf
    refine lv_iconst (v := 1) hx hb dX10_isYesOrNo_9 rfl ?_
    refine lv_goto (tgt := 14) hx hb dX10_isYesOrNo_10 rfl ?_
    cases hf
    exact z_zret hx hb hr (z_nb (Or.inr rfl)) hlk hw dX10_isYesOrNo_14
  · have hf := z_f hc hf
    refine lv_iload_n hx hb dX10_isYesOrNo_4 rfl (lv_at hl 0 rfl) ?_
    refine lv_iconst (v := 1) hx hb dX10_isYesOrNo_5 rfl ?_
    refine lv_icmp_ne (tgt := 13) hx hb dX10_isYesOrNo_6 rfl (fun hc => ?_) (fun hc => ?_)
    · have hf := z_f hc hf
      refine lv_iconst (v := 0) hx hb dX10_isYesOrNo_13 rfl ?_
      cases hf
      exact z_zret hx hb hr (z_nb (Or.inl rfl)) hlk hw dX10_isYesOrNo_14
    · have hf := z_t hc hf
      refine lv_iconst (v := 1) hx hb dX10_isYesOrNo_9 rfl ?_
      refine lv_goto (tgt := 14) hx hb dX10_isYesOrNo_10 rfl ?_
      cases hf
      exact z_zret hx hb hr (z_nb (Or.inr rfl)) hlk hw dX10_isYesOrNo_14
theorem zc_X10_jail : zC yX10_jail wsX10_jail cX10_jail 3 (some .int) 1 := ⟨⟨_, rfl⟩, by decide +kernel, by decide +kernel, by decide +kernel, by decide +kernel⟩
theorem m_X10_jail_0 : (.fieldLink RX10 33 "CellKeys" "reader" "LCellKeys$Reader;" : Cond) ∈ wsX10_jail := by decide +kernel
theorem in_X10_jail_X10 : ∀ w ∈ u_ws RX10 TX10 10, w ∈ wsX10_jail := by decide +kernel
theorem m_X10_jail_1 : (.fieldLink RX10 26 "CellKeys" "texts" "LCellKeys$Texts;" : Cond) ∈ wsX10_jail := by decide +kernel
theorem m_X10_jail_2 : (.fieldLink RX10 40 "CellKeys" "jail" "LCellKeys$Jail;" : Cond) ∈ wsX10_jail := by decide +kernel
theorem m_X10_jail_3 : (.fieldLink RX10 47 "CellKeys" "evenings" "LCellKeys$Evenings;" : Cond) ∈ wsX10_jail := by decide +kernel
theorem m_X10_jail_4 : (.fieldLink RX10 75 "CellKeys" "sightings" "LCellKeys$Sightings;" : Cond) ∈ wsX10_jail := by decide +kernel
set_option maxHeartbeats 4000000 in
set_option maxRecDepth 100000 in
theorem c_X10_jail (l : Launch) (G : zG) (q : Nat → Nat) (o : Nat) (S : VX10) (v1 : Int32) (y : Int32 × VX10) (hf : f_X10_jail S v1 = some y) : zMet l yX10_jail wsX10_jail 6 141 G [.ref (q (o + 0)), .int v1] [bX10 G q o, bX9 G q (o + 1) S.1.1 S.1.2.1 S.1.2.2.1 S.1.2.2.2.1 S.1.2.2.2.2, bX6 G q (o + 3) S.2.1.1 S.2.1.2, bX8 G q (o + 12) S.2.2.1.1 S.2.2.1.2, bX5 G q (o + 19) S.2.2.2.1.2.1 S.2.2.2.1.2.2.1 S.2.2.2.1.2.2.2.1 S.2.2.2.1.2.2.2.2, bX2 G q ((o + 19) + 2) S.2.2.2.1.1.1 S.2.2.2.1.1.2.1 S.2.2.2.1.1.2.2.1 S.2.2.2.1.1.2.2.2.1 S.2.2.2.1.1.2.2.2.2.1 S.2.2.2.1.1.2.2.2.2.2.1 S.2.2.2.1.1.2.2.2.2.2.2.1 S.2.2.2.1.1.2.2.2.2.2.2.2, bX2 G q (o + 27) S.2.2.2.2.1.1 S.2.2.2.2.1.2.1 S.2.2.2.2.1.2.2.1 S.2.2.2.2.1.2.2.2.1 S.2.2.2.2.1.2.2.2.2.1 S.2.2.2.2.1.2.2.2.2.2.1 S.2.2.2.2.1.2.2.2.2.2.2.1 S.2.2.2.2.1.2.2.2.2.2.2.2, bX1 G q (o + 33) S.2.2.2.2.2.1.1 S.2.2.2.2.2.1.2.1 S.2.2.2.2.2.1.2.2.1 S.2.2.2.2.2.1.2.2.2, bX4 G q (o + 36) S.2.2.2.2.2.2.1.1 S.2.2.2.2.2.2.1.2, bX3 G q (o + 38) S.2.2.2.2.2.2.2.1.1 S.2.2.2.2.2.2.2.1.2.1 S.2.2.2.2.2.2.2.1.2.2.1 S.2.2.2.2.2.2.2.1.2.2.2, bX0 G q (o + 43) S.2.2.2.2.2.2.2.2.1.2.2.1 S.2.2.2.2.2.2.2.2.1.2.2.2, bX2 G q ((o + 43) + 3) S.2.2.2.2.2.2.2.2.1.1.1 S.2.2.2.2.2.2.2.2.1.1.2.1 S.2.2.2.2.2.2.2.2.1.1.2.2.1 S.2.2.2.2.2.2.2.2.1.1.2.2.2.1 S.2.2.2.2.2.2.2.2.1.1.2.2.2.2.1 S.2.2.2.2.2.2.2.2.1.1.2.2.2.2.2.1 S.2.2.2.2.2.2.2.2.1.1.2.2.2.2.2.2.1 S.2.2.2.2.2.2.2.2.1.1.2.2.2.2.2.2.2, bX4 G q ((o + 43) + 9) S.2.2.2.2.2.2.2.2.1.2.1.1 S.2.2.2.2.2.2.2.2.1.2.1.2, bX7 G q (o + 54) S.2.2.2.2.2.2.2.2.2.1 S.2.2.2.2.2.2.2.2.2.2.1 S.2.2.2.2.2.2.2.2.2.2.2] (some (.int y.1)) [bX10 G q o, bX9 G q (o + 1) y.2.1.1 y.2.1.2.1 y.2.1.2.2.1 y.2.1.2.2.2.1 y.2.1.2.2.2.2, bX6 G q (o + 3) y.2.2.1.1 y.2.2.1.2, bX8 G q (o + 12) y.2.2.2.1.1 y.2.2.2.1.2, bX5 G q (o + 19) y.2.2.2.2.1.2.1 y.2.2.2.2.1.2.2.1 y.2.2.2.2.1.2.2.2.1 y.2.2.2.2.1.2.2.2.2, bX2 G q ((o + 19) + 2) y.2.2.2.2.1.1.1 y.2.2.2.2.1.1.2.1 y.2.2.2.2.1.1.2.2.1 y.2.2.2.2.1.1.2.2.2.1 y.2.2.2.2.1.1.2.2.2.2.1 y.2.2.2.2.1.1.2.2.2.2.2.1 y.2.2.2.2.1.1.2.2.2.2.2.2.1 y.2.2.2.2.1.1.2.2.2.2.2.2.2, bX2 G q (o + 27) y.2.2.2.2.2.1.1 y.2.2.2.2.2.1.2.1 y.2.2.2.2.2.1.2.2.1 y.2.2.2.2.2.1.2.2.2.1 y.2.2.2.2.2.1.2.2.2.2.1 y.2.2.2.2.2.1.2.2.2.2.2.1 y.2.2.2.2.2.1.2.2.2.2.2.2.1 y.2.2.2.2.2.1.2.2.2.2.2.2.2, bX1 G q (o + 33) y.2.2.2.2.2.2.1.1 y.2.2.2.2.2.2.1.2.1 y.2.2.2.2.2.2.1.2.2.1 y.2.2.2.2.2.2.1.2.2.2, bX4 G q (o + 36) y.2.2.2.2.2.2.2.1.1 y.2.2.2.2.2.2.2.1.2, bX3 G q (o + 38) y.2.2.2.2.2.2.2.2.1.1 y.2.2.2.2.2.2.2.2.1.2.1 y.2.2.2.2.2.2.2.2.1.2.2.1 y.2.2.2.2.2.2.2.2.1.2.2.2, bX0 G q (o + 43) y.2.2.2.2.2.2.2.2.2.1.2.2.1 y.2.2.2.2.2.2.2.2.2.1.2.2.2, bX2 G q ((o + 43) + 3) y.2.2.2.2.2.2.2.2.2.1.1.1 y.2.2.2.2.2.2.2.2.2.1.1.2.1 y.2.2.2.2.2.2.2.2.2.1.1.2.2.1 y.2.2.2.2.2.2.2.2.2.1.1.2.2.2.1 y.2.2.2.2.2.2.2.2.2.1.1.2.2.2.2.1 y.2.2.2.2.2.2.2.2.2.1.1.2.2.2.2.2.1 y.2.2.2.2.2.2.2.2.2.1.1.2.2.2.2.2.2.1 y.2.2.2.2.2.2.2.2.2.1.1.2.2.2.2.2.2.2, bX4 G q ((o + 43) + 9) y.2.2.2.2.2.2.2.2.2.1.2.1.1 y.2.2.2.2.2.2.2.2.2.1.2.1.2, bX7 G q (o + 54) y.2.2.2.2.2.2.2.2.2.2.1 y.2.2.2.2.2.2.2.2.2.2.2.1 y.2.2.2.2.2.2.2.2.2.2.2.2] := by
  refine z_met zc_X10_jail (Nat.le_of_ble_eq_true rfl) ?_
  intro p e s m below meth c A ls hZ hl hw
  have hl : lv_has ls 3 [(0, .ref (q (o + 0))), (1, .int v1)] := hl
  obtain ⟨hS0, hr, hlk, hK, hA, hT⟩ := id hZ
  have hx := hS0.1
  have hb := hS0.2.1
  have hml := hS0.2.2.1
  have hown : s.vm.findClass RX10 = some m.cls := hS0.2.2.2.1
  have hts := hS0.2.2.2.2
  unfold f_X10_jail at hf
  refine lv_aload_n hx hb dX10_jail_0 rfl (lv_at hl 0 rfl) ?_
  refine lv_iload_n hx hb dX10_jail_1 rfl (lv_at hl 1 rfl) ?_
  obtain ⟨r1, e2, hf⟩ := z_bd hf
  refine z_callV1 (As := [.int v1]) (rest := []) (bs' := [bX10 G q o, bX9 G q (o + 1) r1.2.1.1 r1.2.1.2.1 r1.2.1.2.2.1 r1.2.1.2.2.2.1 r1.2.1.2.2.2.2, bX6 G q (o + 3) r1.2.2.1.1 r1.2.2.1.2, bX8 G q (o + 12) r1.2.2.2.1.1 r1.2.2.2.1.2, bX5 G q (o + 19) r1.2.2.2.2.1.2.1 r1.2.2.2.2.1.2.2.1 r1.2.2.2.2.1.2.2.2.1 r1.2.2.2.2.1.2.2.2.2, bX2 G q ((o + 19) + 2) r1.2.2.2.2.1.1.1 r1.2.2.2.2.1.1.2.1 r1.2.2.2.2.1.1.2.2.1 r1.2.2.2.2.1.1.2.2.2.1 r1.2.2.2.2.1.1.2.2.2.2.1 r1.2.2.2.2.1.1.2.2.2.2.2.1 r1.2.2.2.2.1.1.2.2.2.2.2.2.1 r1.2.2.2.2.1.1.2.2.2.2.2.2.2, bX2 G q (o + 27) r1.2.2.2.2.2.1.1 r1.2.2.2.2.2.1.2.1 r1.2.2.2.2.2.1.2.2.1 r1.2.2.2.2.2.1.2.2.2.1 r1.2.2.2.2.2.1.2.2.2.2.1 r1.2.2.2.2.2.1.2.2.2.2.2.1 r1.2.2.2.2.2.1.2.2.2.2.2.2.1 r1.2.2.2.2.2.1.2.2.2.2.2.2.2, bX1 G q (o + 33) r1.2.2.2.2.2.2.1.1 r1.2.2.2.2.2.2.1.2.1 r1.2.2.2.2.2.2.1.2.2.1 r1.2.2.2.2.2.2.1.2.2.2, bX4 G q (o + 36) r1.2.2.2.2.2.2.2.1.1 r1.2.2.2.2.2.2.2.1.2, bX3 G q (o + 38) r1.2.2.2.2.2.2.2.2.1.1 r1.2.2.2.2.2.2.2.2.1.2.1 r1.2.2.2.2.2.2.2.2.1.2.2.1 r1.2.2.2.2.2.2.2.2.1.2.2.2, bX0 G q (o + 43) r1.2.2.2.2.2.2.2.2.2.1.2.2.1 r1.2.2.2.2.2.2.2.2.2.1.2.2.2, bX2 G q ((o + 43) + 3) r1.2.2.2.2.2.2.2.2.2.1.1.1 r1.2.2.2.2.2.2.2.2.2.1.1.2.1 r1.2.2.2.2.2.2.2.2.2.1.1.2.2.1 r1.2.2.2.2.2.2.2.2.2.1.1.2.2.2.1 r1.2.2.2.2.2.2.2.2.2.1.1.2.2.2.2.1 r1.2.2.2.2.2.2.2.2.2.1.1.2.2.2.2.2.1 r1.2.2.2.2.2.2.2.2.2.1.1.2.2.2.2.2.2.1 r1.2.2.2.2.2.2.2.2.2.1.1.2.2.2.2.2.2.2, bX4 G q ((o + 43) + 9) r1.2.2.2.2.2.2.2.2.2.1.2.1.1 r1.2.2.2.2.2.2.2.2.2.1.2.1.2, bX7 G q (o + 54) r1.2.2.2.2.2.2.2.2.2.2.1 r1.2.2.2.2.2.2.2.2.2.2.2.1 r1.2.2.2.2.2.2.2.2.2.2.2.2]) hS0 (c_X10_textRefusal l G q o S v1 r1 e2) zc_X10_textRefusal rfl gX10_jail_X10_textRefusal ⟨Nat.le_of_ble_eq_true rfl, Nat.le_of_ble_eq_true rfl⟩ hK hA hT hw (is := [0, 1, 2, 3, 4, 5, 6, 7, 8, 9, 10, 11, 12, 13]) rfl rfl rfl rfl rfl rfl rfl hl.1 rfl (Nat.le_of_ble_eq_true rfl) dX10_jail_2 (fun H locs hw => ?_)
  refine lv_istore_n (lv' := [(2, .int r1.1), (0, .ref (q (o + 0))), (1, .int v1)]) hx hb dX10_jail_5 rfl hl (by decide) rfl (fun ls hl => ?_)
  refine lv_iload_n hx hb dX10_jail_6 rfl (lv_at hl 0 rfl) ?_
  refine lv_if_eq (tgt := 12) hx hb dX10_jail_7 rfl (fun hc => ?_) (fun hc => ?_)
  · have hf := z_t hc hf
    refine lv_aload_n hx hb dX10_jail_12 rfl (lv_at hl 1 rfl) ?_
    refine z_get hS0 in_X10_jail_X10 hK hw 0 3 rfl rfl rfl (by decide) (hts _ m_X10_jail_0) (v := .ref (q ((o + 19) + 0))) rfl dX10_jail_13 ?_
    refine lv_aload_n hx hb dX10_jail_16 rfl (lv_at hl 1 rfl) ?_
    refine z_get hS0 in_X10_jail_X10 hK hw 0 2 rfl rfl rfl (by decide) (hts _ m_X10_jail_1) (v := .ref (q ((o + 12) + 0))) rfl dX10_jail_17 ?_
    refine lv_iload_n hx hb dX10_jail_20 rfl (lv_at hl 2 rfl) ?_
    obtain ⟨r3, e4, hf⟩ := z_bd hf
    refine z_callV1 (As := [.ref (q ((o + 12) + 0)), .int v1]) (rest := []) (bs' := [bX10 G q o, bX9 G q (o + 1) r1.2.1.1 r1.2.1.2.1 r1.2.1.2.2.1 r1.2.1.2.2.2.1 r1.2.1.2.2.2.2, bX6 G q (o + 3) r1.2.2.1.1 r1.2.2.1.2, bX8 G q (o + 12) r1.2.2.2.1.1 r1.2.2.2.1.2, bX5 G q (o + 19) r3.2.2.1 r3.2.2.2.1 r3.2.2.2.2.1 r3.2.2.2.2.2, bX2 G q ((o + 19) + 2) r3.2.1.1 r3.2.1.2.1 r3.2.1.2.2.1 r3.2.1.2.2.2.1 r3.2.1.2.2.2.2.1 r3.2.1.2.2.2.2.2.1 r3.2.1.2.2.2.2.2.2.1 r3.2.1.2.2.2.2.2.2.2, bX2 G q (o + 27) r1.2.2.2.2.2.1.1 r1.2.2.2.2.2.1.2.1 r1.2.2.2.2.2.1.2.2.1 r1.2.2.2.2.2.1.2.2.2.1 r1.2.2.2.2.2.1.2.2.2.2.1 r1.2.2.2.2.2.1.2.2.2.2.2.1 r1.2.2.2.2.2.1.2.2.2.2.2.2.1 r1.2.2.2.2.2.1.2.2.2.2.2.2.2, bX1 G q (o + 33) r1.2.2.2.2.2.2.1.1 r1.2.2.2.2.2.2.1.2.1 r1.2.2.2.2.2.2.1.2.2.1 r1.2.2.2.2.2.2.1.2.2.2, bX4 G q (o + 36) r1.2.2.2.2.2.2.2.1.1 r1.2.2.2.2.2.2.2.1.2, bX3 G q (o + 38) r1.2.2.2.2.2.2.2.2.1.1 r1.2.2.2.2.2.2.2.2.1.2.1 r1.2.2.2.2.2.2.2.2.1.2.2.1 r1.2.2.2.2.2.2.2.2.1.2.2.2, bX0 G q (o + 43) r1.2.2.2.2.2.2.2.2.2.1.2.2.1 r1.2.2.2.2.2.2.2.2.2.1.2.2.2, bX2 G q ((o + 43) + 3) r1.2.2.2.2.2.2.2.2.2.1.1.1 r1.2.2.2.2.2.2.2.2.2.1.1.2.1 r1.2.2.2.2.2.2.2.2.2.1.1.2.2.1 r1.2.2.2.2.2.2.2.2.2.1.1.2.2.2.1 r1.2.2.2.2.2.2.2.2.2.1.1.2.2.2.2.1 r1.2.2.2.2.2.2.2.2.2.1.1.2.2.2.2.2.1 r1.2.2.2.2.2.2.2.2.2.1.1.2.2.2.2.2.2.1 r1.2.2.2.2.2.2.2.2.2.1.1.2.2.2.2.2.2.2, bX4 G q ((o + 43) + 9) r1.2.2.2.2.2.2.2.2.2.1.2.1.1 r1.2.2.2.2.2.2.2.2.2.1.2.1.2, bX7 G q (o + 54) r1.2.2.2.2.2.2.2.2.2.2.1 r1.2.2.2.2.2.2.2.2.2.2.2.1 r1.2.2.2.2.2.2.2.2.2.2.2.2]) hS0 (c_X5_read l G q (o + 19) q (o + 12) r1.2.2.2.2.1 r1.2.2.2.1 v1 r3 e4) zc_X5_read rfl gX10_jail_X5_read ⟨Nat.le_of_ble_eq_true rfl, Nat.le_of_ble_eq_true rfl⟩ hK hA hT hw (is := [4, 5, 3]) rfl rfl rfl rfl rfl rfl rfl hl.1 rfl (Nat.le_of_ble_eq_true rfl) dX10_jail_21 (fun H locs hw => ?_)
    refine lv_bipush (v := (-9)) hx hb dX10_jail_24 rfl ?_
    refine lv_icmp_eq (tgt := 32) hx hb dX10_jail_26 rfl (fun hc => ?_) (fun hc => ?_)
    · have hf := z_t hc hf
      refine lv_aload_n hx hb dX10_jail_32 rfl (lv_at hl 1 rfl) ?_
      refine z_get hS0 in_X10_jail_X10 hK hw 0 4 rfl rfl rfl (by decide) (hts _ m_X10_jail_2) (v := .ref (q ((o + 27) + 0))) rfl dX10_jail_33 ?_
      refine lv_aload_n hx hb dX10_jail_36 rfl (lv_at hl 1 rfl) ?_
      refine z_get hS0 in_X10_jail_X10 hK hw 0 3 rfl rfl rfl (by decide) (hts _ m_X10_jail_0) (v := .ref (q ((o + 19) + 0))) rfl dX10_jail_37 ?_
      obtain ⟨r5, e6, hf⟩ := z_bd hf
      refine z_callV1 (As := []) (rest := [.ref (q ((o + 27) + 0))]) (bs' := [bX10 G q o, bX9 G q (o + 1) r1.2.1.1 r1.2.1.2.1 r1.2.1.2.2.1 r1.2.1.2.2.2.1 r1.2.1.2.2.2.2, bX6 G q (o + 3) r1.2.2.1.1 r1.2.2.1.2, bX8 G q (o + 12) r1.2.2.2.1.1 r1.2.2.2.1.2, bX5 G q (o + 19) r3.2.2.1 r3.2.2.2.1 r3.2.2.2.2.1 r3.2.2.2.2.2, bX2 G q ((o + 19) + 2) r3.2.1.1 r3.2.1.2.1 r3.2.1.2.2.1 r3.2.1.2.2.2.1 r3.2.1.2.2.2.2.1 r3.2.1.2.2.2.2.2.1 r3.2.1.2.2.2.2.2.2.1 r3.2.1.2.2.2.2.2.2.2, bX2 G q (o + 27) r1.2.2.2.2.2.1.1 r1.2.2.2.2.2.1.2.1 r1.2.2.2.2.2.1.2.2.1 r1.2.2.2.2.2.1.2.2.2.1 r1.2.2.2.2.2.1.2.2.2.2.1 r1.2.2.2.2.2.1.2.2.2.2.2.1 r1.2.2.2.2.2.1.2.2.2.2.2.2.1 r1.2.2.2.2.2.1.2.2.2.2.2.2.2, bX1 G q (o + 33) r1.2.2.2.2.2.2.1.1 r1.2.2.2.2.2.2.1.2.1 r1.2.2.2.2.2.2.1.2.2.1 r1.2.2.2.2.2.2.1.2.2.2, bX4 G q (o + 36) r1.2.2.2.2.2.2.2.1.1 r1.2.2.2.2.2.2.2.1.2, bX3 G q (o + 38) r1.2.2.2.2.2.2.2.2.1.1 r1.2.2.2.2.2.2.2.2.1.2.1 r1.2.2.2.2.2.2.2.2.1.2.2.1 r1.2.2.2.2.2.2.2.2.1.2.2.2, bX0 G q (o + 43) r1.2.2.2.2.2.2.2.2.2.1.2.2.1 r1.2.2.2.2.2.2.2.2.2.1.2.2.2, bX2 G q ((o + 43) + 3) r1.2.2.2.2.2.2.2.2.2.1.1.1 r1.2.2.2.2.2.2.2.2.2.1.1.2.1 r1.2.2.2.2.2.2.2.2.2.1.1.2.2.1 r1.2.2.2.2.2.2.2.2.2.1.1.2.2.2.1 r1.2.2.2.2.2.2.2.2.2.1.1.2.2.2.2.1 r1.2.2.2.2.2.2.2.2.2.1.1.2.2.2.2.2.1 r1.2.2.2.2.2.2.2.2.2.1.1.2.2.2.2.2.2.1 r1.2.2.2.2.2.2.2.2.2.1.1.2.2.2.2.2.2.2, bX4 G q ((o + 43) + 9) r1.2.2.2.2.2.2.2.2.2.1.2.1.1 r1.2.2.2.2.2.2.2.2.2.1.2.1.2, bX7 G q (o + 54) r1.2.2.2.2.2.2.2.2.2.2.1 r1.2.2.2.2.2.2.2.2.2.2.2.1 r1.2.2.2.2.2.2.2.2.2.2.2.2]) hS0 (c_X5_draft l G q (o + 19) r3.2 r5 e6) zc_X5_draft rfl gX10_jail_X5_draft ⟨Nat.le_of_ble_eq_true rfl, Nat.le_of_ble_eq_true rfl⟩ hK hA hT hw (is := [4, 5]) rfl rfl rfl rfl rfl rfl rfl hl.1 rfl (Nat.le_of_ble_eq_true rfl) dX10_jail_40 (fun H locs hw => ?_)
      obtain ⟨r7, e8, hf⟩ := z_bd hf
      refine z_callV0 (As := [.ref (q (((o + 19) + 2) + 0))]) (rest := []) (bs' := [bX10 G q o, bX9 G q (o + 1) r1.2.1.1 r1.2.1.2.1 r1.2.1.2.2.1 r1.2.1.2.2.2.1 r1.2.1.2.2.2.2, bX6 G q (o + 3) r1.2.2.1.1 r1.2.2.1.2, bX8 G q (o + 12) r1.2.2.2.1.1 r1.2.2.2.1.2, bX5 G q (o + 19) r3.2.2.1 r3.2.2.2.1 r3.2.2.2.2.1 r3.2.2.2.2.2, bX2 G q ((o + 19) + 2) r3.2.1.1 r3.2.1.2.1 r3.2.1.2.2.1 r3.2.1.2.2.2.1 r3.2.1.2.2.2.2.1 r3.2.1.2.2.2.2.2.1 r3.2.1.2.2.2.2.2.2.1 r3.2.1.2.2.2.2.2.2.2, bX2 G q (o + 27) r7.1 r7.2.1 r7.2.2.1 r7.2.2.2.1 r7.2.2.2.2.1 r7.2.2.2.2.2.1 r7.2.2.2.2.2.2.1 r7.2.2.2.2.2.2.2, bX1 G q (o + 33) r1.2.2.2.2.2.2.1.1 r1.2.2.2.2.2.2.1.2.1 r1.2.2.2.2.2.2.1.2.2.1 r1.2.2.2.2.2.2.1.2.2.2, bX4 G q (o + 36) r1.2.2.2.2.2.2.2.1.1 r1.2.2.2.2.2.2.2.1.2, bX3 G q (o + 38) r1.2.2.2.2.2.2.2.2.1.1 r1.2.2.2.2.2.2.2.2.1.2.1 r1.2.2.2.2.2.2.2.2.1.2.2.1 r1.2.2.2.2.2.2.2.2.1.2.2.2, bX0 G q (o + 43) r1.2.2.2.2.2.2.2.2.2.1.2.2.1 r1.2.2.2.2.2.2.2.2.2.1.2.2.2, bX2 G q ((o + 43) + 3) r1.2.2.2.2.2.2.2.2.2.1.1.1 r1.2.2.2.2.2.2.2.2.2.1.1.2.1 r1.2.2.2.2.2.2.2.2.2.1.1.2.2.1 r1.2.2.2.2.2.2.2.2.2.1.1.2.2.2.1 r1.2.2.2.2.2.2.2.2.2.1.1.2.2.2.2.1 r1.2.2.2.2.2.2.2.2.2.1.1.2.2.2.2.2.1 r1.2.2.2.2.2.2.2.2.2.1.1.2.2.2.2.2.2.1 r1.2.2.2.2.2.2.2.2.2.1.1.2.2.2.2.2.2.2, bX4 G q ((o + 43) + 9) r1.2.2.2.2.2.2.2.2.2.1.2.1.1 r1.2.2.2.2.2.2.2.2.2.1.2.1.2, bX7 G q (o + 54) r1.2.2.2.2.2.2.2.2.2.2.1 r1.2.2.2.2.2.2.2.2.2.2.2.1 r1.2.2.2.2.2.2.2.2.2.2.2.2]) hS0 (c_X2_become l G q (o + 27) q ((o + 19) + 2) r1.2.2.2.2.2.1 r3.2.1 r7 e8) zc_X2_become rfl gX10_jail_X2_become ⟨Nat.le_of_ble_eq_true rfl, Nat.le_of_ble_eq_true rfl⟩ hK hA hT hw (is := [6, 5]) rfl rfl rfl rfl rfl rfl rfl hl.1 rfl (Nat.le_of_ble_eq_true rfl) dX10_jail_43 (fun H locs hw => ?_)
      refine lv_aload_n hx hb dX10_jail_46 rfl (lv_at hl 1 rfl) ?_
      refine z_get hS0 in_X10_jail_X10 hK hw 0 5 rfl rfl rfl (by decide) (hts _ m_X10_jail_3) (v := .ref (q ((o + 33) + 0))) rfl dX10_jail_47 ?_
      obtain ⟨r9, e10, hf⟩ := z_bd hf
      refine z_callV0 (As := []) (rest := []) (bs' := [bX10 G q o, bX9 G q (o + 1) r1.2.1.1 r1.2.1.2.1 r1.2.1.2.2.1 r1.2.1.2.2.2.1 r1.2.1.2.2.2.2, bX6 G q (o + 3) r1.2.2.1.1 r1.2.2.1.2, bX8 G q (o + 12) r1.2.2.2.1.1 r1.2.2.2.1.2, bX5 G q (o + 19) r3.2.2.1 r3.2.2.2.1 r3.2.2.2.2.1 r3.2.2.2.2.2, bX2 G q ((o + 19) + 2) r3.2.1.1 r3.2.1.2.1 r3.2.1.2.2.1 r3.2.1.2.2.2.1 r3.2.1.2.2.2.2.1 r3.2.1.2.2.2.2.2.1 r3.2.1.2.2.2.2.2.2.1 r3.2.1.2.2.2.2.2.2.2, bX2 G q (o + 27) r7.1 r7.2.1 r7.2.2.1 r7.2.2.2.1 r7.2.2.2.2.1 r7.2.2.2.2.2.1 r7.2.2.2.2.2.2.1 r7.2.2.2.2.2.2.2, bX1 G q (o + 33) r9.1 r9.2.1 r9.2.2.1 r9.2.2.2, bX4 G q (o + 36) r1.2.2.2.2.2.2.2.1.1 r1.2.2.2.2.2.2.2.1.2, bX3 G q (o + 38) r1.2.2.2.2.2.2.2.2.1.1 r1.2.2.2.2.2.2.2.2.1.2.1 r1.2.2.2.2.2.2.2.2.1.2.2.1 r1.2.2.2.2.2.2.2.2.1.2.2.2, bX0 G q (o + 43) r1.2.2.2.2.2.2.2.2.2.1.2.2.1 r1.2.2.2.2.2.2.2.2.2.1.2.2.2, bX2 G q ((o + 43) + 3) r1.2.2.2.2.2.2.2.2.2.1.1.1 r1.2.2.2.2.2.2.2.2.2.1.1.2.1 r1.2.2.2.2.2.2.2.2.2.1.1.2.2.1 r1.2.2.2.2.2.2.2.2.2.1.1.2.2.2.1 r1.2.2.2.2.2.2.2.2.2.1.1.2.2.2.2.1 r1.2.2.2.2.2.2.2.2.2.1.1.2.2.2.2.2.1 r1.2.2.2.2.2.2.2.2.2.1.1.2.2.2.2.2.2.1 r1.2.2.2.2.2.2.2.2.2.1.1.2.2.2.2.2.2.2, bX4 G q ((o + 43) + 9) r1.2.2.2.2.2.2.2.2.2.1.2.1.1 r1.2.2.2.2.2.2.2.2.2.1.2.1.2, bX7 G q (o + 54) r1.2.2.2.2.2.2.2.2.2.2.1 r1.2.2.2.2.2.2.2.2.2.2.2.1 r1.2.2.2.2.2.2.2.2.2.2.2.2]) hS0 (c_X1_clear l G q (o + 33) r1.2.2.2.2.2.2.1 r9 e10) zc_X1_clear rfl gX10_jail_X1_clear ⟨Nat.le_of_ble_eq_true rfl, Nat.le_of_ble_eq_true rfl⟩ hK hA hT hw (is := [7]) rfl rfl rfl rfl rfl rfl rfl hl.1 rfl (Nat.le_of_ble_eq_true rfl) dX10_jail_50 (fun H locs hw => ?_)
      refine lv_aload_n hx hb dX10_jail_53 rfl (lv_at hl 1 rfl) ?_
      refine z_get hS0 in_X10_jail_X10 hK hw 0 9 rfl rfl rfl (by decide) (hts _ m_X10_jail_4) (v := .ref (q ((o + 54) + 0))) rfl dX10_jail_54 ?_
      refine lv_iconst (v := 0) hx hb dX10_jail_57 rfl ?_
      obtain ⟨r11, e12, hf⟩ := z_bd hf
      refine z_callV1 (As := [.int 0]) (rest := []) (bs' := [bX10 G q o, bX9 G q (o + 1) r1.2.1.1 r1.2.1.2.1 r1.2.1.2.2.1 r1.2.1.2.2.2.1 r1.2.1.2.2.2.2, bX6 G q (o + 3) r1.2.2.1.1 r1.2.2.1.2, bX8 G q (o + 12) r1.2.2.2.1.1 r1.2.2.2.1.2, bX5 G q (o + 19) r3.2.2.1 r3.2.2.2.1 r3.2.2.2.2.1 r3.2.2.2.2.2, bX2 G q ((o + 19) + 2) r3.2.1.1 r3.2.1.2.1 r3.2.1.2.2.1 r3.2.1.2.2.2.1 r3.2.1.2.2.2.2.1 r3.2.1.2.2.2.2.2.1 r3.2.1.2.2.2.2.2.2.1 r3.2.1.2.2.2.2.2.2.2, bX2 G q (o + 27) r7.1 r7.2.1 r7.2.2.1 r7.2.2.2.1 r7.2.2.2.2.1 r7.2.2.2.2.2.1 r7.2.2.2.2.2.2.1 r7.2.2.2.2.2.2.2, bX1 G q (o + 33) r9.1 r9.2.1 r9.2.2.1 r9.2.2.2, bX4 G q (o + 36) r1.2.2.2.2.2.2.2.1.1 r1.2.2.2.2.2.2.2.1.2, bX3 G q (o + 38) r1.2.2.2.2.2.2.2.2.1.1 r1.2.2.2.2.2.2.2.2.1.2.1 r1.2.2.2.2.2.2.2.2.1.2.2.1 r1.2.2.2.2.2.2.2.2.1.2.2.2, bX0 G q (o + 43) r1.2.2.2.2.2.2.2.2.2.1.2.2.1 r1.2.2.2.2.2.2.2.2.2.1.2.2.2, bX2 G q ((o + 43) + 3) r1.2.2.2.2.2.2.2.2.2.1.1.1 r1.2.2.2.2.2.2.2.2.2.1.1.2.1 r1.2.2.2.2.2.2.2.2.2.1.1.2.2.1 r1.2.2.2.2.2.2.2.2.2.1.1.2.2.2.1 r1.2.2.2.2.2.2.2.2.2.1.1.2.2.2.2.1 r1.2.2.2.2.2.2.2.2.2.1.1.2.2.2.2.2.1 r1.2.2.2.2.2.2.2.2.2.1.1.2.2.2.2.2.2.1 r1.2.2.2.2.2.2.2.2.2.1.1.2.2.2.2.2.2.2, bX4 G q ((o + 43) + 9) r1.2.2.2.2.2.2.2.2.2.1.2.1.1 r1.2.2.2.2.2.2.2.2.2.1.2.1.2, bX7 G q (o + 54) r11.2.1 r11.2.2.1 r11.2.2.2]) hS0 (c_X7_dropFrom l G q (o + 54) r1.2.2.2.2.2.2.2.2.2.2 0 r11 e12) zc_X7_dropFrom rfl gX10_jail_X7_dropFrom ⟨Nat.le_of_ble_eq_true rfl, Nat.le_of_ble_eq_true rfl⟩ hK hA hT hw (is := [13]) rfl rfl rfl rfl rfl rfl rfl hl.1 rfl (Nat.le_of_ble_eq_true rfl) dX10_jail_58 (fun H locs hw => ?_)
      refine lv_pop hx hb dX10_jail_61 rfl ?_
      refine lv_aload_n hx hb dX10_jail_62 rfl (lv_at hl 1 rfl) ?_
      refine z_get hS0 in_X10_jail_X10 hK hw 0 4 rfl rfl rfl (by decide) (hts _ m_X10_jail_2) (v := .ref (q ((o + 27) + 0))) rfl dX10_jail_63 ?_
      obtain ⟨r13, e14, hf⟩ := z_bd hf
      refine z_callV1 (As := []) (rest := []) (bs' := [bX10 G q o, bX9 G q (o + 1) r1.2.1.1 r1.2.1.2.1 r1.2.1.2.2.1 r1.2.1.2.2.2.1 r1.2.1.2.2.2.2, bX6 G q (o + 3) r1.2.2.1.1 r1.2.2.1.2, bX8 G q (o + 12) r1.2.2.2.1.1 r1.2.2.2.1.2, bX5 G q (o + 19) r3.2.2.1 r3.2.2.2.1 r3.2.2.2.2.1 r3.2.2.2.2.2, bX2 G q ((o + 19) + 2) r3.2.1.1 r3.2.1.2.1 r3.2.1.2.2.1 r3.2.1.2.2.2.1 r3.2.1.2.2.2.2.1 r3.2.1.2.2.2.2.2.1 r3.2.1.2.2.2.2.2.2.1 r3.2.1.2.2.2.2.2.2.2, bX2 G q (o + 27) r7.1 r7.2.1 r7.2.2.1 r7.2.2.2.1 r7.2.2.2.2.1 r7.2.2.2.2.2.1 r7.2.2.2.2.2.2.1 r7.2.2.2.2.2.2.2, bX1 G q (o + 33) r9.1 r9.2.1 r9.2.2.1 r9.2.2.2, bX4 G q (o + 36) r1.2.2.2.2.2.2.2.1.1 r1.2.2.2.2.2.2.2.1.2, bX3 G q (o + 38) r1.2.2.2.2.2.2.2.2.1.1 r1.2.2.2.2.2.2.2.2.1.2.1 r1.2.2.2.2.2.2.2.2.1.2.2.1 r1.2.2.2.2.2.2.2.2.1.2.2.2, bX0 G q (o + 43) r1.2.2.2.2.2.2.2.2.2.1.2.2.1 r1.2.2.2.2.2.2.2.2.2.1.2.2.2, bX2 G q ((o + 43) + 3) r1.2.2.2.2.2.2.2.2.2.1.1.1 r1.2.2.2.2.2.2.2.2.2.1.1.2.1 r1.2.2.2.2.2.2.2.2.2.1.1.2.2.1 r1.2.2.2.2.2.2.2.2.2.1.1.2.2.2.1 r1.2.2.2.2.2.2.2.2.2.1.1.2.2.2.2.1 r1.2.2.2.2.2.2.2.2.2.1.1.2.2.2.2.2.1 r1.2.2.2.2.2.2.2.2.2.1.1.2.2.2.2.2.2.1 r1.2.2.2.2.2.2.2.2.2.1.1.2.2.2.2.2.2.2, bX4 G q ((o + 43) + 9) r1.2.2.2.2.2.2.2.2.2.1.2.1.1 r1.2.2.2.2.2.2.2.2.2.1.2.1.2, bX7 G q (o + 54) r11.2.1 r11.2.2.1 r11.2.2.2]) hS0 (c_X2_cells l G q (o + 27) r7 r13 e14) zc_X2_cells rfl gX10_jail_X2_cells ⟨Nat.le_of_ble_eq_true rfl, Nat.le_of_ble_eq_true rfl⟩ hK hA hT hw (is := [6]) rfl rfl rfl rfl rfl rfl rfl hl.1 rfl (Nat.le_of_ble_eq_true rfl) dX10_jail_66 (fun H locs hw => ?_)
      cases hf
      exact z_iret hx hb hr hlk hw dX10_jail_69
    · have hf := z_f hc hf
      refine lv_bipush (v := (-4)) hx hb dX10_jail_29 rfl ?_
      cases hf
      exact z_iret hx hb hr hlk hw dX10_jail_31
  · have hf := z_f hc hf
    refine lv_iload_n hx hb dX10_jail_10 rfl (lv_at hl 0 rfl) ?_
    cases hf
    exact z_iret hx hb hr hlk hw dX10_jail_11
theorem zc_X10_keep : zC yX10_keep wsX10_keep cX10_keep 2 (some .int) 1 := ⟨⟨_, rfl⟩, by decide +kernel, by decide +kernel, by decide +kernel, by decide +kernel⟩
theorem m_X10_keep_0 : (.fieldLink RX10 47 "CellKeys" "evenings" "LCellKeys$Evenings;" : Cond) ∈ wsX10_keep := by decide +kernel
theorem in_X10_keep_X10 : ∀ w ∈ u_ws RX10 TX10 10, w ∈ wsX10_keep := by decide +kernel
set_option maxHeartbeats 4000000 in
set_option maxRecDepth 100000 in
theorem c_X10_keep (l : Launch) (G : zG) (q : Nat → Nat) (o : Nat) (S : VX10) (v1 : Int32) (y : Int32 × VX10) (hf : f_X10_keep S v1 = some y) : zMet l yX10_keep wsX10_keep 2 42 G [.ref (q (o + 0)), .int v1] [bX10 G q o, bX9 G q (o + 1) S.1.1 S.1.2.1 S.1.2.2.1 S.1.2.2.2.1 S.1.2.2.2.2, bX6 G q (o + 3) S.2.1.1 S.2.1.2, bX8 G q (o + 12) S.2.2.1.1 S.2.2.1.2, bX5 G q (o + 19) S.2.2.2.1.2.1 S.2.2.2.1.2.2.1 S.2.2.2.1.2.2.2.1 S.2.2.2.1.2.2.2.2, bX2 G q ((o + 19) + 2) S.2.2.2.1.1.1 S.2.2.2.1.1.2.1 S.2.2.2.1.1.2.2.1 S.2.2.2.1.1.2.2.2.1 S.2.2.2.1.1.2.2.2.2.1 S.2.2.2.1.1.2.2.2.2.2.1 S.2.2.2.1.1.2.2.2.2.2.2.1 S.2.2.2.1.1.2.2.2.2.2.2.2, bX2 G q (o + 27) S.2.2.2.2.1.1 S.2.2.2.2.1.2.1 S.2.2.2.2.1.2.2.1 S.2.2.2.2.1.2.2.2.1 S.2.2.2.2.1.2.2.2.2.1 S.2.2.2.2.1.2.2.2.2.2.1 S.2.2.2.2.1.2.2.2.2.2.2.1 S.2.2.2.2.1.2.2.2.2.2.2.2, bX1 G q (o + 33) S.2.2.2.2.2.1.1 S.2.2.2.2.2.1.2.1 S.2.2.2.2.2.1.2.2.1 S.2.2.2.2.2.1.2.2.2, bX4 G q (o + 36) S.2.2.2.2.2.2.1.1 S.2.2.2.2.2.2.1.2, bX3 G q (o + 38) S.2.2.2.2.2.2.2.1.1 S.2.2.2.2.2.2.2.1.2.1 S.2.2.2.2.2.2.2.1.2.2.1 S.2.2.2.2.2.2.2.1.2.2.2, bX0 G q (o + 43) S.2.2.2.2.2.2.2.2.1.2.2.1 S.2.2.2.2.2.2.2.2.1.2.2.2, bX2 G q ((o + 43) + 3) S.2.2.2.2.2.2.2.2.1.1.1 S.2.2.2.2.2.2.2.2.1.1.2.1 S.2.2.2.2.2.2.2.2.1.1.2.2.1 S.2.2.2.2.2.2.2.2.1.1.2.2.2.1 S.2.2.2.2.2.2.2.2.1.1.2.2.2.2.1 S.2.2.2.2.2.2.2.2.1.1.2.2.2.2.2.1 S.2.2.2.2.2.2.2.2.1.1.2.2.2.2.2.2.1 S.2.2.2.2.2.2.2.2.1.1.2.2.2.2.2.2.2, bX4 G q ((o + 43) + 9) S.2.2.2.2.2.2.2.2.1.2.1.1 S.2.2.2.2.2.2.2.2.1.2.1.2, bX7 G q (o + 54) S.2.2.2.2.2.2.2.2.2.1 S.2.2.2.2.2.2.2.2.2.2.1 S.2.2.2.2.2.2.2.2.2.2.2] (some (.int y.1)) [bX10 G q o, bX9 G q (o + 1) y.2.1.1 y.2.1.2.1 y.2.1.2.2.1 y.2.1.2.2.2.1 y.2.1.2.2.2.2, bX6 G q (o + 3) y.2.2.1.1 y.2.2.1.2, bX8 G q (o + 12) y.2.2.2.1.1 y.2.2.2.1.2, bX5 G q (o + 19) y.2.2.2.2.1.2.1 y.2.2.2.2.1.2.2.1 y.2.2.2.2.1.2.2.2.1 y.2.2.2.2.1.2.2.2.2, bX2 G q ((o + 19) + 2) y.2.2.2.2.1.1.1 y.2.2.2.2.1.1.2.1 y.2.2.2.2.1.1.2.2.1 y.2.2.2.2.1.1.2.2.2.1 y.2.2.2.2.1.1.2.2.2.2.1 y.2.2.2.2.1.1.2.2.2.2.2.1 y.2.2.2.2.1.1.2.2.2.2.2.2.1 y.2.2.2.2.1.1.2.2.2.2.2.2.2, bX2 G q (o + 27) y.2.2.2.2.2.1.1 y.2.2.2.2.2.1.2.1 y.2.2.2.2.2.1.2.2.1 y.2.2.2.2.2.1.2.2.2.1 y.2.2.2.2.2.1.2.2.2.2.1 y.2.2.2.2.2.1.2.2.2.2.2.1 y.2.2.2.2.2.1.2.2.2.2.2.2.1 y.2.2.2.2.2.1.2.2.2.2.2.2.2, bX1 G q (o + 33) y.2.2.2.2.2.2.1.1 y.2.2.2.2.2.2.1.2.1 y.2.2.2.2.2.2.1.2.2.1 y.2.2.2.2.2.2.1.2.2.2, bX4 G q (o + 36) y.2.2.2.2.2.2.2.1.1 y.2.2.2.2.2.2.2.1.2, bX3 G q (o + 38) y.2.2.2.2.2.2.2.2.1.1 y.2.2.2.2.2.2.2.2.1.2.1 y.2.2.2.2.2.2.2.2.1.2.2.1 y.2.2.2.2.2.2.2.2.1.2.2.2, bX0 G q (o + 43) y.2.2.2.2.2.2.2.2.2.1.2.2.1 y.2.2.2.2.2.2.2.2.2.1.2.2.2, bX2 G q ((o + 43) + 3) y.2.2.2.2.2.2.2.2.2.1.1.1 y.2.2.2.2.2.2.2.2.2.1.1.2.1 y.2.2.2.2.2.2.2.2.2.1.1.2.2.1 y.2.2.2.2.2.2.2.2.2.1.1.2.2.2.1 y.2.2.2.2.2.2.2.2.2.1.1.2.2.2.2.1 y.2.2.2.2.2.2.2.2.2.1.1.2.2.2.2.2.1 y.2.2.2.2.2.2.2.2.2.1.1.2.2.2.2.2.2.1 y.2.2.2.2.2.2.2.2.2.1.1.2.2.2.2.2.2.2, bX4 G q ((o + 43) + 9) y.2.2.2.2.2.2.2.2.2.1.2.1.1 y.2.2.2.2.2.2.2.2.2.1.2.1.2, bX7 G q (o + 54) y.2.2.2.2.2.2.2.2.2.2.1 y.2.2.2.2.2.2.2.2.2.2.2.1 y.2.2.2.2.2.2.2.2.2.2.2.2] := by
  refine z_met zc_X10_keep (Nat.le_of_ble_eq_true rfl) ?_
  intro p e s m below meth c A ls hZ hl hw
  have hl : lv_has ls 2 [(0, .ref (q (o + 0))), (1, .int v1)] := hl
  obtain ⟨hS0, hr, hlk, hK, hA, hT⟩ := id hZ
  have hx := hS0.1
  have hb := hS0.2.1
  have hml := hS0.2.2.1
  have hown : s.vm.findClass RX10 = some m.cls := hS0.2.2.2.1
  have hts := hS0.2.2.2.2
  unfold f_X10_keep at hf
  refine lv_aload_n hx hb dX10_keep_0 rfl (lv_at hl 0 rfl) ?_
  refine z_get hS0 in_X10_keep_X10 hK hw 0 5 rfl rfl rfl (by decide) (hts _ m_X10_keep_0) (v := .ref (q ((o + 33) + 0))) rfl dX10_keep_1 ?_
  refine lv_iload_n hx hb dX10_keep_4 rfl (lv_at hl 1 rfl) ?_
  obtain ⟨r1, e2, hf⟩ := z_bd hf
  refine z_callV1 (As := [.int v1]) (rest := []) (bs' := [bX10 G q o, bX9 G q (o + 1) S.1.1 S.1.2.1 S.1.2.2.1 S.1.2.2.2.1 S.1.2.2.2.2, bX6 G q (o + 3) S.2.1.1 S.2.1.2, bX8 G q (o + 12) S.2.2.1.1 S.2.2.1.2, bX5 G q (o + 19) S.2.2.2.1.2.1 S.2.2.2.1.2.2.1 S.2.2.2.1.2.2.2.1 S.2.2.2.1.2.2.2.2, bX2 G q ((o + 19) + 2) S.2.2.2.1.1.1 S.2.2.2.1.1.2.1 S.2.2.2.1.1.2.2.1 S.2.2.2.1.1.2.2.2.1 S.2.2.2.1.1.2.2.2.2.1 S.2.2.2.1.1.2.2.2.2.2.1 S.2.2.2.1.1.2.2.2.2.2.2.1 S.2.2.2.1.1.2.2.2.2.2.2.2, bX2 G q (o + 27) S.2.2.2.2.1.1 S.2.2.2.2.1.2.1 S.2.2.2.2.1.2.2.1 S.2.2.2.2.1.2.2.2.1 S.2.2.2.2.1.2.2.2.2.1 S.2.2.2.2.1.2.2.2.2.2.1 S.2.2.2.2.1.2.2.2.2.2.2.1 S.2.2.2.2.1.2.2.2.2.2.2.2, bX1 G q (o + 33) S.2.2.2.2.2.1.1 S.2.2.2.2.2.1.2.1 S.2.2.2.2.2.1.2.2.1 S.2.2.2.2.2.1.2.2.2, bX4 G q (o + 36) S.2.2.2.2.2.2.1.1 S.2.2.2.2.2.2.1.2, bX3 G q (o + 38) S.2.2.2.2.2.2.2.1.1 S.2.2.2.2.2.2.2.1.2.1 S.2.2.2.2.2.2.2.1.2.2.1 S.2.2.2.2.2.2.2.1.2.2.2, bX0 G q (o + 43) S.2.2.2.2.2.2.2.2.1.2.2.1 S.2.2.2.2.2.2.2.2.1.2.2.2, bX2 G q ((o + 43) + 3) S.2.2.2.2.2.2.2.2.1.1.1 S.2.2.2.2.2.2.2.2.1.1.2.1 S.2.2.2.2.2.2.2.2.1.1.2.2.1 S.2.2.2.2.2.2.2.2.1.1.2.2.2.1 S.2.2.2.2.2.2.2.2.1.1.2.2.2.2.1 S.2.2.2.2.2.2.2.2.1.1.2.2.2.2.2.1 S.2.2.2.2.2.2.2.2.1.1.2.2.2.2.2.2.1 S.2.2.2.2.2.2.2.2.1.1.2.2.2.2.2.2.2, bX4 G q ((o + 43) + 9) S.2.2.2.2.2.2.2.2.1.2.1.1 S.2.2.2.2.2.2.2.2.1.2.1.2, bX7 G q (o + 54) S.2.2.2.2.2.2.2.2.2.1 S.2.2.2.2.2.2.2.2.2.2.1 S.2.2.2.2.2.2.2.2.2.2.2]) hS0 (c_X1_isNumber l G q (o + 33) S.2.2.2.2.2.1 v1 r1 e2) zc_X1_isNumber rfl gX10_keep_X1_isNumber ⟨Nat.le_of_ble_eq_true rfl, Nat.le_of_ble_eq_true rfl⟩ hK hA hT hw (is := [7]) rfl rfl rfl rfl rfl rfl rfl hl.1 rfl (Nat.le_of_ble_eq_true rfl) dX10_keep_5 (fun H locs hw => ?_)
  refine lv_if_ne (tgt := 13) hx hb dX10_keep_8 rfl (fun hc => ?_) (fun hc => ?_)
  · have hf := z_f hc hf
    refine lv_aload_n hx hb dX10_keep_13 rfl (lv_at hl 0 rfl) ?_
    refine z_get hS0 in_X10_keep_X10 hK hw 0 5 rfl rfl rfl (by decide) (hts _ m_X10_keep_0) (v := .ref (q ((o + 33) + 0))) rfl dX10_keep_14 ?_
    refine lv_iload_n hx hb dX10_keep_17 rfl (lv_at hl 1 rfl) ?_
    obtain ⟨r3, e4, hf⟩ := z_bd hf
    refine z_callV0 (As := [.int v1]) (rest := []) (bs' := [bX10 G q o, bX9 G q (o + 1) S.1.1 S.1.2.1 S.1.2.2.1 S.1.2.2.2.1 S.1.2.2.2.2, bX6 G q (o + 3) S.2.1.1 S.2.1.2, bX8 G q (o + 12) S.2.2.1.1 S.2.2.1.2, bX5 G q (o + 19) S.2.2.2.1.2.1 S.2.2.2.1.2.2.1 S.2.2.2.1.2.2.2.1 S.2.2.2.1.2.2.2.2, bX2 G q ((o + 19) + 2) S.2.2.2.1.1.1 S.2.2.2.1.1.2.1 S.2.2.2.1.1.2.2.1 S.2.2.2.1.1.2.2.2.1 S.2.2.2.1.1.2.2.2.2.1 S.2.2.2.1.1.2.2.2.2.2.1 S.2.2.2.1.1.2.2.2.2.2.2.1 S.2.2.2.1.1.2.2.2.2.2.2.2, bX2 G q (o + 27) S.2.2.2.2.1.1 S.2.2.2.2.1.2.1 S.2.2.2.2.1.2.2.1 S.2.2.2.2.1.2.2.2.1 S.2.2.2.2.1.2.2.2.2.1 S.2.2.2.2.1.2.2.2.2.2.1 S.2.2.2.2.1.2.2.2.2.2.2.1 S.2.2.2.2.1.2.2.2.2.2.2.2, bX1 G q (o + 33) r3.1 r3.2.1 r3.2.2.1 r3.2.2.2, bX4 G q (o + 36) S.2.2.2.2.2.2.1.1 S.2.2.2.2.2.2.1.2, bX3 G q (o + 38) S.2.2.2.2.2.2.2.1.1 S.2.2.2.2.2.2.2.1.2.1 S.2.2.2.2.2.2.2.1.2.2.1 S.2.2.2.2.2.2.2.1.2.2.2, bX0 G q (o + 43) S.2.2.2.2.2.2.2.2.1.2.2.1 S.2.2.2.2.2.2.2.2.1.2.2.2, bX2 G q ((o + 43) + 3) S.2.2.2.2.2.2.2.2.1.1.1 S.2.2.2.2.2.2.2.2.1.1.2.1 S.2.2.2.2.2.2.2.2.1.1.2.2.1 S.2.2.2.2.2.2.2.2.1.1.2.2.2.1 S.2.2.2.2.2.2.2.2.1.1.2.2.2.2.1 S.2.2.2.2.2.2.2.2.1.1.2.2.2.2.2.1 S.2.2.2.2.2.2.2.2.1.1.2.2.2.2.2.2.1 S.2.2.2.2.2.2.2.2.1.1.2.2.2.2.2.2.2, bX4 G q ((o + 43) + 9) S.2.2.2.2.2.2.2.2.1.2.1.1 S.2.2.2.2.2.2.2.2.1.2.1.2, bX7 G q (o + 54) S.2.2.2.2.2.2.2.2.2.1 S.2.2.2.2.2.2.2.2.2.2.1 S.2.2.2.2.2.2.2.2.2.2.2]) hS0 (c_X1_store l G q (o + 33) S.2.2.2.2.2.1 v1 r3 e4) zc_X1_store rfl gX10_keep_X1_store ⟨Nat.le_of_ble_eq_true rfl, Nat.le_of_ble_eq_true rfl⟩ hK hA hT hw (is := [7]) rfl rfl rfl rfl rfl rfl rfl hl.1 rfl (Nat.le_of_ble_eq_true rfl) dX10_keep_18 (fun H locs hw => ?_)
    refine lv_aload_n hx hb dX10_keep_21 rfl (lv_at hl 0 rfl) ?_
    refine z_get hS0 in_X10_keep_X10 hK hw 0 5 rfl rfl rfl (by decide) (hts _ m_X10_keep_0) (v := .ref (q ((o + 33) + 0))) rfl dX10_keep_22 ?_
    obtain ⟨r5, e6, hf⟩ := z_bd hf
    refine z_callV1 (As := []) (rest := []) (bs' := [bX10 G q o, bX9 G q (o + 1) S.1.1 S.1.2.1 S.1.2.2.1 S.1.2.2.2.1 S.1.2.2.2.2, bX6 G q (o + 3) S.2.1.1 S.2.1.2, bX8 G q (o + 12) S.2.2.1.1 S.2.2.1.2, bX5 G q (o + 19) S.2.2.2.1.2.1 S.2.2.2.1.2.2.1 S.2.2.2.1.2.2.2.1 S.2.2.2.1.2.2.2.2, bX2 G q ((o + 19) + 2) S.2.2.2.1.1.1 S.2.2.2.1.1.2.1 S.2.2.2.1.1.2.2.1 S.2.2.2.1.1.2.2.2.1 S.2.2.2.1.1.2.2.2.2.1 S.2.2.2.1.1.2.2.2.2.2.1 S.2.2.2.1.1.2.2.2.2.2.2.1 S.2.2.2.1.1.2.2.2.2.2.2.2, bX2 G q (o + 27) S.2.2.2.2.1.1 S.2.2.2.2.1.2.1 S.2.2.2.2.1.2.2.1 S.2.2.2.2.1.2.2.2.1 S.2.2.2.2.1.2.2.2.2.1 S.2.2.2.2.1.2.2.2.2.2.1 S.2.2.2.2.1.2.2.2.2.2.2.1 S.2.2.2.2.1.2.2.2.2.2.2.2, bX1 G q (o + 33) r3.1 r3.2.1 r3.2.2.1 r3.2.2.2, bX4 G q (o + 36) S.2.2.2.2.2.2.1.1 S.2.2.2.2.2.2.1.2, bX3 G q (o + 38) S.2.2.2.2.2.2.2.1.1 S.2.2.2.2.2.2.2.1.2.1 S.2.2.2.2.2.2.2.1.2.2.1 S.2.2.2.2.2.2.2.1.2.2.2, bX0 G q (o + 43) S.2.2.2.2.2.2.2.2.1.2.2.1 S.2.2.2.2.2.2.2.2.1.2.2.2, bX2 G q ((o + 43) + 3) S.2.2.2.2.2.2.2.2.1.1.1 S.2.2.2.2.2.2.2.2.1.1.2.1 S.2.2.2.2.2.2.2.2.1.1.2.2.1 S.2.2.2.2.2.2.2.2.1.1.2.2.2.1 S.2.2.2.2.2.2.2.2.1.1.2.2.2.2.1 S.2.2.2.2.2.2.2.2.1.1.2.2.2.2.2.1 S.2.2.2.2.2.2.2.2.1.1.2.2.2.2.2.2.1 S.2.2.2.2.2.2.2.2.1.1.2.2.2.2.2.2.2, bX4 G q ((o + 43) + 9) S.2.2.2.2.2.2.2.2.1.2.1.1 S.2.2.2.2.2.2.2.2.1.2.1.2, bX7 G q (o + 54) S.2.2.2.2.2.2.2.2.2.1 S.2.2.2.2.2.2.2.2.2.2.1 S.2.2.2.2.2.2.2.2.2.2.2]) hS0 (c_X1_howManyOut l G q (o + 33) r3 r5 e6) zc_X1_howManyOut rfl gX10_keep_X1_howManyOut ⟨Nat.le_of_ble_eq_true rfl, Nat.le_of_ble_eq_true rfl⟩ hK hA hT hw (is := [7]) rfl rfl rfl rfl rfl rfl rfl hl.1 rfl (Nat.le_of_ble_eq_true rfl) dX10_keep_25 (fun H locs hw => ?_)
    cases hf
    exact z_iret hx hb hr hlk hw dX10_keep_28
  · have hf := z_t hc hf
    refine lv_iconst (v := (-1)) hx hb dX10_keep_11 rfl ?_
    cases hf
    exact z_iret hx hb hr hlk hw dX10_keep_12
theorem zc_X10_key : zC yX10_key wsX10_key cX10_key 4 (some .int) 2 := ⟨⟨_, rfl⟩, by decide +kernel, by decide +kernel, by decide +kernel, by decide +kernel⟩
theorem m_X10_key_0 : (.fieldLink RX10 40 "CellKeys" "jail" "LCellKeys$Jail;" : Cond) ∈ wsX10_key := by decide +kernel
theorem in_X10_key_X10 : ∀ w ∈ u_ws RX10 TX10 10, w ∈ wsX10_key := by decide +kernel
theorem m_X10_key_1 : (.fieldLink RX10 10 "CellKeys" "told" "LCellKeys$Told;" : Cond) ∈ wsX10_key := by decide +kernel
set_option maxHeartbeats 4000000 in
set_option maxRecDepth 100000 in
theorem c_X10_key (l : Launch) (G : zG) (q : Nat → Nat) (o : Nat) (S : VX10) (v1 : Int32) (v2 : Int32) (y : Int32 × VX10) (hf : f_X10_key S v1 v2 = some y) : zMet l yX10_key wsX10_key 2 43 G [.ref (q (o + 0)), .int v1, .int v2] [bX10 G q o, bX9 G q (o + 1) S.1.1 S.1.2.1 S.1.2.2.1 S.1.2.2.2.1 S.1.2.2.2.2, bX6 G q (o + 3) S.2.1.1 S.2.1.2, bX8 G q (o + 12) S.2.2.1.1 S.2.2.1.2, bX5 G q (o + 19) S.2.2.2.1.2.1 S.2.2.2.1.2.2.1 S.2.2.2.1.2.2.2.1 S.2.2.2.1.2.2.2.2, bX2 G q ((o + 19) + 2) S.2.2.2.1.1.1 S.2.2.2.1.1.2.1 S.2.2.2.1.1.2.2.1 S.2.2.2.1.1.2.2.2.1 S.2.2.2.1.1.2.2.2.2.1 S.2.2.2.1.1.2.2.2.2.2.1 S.2.2.2.1.1.2.2.2.2.2.2.1 S.2.2.2.1.1.2.2.2.2.2.2.2, bX2 G q (o + 27) S.2.2.2.2.1.1 S.2.2.2.2.1.2.1 S.2.2.2.2.1.2.2.1 S.2.2.2.2.1.2.2.2.1 S.2.2.2.2.1.2.2.2.2.1 S.2.2.2.2.1.2.2.2.2.2.1 S.2.2.2.2.1.2.2.2.2.2.2.1 S.2.2.2.2.1.2.2.2.2.2.2.2, bX1 G q (o + 33) S.2.2.2.2.2.1.1 S.2.2.2.2.2.1.2.1 S.2.2.2.2.2.1.2.2.1 S.2.2.2.2.2.1.2.2.2, bX4 G q (o + 36) S.2.2.2.2.2.2.1.1 S.2.2.2.2.2.2.1.2, bX3 G q (o + 38) S.2.2.2.2.2.2.2.1.1 S.2.2.2.2.2.2.2.1.2.1 S.2.2.2.2.2.2.2.1.2.2.1 S.2.2.2.2.2.2.2.1.2.2.2, bX0 G q (o + 43) S.2.2.2.2.2.2.2.2.1.2.2.1 S.2.2.2.2.2.2.2.2.1.2.2.2, bX2 G q ((o + 43) + 3) S.2.2.2.2.2.2.2.2.1.1.1 S.2.2.2.2.2.2.2.2.1.1.2.1 S.2.2.2.2.2.2.2.2.1.1.2.2.1 S.2.2.2.2.2.2.2.2.1.1.2.2.2.1 S.2.2.2.2.2.2.2.2.1.1.2.2.2.2.1 S.2.2.2.2.2.2.2.2.1.1.2.2.2.2.2.1 S.2.2.2.2.2.2.2.2.1.1.2.2.2.2.2.2.1 S.2.2.2.2.2.2.2.2.1.1.2.2.2.2.2.2.2, bX4 G q ((o + 43) + 9) S.2.2.2.2.2.2.2.2.1.2.1.1 S.2.2.2.2.2.2.2.2.1.2.1.2, bX7 G q (o + 54) S.2.2.2.2.2.2.2.2.2.1 S.2.2.2.2.2.2.2.2.2.2.1 S.2.2.2.2.2.2.2.2.2.2.2] (some (.int y.1)) [bX10 G q o, bX9 G q (o + 1) y.2.1.1 y.2.1.2.1 y.2.1.2.2.1 y.2.1.2.2.2.1 y.2.1.2.2.2.2, bX6 G q (o + 3) y.2.2.1.1 y.2.2.1.2, bX8 G q (o + 12) y.2.2.2.1.1 y.2.2.2.1.2, bX5 G q (o + 19) y.2.2.2.2.1.2.1 y.2.2.2.2.1.2.2.1 y.2.2.2.2.1.2.2.2.1 y.2.2.2.2.1.2.2.2.2, bX2 G q ((o + 19) + 2) y.2.2.2.2.1.1.1 y.2.2.2.2.1.1.2.1 y.2.2.2.2.1.1.2.2.1 y.2.2.2.2.1.1.2.2.2.1 y.2.2.2.2.1.1.2.2.2.2.1 y.2.2.2.2.1.1.2.2.2.2.2.1 y.2.2.2.2.1.1.2.2.2.2.2.2.1 y.2.2.2.2.1.1.2.2.2.2.2.2.2, bX2 G q (o + 27) y.2.2.2.2.2.1.1 y.2.2.2.2.2.1.2.1 y.2.2.2.2.2.1.2.2.1 y.2.2.2.2.2.1.2.2.2.1 y.2.2.2.2.2.1.2.2.2.2.1 y.2.2.2.2.2.1.2.2.2.2.2.1 y.2.2.2.2.2.1.2.2.2.2.2.2.1 y.2.2.2.2.2.1.2.2.2.2.2.2.2, bX1 G q (o + 33) y.2.2.2.2.2.2.1.1 y.2.2.2.2.2.2.1.2.1 y.2.2.2.2.2.2.1.2.2.1 y.2.2.2.2.2.2.1.2.2.2, bX4 G q (o + 36) y.2.2.2.2.2.2.2.1.1 y.2.2.2.2.2.2.2.1.2, bX3 G q (o + 38) y.2.2.2.2.2.2.2.2.1.1 y.2.2.2.2.2.2.2.2.1.2.1 y.2.2.2.2.2.2.2.2.1.2.2.1 y.2.2.2.2.2.2.2.2.1.2.2.2, bX0 G q (o + 43) y.2.2.2.2.2.2.2.2.2.1.2.2.1 y.2.2.2.2.2.2.2.2.2.1.2.2.2, bX2 G q ((o + 43) + 3) y.2.2.2.2.2.2.2.2.2.1.1.1 y.2.2.2.2.2.2.2.2.2.1.1.2.1 y.2.2.2.2.2.2.2.2.2.1.1.2.2.1 y.2.2.2.2.2.2.2.2.2.1.1.2.2.2.1 y.2.2.2.2.2.2.2.2.2.1.1.2.2.2.2.1 y.2.2.2.2.2.2.2.2.2.1.1.2.2.2.2.2.1 y.2.2.2.2.2.2.2.2.2.1.1.2.2.2.2.2.2.1 y.2.2.2.2.2.2.2.2.2.1.1.2.2.2.2.2.2.2, bX4 G q ((o + 43) + 9) y.2.2.2.2.2.2.2.2.2.1.2.1.1 y.2.2.2.2.2.2.2.2.2.1.2.1.2, bX7 G q (o + 54) y.2.2.2.2.2.2.2.2.2.2.1 y.2.2.2.2.2.2.2.2.2.2.2.1 y.2.2.2.2.2.2.2.2.2.2.2.2] := by
  refine z_met zc_X10_key (Nat.le_of_ble_eq_true rfl) ?_
  intro p e s m below meth c A ls hZ hl hw
  have hl : lv_has ls 4 [(0, .ref (q (o + 0))), (1, .int v1), (2, .int v2)] := hl
  obtain ⟨hS0, hr, hlk, hK, hA, hT⟩ := id hZ
  have hx := hS0.1
  have hb := hS0.2.1
  have hml := hS0.2.2.1
  have hown : s.vm.findClass RX10 = some m.cls := hS0.2.2.2.1
  have hts := hS0.2.2.2.2
  unfold f_X10_key at hf
  refine lv_aload_n hx hb dX10_key_0 rfl (lv_at hl 0 rfl) ?_
  refine z_get hS0 in_X10_key_X10 hK hw 0 4 rfl rfl rfl (by decide) (hts _ m_X10_key_0) (v := .ref (q ((o + 27) + 0))) rfl dX10_key_1 ?_
  refine lv_iload_n hx hb dX10_key_4 rfl (lv_at hl 1 rfl) ?_
  obtain ⟨r1, e2, hf⟩ := z_bd hf
  refine z_callV1 (As := [.int v1]) (rest := []) (bs' := [bX10 G q o, bX9 G q (o + 1) S.1.1 S.1.2.1 S.1.2.2.1 S.1.2.2.2.1 S.1.2.2.2.2, bX6 G q (o + 3) S.2.1.1 S.2.1.2, bX8 G q (o + 12) S.2.2.1.1 S.2.2.1.2, bX5 G q (o + 19) S.2.2.2.1.2.1 S.2.2.2.1.2.2.1 S.2.2.2.1.2.2.2.1 S.2.2.2.1.2.2.2.2, bX2 G q ((o + 19) + 2) S.2.2.2.1.1.1 S.2.2.2.1.1.2.1 S.2.2.2.1.1.2.2.1 S.2.2.2.1.1.2.2.2.1 S.2.2.2.1.1.2.2.2.2.1 S.2.2.2.1.1.2.2.2.2.2.1 S.2.2.2.1.1.2.2.2.2.2.2.1 S.2.2.2.1.1.2.2.2.2.2.2.2, bX2 G q (o + 27) S.2.2.2.2.1.1 S.2.2.2.2.1.2.1 S.2.2.2.2.1.2.2.1 S.2.2.2.2.1.2.2.2.1 S.2.2.2.2.1.2.2.2.2.1 S.2.2.2.2.1.2.2.2.2.2.1 S.2.2.2.2.1.2.2.2.2.2.2.1 S.2.2.2.2.1.2.2.2.2.2.2.2, bX1 G q (o + 33) S.2.2.2.2.2.1.1 S.2.2.2.2.2.1.2.1 S.2.2.2.2.2.1.2.2.1 S.2.2.2.2.2.1.2.2.2, bX4 G q (o + 36) S.2.2.2.2.2.2.1.1 S.2.2.2.2.2.2.1.2, bX3 G q (o + 38) S.2.2.2.2.2.2.2.1.1 S.2.2.2.2.2.2.2.1.2.1 S.2.2.2.2.2.2.2.1.2.2.1 S.2.2.2.2.2.2.2.1.2.2.2, bX0 G q (o + 43) S.2.2.2.2.2.2.2.2.1.2.2.1 S.2.2.2.2.2.2.2.2.1.2.2.2, bX2 G q ((o + 43) + 3) S.2.2.2.2.2.2.2.2.1.1.1 S.2.2.2.2.2.2.2.2.1.1.2.1 S.2.2.2.2.2.2.2.2.1.1.2.2.1 S.2.2.2.2.2.2.2.2.1.1.2.2.2.1 S.2.2.2.2.2.2.2.2.1.1.2.2.2.2.1 S.2.2.2.2.2.2.2.2.1.1.2.2.2.2.2.1 S.2.2.2.2.2.2.2.2.1.1.2.2.2.2.2.2.1 S.2.2.2.2.2.2.2.2.1.1.2.2.2.2.2.2.2, bX4 G q ((o + 43) + 9) S.2.2.2.2.2.2.2.2.1.2.1.1 S.2.2.2.2.2.2.2.2.1.2.1.2, bX7 G q (o + 54) S.2.2.2.2.2.2.2.2.2.1 S.2.2.2.2.2.2.2.2.2.2.1 S.2.2.2.2.2.2.2.2.2.2.2]) hS0 (c_X2_isCell l G q (o + 27) S.2.2.2.2.1 v1 r1 e2) zc_X2_isCell rfl gX10_key_X2_isCell ⟨Nat.le_of_ble_eq_true rfl, Nat.le_of_ble_eq_true rfl⟩ hK hA hT hw (is := [6]) rfl rfl rfl rfl rfl rfl rfl hl.1 rfl (Nat.le_of_ble_eq_true rfl) dX10_key_5 (fun H locs hw => ?_)
  refine lv_if_eq (tgt := 27) hx hb dX10_key_8 rfl (fun hc => ?_) (fun hc => ?_)
  · have hf := z_t hc hf
    refine lv_iconst (v := (-1)) hx hb dX10_key_27 rfl ?_
    cases hf
    exact z_iret hx hb hr hlk hw dX10_key_28
  · have hf := z_f hc hf
    refine lv_aload_n hx hb dX10_key_11 rfl (lv_at hl 0 rfl) ?_
    refine z_get hS0 in_X10_key_X10 hK hw 0 4 rfl rfl rfl (by decide) (hts _ m_X10_key_0) (v := .ref (q ((o + 27) + 0))) rfl dX10_key_12 ?_
    refine lv_iload_n hx hb dX10_key_15 rfl (lv_at hl 2 rfl) ?_
    obtain ⟨r3, e4, hf⟩ := z_bd hf
    refine z_callV1 (As := [.int v2]) (rest := []) (bs' := [bX10 G q o, bX9 G q (o + 1) S.1.1 S.1.2.1 S.1.2.2.1 S.1.2.2.2.1 S.1.2.2.2.2, bX6 G q (o + 3) S.2.1.1 S.2.1.2, bX8 G q (o + 12) S.2.2.1.1 S.2.2.1.2, bX5 G q (o + 19) S.2.2.2.1.2.1 S.2.2.2.1.2.2.1 S.2.2.2.1.2.2.2.1 S.2.2.2.1.2.2.2.2, bX2 G q ((o + 19) + 2) S.2.2.2.1.1.1 S.2.2.2.1.1.2.1 S.2.2.2.1.1.2.2.1 S.2.2.2.1.1.2.2.2.1 S.2.2.2.1.1.2.2.2.2.1 S.2.2.2.1.1.2.2.2.2.2.1 S.2.2.2.1.1.2.2.2.2.2.2.1 S.2.2.2.1.1.2.2.2.2.2.2.2, bX2 G q (o + 27) S.2.2.2.2.1.1 S.2.2.2.2.1.2.1 S.2.2.2.2.1.2.2.1 S.2.2.2.2.1.2.2.2.1 S.2.2.2.2.1.2.2.2.2.1 S.2.2.2.2.1.2.2.2.2.2.1 S.2.2.2.2.1.2.2.2.2.2.2.1 S.2.2.2.2.1.2.2.2.2.2.2.2, bX1 G q (o + 33) S.2.2.2.2.2.1.1 S.2.2.2.2.2.1.2.1 S.2.2.2.2.2.1.2.2.1 S.2.2.2.2.2.1.2.2.2, bX4 G q (o + 36) S.2.2.2.2.2.2.1.1 S.2.2.2.2.2.2.1.2, bX3 G q (o + 38) S.2.2.2.2.2.2.2.1.1 S.2.2.2.2.2.2.2.1.2.1 S.2.2.2.2.2.2.2.1.2.2.1 S.2.2.2.2.2.2.2.1.2.2.2, bX0 G q (o + 43) S.2.2.2.2.2.2.2.2.1.2.2.1 S.2.2.2.2.2.2.2.2.1.2.2.2, bX2 G q ((o + 43) + 3) S.2.2.2.2.2.2.2.2.1.1.1 S.2.2.2.2.2.2.2.2.1.1.2.1 S.2.2.2.2.2.2.2.2.1.1.2.2.1 S.2.2.2.2.2.2.2.2.1.1.2.2.2.1 S.2.2.2.2.2.2.2.2.1.1.2.2.2.2.1 S.2.2.2.2.2.2.2.2.1.1.2.2.2.2.2.1 S.2.2.2.2.2.2.2.2.1.1.2.2.2.2.2.2.1 S.2.2.2.2.2.2.2.2.1.1.2.2.2.2.2.2.2, bX4 G q ((o + 43) + 9) S.2.2.2.2.2.2.2.2.1.2.1.1 S.2.2.2.2.2.2.2.2.1.2.1.2, bX7 G q (o + 54) S.2.2.2.2.2.2.2.2.2.1 S.2.2.2.2.2.2.2.2.2.2.1 S.2.2.2.2.2.2.2.2.2.2.2]) hS0 (c_X2_isCell l G q (o + 27) S.2.2.2.2.1 v2 r3 e4) zc_X2_isCell rfl gX10_key_X2_isCell ⟨Nat.le_of_ble_eq_true rfl, Nat.le_of_ble_eq_true rfl⟩ hK hA hT hw (is := [6]) rfl rfl rfl rfl rfl rfl rfl hl.1 rfl (Nat.le_of_ble_eq_true rfl) dX10_key_16 (fun H locs hw => ?_)
    refine lv_if_eq (tgt := 27) hx hb dX10_key_19 rfl (fun hc => ?_) (fun hc => ?_)
    · have hf := z_t hc hf
      refine lv_iconst (v := (-1)) hx hb dX10_key_27 rfl ?_
      cases hf
      exact z_iret hx hb hr hlk hw dX10_key_28
    · have hf := z_f hc hf
      refine lv_iload_n hx hb dX10_key_22 rfl (lv_at hl 1 rfl) ?_
      refine lv_iload_n hx hb dX10_key_23 rfl (lv_at hl 2 rfl) ?_
      refine lv_icmp_ne (tgt := 29) hx hb dX10_key_24 rfl (fun hc => ?_) (fun hc => ?_)
      · have hf := z_f hc hf
        refine lv_aload_n hx hb dX10_key_29 rfl (lv_at hl 0 rfl) ?_
        refine z_get hS0 in_X10_key_X10 hK hw 0 4 rfl rfl rfl (by decide) (hts _ m_X10_key_0) (v := .ref (q ((o + 27) + 0))) rfl dX10_key_30 ?_
        refine lv_iload_n hx hb dX10_key_33 rfl (lv_at hl 1 rfl) ?_
        refine lv_iload_n hx hb dX10_key_34 rfl (lv_at hl 2 rfl) ?_
        obtain ⟨r5, e6, hf⟩ := z_bd hf
        refine z_callV1 (As := [.int v1, .int v2]) (rest := []) (bs' := [bX10 G q o, bX9 G q (o + 1) S.1.1 S.1.2.1 S.1.2.2.1 S.1.2.2.2.1 S.1.2.2.2.2, bX6 G q (o + 3) S.2.1.1 S.2.1.2, bX8 G q (o + 12) S.2.2.1.1 S.2.2.1.2, bX5 G q (o + 19) S.2.2.2.1.2.1 S.2.2.2.1.2.2.1 S.2.2.2.1.2.2.2.1 S.2.2.2.1.2.2.2.2, bX2 G q ((o + 19) + 2) S.2.2.2.1.1.1 S.2.2.2.1.1.2.1 S.2.2.2.1.1.2.2.1 S.2.2.2.1.1.2.2.2.1 S.2.2.2.1.1.2.2.2.2.1 S.2.2.2.1.1.2.2.2.2.2.1 S.2.2.2.1.1.2.2.2.2.2.2.1 S.2.2.2.1.1.2.2.2.2.2.2.2, bX2 G q (o + 27) S.2.2.2.2.1.1 S.2.2.2.2.1.2.1 S.2.2.2.2.1.2.2.1 S.2.2.2.2.1.2.2.2.1 S.2.2.2.2.1.2.2.2.2.1 S.2.2.2.2.1.2.2.2.2.2.1 S.2.2.2.2.1.2.2.2.2.2.2.1 S.2.2.2.2.1.2.2.2.2.2.2.2, bX1 G q (o + 33) S.2.2.2.2.2.1.1 S.2.2.2.2.2.1.2.1 S.2.2.2.2.2.1.2.2.1 S.2.2.2.2.2.1.2.2.2, bX4 G q (o + 36) S.2.2.2.2.2.2.1.1 S.2.2.2.2.2.2.1.2, bX3 G q (o + 38) S.2.2.2.2.2.2.2.1.1 S.2.2.2.2.2.2.2.1.2.1 S.2.2.2.2.2.2.2.1.2.2.1 S.2.2.2.2.2.2.2.1.2.2.2, bX0 G q (o + 43) S.2.2.2.2.2.2.2.2.1.2.2.1 S.2.2.2.2.2.2.2.2.1.2.2.2, bX2 G q ((o + 43) + 3) S.2.2.2.2.2.2.2.2.1.1.1 S.2.2.2.2.2.2.2.2.1.1.2.1 S.2.2.2.2.2.2.2.2.1.1.2.2.1 S.2.2.2.2.2.2.2.2.1.1.2.2.2.1 S.2.2.2.2.2.2.2.2.1.1.2.2.2.2.1 S.2.2.2.2.2.2.2.2.1.1.2.2.2.2.2.1 S.2.2.2.2.2.2.2.2.1.1.2.2.2.2.2.2.1 S.2.2.2.2.2.2.2.2.1.1.2.2.2.2.2.2.2, bX4 G q ((o + 43) + 9) S.2.2.2.2.2.2.2.2.1.2.1.1 S.2.2.2.2.2.2.2.2.1.2.1.2, bX7 G q (o + 54) S.2.2.2.2.2.2.2.2.2.1 S.2.2.2.2.2.2.2.2.2.2.1 S.2.2.2.2.2.2.2.2.2.2.2]) hS0 (c_X2_mayKeep l G q (o + 27) S.2.2.2.2.1 v1 v2 r5 e6) zc_X2_mayKeep rfl gX10_key_X2_mayKeep ⟨Nat.le_of_ble_eq_true rfl, Nat.le_of_ble_eq_true rfl⟩ hK hA hT hw (is := [6]) rfl rfl rfl rfl rfl rfl rfl hl.1 rfl (Nat.le_of_ble_eq_true rfl) dX10_key_35 (fun H locs hw => ?_)
        refine lv_if_ne (tgt := 50) hx hb dX10_key_38 rfl (fun hc => ?_) (fun hc => ?_)
        · have hf := z_f hc hf
          refine lv_aload_n hx hb dX10_key_50 rfl (lv_at hl 0 rfl) ?_
          refine z_get hS0 in_X10_key_X10 hK hw 0 4 rfl rfl rfl (by decide) (hts _ m_X10_key_0) (v := .ref (q ((o + 27) + 0))) rfl dX10_key_51 ?_
          refine lv_iload_n hx hb dX10_key_54 rfl (lv_at hl 1 rfl) ?_
          obtain ⟨r7, e8, hf⟩ := z_bd hf
          refine z_callV1 (As := [.int v1]) (rest := []) (bs' := [bX10 G q o, bX9 G q (o + 1) S.1.1 S.1.2.1 S.1.2.2.1 S.1.2.2.2.1 S.1.2.2.2.2, bX6 G q (o + 3) S.2.1.1 S.2.1.2, bX8 G q (o + 12) S.2.2.1.1 S.2.2.1.2, bX5 G q (o + 19) S.2.2.2.1.2.1 S.2.2.2.1.2.2.1 S.2.2.2.1.2.2.2.1 S.2.2.2.1.2.2.2.2, bX2 G q ((o + 19) + 2) S.2.2.2.1.1.1 S.2.2.2.1.1.2.1 S.2.2.2.1.1.2.2.1 S.2.2.2.1.1.2.2.2.1 S.2.2.2.1.1.2.2.2.2.1 S.2.2.2.1.1.2.2.2.2.2.1 S.2.2.2.1.1.2.2.2.2.2.2.1 S.2.2.2.1.1.2.2.2.2.2.2.2, bX2 G q (o + 27) S.2.2.2.2.1.1 S.2.2.2.2.1.2.1 S.2.2.2.2.1.2.2.1 S.2.2.2.2.1.2.2.2.1 S.2.2.2.2.1.2.2.2.2.1 S.2.2.2.2.1.2.2.2.2.2.1 S.2.2.2.2.1.2.2.2.2.2.2.1 S.2.2.2.2.1.2.2.2.2.2.2.2, bX1 G q (o + 33) S.2.2.2.2.2.1.1 S.2.2.2.2.2.1.2.1 S.2.2.2.2.2.1.2.2.1 S.2.2.2.2.2.1.2.2.2, bX4 G q (o + 36) S.2.2.2.2.2.2.1.1 S.2.2.2.2.2.2.1.2, bX3 G q (o + 38) S.2.2.2.2.2.2.2.1.1 S.2.2.2.2.2.2.2.1.2.1 S.2.2.2.2.2.2.2.1.2.2.1 S.2.2.2.2.2.2.2.1.2.2.2, bX0 G q (o + 43) S.2.2.2.2.2.2.2.2.1.2.2.1 S.2.2.2.2.2.2.2.2.1.2.2.2, bX2 G q ((o + 43) + 3) S.2.2.2.2.2.2.2.2.1.1.1 S.2.2.2.2.2.2.2.2.1.1.2.1 S.2.2.2.2.2.2.2.2.1.1.2.2.1 S.2.2.2.2.2.2.2.2.1.1.2.2.2.1 S.2.2.2.2.2.2.2.2.1.1.2.2.2.2.1 S.2.2.2.2.2.2.2.2.1.1.2.2.2.2.2.1 S.2.2.2.2.2.2.2.2.1.1.2.2.2.2.2.2.1 S.2.2.2.2.2.2.2.2.1.1.2.2.2.2.2.2.2, bX4 G q ((o + 43) + 9) S.2.2.2.2.2.2.2.2.1.2.1.1 S.2.2.2.2.2.2.2.2.1.2.1.2, bX7 G q (o + 54) S.2.2.2.2.2.2.2.2.2.1 S.2.2.2.2.2.2.2.2.2.2.1 S.2.2.2.2.2.2.2.2.2.2.2]) hS0 (c_X2_keeperOf l G q (o + 27) S.2.2.2.2.1 v1 r7 e8) zc_X2_keeperOf rfl gX10_key_X2_keeperOf ⟨Nat.le_of_ble_eq_true rfl, Nat.le_of_ble_eq_true rfl⟩ hK hA hT hw (is := [6]) rfl rfl rfl rfl rfl rfl rfl hl.1 rfl (Nat.le_of_ble_eq_true rfl) dX10_key_55 (fun H locs hw => ?_)
          refine lv_istore_n (lv' := [(3, .int r7), (0, .ref (q (o + 0))), (1, .int v1), (2, .int v2)]) hx hb dX10_key_58 rfl hl (by decide) rfl (fun ls hl => ?_)
          refine lv_aload_n hx hb dX10_key_59 rfl (lv_at hl 1 rfl) ?_
          refine z_get hS0 in_X10_key_X10 hK hw 0 4 rfl rfl rfl (by decide) (hts _ m_X10_key_0) (v := .ref (q ((o + 27) + 0))) rfl dX10_key_60 ?_
          refine lv_iload_n hx hb dX10_key_63 rfl (lv_at hl 2 rfl) ?_
          refine lv_iload_n hx hb dX10_key_64 rfl (lv_at hl 3 rfl) ?_
          obtain ⟨r9, e10, hf⟩ := z_bd hf
          refine z_callV0 (As := [.int v1, .int v2]) (rest := []) (bs' := [bX10 G q o, bX9 G q (o + 1) S.1.1 S.1.2.1 S.1.2.2.1 S.1.2.2.2.1 S.1.2.2.2.2, bX6 G q (o + 3) S.2.1.1 S.2.1.2, bX8 G q (o + 12) S.2.2.1.1 S.2.2.1.2, bX5 G q (o + 19) S.2.2.2.1.2.1 S.2.2.2.1.2.2.1 S.2.2.2.1.2.2.2.1 S.2.2.2.1.2.2.2.2, bX2 G q ((o + 19) + 2) S.2.2.2.1.1.1 S.2.2.2.1.1.2.1 S.2.2.2.1.1.2.2.1 S.2.2.2.1.1.2.2.2.1 S.2.2.2.1.1.2.2.2.2.1 S.2.2.2.1.1.2.2.2.2.2.1 S.2.2.2.1.1.2.2.2.2.2.2.1 S.2.2.2.1.1.2.2.2.2.2.2.2, bX2 G q (o + 27) r9.1 r9.2.1 r9.2.2.1 r9.2.2.2.1 r9.2.2.2.2.1 r9.2.2.2.2.2.1 r9.2.2.2.2.2.2.1 r9.2.2.2.2.2.2.2, bX1 G q (o + 33) S.2.2.2.2.2.1.1 S.2.2.2.2.2.1.2.1 S.2.2.2.2.2.1.2.2.1 S.2.2.2.2.2.1.2.2.2, bX4 G q (o + 36) S.2.2.2.2.2.2.1.1 S.2.2.2.2.2.2.1.2, bX3 G q (o + 38) S.2.2.2.2.2.2.2.1.1 S.2.2.2.2.2.2.2.1.2.1 S.2.2.2.2.2.2.2.1.2.2.1 S.2.2.2.2.2.2.2.1.2.2.2, bX0 G q (o + 43) S.2.2.2.2.2.2.2.2.1.2.2.1 S.2.2.2.2.2.2.2.2.1.2.2.2, bX2 G q ((o + 43) + 3) S.2.2.2.2.2.2.2.2.1.1.1 S.2.2.2.2.2.2.2.2.1.1.2.1 S.2.2.2.2.2.2.2.2.1.1.2.2.1 S.2.2.2.2.2.2.2.2.1.1.2.2.2.1 S.2.2.2.2.2.2.2.2.1.1.2.2.2.2.1 S.2.2.2.2.2.2.2.2.1.1.2.2.2.2.2.1 S.2.2.2.2.2.2.2.2.1.1.2.2.2.2.2.2.1 S.2.2.2.2.2.2.2.2.1.1.2.2.2.2.2.2.2, bX4 G q ((o + 43) + 9) S.2.2.2.2.2.2.2.2.1.2.1.1 S.2.2.2.2.2.2.2.2.1.2.1.2, bX7 G q (o + 54) S.2.2.2.2.2.2.2.2.2.1 S.2.2.2.2.2.2.2.2.2.2.1 S.2.2.2.2.2.2.2.2.2.2.2]) hS0 (c_X2_setKeeper l G q (o + 27) S.2.2.2.2.1 v1 v2 r9 e10) zc_X2_setKeeper rfl gX10_key_X2_setKeeper ⟨Nat.le_of_ble_eq_true rfl, Nat.le_of_ble_eq_true rfl⟩ hK hA hT hw (is := [6]) rfl rfl rfl rfl rfl rfl rfl hl.1 rfl (Nat.le_of_ble_eq_true rfl) dX10_key_65 (fun H locs hw => ?_)
          refine lv_iload_n hx hb dX10_key_68 rfl (lv_at hl 0 rfl) ?_
          cases hf
          exact z_iret hx hb hr hlk hw dX10_key_69
        · have hf := z_t hc hf
          refine lv_aload_n hx hb dX10_key_41 rfl (lv_at hl 0 rfl) ?_
          refine z_get hS0 in_X10_key_X10 hK hw 0 0 rfl rfl rfl (by decide) (hts _ m_X10_key_1) (v := .ref (q ((o + 1) + 0))) rfl dX10_key_42 ?_
          refine lv_iconst (v := 3) hx hb dX10_key_45 rfl ?_
          obtain ⟨r11, e12, hf⟩ := z_bd hf
          refine z_callV1 (As := [.int 3]) (rest := []) (bs' := [bX10 G q o, bX9 G q (o + 1) r11.2.1 r11.2.2.1 r11.2.2.2.1 r11.2.2.2.2.1 r11.2.2.2.2.2, bX6 G q (o + 3) S.2.1.1 S.2.1.2, bX8 G q (o + 12) S.2.2.1.1 S.2.2.1.2, bX5 G q (o + 19) S.2.2.2.1.2.1 S.2.2.2.1.2.2.1 S.2.2.2.1.2.2.2.1 S.2.2.2.1.2.2.2.2, bX2 G q ((o + 19) + 2) S.2.2.2.1.1.1 S.2.2.2.1.1.2.1 S.2.2.2.1.1.2.2.1 S.2.2.2.1.1.2.2.2.1 S.2.2.2.1.1.2.2.2.2.1 S.2.2.2.1.1.2.2.2.2.2.1 S.2.2.2.1.1.2.2.2.2.2.2.1 S.2.2.2.1.1.2.2.2.2.2.2.2, bX2 G q (o + 27) S.2.2.2.2.1.1 S.2.2.2.2.1.2.1 S.2.2.2.2.1.2.2.1 S.2.2.2.2.1.2.2.2.1 S.2.2.2.2.1.2.2.2.2.1 S.2.2.2.2.1.2.2.2.2.2.1 S.2.2.2.2.1.2.2.2.2.2.2.1 S.2.2.2.2.1.2.2.2.2.2.2.2, bX1 G q (o + 33) S.2.2.2.2.2.1.1 S.2.2.2.2.2.1.2.1 S.2.2.2.2.2.1.2.2.1 S.2.2.2.2.2.1.2.2.2, bX4 G q (o + 36) S.2.2.2.2.2.2.1.1 S.2.2.2.2.2.2.1.2, bX3 G q (o + 38) S.2.2.2.2.2.2.2.1.1 S.2.2.2.2.2.2.2.1.2.1 S.2.2.2.2.2.2.2.1.2.2.1 S.2.2.2.2.2.2.2.1.2.2.2, bX0 G q (o + 43) S.2.2.2.2.2.2.2.2.1.2.2.1 S.2.2.2.2.2.2.2.2.1.2.2.2, bX2 G q ((o + 43) + 3) S.2.2.2.2.2.2.2.2.1.1.1 S.2.2.2.2.2.2.2.2.1.1.2.1 S.2.2.2.2.2.2.2.2.1.1.2.2.1 S.2.2.2.2.2.2.2.2.1.1.2.2.2.1 S.2.2.2.2.2.2.2.2.1.1.2.2.2.2.1 S.2.2.2.2.2.2.2.2.1.1.2.2.2.2.2.1 S.2.2.2.2.2.2.2.2.1.1.2.2.2.2.2.2.1 S.2.2.2.2.2.2.2.2.1.1.2.2.2.2.2.2.2, bX4 G q ((o + 43) + 9) S.2.2.2.2.2.2.2.2.1.2.1.1 S.2.2.2.2.2.2.2.2.1.2.1.2, bX7 G q (o + 54) S.2.2.2.2.2.2.2.2.2.1 S.2.2.2.2.2.2.2.2.2.2.1 S.2.2.2.2.2.2.2.2.2.2.2]) hS0 (c_X9_found l G q (o + 1) S.1 3 r11 e12) zc_X9_found rfl gX10_key_X9_found ⟨Nat.le_of_ble_eq_true rfl, Nat.le_of_ble_eq_true rfl⟩ hK hA hT hw (is := [1]) rfl rfl rfl rfl rfl rfl rfl hl.1 rfl (Nat.le_of_ble_eq_true rfl) dX10_key_46 (fun H locs hw => ?_)
          cases hf
          exact z_iret hx hb hr hlk hw dX10_key_49
      · have hf := z_t hc hf
        refine lv_iconst (v := (-1)) hx hb dX10_key_27 rfl ?_
        cases hf
        exact z_iret hx hb hr hlk hw dX10_key_28
theorem zc_X10_lay : zC yX10_lay wsX10_lay cX10_lay 5 (some .int) 3 := ⟨⟨_, rfl⟩, by decide +kernel, by decide +kernel, by decide +kernel, by decide +kernel⟩
theorem m_X10_lay_0 : (.fieldLink RX10 10 "CellKeys" "told" "LCellKeys$Told;" : Cond) ∈ wsX10_lay := by decide +kernel
theorem in_X10_lay_X10 : ∀ w ∈ u_ws RX10 TX10 10, w ∈ wsX10_lay := by decide +kernel
theorem m_X10_lay_1 : (.fieldLink RX10 19 "CellKeys" "rows" "LCellKeys$Rows;" : Cond) ∈ wsX10_lay := by decide +kernel
set_option maxHeartbeats 4000000 in
set_option maxRecDepth 100000 in
theorem c_X10_lay (l : Launch) (G : zG) (q : Nat → Nat) (o : Nat) (S : VX10) (v1 : Int32) (v2 : Int32) (v3 : Int32) (y : Int32 × VX10) (hf : f_X10_lay S v1 v2 v3 = some y) : zMet l yX10_lay wsX10_lay 5 107 G [.ref (q (o + 0)), .int v1, .int v2, .int v3] [bX10 G q o, bX9 G q (o + 1) S.1.1 S.1.2.1 S.1.2.2.1 S.1.2.2.2.1 S.1.2.2.2.2, bX6 G q (o + 3) S.2.1.1 S.2.1.2, bX8 G q (o + 12) S.2.2.1.1 S.2.2.1.2, bX5 G q (o + 19) S.2.2.2.1.2.1 S.2.2.2.1.2.2.1 S.2.2.2.1.2.2.2.1 S.2.2.2.1.2.2.2.2, bX2 G q ((o + 19) + 2) S.2.2.2.1.1.1 S.2.2.2.1.1.2.1 S.2.2.2.1.1.2.2.1 S.2.2.2.1.1.2.2.2.1 S.2.2.2.1.1.2.2.2.2.1 S.2.2.2.1.1.2.2.2.2.2.1 S.2.2.2.1.1.2.2.2.2.2.2.1 S.2.2.2.1.1.2.2.2.2.2.2.2, bX2 G q (o + 27) S.2.2.2.2.1.1 S.2.2.2.2.1.2.1 S.2.2.2.2.1.2.2.1 S.2.2.2.2.1.2.2.2.1 S.2.2.2.2.1.2.2.2.2.1 S.2.2.2.2.1.2.2.2.2.2.1 S.2.2.2.2.1.2.2.2.2.2.2.1 S.2.2.2.2.1.2.2.2.2.2.2.2, bX1 G q (o + 33) S.2.2.2.2.2.1.1 S.2.2.2.2.2.1.2.1 S.2.2.2.2.2.1.2.2.1 S.2.2.2.2.2.1.2.2.2, bX4 G q (o + 36) S.2.2.2.2.2.2.1.1 S.2.2.2.2.2.2.1.2, bX3 G q (o + 38) S.2.2.2.2.2.2.2.1.1 S.2.2.2.2.2.2.2.1.2.1 S.2.2.2.2.2.2.2.1.2.2.1 S.2.2.2.2.2.2.2.1.2.2.2, bX0 G q (o + 43) S.2.2.2.2.2.2.2.2.1.2.2.1 S.2.2.2.2.2.2.2.2.1.2.2.2, bX2 G q ((o + 43) + 3) S.2.2.2.2.2.2.2.2.1.1.1 S.2.2.2.2.2.2.2.2.1.1.2.1 S.2.2.2.2.2.2.2.2.1.1.2.2.1 S.2.2.2.2.2.2.2.2.1.1.2.2.2.1 S.2.2.2.2.2.2.2.2.1.1.2.2.2.2.1 S.2.2.2.2.2.2.2.2.1.1.2.2.2.2.2.1 S.2.2.2.2.2.2.2.2.1.1.2.2.2.2.2.2.1 S.2.2.2.2.2.2.2.2.1.1.2.2.2.2.2.2.2, bX4 G q ((o + 43) + 9) S.2.2.2.2.2.2.2.2.1.2.1.1 S.2.2.2.2.2.2.2.2.1.2.1.2, bX7 G q (o + 54) S.2.2.2.2.2.2.2.2.2.1 S.2.2.2.2.2.2.2.2.2.2.1 S.2.2.2.2.2.2.2.2.2.2.2] (some (.int y.1)) [bX10 G q o, bX9 G q (o + 1) y.2.1.1 y.2.1.2.1 y.2.1.2.2.1 y.2.1.2.2.2.1 y.2.1.2.2.2.2, bX6 G q (o + 3) y.2.2.1.1 y.2.2.1.2, bX8 G q (o + 12) y.2.2.2.1.1 y.2.2.2.1.2, bX5 G q (o + 19) y.2.2.2.2.1.2.1 y.2.2.2.2.1.2.2.1 y.2.2.2.2.1.2.2.2.1 y.2.2.2.2.1.2.2.2.2, bX2 G q ((o + 19) + 2) y.2.2.2.2.1.1.1 y.2.2.2.2.1.1.2.1 y.2.2.2.2.1.1.2.2.1 y.2.2.2.2.1.1.2.2.2.1 y.2.2.2.2.1.1.2.2.2.2.1 y.2.2.2.2.1.1.2.2.2.2.2.1 y.2.2.2.2.1.1.2.2.2.2.2.2.1 y.2.2.2.2.1.1.2.2.2.2.2.2.2, bX2 G q (o + 27) y.2.2.2.2.2.1.1 y.2.2.2.2.2.1.2.1 y.2.2.2.2.2.1.2.2.1 y.2.2.2.2.2.1.2.2.2.1 y.2.2.2.2.2.1.2.2.2.2.1 y.2.2.2.2.2.1.2.2.2.2.2.1 y.2.2.2.2.2.1.2.2.2.2.2.2.1 y.2.2.2.2.2.1.2.2.2.2.2.2.2, bX1 G q (o + 33) y.2.2.2.2.2.2.1.1 y.2.2.2.2.2.2.1.2.1 y.2.2.2.2.2.2.1.2.2.1 y.2.2.2.2.2.2.1.2.2.2, bX4 G q (o + 36) y.2.2.2.2.2.2.2.1.1 y.2.2.2.2.2.2.2.1.2, bX3 G q (o + 38) y.2.2.2.2.2.2.2.2.1.1 y.2.2.2.2.2.2.2.2.1.2.1 y.2.2.2.2.2.2.2.2.1.2.2.1 y.2.2.2.2.2.2.2.2.1.2.2.2, bX0 G q (o + 43) y.2.2.2.2.2.2.2.2.2.1.2.2.1 y.2.2.2.2.2.2.2.2.2.1.2.2.2, bX2 G q ((o + 43) + 3) y.2.2.2.2.2.2.2.2.2.1.1.1 y.2.2.2.2.2.2.2.2.2.1.1.2.1 y.2.2.2.2.2.2.2.2.2.1.1.2.2.1 y.2.2.2.2.2.2.2.2.2.1.1.2.2.2.1 y.2.2.2.2.2.2.2.2.2.1.1.2.2.2.2.1 y.2.2.2.2.2.2.2.2.2.1.1.2.2.2.2.2.1 y.2.2.2.2.2.2.2.2.2.1.1.2.2.2.2.2.2.1 y.2.2.2.2.2.2.2.2.2.1.1.2.2.2.2.2.2.2, bX4 G q ((o + 43) + 9) y.2.2.2.2.2.2.2.2.2.1.2.1.1 y.2.2.2.2.2.2.2.2.2.1.2.1.2, bX7 G q (o + 54) y.2.2.2.2.2.2.2.2.2.2.1 y.2.2.2.2.2.2.2.2.2.2.2.1 y.2.2.2.2.2.2.2.2.2.2.2.2] := by
  refine z_met zc_X10_lay (Nat.le_of_ble_eq_true rfl) ?_
  intro p e s m below meth c A ls hZ hl hw
  have hl : lv_has ls 5 [(0, .ref (q (o + 0))), (1, .int v1), (2, .int v2), (3, .int v3)] := hl
  obtain ⟨hS0, hr, hlk, hK, hA, hT⟩ := id hZ
  have hx := hS0.1
  have hb := hS0.2.1
  have hml := hS0.2.2.1
  have hown : s.vm.findClass RX10 = some m.cls := hS0.2.2.2.1
  have hts := hS0.2.2.2.2
  unfold f_X10_lay at hf
  refine lv_aload_n hx hb dX10_lay_0 rfl (lv_at hl 0 rfl) ?_
  refine lv_iload_n hx hb dX10_lay_1 rfl (lv_at hl 1 rfl) ?_
  refine lv_iload_n hx hb dX10_lay_2 rfl (lv_at hl 2 rfl) ?_
  obtain ⟨r1, e2, hf⟩ := z_bd hf
  refine z_callV1 (As := [.int v1, .int v2]) (rest := []) (bs' := [bX10 G q o, bX9 G q (o + 1) r1.2.1.1 r1.2.1.2.1 r1.2.1.2.2.1 r1.2.1.2.2.2.1 r1.2.1.2.2.2.2, bX6 G q (o + 3) r1.2.2.1.1 r1.2.2.1.2, bX8 G q (o + 12) r1.2.2.2.1.1 r1.2.2.2.1.2, bX5 G q (o + 19) r1.2.2.2.2.1.2.1 r1.2.2.2.2.1.2.2.1 r1.2.2.2.2.1.2.2.2.1 r1.2.2.2.2.1.2.2.2.2, bX2 G q ((o + 19) + 2) r1.2.2.2.2.1.1.1 r1.2.2.2.2.1.1.2.1 r1.2.2.2.2.1.1.2.2.1 r1.2.2.2.2.1.1.2.2.2.1 r1.2.2.2.2.1.1.2.2.2.2.1 r1.2.2.2.2.1.1.2.2.2.2.2.1 r1.2.2.2.2.1.1.2.2.2.2.2.2.1 r1.2.2.2.2.1.1.2.2.2.2.2.2.2, bX2 G q (o + 27) r1.2.2.2.2.2.1.1 r1.2.2.2.2.2.1.2.1 r1.2.2.2.2.2.1.2.2.1 r1.2.2.2.2.2.1.2.2.2.1 r1.2.2.2.2.2.1.2.2.2.2.1 r1.2.2.2.2.2.1.2.2.2.2.2.1 r1.2.2.2.2.2.1.2.2.2.2.2.2.1 r1.2.2.2.2.2.1.2.2.2.2.2.2.2, bX1 G q (o + 33) r1.2.2.2.2.2.2.1.1 r1.2.2.2.2.2.2.1.2.1 r1.2.2.2.2.2.2.1.2.2.1 r1.2.2.2.2.2.2.1.2.2.2, bX4 G q (o + 36) r1.2.2.2.2.2.2.2.1.1 r1.2.2.2.2.2.2.2.1.2, bX3 G q (o + 38) r1.2.2.2.2.2.2.2.2.1.1 r1.2.2.2.2.2.2.2.2.1.2.1 r1.2.2.2.2.2.2.2.2.1.2.2.1 r1.2.2.2.2.2.2.2.2.1.2.2.2, bX0 G q (o + 43) r1.2.2.2.2.2.2.2.2.2.1.2.2.1 r1.2.2.2.2.2.2.2.2.2.1.2.2.2, bX2 G q ((o + 43) + 3) r1.2.2.2.2.2.2.2.2.2.1.1.1 r1.2.2.2.2.2.2.2.2.2.1.1.2.1 r1.2.2.2.2.2.2.2.2.2.1.1.2.2.1 r1.2.2.2.2.2.2.2.2.2.1.1.2.2.2.1 r1.2.2.2.2.2.2.2.2.2.1.1.2.2.2.2.1 r1.2.2.2.2.2.2.2.2.2.1.1.2.2.2.2.2.1 r1.2.2.2.2.2.2.2.2.2.1.1.2.2.2.2.2.2.1 r1.2.2.2.2.2.2.2.2.2.1.1.2.2.2.2.2.2.2, bX4 G q ((o + 43) + 9) r1.2.2.2.2.2.2.2.2.2.1.2.1.1 r1.2.2.2.2.2.2.2.2.2.1.2.1.2, bX7 G q (o + 54) r1.2.2.2.2.2.2.2.2.2.2.1 r1.2.2.2.2.2.2.2.2.2.2.2.1 r1.2.2.2.2.2.2.2.2.2.2.2.2]) hS0 (c_X10_placeRefusal l G q o S v1 v2 r1 e2) zc_X10_placeRefusal rfl gX10_lay_X10_placeRefusal ⟨Nat.le_of_ble_eq_true rfl, Nat.le_of_ble_eq_true rfl⟩ hK hA hT hw (is := [0, 1, 2, 3, 4, 5, 6, 7, 8, 9, 10, 11, 12, 13]) rfl rfl rfl rfl rfl rfl rfl hl.1 rfl (Nat.le_of_ble_eq_true rfl) dX10_lay_3 (fun H locs hw => ?_)
  refine lv_istore (lv' := [(4, .int r1.1), (0, .ref (q (o + 0))), (1, .int v1), (2, .int v2), (3, .int v3)]) hx hb dX10_lay_6 hl (by decide) rfl (fun ls hl => ?_)
  refine lv_iload hx hb dX10_lay_8 (lv_at hl 0 rfl) ?_
  refine lv_if_eq (tgt := 16) hx hb dX10_lay_10 rfl (fun hc => ?_) (fun hc => ?_)
  · have hf := z_t hc hf
    refine lv_aload_n hx hb dX10_lay_16 rfl (lv_at hl 1 rfl) ?_
    refine z_get hS0 in_X10_lay_X10 hK hw 0 0 rfl rfl rfl (by decide) (hts _ m_X10_lay_0) (v := .ref (q ((o + 1) + 0))) rfl dX10_lay_17 ?_
    refine lv_aload_n hx hb dX10_lay_20 rfl (lv_at hl 1 rfl) ?_
    refine z_get hS0 in_X10_lay_X10 hK hw 0 1 rfl rfl rfl (by decide) (hts _ m_X10_lay_1) (v := .ref (q ((o + 3) + 0))) rfl dX10_lay_21 ?_
    refine lv_iload_n hx hb dX10_lay_24 rfl (lv_at hl 2 rfl) ?_
    refine lv_iload_n hx hb dX10_lay_25 rfl (lv_at hl 3 rfl) ?_
    obtain ⟨r3, e4, hf⟩ := z_bd hf
    refine z_callV1 (As := [.int v1, .int v2]) (rest := [.ref (q ((o + 1) + 0))]) (bs' := [bX10 G q o, bX9 G q (o + 1) r1.2.1.1 r1.2.1.2.1 r1.2.1.2.2.1 r1.2.1.2.2.2.1 r1.2.1.2.2.2.2, bX6 G q (o + 3) r1.2.2.1.1 r1.2.2.1.2, bX8 G q (o + 12) r1.2.2.2.1.1 r1.2.2.2.1.2, bX5 G q (o + 19) r1.2.2.2.2.1.2.1 r1.2.2.2.2.1.2.2.1 r1.2.2.2.2.1.2.2.2.1 r1.2.2.2.2.1.2.2.2.2, bX2 G q ((o + 19) + 2) r1.2.2.2.2.1.1.1 r1.2.2.2.2.1.1.2.1 r1.2.2.2.2.1.1.2.2.1 r1.2.2.2.2.1.1.2.2.2.1 r1.2.2.2.2.1.1.2.2.2.2.1 r1.2.2.2.2.1.1.2.2.2.2.2.1 r1.2.2.2.2.1.1.2.2.2.2.2.2.1 r1.2.2.2.2.1.1.2.2.2.2.2.2.2, bX2 G q (o + 27) r1.2.2.2.2.2.1.1 r1.2.2.2.2.2.1.2.1 r1.2.2.2.2.2.1.2.2.1 r1.2.2.2.2.2.1.2.2.2.1 r1.2.2.2.2.2.1.2.2.2.2.1 r1.2.2.2.2.2.1.2.2.2.2.2.1 r1.2.2.2.2.2.1.2.2.2.2.2.2.1 r1.2.2.2.2.2.1.2.2.2.2.2.2.2, bX1 G q (o + 33) r1.2.2.2.2.2.2.1.1 r1.2.2.2.2.2.2.1.2.1 r1.2.2.2.2.2.2.1.2.2.1 r1.2.2.2.2.2.2.1.2.2.2, bX4 G q (o + 36) r1.2.2.2.2.2.2.2.1.1 r1.2.2.2.2.2.2.2.1.2, bX3 G q (o + 38) r1.2.2.2.2.2.2.2.2.1.1 r1.2.2.2.2.2.2.2.2.1.2.1 r1.2.2.2.2.2.2.2.2.1.2.2.1 r1.2.2.2.2.2.2.2.2.1.2.2.2, bX0 G q (o + 43) r1.2.2.2.2.2.2.2.2.2.1.2.2.1 r1.2.2.2.2.2.2.2.2.2.1.2.2.2, bX2 G q ((o + 43) + 3) r1.2.2.2.2.2.2.2.2.2.1.1.1 r1.2.2.2.2.2.2.2.2.2.1.1.2.1 r1.2.2.2.2.2.2.2.2.2.1.1.2.2.1 r1.2.2.2.2.2.2.2.2.2.1.1.2.2.2.1 r1.2.2.2.2.2.2.2.2.2.1.1.2.2.2.2.1 r1.2.2.2.2.2.2.2.2.2.1.1.2.2.2.2.2.1 r1.2.2.2.2.2.2.2.2.2.1.1.2.2.2.2.2.2.1 r1.2.2.2.2.2.2.2.2.2.1.1.2.2.2.2.2.2.2, bX4 G q ((o + 43) + 9) r1.2.2.2.2.2.2.2.2.2.1.2.1.1 r1.2.2.2.2.2.2.2.2.2.1.2.1.2, bX7 G q (o + 54) r1.2.2.2.2.2.2.2.2.2.2.1 r1.2.2.2.2.2.2.2.2.2.2.2.1 r1.2.2.2.2.2.2.2.2.2.2.2.2]) hS0 (c_X6_get l G q (o + 3) r1.2.2.1 v1 v2 r3 e4) zc_X6_get rfl gX10_lay_X6_get ⟨Nat.le_of_ble_eq_true rfl, Nat.le_of_ble_eq_true rfl⟩ hK hA hT hw (is := [2]) rfl rfl rfl rfl rfl rfl rfl hl.1 rfl (Nat.le_of_ble_eq_true rfl) dX10_lay_26 (fun H locs hw => ?_)
    obtain ⟨r5, e6, hf⟩ := z_bd hf
    refine z_callV0 (As := [.int r3]) (rest := []) (bs' := [bX10 G q o, bX9 G q (o + 1) r5.1 r5.2.1 r5.2.2.1 r5.2.2.2.1 r5.2.2.2.2, bX6 G q (o + 3) r1.2.2.1.1 r1.2.2.1.2, bX8 G q (o + 12) r1.2.2.2.1.1 r1.2.2.2.1.2, bX5 G q (o + 19) r1.2.2.2.2.1.2.1 r1.2.2.2.2.1.2.2.1 r1.2.2.2.2.1.2.2.2.1 r1.2.2.2.2.1.2.2.2.2, bX2 G q ((o + 19) + 2) r1.2.2.2.2.1.1.1 r1.2.2.2.2.1.1.2.1 r1.2.2.2.2.1.1.2.2.1 r1.2.2.2.2.1.1.2.2.2.1 r1.2.2.2.2.1.1.2.2.2.2.1 r1.2.2.2.2.1.1.2.2.2.2.2.1 r1.2.2.2.2.1.1.2.2.2.2.2.2.1 r1.2.2.2.2.1.1.2.2.2.2.2.2.2, bX2 G q (o + 27) r1.2.2.2.2.2.1.1 r1.2.2.2.2.2.1.2.1 r1.2.2.2.2.2.1.2.2.1 r1.2.2.2.2.2.1.2.2.2.1 r1.2.2.2.2.2.1.2.2.2.2.1 r1.2.2.2.2.2.1.2.2.2.2.2.1 r1.2.2.2.2.2.1.2.2.2.2.2.2.1 r1.2.2.2.2.2.1.2.2.2.2.2.2.2, bX1 G q (o + 33) r1.2.2.2.2.2.2.1.1 r1.2.2.2.2.2.2.1.2.1 r1.2.2.2.2.2.2.1.2.2.1 r1.2.2.2.2.2.2.1.2.2.2, bX4 G q (o + 36) r1.2.2.2.2.2.2.2.1.1 r1.2.2.2.2.2.2.2.1.2, bX3 G q (o + 38) r1.2.2.2.2.2.2.2.2.1.1 r1.2.2.2.2.2.2.2.2.1.2.1 r1.2.2.2.2.2.2.2.2.1.2.2.1 r1.2.2.2.2.2.2.2.2.1.2.2.2, bX0 G q (o + 43) r1.2.2.2.2.2.2.2.2.2.1.2.2.1 r1.2.2.2.2.2.2.2.2.2.1.2.2.2, bX2 G q ((o + 43) + 3) r1.2.2.2.2.2.2.2.2.2.1.1.1 r1.2.2.2.2.2.2.2.2.2.1.1.2.1 r1.2.2.2.2.2.2.2.2.2.1.1.2.2.1 r1.2.2.2.2.2.2.2.2.2.1.1.2.2.2.1 r1.2.2.2.2.2.2.2.2.2.1.1.2.2.2.2.1 r1.2.2.2.2.2.2.2.2.2.1.1.2.2.2.2.2.1 r1.2.2.2.2.2.2.2.2.2.1.1.2.2.2.2.2.2.1 r1.2.2.2.2.2.2.2.2.2.1.1.2.2.2.2.2.2.2, bX4 G q ((o + 43) + 9) r1.2.2.2.2.2.2.2.2.2.1.2.1.1 r1.2.2.2.2.2.2.2.2.2.1.2.1.2, bX7 G q (o + 54) r1.2.2.2.2.2.2.2.2.2.2.1 r1.2.2.2.2.2.2.2.2.2.2.2.1 r1.2.2.2.2.2.2.2.2.2.2.2.2]) hS0 (c_X9_tell l G q (o + 1) r1.2.1 r3 r5 e6) zc_X9_tell rfl gX10_lay_X9_tell ⟨Nat.le_of_ble_eq_true rfl, Nat.le_of_ble_eq_true rfl⟩ hK hA hT hw (is := [1]) rfl rfl rfl rfl rfl rfl rfl hl.1 rfl (Nat.le_of_ble_eq_true rfl) dX10_lay_29 (fun H locs hw => ?_)
    refine lv_aload_n hx hb dX10_lay_32 rfl (lv_at hl 1 rfl) ?_
    refine z_get hS0 in_X10_lay_X10 hK hw 0 1 rfl rfl rfl (by decide) (hts _ m_X10_lay_1) (v := .ref (q ((o + 3) + 0))) rfl dX10_lay_33 ?_
    refine lv_iload_n hx hb dX10_lay_36 rfl (lv_at hl 2 rfl) ?_
    refine lv_iload_n hx hb dX10_lay_37 rfl (lv_at hl 3 rfl) ?_
    refine lv_iload_n hx hb dX10_lay_38 rfl (lv_at hl 4 rfl) ?_
    obtain ⟨r7, e8, hf⟩ := z_bd hf
    refine z_callV0 (As := [.int v1, .int v2, .int v3]) (rest := []) (bs' := [bX10 G q o, bX9 G q (o + 1) r5.1 r5.2.1 r5.2.2.1 r5.2.2.2.1 r5.2.2.2.2, bX6 G q (o + 3) r7.1 r7.2, bX8 G q (o + 12) r1.2.2.2.1.1 r1.2.2.2.1.2, bX5 G q (o + 19) r1.2.2.2.2.1.2.1 r1.2.2.2.2.1.2.2.1 r1.2.2.2.2.1.2.2.2.1 r1.2.2.2.2.1.2.2.2.2, bX2 G q ((o + 19) + 2) r1.2.2.2.2.1.1.1 r1.2.2.2.2.1.1.2.1 r1.2.2.2.2.1.1.2.2.1 r1.2.2.2.2.1.1.2.2.2.1 r1.2.2.2.2.1.1.2.2.2.2.1 r1.2.2.2.2.1.1.2.2.2.2.2.1 r1.2.2.2.2.1.1.2.2.2.2.2.2.1 r1.2.2.2.2.1.1.2.2.2.2.2.2.2, bX2 G q (o + 27) r1.2.2.2.2.2.1.1 r1.2.2.2.2.2.1.2.1 r1.2.2.2.2.2.1.2.2.1 r1.2.2.2.2.2.1.2.2.2.1 r1.2.2.2.2.2.1.2.2.2.2.1 r1.2.2.2.2.2.1.2.2.2.2.2.1 r1.2.2.2.2.2.1.2.2.2.2.2.2.1 r1.2.2.2.2.2.1.2.2.2.2.2.2.2, bX1 G q (o + 33) r1.2.2.2.2.2.2.1.1 r1.2.2.2.2.2.2.1.2.1 r1.2.2.2.2.2.2.1.2.2.1 r1.2.2.2.2.2.2.1.2.2.2, bX4 G q (o + 36) r1.2.2.2.2.2.2.2.1.1 r1.2.2.2.2.2.2.2.1.2, bX3 G q (o + 38) r1.2.2.2.2.2.2.2.2.1.1 r1.2.2.2.2.2.2.2.2.1.2.1 r1.2.2.2.2.2.2.2.2.1.2.2.1 r1.2.2.2.2.2.2.2.2.1.2.2.2, bX0 G q (o + 43) r1.2.2.2.2.2.2.2.2.2.1.2.2.1 r1.2.2.2.2.2.2.2.2.2.1.2.2.2, bX2 G q ((o + 43) + 3) r1.2.2.2.2.2.2.2.2.2.1.1.1 r1.2.2.2.2.2.2.2.2.2.1.1.2.1 r1.2.2.2.2.2.2.2.2.2.1.1.2.2.1 r1.2.2.2.2.2.2.2.2.2.1.1.2.2.2.1 r1.2.2.2.2.2.2.2.2.2.1.1.2.2.2.2.1 r1.2.2.2.2.2.2.2.2.2.1.1.2.2.2.2.2.1 r1.2.2.2.2.2.2.2.2.2.1.1.2.2.2.2.2.2.1 r1.2.2.2.2.2.2.2.2.2.1.1.2.2.2.2.2.2.2, bX4 G q ((o + 43) + 9) r1.2.2.2.2.2.2.2.2.2.1.2.1.1 r1.2.2.2.2.2.2.2.2.2.1.2.1.2, bX7 G q (o + 54) r1.2.2.2.2.2.2.2.2.2.2.1 r1.2.2.2.2.2.2.2.2.2.2.2.1 r1.2.2.2.2.2.2.2.2.2.2.2.2]) hS0 (c_X6_set l G q (o + 3) r1.2.2.1 v1 v2 v3 r7 e8) zc_X6_set rfl gX10_lay_X6_set ⟨Nat.le_of_ble_eq_true rfl, Nat.le_of_ble_eq_true rfl⟩ hK hA hT hw (is := [2]) rfl rfl rfl rfl rfl rfl rfl hl.1 rfl (Nat.le_of_ble_eq_true rfl) dX10_lay_39 (fun H locs hw => ?_)
    refine lv_iconst (v := 1) hx hb dX10_lay_42 rfl ?_
    cases hf
    exact z_iret hx hb hr hlk hw dX10_lay_43
  · have hf := z_f hc hf
    refine lv_iload hx hb dX10_lay_13 (lv_at hl 0 rfl) ?_
    cases hf
    exact z_iret hx hb hr hlk hw dX10_lay_15
theorem zc_X10_least : zC yX10_least wsX10_least cX10_least 3 (some .int) 1 := ⟨⟨_, rfl⟩, by decide +kernel, by decide +kernel, by decide +kernel, by decide +kernel⟩
theorem m_X10_least_0 : (.fieldLink RX10 40 "CellKeys" "jail" "LCellKeys$Jail;" : Cond) ∈ wsX10_least := by decide +kernel
theorem in_X10_least_X10 : ∀ w ∈ u_ws RX10 TX10 10, w ∈ wsX10_least := by decide +kernel
theorem m_X10_least_1 : (.fieldLink RX10 54 "CellKeys" "reach" "LCellKeys$Reach;" : Cond) ∈ wsX10_least := by decide +kernel
theorem m_X10_least_2 : (.fieldLink RX10 10 "CellKeys" "told" "LCellKeys$Told;" : Cond) ∈ wsX10_least := by decide +kernel
set_option maxHeartbeats 4000000 in
set_option maxRecDepth 100000 in
theorem c_X10_least (l : Launch) (G : zG) (q : Nat → Nat) (o : Nat) (S : VX10) (v1 : Int32) (y : Int32 × VX10) (hf : f_X10_least S v1 = some y) : zMet l yX10_least wsX10_least 5 127 G [.ref (q (o + 0)), .int v1] [bX10 G q o, bX9 G q (o + 1) S.1.1 S.1.2.1 S.1.2.2.1 S.1.2.2.2.1 S.1.2.2.2.2, bX6 G q (o + 3) S.2.1.1 S.2.1.2, bX8 G q (o + 12) S.2.2.1.1 S.2.2.1.2, bX5 G q (o + 19) S.2.2.2.1.2.1 S.2.2.2.1.2.2.1 S.2.2.2.1.2.2.2.1 S.2.2.2.1.2.2.2.2, bX2 G q ((o + 19) + 2) S.2.2.2.1.1.1 S.2.2.2.1.1.2.1 S.2.2.2.1.1.2.2.1 S.2.2.2.1.1.2.2.2.1 S.2.2.2.1.1.2.2.2.2.1 S.2.2.2.1.1.2.2.2.2.2.1 S.2.2.2.1.1.2.2.2.2.2.2.1 S.2.2.2.1.1.2.2.2.2.2.2.2, bX2 G q (o + 27) S.2.2.2.2.1.1 S.2.2.2.2.1.2.1 S.2.2.2.2.1.2.2.1 S.2.2.2.2.1.2.2.2.1 S.2.2.2.2.1.2.2.2.2.1 S.2.2.2.2.1.2.2.2.2.2.1 S.2.2.2.2.1.2.2.2.2.2.2.1 S.2.2.2.2.1.2.2.2.2.2.2.2, bX1 G q (o + 33) S.2.2.2.2.2.1.1 S.2.2.2.2.2.1.2.1 S.2.2.2.2.2.1.2.2.1 S.2.2.2.2.2.1.2.2.2, bX4 G q (o + 36) S.2.2.2.2.2.2.1.1 S.2.2.2.2.2.2.1.2, bX3 G q (o + 38) S.2.2.2.2.2.2.2.1.1 S.2.2.2.2.2.2.2.1.2.1 S.2.2.2.2.2.2.2.1.2.2.1 S.2.2.2.2.2.2.2.1.2.2.2, bX0 G q (o + 43) S.2.2.2.2.2.2.2.2.1.2.2.1 S.2.2.2.2.2.2.2.2.1.2.2.2, bX2 G q ((o + 43) + 3) S.2.2.2.2.2.2.2.2.1.1.1 S.2.2.2.2.2.2.2.2.1.1.2.1 S.2.2.2.2.2.2.2.2.1.1.2.2.1 S.2.2.2.2.2.2.2.2.1.1.2.2.2.1 S.2.2.2.2.2.2.2.2.1.1.2.2.2.2.1 S.2.2.2.2.2.2.2.2.1.1.2.2.2.2.2.1 S.2.2.2.2.2.2.2.2.1.1.2.2.2.2.2.2.1 S.2.2.2.2.2.2.2.2.1.1.2.2.2.2.2.2.2, bX4 G q ((o + 43) + 9) S.2.2.2.2.2.2.2.2.1.2.1.1 S.2.2.2.2.2.2.2.2.1.2.1.2, bX7 G q (o + 54) S.2.2.2.2.2.2.2.2.2.1 S.2.2.2.2.2.2.2.2.2.2.1 S.2.2.2.2.2.2.2.2.2.2.2] (some (.int y.1)) [bX10 G q o, bX9 G q (o + 1) y.2.1.1 y.2.1.2.1 y.2.1.2.2.1 y.2.1.2.2.2.1 y.2.1.2.2.2.2, bX6 G q (o + 3) y.2.2.1.1 y.2.2.1.2, bX8 G q (o + 12) y.2.2.2.1.1 y.2.2.2.1.2, bX5 G q (o + 19) y.2.2.2.2.1.2.1 y.2.2.2.2.1.2.2.1 y.2.2.2.2.1.2.2.2.1 y.2.2.2.2.1.2.2.2.2, bX2 G q ((o + 19) + 2) y.2.2.2.2.1.1.1 y.2.2.2.2.1.1.2.1 y.2.2.2.2.1.1.2.2.1 y.2.2.2.2.1.1.2.2.2.1 y.2.2.2.2.1.1.2.2.2.2.1 y.2.2.2.2.1.1.2.2.2.2.2.1 y.2.2.2.2.1.1.2.2.2.2.2.2.1 y.2.2.2.2.1.1.2.2.2.2.2.2.2, bX2 G q (o + 27) y.2.2.2.2.2.1.1 y.2.2.2.2.2.1.2.1 y.2.2.2.2.2.1.2.2.1 y.2.2.2.2.2.1.2.2.2.1 y.2.2.2.2.2.1.2.2.2.2.1 y.2.2.2.2.2.1.2.2.2.2.2.1 y.2.2.2.2.2.1.2.2.2.2.2.2.1 y.2.2.2.2.2.1.2.2.2.2.2.2.2, bX1 G q (o + 33) y.2.2.2.2.2.2.1.1 y.2.2.2.2.2.2.1.2.1 y.2.2.2.2.2.2.1.2.2.1 y.2.2.2.2.2.2.1.2.2.2, bX4 G q (o + 36) y.2.2.2.2.2.2.2.1.1 y.2.2.2.2.2.2.2.1.2, bX3 G q (o + 38) y.2.2.2.2.2.2.2.2.1.1 y.2.2.2.2.2.2.2.2.1.2.1 y.2.2.2.2.2.2.2.2.1.2.2.1 y.2.2.2.2.2.2.2.2.1.2.2.2, bX0 G q (o + 43) y.2.2.2.2.2.2.2.2.2.1.2.2.1 y.2.2.2.2.2.2.2.2.2.1.2.2.2, bX2 G q ((o + 43) + 3) y.2.2.2.2.2.2.2.2.2.1.1.1 y.2.2.2.2.2.2.2.2.2.1.1.2.1 y.2.2.2.2.2.2.2.2.2.1.1.2.2.1 y.2.2.2.2.2.2.2.2.2.1.1.2.2.2.1 y.2.2.2.2.2.2.2.2.2.1.1.2.2.2.2.1 y.2.2.2.2.2.2.2.2.2.1.1.2.2.2.2.2.1 y.2.2.2.2.2.2.2.2.2.1.1.2.2.2.2.2.2.1 y.2.2.2.2.2.2.2.2.2.1.1.2.2.2.2.2.2.2, bX4 G q ((o + 43) + 9) y.2.2.2.2.2.2.2.2.2.1.2.1.1 y.2.2.2.2.2.2.2.2.2.1.2.1.2, bX7 G q (o + 54) y.2.2.2.2.2.2.2.2.2.2.1 y.2.2.2.2.2.2.2.2.2.2.2.1 y.2.2.2.2.2.2.2.2.2.2.2.2] := by
  refine z_met zc_X10_least (Nat.le_of_ble_eq_true rfl) ?_
  intro p e s m below meth c A ls hZ hl hw
  have hl : lv_has ls 3 [(0, .ref (q (o + 0))), (1, .int v1)] := hl
  obtain ⟨hS0, hr, hlk, hK, hA, hT⟩ := id hZ
  have hx := hS0.1
  have hb := hS0.2.1
  have hml := hS0.2.2.1
  have hown : s.vm.findClass RX10 = some m.cls := hS0.2.2.2.1
  have hts := hS0.2.2.2.2
  unfold f_X10_least at hf
  refine lv_aload_n hx hb dX10_least_0 rfl (lv_at hl 0 rfl) ?_
  refine z_get hS0 in_X10_least_X10 hK hw 0 4 rfl rfl rfl (by decide) (hts _ m_X10_least_0) (v := .ref (q ((o + 27) + 0))) rfl dX10_least_1 ?_
  refine lv_iload_n hx hb dX10_least_4 rfl (lv_at hl 1 rfl) ?_
  obtain ⟨r1, e2, hf⟩ := z_bd hf
  refine z_callV1 (As := [.int v1]) (rest := []) (bs' := [bX10 G q o, bX9 G q (o + 1) S.1.1 S.1.2.1 S.1.2.2.1 S.1.2.2.2.1 S.1.2.2.2.2, bX6 G q (o + 3) S.2.1.1 S.2.1.2, bX8 G q (o + 12) S.2.2.1.1 S.2.2.1.2, bX5 G q (o + 19) S.2.2.2.1.2.1 S.2.2.2.1.2.2.1 S.2.2.2.1.2.2.2.1 S.2.2.2.1.2.2.2.2, bX2 G q ((o + 19) + 2) S.2.2.2.1.1.1 S.2.2.2.1.1.2.1 S.2.2.2.1.1.2.2.1 S.2.2.2.1.1.2.2.2.1 S.2.2.2.1.1.2.2.2.2.1 S.2.2.2.1.1.2.2.2.2.2.1 S.2.2.2.1.1.2.2.2.2.2.2.1 S.2.2.2.1.1.2.2.2.2.2.2.2, bX2 G q (o + 27) S.2.2.2.2.1.1 S.2.2.2.2.1.2.1 S.2.2.2.2.1.2.2.1 S.2.2.2.2.1.2.2.2.1 S.2.2.2.2.1.2.2.2.2.1 S.2.2.2.2.1.2.2.2.2.2.1 S.2.2.2.2.1.2.2.2.2.2.2.1 S.2.2.2.2.1.2.2.2.2.2.2.2, bX1 G q (o + 33) S.2.2.2.2.2.1.1 S.2.2.2.2.2.1.2.1 S.2.2.2.2.2.1.2.2.1 S.2.2.2.2.2.1.2.2.2, bX4 G q (o + 36) S.2.2.2.2.2.2.1.1 S.2.2.2.2.2.2.1.2, bX3 G q (o + 38) S.2.2.2.2.2.2.2.1.1 S.2.2.2.2.2.2.2.1.2.1 S.2.2.2.2.2.2.2.1.2.2.1 S.2.2.2.2.2.2.2.1.2.2.2, bX0 G q (o + 43) S.2.2.2.2.2.2.2.2.1.2.2.1 S.2.2.2.2.2.2.2.2.1.2.2.2, bX2 G q ((o + 43) + 3) S.2.2.2.2.2.2.2.2.1.1.1 S.2.2.2.2.2.2.2.2.1.1.2.1 S.2.2.2.2.2.2.2.2.1.1.2.2.1 S.2.2.2.2.2.2.2.2.1.1.2.2.2.1 S.2.2.2.2.2.2.2.2.1.1.2.2.2.2.1 S.2.2.2.2.2.2.2.2.1.1.2.2.2.2.2.1 S.2.2.2.2.2.2.2.2.1.1.2.2.2.2.2.2.1 S.2.2.2.2.2.2.2.2.1.1.2.2.2.2.2.2.2, bX4 G q ((o + 43) + 9) S.2.2.2.2.2.2.2.2.1.2.1.1 S.2.2.2.2.2.2.2.2.1.2.1.2, bX7 G q (o + 54) S.2.2.2.2.2.2.2.2.2.1 S.2.2.2.2.2.2.2.2.2.2.1 S.2.2.2.2.2.2.2.2.2.2.2]) hS0 (c_X2_isSet l G q (o + 27) S.2.2.2.2.1 v1 r1 e2) zc_X2_isSet rfl gX10_least_X2_isSet ⟨Nat.le_of_ble_eq_true rfl, Nat.le_of_ble_eq_true rfl⟩ hK hA hT hw (is := [6]) rfl rfl rfl rfl rfl rfl rfl hl.1 rfl (Nat.le_of_ble_eq_true rfl) dX10_least_5 (fun H locs hw => ?_)
  refine lv_if_ne (tgt := 13) hx hb dX10_least_8 rfl (fun hc => ?_) (fun hc => ?_)
  · have hf := z_f hc hf
    refine lv_aload_n hx hb dX10_least_13 rfl (lv_at hl 0 rfl) ?_
    obtain ⟨r3, e4, hf⟩ := z_bd hf
    refine z_callV0 (As := []) (rest := []) (bs' := [bX10 G q o, bX9 G q (o + 1) r3.1.1 r3.1.2.1 r3.1.2.2.1 r3.1.2.2.2.1 r3.1.2.2.2.2, bX6 G q (o + 3) r3.2.1.1 r3.2.1.2, bX8 G q (o + 12) r3.2.2.1.1 r3.2.2.1.2, bX5 G q (o + 19) r3.2.2.2.1.2.1 r3.2.2.2.1.2.2.1 r3.2.2.2.1.2.2.2.1 r3.2.2.2.1.2.2.2.2, bX2 G q ((o + 19) + 2) r3.2.2.2.1.1.1 r3.2.2.2.1.1.2.1 r3.2.2.2.1.1.2.2.1 r3.2.2.2.1.1.2.2.2.1 r3.2.2.2.1.1.2.2.2.2.1 r3.2.2.2.1.1.2.2.2.2.2.1 r3.2.2.2.1.1.2.2.2.2.2.2.1 r3.2.2.2.1.1.2.2.2.2.2.2.2, bX2 G q (o + 27) r3.2.2.2.2.1.1 r3.2.2.2.2.1.2.1 r3.2.2.2.2.1.2.2.1 r3.2.2.2.2.1.2.2.2.1 r3.2.2.2.2.1.2.2.2.2.1 r3.2.2.2.2.1.2.2.2.2.2.1 r3.2.2.2.2.1.2.2.2.2.2.2.1 r3.2.2.2.2.1.2.2.2.2.2.2.2, bX1 G q (o + 33) r3.2.2.2.2.2.1.1 r3.2.2.2.2.2.1.2.1 r3.2.2.2.2.2.1.2.2.1 r3.2.2.2.2.2.1.2.2.2, bX4 G q (o + 36) r3.2.2.2.2.2.2.1.1 r3.2.2.2.2.2.2.1.2, bX3 G q (o + 38) r3.2.2.2.2.2.2.2.1.1 r3.2.2.2.2.2.2.2.1.2.1 r3.2.2.2.2.2.2.2.1.2.2.1 r3.2.2.2.2.2.2.2.1.2.2.2, bX0 G q (o + 43) r3.2.2.2.2.2.2.2.2.1.2.2.1 r3.2.2.2.2.2.2.2.2.1.2.2.2, bX2 G q ((o + 43) + 3) r3.2.2.2.2.2.2.2.2.1.1.1 r3.2.2.2.2.2.2.2.2.1.1.2.1 r3.2.2.2.2.2.2.2.2.1.1.2.2.1 r3.2.2.2.2.2.2.2.2.1.1.2.2.2.1 r3.2.2.2.2.2.2.2.2.1.1.2.2.2.2.1 r3.2.2.2.2.2.2.2.2.1.1.2.2.2.2.2.1 r3.2.2.2.2.2.2.2.2.1.1.2.2.2.2.2.2.1 r3.2.2.2.2.2.2.2.2.1.1.2.2.2.2.2.2.2, bX4 G q ((o + 43) + 9) r3.2.2.2.2.2.2.2.2.1.2.1.1 r3.2.2.2.2.2.2.2.2.1.2.1.2, bX7 G q (o + 54) r3.2.2.2.2.2.2.2.2.2.1 r3.2.2.2.2.2.2.2.2.2.2.1 r3.2.2.2.2.2.2.2.2.2.2.2]) hS0 (c_X10_reachAll l G q o S r3 e4) zc_X10_reachAll rfl gX10_least_X10_reachAll ⟨Nat.le_of_ble_eq_true rfl, Nat.le_of_ble_eq_true rfl⟩ hK hA hT hw (is := [0, 1, 2, 3, 4, 5, 6, 7, 8, 9, 10, 11, 12, 13]) rfl rfl rfl rfl rfl rfl rfl hl.1 rfl (Nat.le_of_ble_eq_true rfl) dX10_least_14 (fun H locs hw => ?_)
    refine lv_aload_n hx hb dX10_least_17 rfl (lv_at hl 0 rfl) ?_
    refine z_get hS0 in_X10_least_X10 hK hw 0 6 rfl rfl rfl (by decide) (hts _ m_X10_least_1) (v := .ref (q ((o + 36) + 0))) rfl dX10_least_18 ?_
    refine lv_iload_n hx hb dX10_least_21 rfl (lv_at hl 1 rfl) ?_
    obtain ⟨r5, e6, hf⟩ := z_bd hf
    refine z_callV1 (As := [.int v1]) (rest := []) (bs' := [bX10 G q o, bX9 G q (o + 1) r3.1.1 r3.1.2.1 r3.1.2.2.1 r3.1.2.2.2.1 r3.1.2.2.2.2, bX6 G q (o + 3) r3.2.1.1 r3.2.1.2, bX8 G q (o + 12) r3.2.2.1.1 r3.2.2.1.2, bX5 G q (o + 19) r3.2.2.2.1.2.1 r3.2.2.2.1.2.2.1 r3.2.2.2.1.2.2.2.1 r3.2.2.2.1.2.2.2.2, bX2 G q ((o + 19) + 2) r3.2.2.2.1.1.1 r3.2.2.2.1.1.2.1 r3.2.2.2.1.1.2.2.1 r3.2.2.2.1.1.2.2.2.1 r3.2.2.2.1.1.2.2.2.2.1 r3.2.2.2.1.1.2.2.2.2.2.1 r3.2.2.2.1.1.2.2.2.2.2.2.1 r3.2.2.2.1.1.2.2.2.2.2.2.2, bX2 G q (o + 27) r3.2.2.2.2.1.1 r3.2.2.2.2.1.2.1 r3.2.2.2.2.1.2.2.1 r3.2.2.2.2.1.2.2.2.1 r3.2.2.2.2.1.2.2.2.2.1 r3.2.2.2.2.1.2.2.2.2.2.1 r3.2.2.2.2.1.2.2.2.2.2.2.1 r3.2.2.2.2.1.2.2.2.2.2.2.2, bX1 G q (o + 33) r3.2.2.2.2.2.1.1 r3.2.2.2.2.2.1.2.1 r3.2.2.2.2.2.1.2.2.1 r3.2.2.2.2.2.1.2.2.2, bX4 G q (o + 36) r3.2.2.2.2.2.2.1.1 r3.2.2.2.2.2.2.1.2, bX3 G q (o + 38) r3.2.2.2.2.2.2.2.1.1 r3.2.2.2.2.2.2.2.1.2.1 r3.2.2.2.2.2.2.2.1.2.2.1 r3.2.2.2.2.2.2.2.1.2.2.2, bX0 G q (o + 43) r3.2.2.2.2.2.2.2.2.1.2.2.1 r3.2.2.2.2.2.2.2.2.1.2.2.2, bX2 G q ((o + 43) + 3) r3.2.2.2.2.2.2.2.2.1.1.1 r3.2.2.2.2.2.2.2.2.1.1.2.1 r3.2.2.2.2.2.2.2.2.1.1.2.2.1 r3.2.2.2.2.2.2.2.2.1.1.2.2.2.1 r3.2.2.2.2.2.2.2.2.1.1.2.2.2.2.1 r3.2.2.2.2.2.2.2.2.1.1.2.2.2.2.2.1 r3.2.2.2.2.2.2.2.2.1.1.2.2.2.2.2.2.1 r3.2.2.2.2.2.2.2.2.1.1.2.2.2.2.2.2.2, bX4 G q ((o + 43) + 9) r3.2.2.2.2.2.2.2.2.1.2.1.1 r3.2.2.2.2.2.2.2.2.1.2.1.2, bX7 G q (o + 54) r3.2.2.2.2.2.2.2.2.2.1 r3.2.2.2.2.2.2.2.2.2.2.1 r3.2.2.2.2.2.2.2.2.2.2.2]) hS0 (c_X4_cheapestWith l G q (o + 36) r3.2.2.2.2.2.2.1 v1 r5 e6) zc_X4_cheapestWith rfl gX10_least_X4_cheapestWith ⟨Nat.le_of_ble_eq_true rfl, Nat.le_of_ble_eq_true rfl⟩ hK hA hT hw (is := [8]) rfl rfl rfl rfl rfl rfl rfl hl.1 rfl (Nat.le_of_ble_eq_true rfl) dX10_least_22 (fun H locs hw => ?_)
    refine lv_istore_n (lv' := [(2, .int r5), (0, .ref (q (o + 0))), (1, .int v1)]) hx hb dX10_least_25 rfl hl (by decide) rfl (fun ls hl => ?_)
    refine lv_iload_n hx hb dX10_least_26 rfl (lv_at hl 0 rfl) ?_
    refine lv_bipush (v := (-9)) hx hb dX10_least_27 rfl ?_
    refine lv_icmp_ne (tgt := 35) hx hb dX10_least_29 rfl (fun hc => ?_) (fun hc => ?_)
    · have hf := z_f hc hf
      refine lv_aload_n hx hb dX10_least_35 rfl (lv_at hl 1 rfl) ?_
      refine z_get hS0 in_X10_least_X10 hK hw 0 0 rfl rfl rfl (by decide) (hts _ m_X10_least_2) (v := .ref (q ((o + 1) + 0))) rfl dX10_least_36 ?_
      refine lv_iload_n hx hb dX10_least_39 rfl (lv_at hl 0 rfl) ?_
      obtain ⟨r7, e8, hf⟩ := z_bd hf
      refine z_callV0 (As := [.int r5]) (rest := []) (bs' := [bX10 G q o, bX9 G q (o + 1) r7.1 r7.2.1 r7.2.2.1 r7.2.2.2.1 r7.2.2.2.2, bX6 G q (o + 3) r3.2.1.1 r3.2.1.2, bX8 G q (o + 12) r3.2.2.1.1 r3.2.2.1.2, bX5 G q (o + 19) r3.2.2.2.1.2.1 r3.2.2.2.1.2.2.1 r3.2.2.2.1.2.2.2.1 r3.2.2.2.1.2.2.2.2, bX2 G q ((o + 19) + 2) r3.2.2.2.1.1.1 r3.2.2.2.1.1.2.1 r3.2.2.2.1.1.2.2.1 r3.2.2.2.1.1.2.2.2.1 r3.2.2.2.1.1.2.2.2.2.1 r3.2.2.2.1.1.2.2.2.2.2.1 r3.2.2.2.1.1.2.2.2.2.2.2.1 r3.2.2.2.1.1.2.2.2.2.2.2.2, bX2 G q (o + 27) r3.2.2.2.2.1.1 r3.2.2.2.2.1.2.1 r3.2.2.2.2.1.2.2.1 r3.2.2.2.2.1.2.2.2.1 r3.2.2.2.2.1.2.2.2.2.1 r3.2.2.2.2.1.2.2.2.2.2.1 r3.2.2.2.2.1.2.2.2.2.2.2.1 r3.2.2.2.2.1.2.2.2.2.2.2.2, bX1 G q (o + 33) r3.2.2.2.2.2.1.1 r3.2.2.2.2.2.1.2.1 r3.2.2.2.2.2.1.2.2.1 r3.2.2.2.2.2.1.2.2.2, bX4 G q (o + 36) r3.2.2.2.2.2.2.1.1 r3.2.2.2.2.2.2.1.2, bX3 G q (o + 38) r3.2.2.2.2.2.2.2.1.1 r3.2.2.2.2.2.2.2.1.2.1 r3.2.2.2.2.2.2.2.1.2.2.1 r3.2.2.2.2.2.2.2.1.2.2.2, bX0 G q (o + 43) r3.2.2.2.2.2.2.2.2.1.2.2.1 r3.2.2.2.2.2.2.2.2.1.2.2.2, bX2 G q ((o + 43) + 3) r3.2.2.2.2.2.2.2.2.1.1.1 r3.2.2.2.2.2.2.2.2.1.1.2.1 r3.2.2.2.2.2.2.2.2.1.1.2.2.1 r3.2.2.2.2.2.2.2.2.1.1.2.2.2.1 r3.2.2.2.2.2.2.2.2.1.1.2.2.2.2.1 r3.2.2.2.2.2.2.2.2.1.1.2.2.2.2.2.1 r3.2.2.2.2.2.2.2.2.1.1.2.2.2.2.2.2.1 r3.2.2.2.2.2.2.2.2.1.1.2.2.2.2.2.2.2, bX4 G q ((o + 43) + 9) r3.2.2.2.2.2.2.2.2.1.2.1.1 r3.2.2.2.2.2.2.2.2.1.2.1.2, bX7 G q (o + 54) r3.2.2.2.2.2.2.2.2.2.1 r3.2.2.2.2.2.2.2.2.2.2.1 r3.2.2.2.2.2.2.2.2.2.2.2]) hS0 (c_X9_tell l G q (o + 1) r3.1 r5 r7 e8) zc_X9_tell rfl gX10_least_X9_tell ⟨Nat.le_of_ble_eq_true rfl, Nat.le_of_ble_eq_true rfl⟩ hK hA hT hw (is := [1]) rfl rfl rfl rfl rfl rfl rfl hl.1 rfl (Nat.le_of_ble_eq_true rfl) dX10_least_40 (fun H locs hw => ?_)
      refine lv_aload_n hx hb dX10_least_43 rfl (lv_at hl 1 rfl) ?_
      refine z_get hS0 in_X10_least_X10 hK hw 0 6 rfl rfl rfl (by decide) (hts _ m_X10_least_1) (v := .ref (q ((o + 36) + 0))) rfl dX10_least_44 ?_
      refine lv_iload_n hx hb dX10_least_47 rfl (lv_at hl 0 rfl) ?_
      obtain ⟨r9, e10, hf⟩ := z_bd hf
      refine z_callV1 (As := [.int r5]) (rest := []) (bs' := [bX10 G q o, bX9 G q (o + 1) r7.1 r7.2.1 r7.2.2.1 r7.2.2.2.1 r7.2.2.2.2, bX6 G q (o + 3) r3.2.1.1 r3.2.1.2, bX8 G q (o + 12) r3.2.2.1.1 r3.2.2.1.2, bX5 G q (o + 19) r3.2.2.2.1.2.1 r3.2.2.2.1.2.2.1 r3.2.2.2.1.2.2.2.1 r3.2.2.2.1.2.2.2.2, bX2 G q ((o + 19) + 2) r3.2.2.2.1.1.1 r3.2.2.2.1.1.2.1 r3.2.2.2.1.1.2.2.1 r3.2.2.2.1.1.2.2.2.1 r3.2.2.2.1.1.2.2.2.2.1 r3.2.2.2.1.1.2.2.2.2.2.1 r3.2.2.2.1.1.2.2.2.2.2.2.1 r3.2.2.2.1.1.2.2.2.2.2.2.2, bX2 G q (o + 27) r3.2.2.2.2.1.1 r3.2.2.2.2.1.2.1 r3.2.2.2.2.1.2.2.1 r3.2.2.2.2.1.2.2.2.1 r3.2.2.2.2.1.2.2.2.2.1 r3.2.2.2.2.1.2.2.2.2.2.1 r3.2.2.2.2.1.2.2.2.2.2.2.1 r3.2.2.2.2.1.2.2.2.2.2.2.2, bX1 G q (o + 33) r3.2.2.2.2.2.1.1 r3.2.2.2.2.2.1.2.1 r3.2.2.2.2.2.1.2.2.1 r3.2.2.2.2.2.1.2.2.2, bX4 G q (o + 36) r3.2.2.2.2.2.2.1.1 r3.2.2.2.2.2.2.1.2, bX3 G q (o + 38) r3.2.2.2.2.2.2.2.1.1 r3.2.2.2.2.2.2.2.1.2.1 r3.2.2.2.2.2.2.2.1.2.2.1 r3.2.2.2.2.2.2.2.1.2.2.2, bX0 G q (o + 43) r3.2.2.2.2.2.2.2.2.1.2.2.1 r3.2.2.2.2.2.2.2.2.1.2.2.2, bX2 G q ((o + 43) + 3) r3.2.2.2.2.2.2.2.2.1.1.1 r3.2.2.2.2.2.2.2.2.1.1.2.1 r3.2.2.2.2.2.2.2.2.1.1.2.2.1 r3.2.2.2.2.2.2.2.2.1.1.2.2.2.1 r3.2.2.2.2.2.2.2.2.1.1.2.2.2.2.1 r3.2.2.2.2.2.2.2.2.1.1.2.2.2.2.2.1 r3.2.2.2.2.2.2.2.2.1.1.2.2.2.2.2.2.1 r3.2.2.2.2.2.2.2.2.1.1.2.2.2.2.2.2.2, bX4 G q ((o + 43) + 9) r3.2.2.2.2.2.2.2.2.1.2.1.1 r3.2.2.2.2.2.2.2.2.1.2.1.2, bX7 G q (o + 54) r3.2.2.2.2.2.2.2.2.2.1 r3.2.2.2.2.2.2.2.2.2.2.1 r3.2.2.2.2.2.2.2.2.2.2.2]) hS0 (c_X4_favoursOf l G q (o + 36) r3.2.2.2.2.2.2.1 r5 r9 e10) zc_X4_favoursOf rfl gX10_least_X4_favoursOf ⟨Nat.le_of_ble_eq_true rfl, Nat.le_of_ble_eq_true rfl⟩ hK hA hT hw (is := [8]) rfl rfl rfl rfl rfl rfl rfl hl.1 rfl (Nat.le_of_ble_eq_true rfl) dX10_least_48 (fun H locs hw => ?_)
      cases hf
      exact z_iret hx hb hr hlk hw dX10_least_51
    · have hf := z_t hc hf
      refine lv_bipush (v := (-9)) hx hb dX10_least_32 rfl ?_
      cases hf
      exact z_iret hx hb hr hlk hw dX10_least_34
  · have hf := z_t hc hf
    refine lv_iconst (v := (-1)) hx hb dX10_least_11 rfl ?_
    cases hf
    exact z_iret hx hb hr hlk hw dX10_least_12
theorem zc_X10_let : zC yX10_let wsX10_let cX10_let 3 (some .int) 1 := ⟨⟨_, rfl⟩, by decide +kernel, by decide +kernel, by decide +kernel, by decide +kernel⟩
theorem m_X10_let_0 : (.fieldLink RX10 47 "CellKeys" "evenings" "LCellKeys$Evenings;" : Cond) ∈ wsX10_let := by decide +kernel
theorem in_X10_let_X10 : ∀ w ∈ u_ws RX10 TX10 10, w ∈ wsX10_let := by decide +kernel
set_option maxHeartbeats 4000000 in
set_option maxRecDepth 100000 in
theorem c_X10_let (l : Launch) (G : zG) (q : Nat → Nat) (o : Nat) (S : VX10) (v1 : Int32) (y : Int32 × VX10) (hf : f_X10_let S v1 = some y) : zMet l yX10_let wsX10_let 4 101 G [.ref (q (o + 0)), .int v1] [bX10 G q o, bX9 G q (o + 1) S.1.1 S.1.2.1 S.1.2.2.1 S.1.2.2.2.1 S.1.2.2.2.2, bX6 G q (o + 3) S.2.1.1 S.2.1.2, bX8 G q (o + 12) S.2.2.1.1 S.2.2.1.2, bX5 G q (o + 19) S.2.2.2.1.2.1 S.2.2.2.1.2.2.1 S.2.2.2.1.2.2.2.1 S.2.2.2.1.2.2.2.2, bX2 G q ((o + 19) + 2) S.2.2.2.1.1.1 S.2.2.2.1.1.2.1 S.2.2.2.1.1.2.2.1 S.2.2.2.1.1.2.2.2.1 S.2.2.2.1.1.2.2.2.2.1 S.2.2.2.1.1.2.2.2.2.2.1 S.2.2.2.1.1.2.2.2.2.2.2.1 S.2.2.2.1.1.2.2.2.2.2.2.2, bX2 G q (o + 27) S.2.2.2.2.1.1 S.2.2.2.2.1.2.1 S.2.2.2.2.1.2.2.1 S.2.2.2.2.1.2.2.2.1 S.2.2.2.2.1.2.2.2.2.1 S.2.2.2.2.1.2.2.2.2.2.1 S.2.2.2.2.1.2.2.2.2.2.2.1 S.2.2.2.2.1.2.2.2.2.2.2.2, bX1 G q (o + 33) S.2.2.2.2.2.1.1 S.2.2.2.2.2.1.2.1 S.2.2.2.2.2.1.2.2.1 S.2.2.2.2.2.1.2.2.2, bX4 G q (o + 36) S.2.2.2.2.2.2.1.1 S.2.2.2.2.2.2.1.2, bX3 G q (o + 38) S.2.2.2.2.2.2.2.1.1 S.2.2.2.2.2.2.2.1.2.1 S.2.2.2.2.2.2.2.1.2.2.1 S.2.2.2.2.2.2.2.1.2.2.2, bX0 G q (o + 43) S.2.2.2.2.2.2.2.2.1.2.2.1 S.2.2.2.2.2.2.2.2.1.2.2.2, bX2 G q ((o + 43) + 3) S.2.2.2.2.2.2.2.2.1.1.1 S.2.2.2.2.2.2.2.2.1.1.2.1 S.2.2.2.2.2.2.2.2.1.1.2.2.1 S.2.2.2.2.2.2.2.2.1.1.2.2.2.1 S.2.2.2.2.2.2.2.2.1.1.2.2.2.2.1 S.2.2.2.2.2.2.2.2.1.1.2.2.2.2.2.1 S.2.2.2.2.2.2.2.2.1.1.2.2.2.2.2.2.1 S.2.2.2.2.2.2.2.2.1.1.2.2.2.2.2.2.2, bX4 G q ((o + 43) + 9) S.2.2.2.2.2.2.2.2.1.2.1.1 S.2.2.2.2.2.2.2.2.1.2.1.2, bX7 G q (o + 54) S.2.2.2.2.2.2.2.2.2.1 S.2.2.2.2.2.2.2.2.2.2.1 S.2.2.2.2.2.2.2.2.2.2.2] (some (.int y.1)) [bX10 G q o, bX9 G q (o + 1) y.2.1.1 y.2.1.2.1 y.2.1.2.2.1 y.2.1.2.2.2.1 y.2.1.2.2.2.2, bX6 G q (o + 3) y.2.2.1.1 y.2.2.1.2, bX8 G q (o + 12) y.2.2.2.1.1 y.2.2.2.1.2, bX5 G q (o + 19) y.2.2.2.2.1.2.1 y.2.2.2.2.1.2.2.1 y.2.2.2.2.1.2.2.2.1 y.2.2.2.2.1.2.2.2.2, bX2 G q ((o + 19) + 2) y.2.2.2.2.1.1.1 y.2.2.2.2.1.1.2.1 y.2.2.2.2.1.1.2.2.1 y.2.2.2.2.1.1.2.2.2.1 y.2.2.2.2.1.1.2.2.2.2.1 y.2.2.2.2.1.1.2.2.2.2.2.1 y.2.2.2.2.1.1.2.2.2.2.2.2.1 y.2.2.2.2.1.1.2.2.2.2.2.2.2, bX2 G q (o + 27) y.2.2.2.2.2.1.1 y.2.2.2.2.2.1.2.1 y.2.2.2.2.2.1.2.2.1 y.2.2.2.2.2.1.2.2.2.1 y.2.2.2.2.2.1.2.2.2.2.1 y.2.2.2.2.2.1.2.2.2.2.2.1 y.2.2.2.2.2.1.2.2.2.2.2.2.1 y.2.2.2.2.2.1.2.2.2.2.2.2.2, bX1 G q (o + 33) y.2.2.2.2.2.2.1.1 y.2.2.2.2.2.2.1.2.1 y.2.2.2.2.2.2.1.2.2.1 y.2.2.2.2.2.2.1.2.2.2, bX4 G q (o + 36) y.2.2.2.2.2.2.2.1.1 y.2.2.2.2.2.2.2.1.2, bX3 G q (o + 38) y.2.2.2.2.2.2.2.2.1.1 y.2.2.2.2.2.2.2.2.1.2.1 y.2.2.2.2.2.2.2.2.1.2.2.1 y.2.2.2.2.2.2.2.2.1.2.2.2, bX0 G q (o + 43) y.2.2.2.2.2.2.2.2.2.1.2.2.1 y.2.2.2.2.2.2.2.2.2.1.2.2.2, bX2 G q ((o + 43) + 3) y.2.2.2.2.2.2.2.2.2.1.1.1 y.2.2.2.2.2.2.2.2.2.1.1.2.1 y.2.2.2.2.2.2.2.2.2.1.1.2.2.1 y.2.2.2.2.2.2.2.2.2.1.1.2.2.2.1 y.2.2.2.2.2.2.2.2.2.1.1.2.2.2.2.1 y.2.2.2.2.2.2.2.2.2.1.1.2.2.2.2.2.1 y.2.2.2.2.2.2.2.2.2.1.1.2.2.2.2.2.2.1 y.2.2.2.2.2.2.2.2.2.1.1.2.2.2.2.2.2.2, bX4 G q ((o + 43) + 9) y.2.2.2.2.2.2.2.2.2.1.2.1.1 y.2.2.2.2.2.2.2.2.2.1.2.1.2, bX7 G q (o + 54) y.2.2.2.2.2.2.2.2.2.2.1 y.2.2.2.2.2.2.2.2.2.2.2.1 y.2.2.2.2.2.2.2.2.2.2.2.2] := by
  refine z_met zc_X10_let (Nat.le_of_ble_eq_true rfl) ?_
  intro p e s m below meth c A ls hZ hl hw
  have hl : lv_has ls 3 [(0, .ref (q (o + 0))), (1, .int v1)] := hl
  obtain ⟨hS0, hr, hlk, hK, hA, hT⟩ := id hZ
  have hx := hS0.1
  have hb := hS0.2.1
  have hml := hS0.2.2.1
  have hown : s.vm.findClass RX10 = some m.cls := hS0.2.2.2.1
  have hts := hS0.2.2.2.2
  unfold f_X10_let at hf
  refine lv_aload_n hx hb dX10_let_0 rfl (lv_at hl 0 rfl) ?_
  refine lv_iload_n hx hb dX10_let_1 rfl (lv_at hl 1 rfl) ?_
  obtain ⟨r1, e2, hf⟩ := z_bd hf
  refine z_callV1 (As := [.int v1]) (rest := []) (bs' := [bX10 G q o, bX9 G q (o + 1) S.1.1 S.1.2.1 S.1.2.2.1 S.1.2.2.2.1 S.1.2.2.2.2, bX6 G q (o + 3) S.2.1.1 S.2.1.2, bX8 G q (o + 12) S.2.2.1.1 S.2.2.1.2, bX5 G q (o + 19) S.2.2.2.1.2.1 S.2.2.2.1.2.2.1 S.2.2.2.1.2.2.2.1 S.2.2.2.1.2.2.2.2, bX2 G q ((o + 19) + 2) S.2.2.2.1.1.1 S.2.2.2.1.1.2.1 S.2.2.2.1.1.2.2.1 S.2.2.2.1.1.2.2.2.1 S.2.2.2.1.1.2.2.2.2.1 S.2.2.2.1.1.2.2.2.2.2.1 S.2.2.2.1.1.2.2.2.2.2.2.1 S.2.2.2.1.1.2.2.2.2.2.2.2, bX2 G q (o + 27) S.2.2.2.2.1.1 S.2.2.2.2.1.2.1 S.2.2.2.2.1.2.2.1 S.2.2.2.2.1.2.2.2.1 S.2.2.2.2.1.2.2.2.2.1 S.2.2.2.2.1.2.2.2.2.2.1 S.2.2.2.2.1.2.2.2.2.2.2.1 S.2.2.2.2.1.2.2.2.2.2.2.2, bX1 G q (o + 33) S.2.2.2.2.2.1.1 S.2.2.2.2.2.1.2.1 S.2.2.2.2.2.1.2.2.1 S.2.2.2.2.2.1.2.2.2, bX4 G q (o + 36) S.2.2.2.2.2.2.1.1 S.2.2.2.2.2.2.1.2, bX3 G q (o + 38) S.2.2.2.2.2.2.2.1.1 S.2.2.2.2.2.2.2.1.2.1 S.2.2.2.2.2.2.2.1.2.2.1 S.2.2.2.2.2.2.2.1.2.2.2, bX0 G q (o + 43) S.2.2.2.2.2.2.2.2.1.2.2.1 S.2.2.2.2.2.2.2.2.1.2.2.2, bX2 G q ((o + 43) + 3) S.2.2.2.2.2.2.2.2.1.1.1 S.2.2.2.2.2.2.2.2.1.1.2.1 S.2.2.2.2.2.2.2.2.1.1.2.2.1 S.2.2.2.2.2.2.2.2.1.1.2.2.2.1 S.2.2.2.2.2.2.2.2.1.1.2.2.2.2.1 S.2.2.2.2.2.2.2.2.1.1.2.2.2.2.2.1 S.2.2.2.2.2.2.2.2.1.1.2.2.2.2.2.2.1 S.2.2.2.2.2.2.2.2.1.1.2.2.2.2.2.2.2, bX4 G q ((o + 43) + 9) S.2.2.2.2.2.2.2.2.1.2.1.1 S.2.2.2.2.2.2.2.2.1.2.1.2, bX7 G q (o + 54) S.2.2.2.2.2.2.2.2.2.1 S.2.2.2.2.2.2.2.2.2.2.1 S.2.2.2.2.2.2.2.2.2.2.2]) hS0 (c_X10_can l G q o S v1 r1 e2) zc_X10_can rfl gX10_let_X10_can ⟨Nat.le_of_ble_eq_true rfl, Nat.le_of_ble_eq_true rfl⟩ hK hA hT hw (is := [0, 1, 2, 3, 4, 5, 6, 7, 8, 9, 10, 11, 12, 13]) rfl rfl rfl rfl rfl rfl rfl hl.1 rfl (Nat.le_of_ble_eq_true rfl) dX10_let_2 (fun H locs hw => ?_)
  refine lv_istore_n (lv' := [(2, .int r1), (0, .ref (q (o + 0))), (1, .int v1)]) hx hb dX10_let_5 rfl hl (by decide) rfl (fun ls hl => ?_)
  refine lv_iload_n hx hb dX10_let_6 rfl (lv_at hl 0 rfl) ?_
  refine lv_if_lt (tgt := 19) hx hb dX10_let_7 rfl (fun hc => ?_) (fun hc => ?_)
  · have hf := z_t hc hf
    refine lv_iload_n hx hb dX10_let_19 rfl (lv_at hl 0 rfl) ?_
    cases hf
    exact z_iret hx hb hr hlk hw dX10_let_20
  · have hf := z_f hc hf
    refine lv_aload_n hx hb dX10_let_10 rfl (lv_at hl 1 rfl) ?_
    refine z_get hS0 in_X10_let_X10 hK hw 0 5 rfl rfl rfl (by decide) (hts _ m_X10_let_0) (v := .ref (q ((o + 33) + 0))) rfl dX10_let_11 ?_
    refine lv_iload_n hx hb dX10_let_14 rfl (lv_at hl 2 rfl) ?_
    refine lv_iload_n hx hb dX10_let_15 rfl (lv_at hl 0 rfl) ?_
    obtain ⟨r3, e4, hf⟩ := z_bd hf
    refine z_callV0 (As := [.int v1, .int r1]) (rest := []) (bs' := [bX10 G q o, bX9 G q (o + 1) S.1.1 S.1.2.1 S.1.2.2.1 S.1.2.2.2.1 S.1.2.2.2.2, bX6 G q (o + 3) S.2.1.1 S.2.1.2, bX8 G q (o + 12) S.2.2.1.1 S.2.2.1.2, bX5 G q (o + 19) S.2.2.2.1.2.1 S.2.2.2.1.2.2.1 S.2.2.2.1.2.2.2.1 S.2.2.2.1.2.2.2.2, bX2 G q ((o + 19) + 2) S.2.2.2.1.1.1 S.2.2.2.1.1.2.1 S.2.2.2.1.1.2.2.1 S.2.2.2.1.1.2.2.2.1 S.2.2.2.1.1.2.2.2.2.1 S.2.2.2.1.1.2.2.2.2.2.1 S.2.2.2.1.1.2.2.2.2.2.2.1 S.2.2.2.1.1.2.2.2.2.2.2.2, bX2 G q (o + 27) S.2.2.2.2.1.1 S.2.2.2.2.1.2.1 S.2.2.2.2.1.2.2.1 S.2.2.2.2.1.2.2.2.1 S.2.2.2.2.1.2.2.2.2.1 S.2.2.2.2.1.2.2.2.2.2.1 S.2.2.2.2.1.2.2.2.2.2.2.1 S.2.2.2.2.1.2.2.2.2.2.2.2, bX1 G q (o + 33) r3.1 r3.2.1 r3.2.2.1 r3.2.2.2, bX4 G q (o + 36) S.2.2.2.2.2.2.1.1 S.2.2.2.2.2.2.1.2, bX3 G q (o + 38) S.2.2.2.2.2.2.2.1.1 S.2.2.2.2.2.2.2.1.2.1 S.2.2.2.2.2.2.2.1.2.2.1 S.2.2.2.2.2.2.2.1.2.2.2, bX0 G q (o + 43) S.2.2.2.2.2.2.2.2.1.2.2.1 S.2.2.2.2.2.2.2.2.1.2.2.2, bX2 G q ((o + 43) + 3) S.2.2.2.2.2.2.2.2.1.1.1 S.2.2.2.2.2.2.2.2.1.1.2.1 S.2.2.2.2.2.2.2.2.1.1.2.2.1 S.2.2.2.2.2.2.2.2.1.1.2.2.2.1 S.2.2.2.2.2.2.2.2.1.1.2.2.2.2.1 S.2.2.2.2.2.2.2.2.1.1.2.2.2.2.2.1 S.2.2.2.2.2.2.2.2.1.1.2.2.2.2.2.2.1 S.2.2.2.2.2.2.2.2.1.1.2.2.2.2.2.2.2, bX4 G q ((o + 43) + 9) S.2.2.2.2.2.2.2.2.1.2.1.1 S.2.2.2.2.2.2.2.2.1.2.1.2, bX7 G q (o + 54) S.2.2.2.2.2.2.2.2.2.1 S.2.2.2.2.2.2.2.2.2.2.1 S.2.2.2.2.2.2.2.2.2.2.2]) hS0 (c_X1_addOut l G q (o + 33) S.2.2.2.2.2.1 v1 r1 r3 e4) zc_X1_addOut rfl gX10_let_X1_addOut ⟨Nat.le_of_ble_eq_true rfl, Nat.le_of_ble_eq_true rfl⟩ hK hA hT hw (is := [7]) rfl rfl rfl rfl rfl rfl rfl hl.1 rfl (Nat.le_of_ble_eq_true rfl) dX10_let_16 (fun H locs hw => ?_)
    refine lv_iload_n hx hb dX10_let_19 rfl (lv_at hl 0 rfl) ?_
    cases hf
    exact z_iret hx hb hr hlk hw dX10_let_20
theorem zc_X10_letRowOut : zC yX10_letRowOut wsX10_letRowOut cX10_letRowOut 8 (some .int) 1 := ⟨⟨_, rfl⟩, by decide +kernel, by decide +kernel, by decide +kernel, by decide +kernel⟩
theorem m_X10_letRowOut_0 : (.fieldLink RX10 10 "CellKeys" "told" "LCellKeys$Told;" : Cond) ∈ wsX10_letRowOut := by decide +kernel
theorem in_X10_letRowOut_X10 : ∀ w ∈ u_ws RX10 TX10 10, w ∈ wsX10_letRowOut := by decide +kernel
theorem m_X10_letRowOut_1 : (.fieldLink RX10 19 "CellKeys" "rows" "LCellKeys$Rows;" : Cond) ∈ wsX10_letRowOut := by decide +kernel
theorem m_X10_letRowOut_2 : (.fieldLink RX10 40 "CellKeys" "jail" "LCellKeys$Jail;" : Cond) ∈ wsX10_letRowOut := by decide +kernel
set_option maxHeartbeats 4000000 in
set_option maxRecDepth 100000 in
theorem k_X10_letRowOut_83 {p : Program} {l : Launch} {e : Env} {s : State} {m : MethodId} {args : Array Value} {below : List Frame} {meth : Method} {c : Code} {A : Nat → Prop} {G : zG} {q : Nat → Nat} {o : Nat}  (hZ : zZ p s m args meth c A G cX10_letRowOut 8 RX10 wsX10_letRowOut (some .int)) (y : Int32 × VX10)  : ∀ (S : VX10) (v3 : Int32) (v4 : Int32) (H : Heap) (locs : List Loc) (ls : Array Slot), f_X10_letRowOut_83 S v3 v4 = some y → zH G A s.heap [bX10 G q o, bX9 G q (o + 1) S.1.1 S.1.2.1 S.1.2.2.1 S.1.2.2.2.1 S.1.2.2.2.2, bX6 G q (o + 3) S.2.1.1 S.2.1.2, bX8 G q (o + 12) S.2.2.1.1 S.2.2.1.2, bX5 G q (o + 19) S.2.2.2.1.2.1 S.2.2.2.1.2.2.1 S.2.2.2.1.2.2.2.1 S.2.2.2.1.2.2.2.2, bX2 G q ((o + 19) + 2) S.2.2.2.1.1.1 S.2.2.2.1.1.2.1 S.2.2.2.1.1.2.2.1 S.2.2.2.1.1.2.2.2.1 S.2.2.2.1.1.2.2.2.2.1 S.2.2.2.1.1.2.2.2.2.2.1 S.2.2.2.1.1.2.2.2.2.2.2.1 S.2.2.2.1.1.2.2.2.2.2.2.2, bX2 G q (o + 27) S.2.2.2.2.1.1 S.2.2.2.2.1.2.1 S.2.2.2.2.1.2.2.1 S.2.2.2.2.1.2.2.2.1 S.2.2.2.2.1.2.2.2.2.1 S.2.2.2.2.1.2.2.2.2.2.1 S.2.2.2.2.1.2.2.2.2.2.2.1 S.2.2.2.2.1.2.2.2.2.2.2.2, bX1 G q (o + 33) S.2.2.2.2.2.1.1 S.2.2.2.2.2.1.2.1 S.2.2.2.2.2.1.2.2.1 S.2.2.2.2.2.1.2.2.2, bX4 G q (o + 36) S.2.2.2.2.2.2.1.1 S.2.2.2.2.2.2.1.2, bX3 G q (o + 38) S.2.2.2.2.2.2.2.1.1 S.2.2.2.2.2.2.2.1.2.1 S.2.2.2.2.2.2.2.1.2.2.1 S.2.2.2.2.2.2.2.1.2.2.2, bX0 G q (o + 43) S.2.2.2.2.2.2.2.2.1.2.2.1 S.2.2.2.2.2.2.2.2.1.2.2.2, bX2 G q ((o + 43) + 3) S.2.2.2.2.2.2.2.2.1.1.1 S.2.2.2.2.2.2.2.2.1.1.2.1 S.2.2.2.2.2.2.2.2.1.1.2.2.1 S.2.2.2.2.2.2.2.2.1.1.2.2.2.1 S.2.2.2.2.2.2.2.2.1.1.2.2.2.2.1 S.2.2.2.2.2.2.2.2.1.1.2.2.2.2.2.1 S.2.2.2.2.2.2.2.2.1.1.2.2.2.2.2.2.1 S.2.2.2.2.2.2.2.2.1.1.2.2.2.2.2.2.2, bX4 G q ((o + 43) + 9) S.2.2.2.2.2.2.2.2.1.2.1.1 S.2.2.2.2.2.2.2.2.1.2.1.2, bX7 G q (o + 54) S.2.2.2.2.2.2.2.2.2.1 S.2.2.2.2.2.2.2.2.2.2.1 S.2.2.2.2.2.2.2.2.2.2.2] H locs → lv_has ls 8 [(0, .ref (q (o + 0))), (3, .int v3), (4, .int v4)] → W p l e { frames := 4, cells := 0, slots := 0, locals := 86 } s m args below meth c H locs 0 0 (MQ below (zQ (some (.int y.1)) (zPost G [bX10 G q o, bX9 G q (o + 1) y.2.1.1 y.2.1.2.1 y.2.1.2.2.1 y.2.1.2.2.2.1 y.2.1.2.2.2.2, bX6 G q (o + 3) y.2.2.1.1 y.2.2.1.2, bX8 G q (o + 12) y.2.2.2.1.1 y.2.2.2.1.2, bX5 G q (o + 19) y.2.2.2.2.1.2.1 y.2.2.2.2.1.2.2.1 y.2.2.2.2.1.2.2.2.1 y.2.2.2.2.1.2.2.2.2, bX2 G q ((o + 19) + 2) y.2.2.2.2.1.1.1 y.2.2.2.2.1.1.2.1 y.2.2.2.2.1.1.2.2.1 y.2.2.2.2.1.1.2.2.2.1 y.2.2.2.2.1.1.2.2.2.2.1 y.2.2.2.2.1.1.2.2.2.2.2.1 y.2.2.2.2.1.1.2.2.2.2.2.2.1 y.2.2.2.2.1.1.2.2.2.2.2.2.2, bX2 G q (o + 27) y.2.2.2.2.2.1.1 y.2.2.2.2.2.1.2.1 y.2.2.2.2.2.1.2.2.1 y.2.2.2.2.2.1.2.2.2.1 y.2.2.2.2.2.1.2.2.2.2.1 y.2.2.2.2.2.1.2.2.2.2.2.1 y.2.2.2.2.2.1.2.2.2.2.2.2.1 y.2.2.2.2.2.1.2.2.2.2.2.2.2, bX1 G q (o + 33) y.2.2.2.2.2.2.1.1 y.2.2.2.2.2.2.1.2.1 y.2.2.2.2.2.2.1.2.2.1 y.2.2.2.2.2.2.1.2.2.2, bX4 G q (o + 36) y.2.2.2.2.2.2.2.1.1 y.2.2.2.2.2.2.2.1.2, bX3 G q (o + 38) y.2.2.2.2.2.2.2.2.1.1 y.2.2.2.2.2.2.2.2.1.2.1 y.2.2.2.2.2.2.2.2.1.2.2.1 y.2.2.2.2.2.2.2.2.1.2.2.2, bX0 G q (o + 43) y.2.2.2.2.2.2.2.2.2.1.2.2.1 y.2.2.2.2.2.2.2.2.2.1.2.2.2, bX2 G q ((o + 43) + 3) y.2.2.2.2.2.2.2.2.2.1.1.1 y.2.2.2.2.2.2.2.2.2.1.1.2.1 y.2.2.2.2.2.2.2.2.2.1.1.2.2.1 y.2.2.2.2.2.2.2.2.2.1.1.2.2.2.1 y.2.2.2.2.2.2.2.2.2.1.1.2.2.2.2.1 y.2.2.2.2.2.2.2.2.2.1.1.2.2.2.2.2.1 y.2.2.2.2.2.2.2.2.2.1.1.2.2.2.2.2.2.1 y.2.2.2.2.2.2.2.2.2.1.1.2.2.2.2.2.2.2, bX4 G q ((o + 43) + 9) y.2.2.2.2.2.2.2.2.2.1.2.1.1 y.2.2.2.2.2.2.2.2.2.1.2.1.2, bX7 G q (o + 54) y.2.2.2.2.2.2.2.2.2.2.1 y.2.2.2.2.2.2.2.2.2.2.2.1 y.2.2.2.2.2.2.2.2.2.2.2.2]) A) args s 0 0 A) (F0 m 83 ls []) := by
  obtain ⟨hS0, hr, hlk, hK, hA, hT⟩ := id hZ
  have hx := hS0.1
  have hb := hS0.2.1
  have hml := hS0.2.2.1
  have hown : s.vm.findClass RX10 = some m.cls := hS0.2.2.2.1
  have hts := hS0.2.2.2.2
  intro S v3 v4 H locs ls hf hw hl
  unfold f_X10_letRowOut_83 at hf
  refine lv_aload_n hx hb dX10_letRowOut_83 rfl (lv_at hl 0 rfl) ?_
  refine z_get hS0 in_X10_letRowOut_X10 hK hw 0 0 rfl rfl rfl (by decide) (hts _ m_X10_letRowOut_0) (v := .ref (q ((o + 1) + 0))) rfl dX10_letRowOut_84 ?_
  refine lv_iload_n hx hb dX10_letRowOut_87 rfl (lv_at hl 1 rfl) ?_
  obtain ⟨r1, e2, hf⟩ := z_bd hf
  refine z_callV0 (As := [.int v3]) (rest := []) (bs' := [bX10 G q o, bX9 G q (o + 1) r1.1 r1.2.1 r1.2.2.1 r1.2.2.2.1 r1.2.2.2.2, bX6 G q (o + 3) S.2.1.1 S.2.1.2, bX8 G q (o + 12) S.2.2.1.1 S.2.2.1.2, bX5 G q (o + 19) S.2.2.2.1.2.1 S.2.2.2.1.2.2.1 S.2.2.2.1.2.2.2.1 S.2.2.2.1.2.2.2.2, bX2 G q ((o + 19) + 2) S.2.2.2.1.1.1 S.2.2.2.1.1.2.1 S.2.2.2.1.1.2.2.1 S.2.2.2.1.1.2.2.2.1 S.2.2.2.1.1.2.2.2.2.1 S.2.2.2.1.1.2.2.2.2.2.1 S.2.2.2.1.1.2.2.2.2.2.2.1 S.2.2.2.1.1.2.2.2.2.2.2.2, bX2 G q (o + 27) S.2.2.2.2.1.1 S.2.2.2.2.1.2.1 S.2.2.2.2.1.2.2.1 S.2.2.2.2.1.2.2.2.1 S.2.2.2.2.1.2.2.2.2.1 S.2.2.2.2.1.2.2.2.2.2.1 S.2.2.2.2.1.2.2.2.2.2.2.1 S.2.2.2.2.1.2.2.2.2.2.2.2, bX1 G q (o + 33) S.2.2.2.2.2.1.1 S.2.2.2.2.2.1.2.1 S.2.2.2.2.2.1.2.2.1 S.2.2.2.2.2.1.2.2.2, bX4 G q (o + 36) S.2.2.2.2.2.2.1.1 S.2.2.2.2.2.2.1.2, bX3 G q (o + 38) S.2.2.2.2.2.2.2.1.1 S.2.2.2.2.2.2.2.1.2.1 S.2.2.2.2.2.2.2.1.2.2.1 S.2.2.2.2.2.2.2.1.2.2.2, bX0 G q (o + 43) S.2.2.2.2.2.2.2.2.1.2.2.1 S.2.2.2.2.2.2.2.2.1.2.2.2, bX2 G q ((o + 43) + 3) S.2.2.2.2.2.2.2.2.1.1.1 S.2.2.2.2.2.2.2.2.1.1.2.1 S.2.2.2.2.2.2.2.2.1.1.2.2.1 S.2.2.2.2.2.2.2.2.1.1.2.2.2.1 S.2.2.2.2.2.2.2.2.1.1.2.2.2.2.1 S.2.2.2.2.2.2.2.2.1.1.2.2.2.2.2.1 S.2.2.2.2.2.2.2.2.1.1.2.2.2.2.2.2.1 S.2.2.2.2.2.2.2.2.1.1.2.2.2.2.2.2.2, bX4 G q ((o + 43) + 9) S.2.2.2.2.2.2.2.2.1.2.1.1 S.2.2.2.2.2.2.2.2.1.2.1.2, bX7 G q (o + 54) S.2.2.2.2.2.2.2.2.2.1 S.2.2.2.2.2.2.2.2.2.2.1 S.2.2.2.2.2.2.2.2.2.2.2]) hS0 (c_X9_tell l G q (o + 1) S.1 v3 r1 e2) zc_X9_tell rfl gX10_letRowOut_X9_tell ⟨Nat.le_of_ble_eq_true rfl, Nat.le_of_ble_eq_true rfl⟩ hK hA hT hw (is := [1]) rfl rfl rfl rfl rfl rfl rfl hl.1 rfl (Nat.le_of_ble_eq_true rfl) dX10_letRowOut_88 (fun H locs hw => ?_)
  refine lv_iload hx hb dX10_letRowOut_91 (lv_at hl 2 rfl) ?_
  cases hf
  exact z_iret hx hb hr hlk hw dX10_letRowOut_93
set_option maxHeartbeats 4000000 in
set_option maxRecDepth 100000 in
theorem k_X10_letRowOut_10 {p : Program} {l : Launch} {e : Env} {s : State} {m : MethodId} {args : Array Value} {below : List Frame} {meth : Method} {c : Code} {A : Nat → Prop} {G : zG} {q : Nat → Nat} {o : Nat}  (hZ : zZ p s m args meth c A G cX10_letRowOut 8 RX10 wsX10_letRowOut (some .int)) (y : Int32 × VX10)  (n : Nat) : ∀ (S : VX10) (v1 : Int32) (v2 : Int32) (v3 : Int32) (v4 : Int32) (v5 : Int32) (H : Heap) (locs : List Loc) (ls : Array Slot), f_X10_letRowOut_10 n S v1 v2 v3 v4 v5 = some y → zH G A s.heap [bX10 G q o, bX9 G q (o + 1) S.1.1 S.1.2.1 S.1.2.2.1 S.1.2.2.2.1 S.1.2.2.2.2, bX6 G q (o + 3) S.2.1.1 S.2.1.2, bX8 G q (o + 12) S.2.2.1.1 S.2.2.1.2, bX5 G q (o + 19) S.2.2.2.1.2.1 S.2.2.2.1.2.2.1 S.2.2.2.1.2.2.2.1 S.2.2.2.1.2.2.2.2, bX2 G q ((o + 19) + 2) S.2.2.2.1.1.1 S.2.2.2.1.1.2.1 S.2.2.2.1.1.2.2.1 S.2.2.2.1.1.2.2.2.1 S.2.2.2.1.1.2.2.2.2.1 S.2.2.2.1.1.2.2.2.2.2.1 S.2.2.2.1.1.2.2.2.2.2.2.1 S.2.2.2.1.1.2.2.2.2.2.2.2, bX2 G q (o + 27) S.2.2.2.2.1.1 S.2.2.2.2.1.2.1 S.2.2.2.2.1.2.2.1 S.2.2.2.2.1.2.2.2.1 S.2.2.2.2.1.2.2.2.2.1 S.2.2.2.2.1.2.2.2.2.2.1 S.2.2.2.2.1.2.2.2.2.2.2.1 S.2.2.2.2.1.2.2.2.2.2.2.2, bX1 G q (o + 33) S.2.2.2.2.2.1.1 S.2.2.2.2.2.1.2.1 S.2.2.2.2.2.1.2.2.1 S.2.2.2.2.2.1.2.2.2, bX4 G q (o + 36) S.2.2.2.2.2.2.1.1 S.2.2.2.2.2.2.1.2, bX3 G q (o + 38) S.2.2.2.2.2.2.2.1.1 S.2.2.2.2.2.2.2.1.2.1 S.2.2.2.2.2.2.2.1.2.2.1 S.2.2.2.2.2.2.2.1.2.2.2, bX0 G q (o + 43) S.2.2.2.2.2.2.2.2.1.2.2.1 S.2.2.2.2.2.2.2.2.1.2.2.2, bX2 G q ((o + 43) + 3) S.2.2.2.2.2.2.2.2.1.1.1 S.2.2.2.2.2.2.2.2.1.1.2.1 S.2.2.2.2.2.2.2.2.1.1.2.2.1 S.2.2.2.2.2.2.2.2.1.1.2.2.2.1 S.2.2.2.2.2.2.2.2.1.1.2.2.2.2.1 S.2.2.2.2.2.2.2.2.1.1.2.2.2.2.2.1 S.2.2.2.2.2.2.2.2.1.1.2.2.2.2.2.2.1 S.2.2.2.2.2.2.2.2.1.1.2.2.2.2.2.2.2, bX4 G q ((o + 43) + 9) S.2.2.2.2.2.2.2.2.1.2.1.1 S.2.2.2.2.2.2.2.2.1.2.1.2, bX7 G q (o + 54) S.2.2.2.2.2.2.2.2.2.1 S.2.2.2.2.2.2.2.2.2.2.1 S.2.2.2.2.2.2.2.2.2.2.2] H locs → lv_has ls 8 [(0, .ref (q (o + 0))), (1, .int v1), (2, .int v2), (3, .int v3), (4, .int v4), (5, .int v5)] → W p l e { frames := 4, cells := 0, slots := 0, locals := 86 } s m args below meth c H locs 0 0 (MQ below (zQ (some (.int y.1)) (zPost G [bX10 G q o, bX9 G q (o + 1) y.2.1.1 y.2.1.2.1 y.2.1.2.2.1 y.2.1.2.2.2.1 y.2.1.2.2.2.2, bX6 G q (o + 3) y.2.2.1.1 y.2.2.1.2, bX8 G q (o + 12) y.2.2.2.1.1 y.2.2.2.1.2, bX5 G q (o + 19) y.2.2.2.2.1.2.1 y.2.2.2.2.1.2.2.1 y.2.2.2.2.1.2.2.2.1 y.2.2.2.2.1.2.2.2.2, bX2 G q ((o + 19) + 2) y.2.2.2.2.1.1.1 y.2.2.2.2.1.1.2.1 y.2.2.2.2.1.1.2.2.1 y.2.2.2.2.1.1.2.2.2.1 y.2.2.2.2.1.1.2.2.2.2.1 y.2.2.2.2.1.1.2.2.2.2.2.1 y.2.2.2.2.1.1.2.2.2.2.2.2.1 y.2.2.2.2.1.1.2.2.2.2.2.2.2, bX2 G q (o + 27) y.2.2.2.2.2.1.1 y.2.2.2.2.2.1.2.1 y.2.2.2.2.2.1.2.2.1 y.2.2.2.2.2.1.2.2.2.1 y.2.2.2.2.2.1.2.2.2.2.1 y.2.2.2.2.2.1.2.2.2.2.2.1 y.2.2.2.2.2.1.2.2.2.2.2.2.1 y.2.2.2.2.2.1.2.2.2.2.2.2.2, bX1 G q (o + 33) y.2.2.2.2.2.2.1.1 y.2.2.2.2.2.2.1.2.1 y.2.2.2.2.2.2.1.2.2.1 y.2.2.2.2.2.2.1.2.2.2, bX4 G q (o + 36) y.2.2.2.2.2.2.2.1.1 y.2.2.2.2.2.2.2.1.2, bX3 G q (o + 38) y.2.2.2.2.2.2.2.2.1.1 y.2.2.2.2.2.2.2.2.1.2.1 y.2.2.2.2.2.2.2.2.1.2.2.1 y.2.2.2.2.2.2.2.2.1.2.2.2, bX0 G q (o + 43) y.2.2.2.2.2.2.2.2.2.1.2.2.1 y.2.2.2.2.2.2.2.2.2.1.2.2.2, bX2 G q ((o + 43) + 3) y.2.2.2.2.2.2.2.2.2.1.1.1 y.2.2.2.2.2.2.2.2.2.1.1.2.1 y.2.2.2.2.2.2.2.2.2.1.1.2.2.1 y.2.2.2.2.2.2.2.2.2.1.1.2.2.2.1 y.2.2.2.2.2.2.2.2.2.1.1.2.2.2.2.1 y.2.2.2.2.2.2.2.2.2.1.1.2.2.2.2.2.1 y.2.2.2.2.2.2.2.2.2.1.1.2.2.2.2.2.2.1 y.2.2.2.2.2.2.2.2.2.1.1.2.2.2.2.2.2.2, bX4 G q ((o + 43) + 9) y.2.2.2.2.2.2.2.2.2.1.2.1.1 y.2.2.2.2.2.2.2.2.2.1.2.1.2, bX7 G q (o + 54) y.2.2.2.2.2.2.2.2.2.2.1 y.2.2.2.2.2.2.2.2.2.2.2.1 y.2.2.2.2.2.2.2.2.2.2.2.2]) A) args s 0 0 A) (F0 m 10 ls []) := by
  obtain ⟨hS0, hr, hlk, hK, hA, hT⟩ := id hZ
  have hx := hS0.1
  have hb := hS0.2.1
  have hml := hS0.2.2.1
  have hown : s.vm.findClass RX10 = some m.cls := hS0.2.2.2.1
  have hts := hS0.2.2.2.2
  induction n with
  | zero =>
    intro S v1 v2 v3 v4 v5 H locs ls hf hw hl
    unfold f_X10_letRowOut_10 at hf
    cases hf
  | succ n ih =>
    intro S v1 v2 v3 v4 v5 H locs ls hf hw hl
    unfold f_X10_letRowOut_10 at hf
    refine lv_iload hx hb dX10_letRowOut_10 (lv_at hl 5 rfl) ?_
    refine lv_aload_n hx hb dX10_letRowOut_12 rfl (lv_at hl 0 rfl) ?_
    refine z_get hS0 in_X10_letRowOut_X10 hK hw 0 1 rfl rfl rfl (by decide) (hts _ m_X10_letRowOut_1) (v := .ref (q ((o + 3) + 0))) rfl dX10_letRowOut_13 ?_
    refine lv_iload_n hx hb dX10_letRowOut_16 rfl (lv_at hl 1 rfl) ?_
    obtain ⟨r3, e4, hf⟩ := z_bd hf
    refine z_callV1 (As := [.int v1]) (rest := [.int v5]) (bs' := [bX10 G q o, bX9 G q (o + 1) S.1.1 S.1.2.1 S.1.2.2.1 S.1.2.2.2.1 S.1.2.2.2.2, bX6 G q (o + 3) S.2.1.1 S.2.1.2, bX8 G q (o + 12) S.2.2.1.1 S.2.2.1.2, bX5 G q (o + 19) S.2.2.2.1.2.1 S.2.2.2.1.2.2.1 S.2.2.2.1.2.2.2.1 S.2.2.2.1.2.2.2.2, bX2 G q ((o + 19) + 2) S.2.2.2.1.1.1 S.2.2.2.1.1.2.1 S.2.2.2.1.1.2.2.1 S.2.2.2.1.1.2.2.2.1 S.2.2.2.1.1.2.2.2.2.1 S.2.2.2.1.1.2.2.2.2.2.1 S.2.2.2.1.1.2.2.2.2.2.2.1 S.2.2.2.1.1.2.2.2.2.2.2.2, bX2 G q (o + 27) S.2.2.2.2.1.1 S.2.2.2.2.1.2.1 S.2.2.2.2.1.2.2.1 S.2.2.2.2.1.2.2.2.1 S.2.2.2.2.1.2.2.2.2.1 S.2.2.2.2.1.2.2.2.2.2.1 S.2.2.2.2.1.2.2.2.2.2.2.1 S.2.2.2.2.1.2.2.2.2.2.2.2, bX1 G q (o + 33) S.2.2.2.2.2.1.1 S.2.2.2.2.2.1.2.1 S.2.2.2.2.2.1.2.2.1 S.2.2.2.2.2.1.2.2.2, bX4 G q (o + 36) S.2.2.2.2.2.2.1.1 S.2.2.2.2.2.2.1.2, bX3 G q (o + 38) S.2.2.2.2.2.2.2.1.1 S.2.2.2.2.2.2.2.1.2.1 S.2.2.2.2.2.2.2.1.2.2.1 S.2.2.2.2.2.2.2.1.2.2.2, bX0 G q (o + 43) S.2.2.2.2.2.2.2.2.1.2.2.1 S.2.2.2.2.2.2.2.2.1.2.2.2, bX2 G q ((o + 43) + 3) S.2.2.2.2.2.2.2.2.1.1.1 S.2.2.2.2.2.2.2.2.1.1.2.1 S.2.2.2.2.2.2.2.2.1.1.2.2.1 S.2.2.2.2.2.2.2.2.1.1.2.2.2.1 S.2.2.2.2.2.2.2.2.1.1.2.2.2.2.1 S.2.2.2.2.2.2.2.2.1.1.2.2.2.2.2.1 S.2.2.2.2.2.2.2.2.1.1.2.2.2.2.2.2.1 S.2.2.2.2.2.2.2.2.1.1.2.2.2.2.2.2.2, bX4 G q ((o + 43) + 9) S.2.2.2.2.2.2.2.2.1.2.1.1 S.2.2.2.2.2.2.2.2.1.2.1.2, bX7 G q (o + 54) S.2.2.2.2.2.2.2.2.2.1 S.2.2.2.2.2.2.2.2.2.2.1 S.2.2.2.2.2.2.2.2.2.2.2]) hS0 (c_X6_sizeOf l G q (o + 3) S.2.1 v1 r3 e4) zc_X6_sizeOf rfl gX10_letRowOut_X6_sizeOf ⟨Nat.le_of_ble_eq_true rfl, Nat.le_of_ble_eq_true rfl⟩ hK hA hT hw (is := [2]) rfl rfl rfl rfl rfl rfl rfl hl.1 rfl (Nat.le_of_ble_eq_true rfl) dX10_letRowOut_17 (fun H locs hw => ?_)
    refine lv_icmp_ge (tgt := 83) hx hb dX10_letRowOut_20 rfl (fun hc => ?_) (fun hc => ?_)
    · have hf := z_t hc hf
      exact k_X10_letRowOut_83 hZ _ _ _ _ _ _ _ hf hw (lv_sub hl [0, 3, 4] rfl)
    · have hf := z_f hc hf
      refine lv_aload_n hx hb dX10_letRowOut_23 rfl (lv_at hl 0 rfl) ?_
      refine z_get hS0 in_X10_letRowOut_X10 hK hw 0 1 rfl rfl rfl (by decide) (hts _ m_X10_letRowOut_1) (v := .ref (q ((o + 3) + 0))) rfl dX10_letRowOut_24 ?_
      refine lv_iload_n hx hb dX10_letRowOut_27 rfl (lv_at hl 1 rfl) ?_
      refine lv_iload hx hb dX10_letRowOut_28 (lv_at hl 5 rfl) ?_
      obtain ⟨r5, e6, hf⟩ := z_bd hf
      refine z_callV1 (As := [.int v1, .int v5]) (rest := []) (bs' := [bX10 G q o, bX9 G q (o + 1) S.1.1 S.1.2.1 S.1.2.2.1 S.1.2.2.2.1 S.1.2.2.2.2, bX6 G q (o + 3) S.2.1.1 S.2.1.2, bX8 G q (o + 12) S.2.2.1.1 S.2.2.1.2, bX5 G q (o + 19) S.2.2.2.1.2.1 S.2.2.2.1.2.2.1 S.2.2.2.1.2.2.2.1 S.2.2.2.1.2.2.2.2, bX2 G q ((o + 19) + 2) S.2.2.2.1.1.1 S.2.2.2.1.1.2.1 S.2.2.2.1.1.2.2.1 S.2.2.2.1.1.2.2.2.1 S.2.2.2.1.1.2.2.2.2.1 S.2.2.2.1.1.2.2.2.2.2.1 S.2.2.2.1.1.2.2.2.2.2.2.1 S.2.2.2.1.1.2.2.2.2.2.2.2, bX2 G q (o + 27) S.2.2.2.2.1.1 S.2.2.2.2.1.2.1 S.2.2.2.2.1.2.2.1 S.2.2.2.2.1.2.2.2.1 S.2.2.2.2.1.2.2.2.2.1 S.2.2.2.2.1.2.2.2.2.2.1 S.2.2.2.2.1.2.2.2.2.2.2.1 S.2.2.2.2.1.2.2.2.2.2.2.2, bX1 G q (o + 33) S.2.2.2.2.2.1.1 S.2.2.2.2.2.1.2.1 S.2.2.2.2.2.1.2.2.1 S.2.2.2.2.2.1.2.2.2, bX4 G q (o + 36) S.2.2.2.2.2.2.1.1 S.2.2.2.2.2.2.1.2, bX3 G q (o + 38) S.2.2.2.2.2.2.2.1.1 S.2.2.2.2.2.2.2.1.2.1 S.2.2.2.2.2.2.2.1.2.2.1 S.2.2.2.2.2.2.2.1.2.2.2, bX0 G q (o + 43) S.2.2.2.2.2.2.2.2.1.2.2.1 S.2.2.2.2.2.2.2.2.1.2.2.2, bX2 G q ((o + 43) + 3) S.2.2.2.2.2.2.2.2.1.1.1 S.2.2.2.2.2.2.2.2.1.1.2.1 S.2.2.2.2.2.2.2.2.1.1.2.2.1 S.2.2.2.2.2.2.2.2.1.1.2.2.2.1 S.2.2.2.2.2.2.2.2.1.1.2.2.2.2.1 S.2.2.2.2.2.2.2.2.1.1.2.2.2.2.2.1 S.2.2.2.2.2.2.2.2.1.1.2.2.2.2.2.2.1 S.2.2.2.2.2.2.2.2.1.1.2.2.2.2.2.2.2, bX4 G q ((o + 43) + 9) S.2.2.2.2.2.2.2.2.1.2.1.1 S.2.2.2.2.2.2.2.2.1.2.1.2, bX7 G q (o + 54) S.2.2.2.2.2.2.2.2.2.1 S.2.2.2.2.2.2.2.2.2.2.1 S.2.2.2.2.2.2.2.2.2.2.2]) hS0 (c_X6_get l G q (o + 3) S.2.1 v1 v5 r5 e6) zc_X6_get rfl gX10_letRowOut_X6_get ⟨Nat.le_of_ble_eq_true rfl, Nat.le_of_ble_eq_true rfl⟩ hK hA hT hw (is := [2]) rfl rfl rfl rfl rfl rfl rfl hl.1 rfl (Nat.le_of_ble_eq_true rfl) dX10_letRowOut_30 (fun H locs hw => ?_)
      refine lv_istore (lv' := [(6, .int r5), (0, .ref (q (o + 0))), (1, .int v1), (2, .int v2), (3, .int v3), (4, .int v4), (5, .int v5)]) hx hb dX10_letRowOut_33 hl (by decide) rfl (fun ls hl => ?_)
      refine lv_aload_n hx hb dX10_letRowOut_35 rfl (lv_at hl 1 rfl) ?_
      refine z_get hS0 in_X10_letRowOut_X10 hK hw 0 4 rfl rfl rfl (by decide) (hts _ m_X10_letRowOut_2) (v := .ref (q ((o + 27) + 0))) rfl dX10_letRowOut_36 ?_
      refine lv_iload hx hb dX10_letRowOut_39 (lv_at hl 0 rfl) ?_
      refine lv_iload_n hx hb dX10_letRowOut_41 rfl (lv_at hl 3 rfl) ?_
      refine lv_aload_n hx hb dX10_letRowOut_42 rfl (lv_at hl 1 rfl) ?_
      refine z_get hS0 in_X10_letRowOut_X10 hK hw 0 4 rfl rfl rfl (by decide) (hts _ m_X10_letRowOut_2) (v := .ref (q ((o + 27) + 0))) rfl dX10_letRowOut_43 ?_
      obtain ⟨r7, e8, hf⟩ := z_bd hf
      refine z_callV1 (As := []) (rest := [.int v2, .int r5, .ref (q ((o + 27) + 0))]) (bs' := [bX10 G q o, bX9 G q (o + 1) S.1.1 S.1.2.1 S.1.2.2.1 S.1.2.2.2.1 S.1.2.2.2.2, bX6 G q (o + 3) S.2.1.1 S.2.1.2, bX8 G q (o + 12) S.2.2.1.1 S.2.2.1.2, bX5 G q (o + 19) S.2.2.2.1.2.1 S.2.2.2.1.2.2.1 S.2.2.2.1.2.2.2.1 S.2.2.2.1.2.2.2.2, bX2 G q ((o + 19) + 2) S.2.2.2.1.1.1 S.2.2.2.1.1.2.1 S.2.2.2.1.1.2.2.1 S.2.2.2.1.1.2.2.2.1 S.2.2.2.1.1.2.2.2.2.1 S.2.2.2.1.1.2.2.2.2.2.1 S.2.2.2.1.1.2.2.2.2.2.2.1 S.2.2.2.1.1.2.2.2.2.2.2.2, bX2 G q (o + 27) S.2.2.2.2.1.1 S.2.2.2.2.1.2.1 S.2.2.2.2.1.2.2.1 S.2.2.2.2.1.2.2.2.1 S.2.2.2.2.1.2.2.2.2.1 S.2.2.2.2.1.2.2.2.2.2.1 S.2.2.2.2.1.2.2.2.2.2.2.1 S.2.2.2.2.1.2.2.2.2.2.2.2, bX1 G q (o + 33) S.2.2.2.2.2.1.1 S.2.2.2.2.2.1.2.1 S.2.2.2.2.2.1.2.2.1 S.2.2.2.2.2.1.2.2.2, bX4 G q (o + 36) S.2.2.2.2.2.2.1.1 S.2.2.2.2.2.2.1.2, bX3 G q (o + 38) S.2.2.2.2.2.2.2.1.1 S.2.2.2.2.2.2.2.1.2.1 S.2.2.2.2.2.2.2.1.2.2.1 S.2.2.2.2.2.2.2.1.2.2.2, bX0 G q (o + 43) S.2.2.2.2.2.2.2.2.1.2.2.1 S.2.2.2.2.2.2.2.2.1.2.2.2, bX2 G q ((o + 43) + 3) S.2.2.2.2.2.2.2.2.1.1.1 S.2.2.2.2.2.2.2.2.1.1.2.1 S.2.2.2.2.2.2.2.2.1.1.2.2.1 S.2.2.2.2.2.2.2.2.1.1.2.2.2.1 S.2.2.2.2.2.2.2.2.1.1.2.2.2.2.1 S.2.2.2.2.2.2.2.2.1.1.2.2.2.2.2.1 S.2.2.2.2.2.2.2.2.1.1.2.2.2.2.2.2.1 S.2.2.2.2.2.2.2.2.1.1.2.2.2.2.2.2.2, bX4 G q ((o + 43) + 9) S.2.2.2.2.2.2.2.2.1.2.1.1 S.2.2.2.2.2.2.2.2.1.2.1.2, bX7 G q (o + 54) S.2.2.2.2.2.2.2.2.2.1 S.2.2.2.2.2.2.2.2.2.2.1 S.2.2.2.2.2.2.2.2.2.2.2]) hS0 (c_X2_everyone l G q (o + 27) S.2.2.2.2.1 r7 e8) zc_X2_everyone rfl gX10_letRowOut_X2_everyone ⟨Nat.le_of_ble_eq_true rfl, Nat.le_of_ble_eq_true rfl⟩ hK hA hT hw (is := [6]) rfl rfl rfl rfl rfl rfl rfl hl.1 rfl (Nat.le_of_ble_eq_true rfl) dX10_letRowOut_46 (fun H locs hw => ?_)
      obtain ⟨r9, e10, hf⟩ := z_bd hf
      refine z_callV1 (As := [.int r5, .int v2, .int r7]) (rest := []) (bs' := [bX10 G q o, bX9 G q (o + 1) S.1.1 S.1.2.1 S.1.2.2.1 S.1.2.2.2.1 S.1.2.2.2.2, bX6 G q (o + 3) S.2.1.1 S.2.1.2, bX8 G q (o + 12) S.2.2.1.1 S.2.2.1.2, bX5 G q (o + 19) S.2.2.2.1.2.1 S.2.2.2.1.2.2.1 S.2.2.2.1.2.2.2.1 S.2.2.2.1.2.2.2.2, bX2 G q ((o + 19) + 2) S.2.2.2.1.1.1 S.2.2.2.1.1.2.1 S.2.2.2.1.1.2.2.1 S.2.2.2.1.1.2.2.2.1 S.2.2.2.1.1.2.2.2.2.1 S.2.2.2.1.1.2.2.2.2.2.1 S.2.2.2.1.1.2.2.2.2.2.2.1 S.2.2.2.1.1.2.2.2.2.2.2.2, bX2 G q (o + 27) S.2.2.2.2.1.1 S.2.2.2.2.1.2.1 S.2.2.2.2.1.2.2.1 S.2.2.2.2.1.2.2.2.1 S.2.2.2.2.1.2.2.2.2.1 S.2.2.2.2.1.2.2.2.2.2.1 S.2.2.2.2.1.2.2.2.2.2.2.1 S.2.2.2.2.1.2.2.2.2.2.2.2, bX1 G q (o + 33) S.2.2.2.2.2.1.1 S.2.2.2.2.2.1.2.1 S.2.2.2.2.2.1.2.2.1 S.2.2.2.2.2.1.2.2.2, bX4 G q (o + 36) S.2.2.2.2.2.2.1.1 S.2.2.2.2.2.2.1.2, bX3 G q (o + 38) S.2.2.2.2.2.2.2.1.1 S.2.2.2.2.2.2.2.1.2.1 S.2.2.2.2.2.2.2.1.2.2.1 S.2.2.2.2.2.2.2.1.2.2.2, bX0 G q (o + 43) S.2.2.2.2.2.2.2.2.1.2.2.1 S.2.2.2.2.2.2.2.2.1.2.2.2, bX2 G q ((o + 43) + 3) S.2.2.2.2.2.2.2.2.1.1.1 S.2.2.2.2.2.2.2.2.1.1.2.1 S.2.2.2.2.2.2.2.2.1.1.2.2.1 S.2.2.2.2.2.2.2.2.1.1.2.2.2.1 S.2.2.2.2.2.2.2.2.1.1.2.2.2.2.1 S.2.2.2.2.2.2.2.2.1.1.2.2.2.2.2.1 S.2.2.2.2.2.2.2.2.1.1.2.2.2.2.2.2.1 S.2.2.2.2.2.2.2.2.1.1.2.2.2.2.2.2.2, bX4 G q ((o + 43) + 9) S.2.2.2.2.2.2.2.2.1.2.1.1 S.2.2.2.2.2.2.2.2.1.2.1.2, bX7 G q (o + 54) S.2.2.2.2.2.2.2.2.2.1 S.2.2.2.2.2.2.2.2.2.2.1 S.2.2.2.2.2.2.2.2.2.2.2]) hS0 (c_X2_favoursFor l G q (o + 27) S.2.2.2.2.1 r5 v2 r7 r9 e10) zc_X2_favoursFor rfl gX10_letRowOut_X2_favoursFor ⟨Nat.le_of_ble_eq_true rfl, Nat.le_of_ble_eq_true rfl⟩ hK hA hT hw (is := [6]) rfl rfl rfl rfl rfl rfl rfl hl.1 rfl (Nat.le_of_ble_eq_true rfl) dX10_letRowOut_49 (fun H locs hw => ?_)
      refine lv_istore (lv' := [(7, .int r9), (6, .int r5), (0, .ref (q (o + 0))), (1, .int v1), (2, .int v2), (3, .int v3), (4, .int v4), (5, .int v5)]) hx hb dX10_letRowOut_52 hl (by decide) rfl (fun ls hl => ?_)
      refine lv_iload hx hb dX10_letRowOut_54 (lv_at hl 0 rfl) ?_
      refine lv_if_ge (tgt := 62) hx hb dX10_letRowOut_56 rfl (fun hc => ?_) (fun hc => ?_)
      · have hf := z_t hc hf
        refine lv_iload_n hx hb dX10_letRowOut_62 rfl (lv_at hl 4 rfl) ?_
        refine lv_iconst (v := 1) hx hb dX10_letRowOut_63 rfl ?_
        refine lv_iload hx hb dX10_letRowOut_64 (lv_at hl 1 rfl) ?_
        refine lv_ishl hx hb dX10_letRowOut_66 ?_
        refine lv_ior hx hb dX10_letRowOut_67 ?_
        refine lv_istore_n (lv' := [(2, .int (v2 ||| ((1 : Int32) <<< (r5 &&& 31)))), (7, .int r9), (6, .int r5), (0, .ref (q (o + 0))), (1, .int v1), (3, .int v3), (4, .int v4), (5, .int v5)]) hx hb dX10_letRowOut_68 rfl hl (by decide) rfl (fun ls hl => ?_)
        refine lv_iload_n hx hb dX10_letRowOut_69 rfl (lv_at hl 5 rfl) ?_
        refine lv_iload hx hb dX10_letRowOut_70 (lv_at hl 1 rfl) ?_
        refine lv_iadd hx hb dX10_letRowOut_72 ?_
        refine lv_istore_n (lv' := [(3, .int (v3 + r9)), (2, .int (v2 ||| ((1 : Int32) <<< (r5 &&& 31)))), (7, .int r9), (6, .int r5), (0, .ref (q (o + 0))), (1, .int v1), (4, .int v4), (5, .int v5)]) hx hb dX10_letRowOut_73 rfl hl (by decide) rfl (fun ls hl => ?_)
        refine lv_iinc (v := (v4 + 1)) (lv' := [(4, .int (v4 + 1)), (3, .int (v3 + r9)), (2, .int (v2 ||| ((1 : Int32) <<< (r5 &&& 31)))), (7, .int r9), (6, .int r5), (0, .ref (q (o + 0))), (1, .int v1), (5, .int v5)]) hx hb dX10_letRowOut_74 hl (k := 6) rfl rfl (by decide) rfl (fun ls hl => ?_)
        refine lv_iinc (v := (v5 + 1)) (lv' := [(5, .int (v5 + 1)), (4, .int (v4 + 1)), (3, .int (v3 + r9)), (2, .int (v2 ||| ((1 : Int32) <<< (r5 &&& 31)))), (7, .int r9), (6, .int r5), (0, .ref (q (o + 0))), (1, .int v1)]) hx hb dX10_letRowOut_77 hl (k := 7) rfl rfl (by decide) rfl (fun ls hl => ?_)
        refine lv_goto (tgt := 10) hx hb dX10_letRowOut_80 rfl ?_
        exact ih _ _ _ _ _ _ _ _ _ hf hw (lv_sub hl [6, 7, 3, 2, 1, 0] rfl)
      · have hf := z_f hc hf
        refine lv_goto (tgt := 83) hx hb dX10_letRowOut_59 rfl ?_
        exact k_X10_letRowOut_83 hZ _ _ _ _ _ _ _ hf hw (lv_sub hl [2, 5, 6] rfl)
set_option maxHeartbeats 4000000 in
set_option maxRecDepth 100000 in
theorem c_X10_letRowOut (l : Launch) (G : zG) (q : Nat → Nat) (o : Nat) (S : VX10) (v1 : Int32) (y : Int32 × VX10) (hf : f_X10_letRowOut S v1 = some y) : zMet l yX10_letRowOut wsX10_letRowOut 4 86 G [.ref (q (o + 0)), .int v1] [bX10 G q o, bX9 G q (o + 1) S.1.1 S.1.2.1 S.1.2.2.1 S.1.2.2.2.1 S.1.2.2.2.2, bX6 G q (o + 3) S.2.1.1 S.2.1.2, bX8 G q (o + 12) S.2.2.1.1 S.2.2.1.2, bX5 G q (o + 19) S.2.2.2.1.2.1 S.2.2.2.1.2.2.1 S.2.2.2.1.2.2.2.1 S.2.2.2.1.2.2.2.2, bX2 G q ((o + 19) + 2) S.2.2.2.1.1.1 S.2.2.2.1.1.2.1 S.2.2.2.1.1.2.2.1 S.2.2.2.1.1.2.2.2.1 S.2.2.2.1.1.2.2.2.2.1 S.2.2.2.1.1.2.2.2.2.2.1 S.2.2.2.1.1.2.2.2.2.2.2.1 S.2.2.2.1.1.2.2.2.2.2.2.2, bX2 G q (o + 27) S.2.2.2.2.1.1 S.2.2.2.2.1.2.1 S.2.2.2.2.1.2.2.1 S.2.2.2.2.1.2.2.2.1 S.2.2.2.2.1.2.2.2.2.1 S.2.2.2.2.1.2.2.2.2.2.1 S.2.2.2.2.1.2.2.2.2.2.2.1 S.2.2.2.2.1.2.2.2.2.2.2.2, bX1 G q (o + 33) S.2.2.2.2.2.1.1 S.2.2.2.2.2.1.2.1 S.2.2.2.2.2.1.2.2.1 S.2.2.2.2.2.1.2.2.2, bX4 G q (o + 36) S.2.2.2.2.2.2.1.1 S.2.2.2.2.2.2.1.2, bX3 G q (o + 38) S.2.2.2.2.2.2.2.1.1 S.2.2.2.2.2.2.2.1.2.1 S.2.2.2.2.2.2.2.1.2.2.1 S.2.2.2.2.2.2.2.1.2.2.2, bX0 G q (o + 43) S.2.2.2.2.2.2.2.2.1.2.2.1 S.2.2.2.2.2.2.2.2.1.2.2.2, bX2 G q ((o + 43) + 3) S.2.2.2.2.2.2.2.2.1.1.1 S.2.2.2.2.2.2.2.2.1.1.2.1 S.2.2.2.2.2.2.2.2.1.1.2.2.1 S.2.2.2.2.2.2.2.2.1.1.2.2.2.1 S.2.2.2.2.2.2.2.2.1.1.2.2.2.2.1 S.2.2.2.2.2.2.2.2.1.1.2.2.2.2.2.1 S.2.2.2.2.2.2.2.2.1.1.2.2.2.2.2.2.1 S.2.2.2.2.2.2.2.2.1.1.2.2.2.2.2.2.2, bX4 G q ((o + 43) + 9) S.2.2.2.2.2.2.2.2.1.2.1.1 S.2.2.2.2.2.2.2.2.1.2.1.2, bX7 G q (o + 54) S.2.2.2.2.2.2.2.2.2.1 S.2.2.2.2.2.2.2.2.2.2.1 S.2.2.2.2.2.2.2.2.2.2.2] (some (.int y.1)) [bX10 G q o, bX9 G q (o + 1) y.2.1.1 y.2.1.2.1 y.2.1.2.2.1 y.2.1.2.2.2.1 y.2.1.2.2.2.2, bX6 G q (o + 3) y.2.2.1.1 y.2.2.1.2, bX8 G q (o + 12) y.2.2.2.1.1 y.2.2.2.1.2, bX5 G q (o + 19) y.2.2.2.2.1.2.1 y.2.2.2.2.1.2.2.1 y.2.2.2.2.1.2.2.2.1 y.2.2.2.2.1.2.2.2.2, bX2 G q ((o + 19) + 2) y.2.2.2.2.1.1.1 y.2.2.2.2.1.1.2.1 y.2.2.2.2.1.1.2.2.1 y.2.2.2.2.1.1.2.2.2.1 y.2.2.2.2.1.1.2.2.2.2.1 y.2.2.2.2.1.1.2.2.2.2.2.1 y.2.2.2.2.1.1.2.2.2.2.2.2.1 y.2.2.2.2.1.1.2.2.2.2.2.2.2, bX2 G q (o + 27) y.2.2.2.2.2.1.1 y.2.2.2.2.2.1.2.1 y.2.2.2.2.2.1.2.2.1 y.2.2.2.2.2.1.2.2.2.1 y.2.2.2.2.2.1.2.2.2.2.1 y.2.2.2.2.2.1.2.2.2.2.2.1 y.2.2.2.2.2.1.2.2.2.2.2.2.1 y.2.2.2.2.2.1.2.2.2.2.2.2.2, bX1 G q (o + 33) y.2.2.2.2.2.2.1.1 y.2.2.2.2.2.2.1.2.1 y.2.2.2.2.2.2.1.2.2.1 y.2.2.2.2.2.2.1.2.2.2, bX4 G q (o + 36) y.2.2.2.2.2.2.2.1.1 y.2.2.2.2.2.2.2.1.2, bX3 G q (o + 38) y.2.2.2.2.2.2.2.2.1.1 y.2.2.2.2.2.2.2.2.1.2.1 y.2.2.2.2.2.2.2.2.1.2.2.1 y.2.2.2.2.2.2.2.2.1.2.2.2, bX0 G q (o + 43) y.2.2.2.2.2.2.2.2.2.1.2.2.1 y.2.2.2.2.2.2.2.2.2.1.2.2.2, bX2 G q ((o + 43) + 3) y.2.2.2.2.2.2.2.2.2.1.1.1 y.2.2.2.2.2.2.2.2.2.1.1.2.1 y.2.2.2.2.2.2.2.2.2.1.1.2.2.1 y.2.2.2.2.2.2.2.2.2.1.1.2.2.2.1 y.2.2.2.2.2.2.2.2.2.1.1.2.2.2.2.1 y.2.2.2.2.2.2.2.2.2.1.1.2.2.2.2.2.1 y.2.2.2.2.2.2.2.2.2.1.1.2.2.2.2.2.2.1 y.2.2.2.2.2.2.2.2.2.1.1.2.2.2.2.2.2.2, bX4 G q ((o + 43) + 9) y.2.2.2.2.2.2.2.2.2.1.2.1.1 y.2.2.2.2.2.2.2.2.2.1.2.1.2, bX7 G q (o + 54) y.2.2.2.2.2.2.2.2.2.2.1 y.2.2.2.2.2.2.2.2.2.2.2.1 y.2.2.2.2.2.2.2.2.2.2.2.2] := by
  refine z_met zc_X10_letRowOut (Nat.le_of_ble_eq_true rfl) ?_
  intro p e s m below meth c A ls hZ hl hw
  have hl : lv_has ls 8 [(0, .ref (q (o + 0))), (1, .int v1)] := hl
  obtain ⟨hS0, hr, hlk, hK, hA, hT⟩ := id hZ
  have hx := hS0.1
  have hb := hS0.2.1
  have hml := hS0.2.2.1
  have hown : s.vm.findClass RX10 = some m.cls := hS0.2.2.2.1
  have hts := hS0.2.2.2.2
  unfold f_X10_letRowOut at hf
  refine lv_iconst (v := 0) hx hb dX10_letRowOut_0 rfl ?_
  refine lv_istore_n (lv' := [(2, .int 0), (0, .ref (q (o + 0))), (1, .int v1)]) hx hb dX10_letRowOut_1 rfl hl (by decide) rfl (fun ls hl => ?_)
  refine lv_iconst (v := 0) hx hb dX10_letRowOut_2 rfl ?_
  refine lv_istore_n (lv' := [(3, .int 0), (2, .int 0), (0, .ref (q (o + 0))), (1, .int v1)]) hx hb dX10_letRowOut_3 rfl hl (by decide) rfl (fun ls hl => ?_)
  refine lv_iconst (v := 0) hx hb dX10_letRowOut_4 rfl ?_
  refine lv_istore (lv' := [(4, .int 0), (3, .int 0), (2, .int 0), (0, .ref (q (o + 0))), (1, .int v1)]) hx hb dX10_letRowOut_5 hl (by decide) rfl (fun ls hl => ?_)
  refine lv_iconst (v := 0) hx hb dX10_letRowOut_7 rfl ?_
  refine lv_istore (lv' := [(5, .int 0), (4, .int 0), (3, .int 0), (2, .int 0), (0, .ref (q (o + 0))), (1, .int v1)]) hx hb dX10_letRowOut_8 hl (by decide) rfl (fun ls hl => ?_)
  exact k_X10_letRowOut_10 hZ _ 4096 _ _ _ _ _ _ _ _ _ hf hw (lv_sub hl [4, 5, 3, 2, 1, 0] rfl)
theorem zc_X10_tellsUnlikeCells : zC yX10_tellsUnlikeCells wsX10_tellsUnlikeCells cX10_tellsUnlikeCells 5 (some .boolean) 1 := ⟨⟨_, rfl⟩, by decide +kernel, by decide +kernel, by decide +kernel, by decide +kernel⟩
theorem m_X10_tellsUnlikeCells_0 : (.fieldLink RX10 19 "CellKeys" "rows" "LCellKeys$Rows;" : Cond) ∈ wsX10_tellsUnlikeCells := by decide +kernel
theorem in_X10_tellsUnlikeCells_X10 : ∀ w ∈ u_ws RX10 TX10 10, w ∈ wsX10_tellsUnlikeCells := by decide +kernel
theorem m_X10_tellsUnlikeCells_1 : (.fieldLink RX10 40 "CellKeys" "jail" "LCellKeys$Jail;" : Cond) ∈ wsX10_tellsUnlikeCells := by decide +kernel
set_option maxHeartbeats 4000000 in
set_option maxRecDepth 100000 in
theorem k_X10_tellsUnlikeCells_4 {p : Program} {l : Launch} {e : Env} {s : State} {m : MethodId} {args : Array Value} {below : List Frame} {meth : Method} {c : Code} {A : Nat → Prop} {G : zG} {q : Nat → Nat} {o : Nat}  (hZ : zZ p s m args meth c A G cX10_tellsUnlikeCells 5 RX10 wsX10_tellsUnlikeCells (some .boolean)) (y : Int32)  (n : Nat) : ∀ (S : VX10) (v1 : Int32) (v2 : Int32) (v3 : Int32) (H : Heap) (locs : List Loc) (ls : Array Slot), f_X10_tellsUnlikeCells_4 n S v1 v2 v3 = some y → zH G A s.heap [bX10 G q o, bX9 G q (o + 1) S.1.1 S.1.2.1 S.1.2.2.1 S.1.2.2.2.1 S.1.2.2.2.2, bX6 G q (o + 3) S.2.1.1 S.2.1.2, bX8 G q (o + 12) S.2.2.1.1 S.2.2.1.2, bX5 G q (o + 19) S.2.2.2.1.2.1 S.2.2.2.1.2.2.1 S.2.2.2.1.2.2.2.1 S.2.2.2.1.2.2.2.2, bX2 G q ((o + 19) + 2) S.2.2.2.1.1.1 S.2.2.2.1.1.2.1 S.2.2.2.1.1.2.2.1 S.2.2.2.1.1.2.2.2.1 S.2.2.2.1.1.2.2.2.2.1 S.2.2.2.1.1.2.2.2.2.2.1 S.2.2.2.1.1.2.2.2.2.2.2.1 S.2.2.2.1.1.2.2.2.2.2.2.2, bX2 G q (o + 27) S.2.2.2.2.1.1 S.2.2.2.2.1.2.1 S.2.2.2.2.1.2.2.1 S.2.2.2.2.1.2.2.2.1 S.2.2.2.2.1.2.2.2.2.1 S.2.2.2.2.1.2.2.2.2.2.1 S.2.2.2.2.1.2.2.2.2.2.2.1 S.2.2.2.2.1.2.2.2.2.2.2.2, bX1 G q (o + 33) S.2.2.2.2.2.1.1 S.2.2.2.2.2.1.2.1 S.2.2.2.2.2.1.2.2.1 S.2.2.2.2.2.1.2.2.2, bX4 G q (o + 36) S.2.2.2.2.2.2.1.1 S.2.2.2.2.2.2.1.2, bX3 G q (o + 38) S.2.2.2.2.2.2.2.1.1 S.2.2.2.2.2.2.2.1.2.1 S.2.2.2.2.2.2.2.1.2.2.1 S.2.2.2.2.2.2.2.1.2.2.2, bX0 G q (o + 43) S.2.2.2.2.2.2.2.2.1.2.2.1 S.2.2.2.2.2.2.2.2.1.2.2.2, bX2 G q ((o + 43) + 3) S.2.2.2.2.2.2.2.2.1.1.1 S.2.2.2.2.2.2.2.2.1.1.2.1 S.2.2.2.2.2.2.2.2.1.1.2.2.1 S.2.2.2.2.2.2.2.2.1.1.2.2.2.1 S.2.2.2.2.2.2.2.2.1.1.2.2.2.2.1 S.2.2.2.2.2.2.2.2.1.1.2.2.2.2.2.1 S.2.2.2.2.2.2.2.2.1.1.2.2.2.2.2.2.1 S.2.2.2.2.2.2.2.2.1.1.2.2.2.2.2.2.2, bX4 G q ((o + 43) + 9) S.2.2.2.2.2.2.2.2.1.2.1.1 S.2.2.2.2.2.2.2.2.1.2.1.2, bX7 G q (o + 54) S.2.2.2.2.2.2.2.2.2.1 S.2.2.2.2.2.2.2.2.2.2.1 S.2.2.2.2.2.2.2.2.2.2.2] H locs → lv_has ls 5 [(0, .ref (q (o + 0))), (1, .int v1), (2, .int v2), (3, .int v3)] → W p l e { frames := 4, cells := 0, slots := 0, locals := 86 } s m args below meth c H locs 0 0 (MQ below (zQ (some (.int y)) (zPost G [bX10 G q o, bX9 G q (o + 1) S.1.1 S.1.2.1 S.1.2.2.1 S.1.2.2.2.1 S.1.2.2.2.2, bX6 G q (o + 3) S.2.1.1 S.2.1.2, bX8 G q (o + 12) S.2.2.1.1 S.2.2.1.2, bX5 G q (o + 19) S.2.2.2.1.2.1 S.2.2.2.1.2.2.1 S.2.2.2.1.2.2.2.1 S.2.2.2.1.2.2.2.2, bX2 G q ((o + 19) + 2) S.2.2.2.1.1.1 S.2.2.2.1.1.2.1 S.2.2.2.1.1.2.2.1 S.2.2.2.1.1.2.2.2.1 S.2.2.2.1.1.2.2.2.2.1 S.2.2.2.1.1.2.2.2.2.2.1 S.2.2.2.1.1.2.2.2.2.2.2.1 S.2.2.2.1.1.2.2.2.2.2.2.2, bX2 G q (o + 27) S.2.2.2.2.1.1 S.2.2.2.2.1.2.1 S.2.2.2.2.1.2.2.1 S.2.2.2.2.1.2.2.2.1 S.2.2.2.2.1.2.2.2.2.1 S.2.2.2.2.1.2.2.2.2.2.1 S.2.2.2.2.1.2.2.2.2.2.2.1 S.2.2.2.2.1.2.2.2.2.2.2.2, bX1 G q (o + 33) S.2.2.2.2.2.1.1 S.2.2.2.2.2.1.2.1 S.2.2.2.2.2.1.2.2.1 S.2.2.2.2.2.1.2.2.2, bX4 G q (o + 36) S.2.2.2.2.2.2.1.1 S.2.2.2.2.2.2.1.2, bX3 G q (o + 38) S.2.2.2.2.2.2.2.1.1 S.2.2.2.2.2.2.2.1.2.1 S.2.2.2.2.2.2.2.1.2.2.1 S.2.2.2.2.2.2.2.1.2.2.2, bX0 G q (o + 43) S.2.2.2.2.2.2.2.2.1.2.2.1 S.2.2.2.2.2.2.2.2.1.2.2.2, bX2 G q ((o + 43) + 3) S.2.2.2.2.2.2.2.2.1.1.1 S.2.2.2.2.2.2.2.2.1.1.2.1 S.2.2.2.2.2.2.2.2.1.1.2.2.1 S.2.2.2.2.2.2.2.2.1.1.2.2.2.1 S.2.2.2.2.2.2.2.2.1.1.2.2.2.2.1 S.2.2.2.2.2.2.2.2.1.1.2.2.2.2.2.1 S.2.2.2.2.2.2.2.2.1.1.2.2.2.2.2.2.1 S.2.2.2.2.2.2.2.2.1.1.2.2.2.2.2.2.2, bX4 G q ((o + 43) + 9) S.2.2.2.2.2.2.2.2.1.2.1.1 S.2.2.2.2.2.2.2.2.1.2.1.2, bX7 G q (o + 54) S.2.2.2.2.2.2.2.2.2.1 S.2.2.2.2.2.2.2.2.2.2.1 S.2.2.2.2.2.2.2.2.2.2.2]) A) args s 0 0 A) (F0 m 4 ls []) := by
  obtain ⟨hS0, hr, hlk, hK, hA, hT⟩ := id hZ
  have hx := hS0.1
  have hb := hS0.2.1
  have hml := hS0.2.2.1
  have hown : s.vm.findClass RX10 = some m.cls := hS0.2.2.2.1
  have hts := hS0.2.2.2.2
  induction n with
  | zero =>
    intro S v1 v2 v3 H locs ls hf hw hl
    unfold f_X10_tellsUnlikeCells_4 at hf
    cases hf
  | succ n ih =>
    intro S v1 v2 v3 H locs ls hf hw hl
    unfold f_X10_tellsUnlikeCells_4 at hf
    refine lv_iload_n hx hb dX10_tellsUnlikeCells_4 rfl (lv_at hl 3 rfl) ?_
    refine lv_aload_n hx hb dX10_tellsUnlikeCells_5 rfl (lv_at hl 0 rfl) ?_
    refine z_get hS0 in_X10_tellsUnlikeCells_X10 hK hw 0 1 rfl rfl rfl (by decide) (hts _ m_X10_tellsUnlikeCells_0) (v := .ref (q ((o + 3) + 0))) rfl dX10_tellsUnlikeCells_6 ?_
    refine lv_iload_n hx hb dX10_tellsUnlikeCells_9 rfl (lv_at hl 1 rfl) ?_
    obtain ⟨r1, e2, hf⟩ := z_bd hf
    refine z_callV1 (As := [.int v1]) (rest := [.int v3]) (bs' := [bX10 G q o, bX9 G q (o + 1) S.1.1 S.1.2.1 S.1.2.2.1 S.1.2.2.2.1 S.1.2.2.2.2, bX6 G q (o + 3) S.2.1.1 S.2.1.2, bX8 G q (o + 12) S.2.2.1.1 S.2.2.1.2, bX5 G q (o + 19) S.2.2.2.1.2.1 S.2.2.2.1.2.2.1 S.2.2.2.1.2.2.2.1 S.2.2.2.1.2.2.2.2, bX2 G q ((o + 19) + 2) S.2.2.2.1.1.1 S.2.2.2.1.1.2.1 S.2.2.2.1.1.2.2.1 S.2.2.2.1.1.2.2.2.1 S.2.2.2.1.1.2.2.2.2.1 S.2.2.2.1.1.2.2.2.2.2.1 S.2.2.2.1.1.2.2.2.2.2.2.1 S.2.2.2.1.1.2.2.2.2.2.2.2, bX2 G q (o + 27) S.2.2.2.2.1.1 S.2.2.2.2.1.2.1 S.2.2.2.2.1.2.2.1 S.2.2.2.2.1.2.2.2.1 S.2.2.2.2.1.2.2.2.2.1 S.2.2.2.2.1.2.2.2.2.2.1 S.2.2.2.2.1.2.2.2.2.2.2.1 S.2.2.2.2.1.2.2.2.2.2.2.2, bX1 G q (o + 33) S.2.2.2.2.2.1.1 S.2.2.2.2.2.1.2.1 S.2.2.2.2.2.1.2.2.1 S.2.2.2.2.2.1.2.2.2, bX4 G q (o + 36) S.2.2.2.2.2.2.1.1 S.2.2.2.2.2.2.1.2, bX3 G q (o + 38) S.2.2.2.2.2.2.2.1.1 S.2.2.2.2.2.2.2.1.2.1 S.2.2.2.2.2.2.2.1.2.2.1 S.2.2.2.2.2.2.2.1.2.2.2, bX0 G q (o + 43) S.2.2.2.2.2.2.2.2.1.2.2.1 S.2.2.2.2.2.2.2.2.1.2.2.2, bX2 G q ((o + 43) + 3) S.2.2.2.2.2.2.2.2.1.1.1 S.2.2.2.2.2.2.2.2.1.1.2.1 S.2.2.2.2.2.2.2.2.1.1.2.2.1 S.2.2.2.2.2.2.2.2.1.1.2.2.2.1 S.2.2.2.2.2.2.2.2.1.1.2.2.2.2.1 S.2.2.2.2.2.2.2.2.1.1.2.2.2.2.2.1 S.2.2.2.2.2.2.2.2.1.1.2.2.2.2.2.2.1 S.2.2.2.2.2.2.2.2.1.1.2.2.2.2.2.2.2, bX4 G q ((o + 43) + 9) S.2.2.2.2.2.2.2.2.1.2.1.1 S.2.2.2.2.2.2.2.2.1.2.1.2, bX7 G q (o + 54) S.2.2.2.2.2.2.2.2.2.1 S.2.2.2.2.2.2.2.2.2.2.1 S.2.2.2.2.2.2.2.2.2.2.2]) hS0 (c_X6_sizeOf l G q (o + 3) S.2.1 v1 r1 e2) zc_X6_sizeOf rfl gX10_tellsUnlikeCells_X6_sizeOf ⟨Nat.le_of_ble_eq_true rfl, Nat.le_of_ble_eq_true rfl⟩ hK hA hT hw (is := [2]) rfl rfl rfl rfl rfl rfl rfl hl.1 rfl (Nat.le_of_ble_eq_true rfl) dX10_tellsUnlikeCells_10 (fun H locs hw => ?_)
    refine lv_icmp_ge (tgt := 64) hx hb dX10_tellsUnlikeCells_13 rfl (fun hc => ?_) (fun hc => ?_)
    · have hf := z_t hc hf
      refine lv_iconst (v := 1) hx hb dX10_tellsUnlikeCells_64 rfl ?_
      cases hf
      exact z_zret hx hb hr (z_nb (Or.inr rfl)) hlk hw dX10_tellsUnlikeCells_65
    · have hf := z_f hc hf
      refine lv_aload_n hx hb dX10_tellsUnlikeCells_16 rfl (lv_at hl 0 rfl) ?_
      refine z_get hS0 in_X10_tellsUnlikeCells_X10 hK hw 0 1 rfl rfl rfl (by decide) (hts _ m_X10_tellsUnlikeCells_0) (v := .ref (q ((o + 3) + 0))) rfl dX10_tellsUnlikeCells_17 ?_
      refine lv_iload_n hx hb dX10_tellsUnlikeCells_20 rfl (lv_at hl 1 rfl) ?_
      refine lv_iload_n hx hb dX10_tellsUnlikeCells_21 rfl (lv_at hl 3 rfl) ?_
      obtain ⟨r3, e4, hf⟩ := z_bd hf
      refine z_callV1 (As := [.int v1, .int v3]) (rest := []) (bs' := [bX10 G q o, bX9 G q (o + 1) S.1.1 S.1.2.1 S.1.2.2.1 S.1.2.2.2.1 S.1.2.2.2.2, bX6 G q (o + 3) S.2.1.1 S.2.1.2, bX8 G q (o + 12) S.2.2.1.1 S.2.2.1.2, bX5 G q (o + 19) S.2.2.2.1.2.1 S.2.2.2.1.2.2.1 S.2.2.2.1.2.2.2.1 S.2.2.2.1.2.2.2.2, bX2 G q ((o + 19) + 2) S.2.2.2.1.1.1 S.2.2.2.1.1.2.1 S.2.2.2.1.1.2.2.1 S.2.2.2.1.1.2.2.2.1 S.2.2.2.1.1.2.2.2.2.1 S.2.2.2.1.1.2.2.2.2.2.1 S.2.2.2.1.1.2.2.2.2.2.2.1 S.2.2.2.1.1.2.2.2.2.2.2.2, bX2 G q (o + 27) S.2.2.2.2.1.1 S.2.2.2.2.1.2.1 S.2.2.2.2.1.2.2.1 S.2.2.2.2.1.2.2.2.1 S.2.2.2.2.1.2.2.2.2.1 S.2.2.2.2.1.2.2.2.2.2.1 S.2.2.2.2.1.2.2.2.2.2.2.1 S.2.2.2.2.1.2.2.2.2.2.2.2, bX1 G q (o + 33) S.2.2.2.2.2.1.1 S.2.2.2.2.2.1.2.1 S.2.2.2.2.2.1.2.2.1 S.2.2.2.2.2.1.2.2.2, bX4 G q (o + 36) S.2.2.2.2.2.2.1.1 S.2.2.2.2.2.2.1.2, bX3 G q (o + 38) S.2.2.2.2.2.2.2.1.1 S.2.2.2.2.2.2.2.1.2.1 S.2.2.2.2.2.2.2.1.2.2.1 S.2.2.2.2.2.2.2.1.2.2.2, bX0 G q (o + 43) S.2.2.2.2.2.2.2.2.1.2.2.1 S.2.2.2.2.2.2.2.2.1.2.2.2, bX2 G q ((o + 43) + 3) S.2.2.2.2.2.2.2.2.1.1.1 S.2.2.2.2.2.2.2.2.1.1.2.1 S.2.2.2.2.2.2.2.2.1.1.2.2.1 S.2.2.2.2.2.2.2.2.1.1.2.2.2.1 S.2.2.2.2.2.2.2.2.1.1.2.2.2.2.1 S.2.2.2.2.2.2.2.2.1.1.2.2.2.2.2.1 S.2.2.2.2.2.2.2.2.1.1.2.2.2.2.2.2.1 S.2.2.2.2.2.2.2.2.1.1.2.2.2.2.2.2.2, bX4 G q ((o + 43) + 9) S.2.2.2.2.2.2.2.2.1.2.1.1 S.2.2.2.2.2.2.2.2.1.2.1.2, bX7 G q (o + 54) S.2.2.2.2.2.2.2.2.2.1 S.2.2.2.2.2.2.2.2.2.2.1 S.2.2.2.2.2.2.2.2.2.2.2]) hS0 (c_X6_get l G q (o + 3) S.2.1 v1 v3 r3 e4) zc_X6_get rfl gX10_tellsUnlikeCells_X6_get ⟨Nat.le_of_ble_eq_true rfl, Nat.le_of_ble_eq_true rfl⟩ hK hA hT hw (is := [2]) rfl rfl rfl rfl rfl rfl rfl hl.1 rfl (Nat.le_of_ble_eq_true rfl) dX10_tellsUnlikeCells_22 (fun H locs hw => ?_)
      refine lv_istore (lv' := [(4, .int r3), (0, .ref (q (o + 0))), (1, .int v1), (2, .int v2), (3, .int v3)]) hx hb dX10_tellsUnlikeCells_25 hl (by decide) rfl (fun ls hl => ?_)
      refine lv_aload_n hx hb dX10_tellsUnlikeCells_27 rfl (lv_at hl 1 rfl) ?_
      refine z_get hS0 in_X10_tellsUnlikeCells_X10 hK hw 0 4 rfl rfl rfl (by decide) (hts _ m_X10_tellsUnlikeCells_1) (v := .ref (q ((o + 27) + 0))) rfl dX10_tellsUnlikeCells_28 ?_
      refine lv_iload hx hb dX10_tellsUnlikeCells_31 (lv_at hl 0 rfl) ?_
      obtain ⟨r5, e6, hf⟩ := z_bd hf
      refine z_callV1 (As := [.int r3]) (rest := []) (bs' := [bX10 G q o, bX9 G q (o + 1) S.1.1 S.1.2.1 S.1.2.2.1 S.1.2.2.2.1 S.1.2.2.2.2, bX6 G q (o + 3) S.2.1.1 S.2.1.2, bX8 G q (o + 12) S.2.2.1.1 S.2.2.1.2, bX5 G q (o + 19) S.2.2.2.1.2.1 S.2.2.2.1.2.2.1 S.2.2.2.1.2.2.2.1 S.2.2.2.1.2.2.2.2, bX2 G q ((o + 19) + 2) S.2.2.2.1.1.1 S.2.2.2.1.1.2.1 S.2.2.2.1.1.2.2.1 S.2.2.2.1.1.2.2.2.1 S.2.2.2.1.1.2.2.2.2.1 S.2.2.2.1.1.2.2.2.2.2.1 S.2.2.2.1.1.2.2.2.2.2.2.1 S.2.2.2.1.1.2.2.2.2.2.2.2, bX2 G q (o + 27) S.2.2.2.2.1.1 S.2.2.2.2.1.2.1 S.2.2.2.2.1.2.2.1 S.2.2.2.2.1.2.2.2.1 S.2.2.2.2.1.2.2.2.2.1 S.2.2.2.2.1.2.2.2.2.2.1 S.2.2.2.2.1.2.2.2.2.2.2.1 S.2.2.2.2.1.2.2.2.2.2.2.2, bX1 G q (o + 33) S.2.2.2.2.2.1.1 S.2.2.2.2.2.1.2.1 S.2.2.2.2.2.1.2.2.1 S.2.2.2.2.2.1.2.2.2, bX4 G q (o + 36) S.2.2.2.2.2.2.1.1 S.2.2.2.2.2.2.1.2, bX3 G q (o + 38) S.2.2.2.2.2.2.2.1.1 S.2.2.2.2.2.2.2.1.2.1 S.2.2.2.2.2.2.2.1.2.2.1 S.2.2.2.2.2.2.2.1.2.2.2, bX0 G q (o + 43) S.2.2.2.2.2.2.2.2.1.2.2.1 S.2.2.2.2.2.2.2.2.1.2.2.2, bX2 G q ((o + 43) + 3) S.2.2.2.2.2.2.2.2.1.1.1 S.2.2.2.2.2.2.2.2.1.1.2.1 S.2.2.2.2.2.2.2.2.1.1.2.2.1 S.2.2.2.2.2.2.2.2.1.1.2.2.2.1 S.2.2.2.2.2.2.2.2.1.1.2.2.2.2.1 S.2.2.2.2.2.2.2.2.1.1.2.2.2.2.2.1 S.2.2.2.2.2.2.2.2.1.1.2.2.2.2.2.2.1 S.2.2.2.2.2.2.2.2.1.1.2.2.2.2.2.2.2, bX4 G q ((o + 43) + 9) S.2.2.2.2.2.2.2.2.1.2.1.1 S.2.2.2.2.2.2.2.2.1.2.1.2, bX7 G q (o + 54) S.2.2.2.2.2.2.2.2.2.1 S.2.2.2.2.2.2.2.2.2.2.1 S.2.2.2.2.2.2.2.2.2.2.2]) hS0 (c_X2_isCell l G q (o + 27) S.2.2.2.2.1 r3 r5 e6) zc_X2_isCell rfl gX10_tellsUnlikeCells_X2_isCell ⟨Nat.le_of_ble_eq_true rfl, Nat.le_of_ble_eq_true rfl⟩ hK hA hT hw (is := [6]) rfl rfl rfl rfl rfl rfl rfl hl.1 rfl (Nat.le_of_ble_eq_true rfl) dX10_tellsUnlikeCells_33 (fun H locs hw => ?_)
      refine lv_if_eq (tgt := 49) hx hb dX10_tellsUnlikeCells_36 rfl (fun hc => ?_) (fun hc => ?_)
      · have hf := z_t hc hf
        refine lv_iconst (v := 0) hx hb dX10_tellsUnlikeCells_49 rfl ?_
        cases hf
        exact z_zret hx hb hr (z_nb (Or.inl rfl)) hlk hw dX10_tellsUnlikeCells_50
      · have hf := z_f hc hf
        refine lv_iload_n hx hb dX10_tellsUnlikeCells_39 rfl (lv_at hl 3 rfl) ?_
        refine lv_iload hx hb dX10_tellsUnlikeCells_40 (lv_at hl 0 rfl) ?_
        refine lv_ishr hx hb dX10_tellsUnlikeCells_42 ?_
        refine lv_iconst (v := 1) hx hb dX10_tellsUnlikeCells_43 rfl ?_
        refine lv_iand hx hb dX10_tellsUnlikeCells_44 ?_
        refine lv_iconst (v := 1) hx hb dX10_tellsUnlikeCells_45 rfl ?_
        refine lv_icmp_ne (tgt := 51) hx hb dX10_tellsUnlikeCells_46 rfl (fun hc => ?_) (fun hc => ?_)
        · have hf := z_f hc hf
          refine lv_iload_n hx hb dX10_tellsUnlikeCells_51 rfl (lv_at hl 3 rfl) ?_
          refine lv_iconst (v := 1) hx hb dX10_tellsUnlikeCells_52 rfl ?_
          refine lv_iload hx hb dX10_tellsUnlikeCells_53 (lv_at hl 0 rfl) ?_
          refine lv_ishl hx hb dX10_tellsUnlikeCells_55 ?_
          refine lv_ior hx hb dX10_tellsUnlikeCells_56 ?_
          refine lv_istore_n (lv' := [(2, .int (v2 ||| ((1 : Int32) <<< (r3 &&& 31)))), (4, .int r3), (0, .ref (q (o + 0))), (1, .int v1), (3, .int v3)]) hx hb dX10_tellsUnlikeCells_57 rfl hl (by decide) rfl (fun ls hl => ?_)
          refine lv_iinc (v := (v3 + 1)) (lv' := [(3, .int (v3 + 1)), (2, .int (v2 ||| ((1 : Int32) <<< (r3 &&& 31)))), (4, .int r3), (0, .ref (q (o + 0))), (1, .int v1)]) hx hb dX10_tellsUnlikeCells_58 hl (k := 4) rfl rfl (by decide) rfl (fun ls hl => ?_)
          refine lv_goto (tgt := 4) hx hb dX10_tellsUnlikeCells_61 rfl ?_
          exact ih _ _ _ _ _ _ _ hf hw (lv_sub hl [3, 4, 1, 0] rfl)
        · have hf := z_t hc hf
          refine lv_iconst (v := 0) hx hb dX10_tellsUnlikeCells_49 rfl ?_
          cases hf
          exact z_zret hx hb hr (z_nb (Or.inl rfl)) hlk hw dX10_tellsUnlikeCells_50
set_option maxHeartbeats 4000000 in
set_option maxRecDepth 100000 in
theorem c_X10_tellsUnlikeCells (l : Launch) (G : zG) (q : Nat → Nat) (o : Nat) (S : VX10) (v1 : Int32) (y : Int32) (hf : f_X10_tellsUnlikeCells S v1 = some y) : zMet l yX10_tellsUnlikeCells wsX10_tellsUnlikeCells 4 86 G [.ref (q (o + 0)), .int v1] [bX10 G q o, bX9 G q (o + 1) S.1.1 S.1.2.1 S.1.2.2.1 S.1.2.2.2.1 S.1.2.2.2.2, bX6 G q (o + 3) S.2.1.1 S.2.1.2, bX8 G q (o + 12) S.2.2.1.1 S.2.2.1.2, bX5 G q (o + 19) S.2.2.2.1.2.1 S.2.2.2.1.2.2.1 S.2.2.2.1.2.2.2.1 S.2.2.2.1.2.2.2.2, bX2 G q ((o + 19) + 2) S.2.2.2.1.1.1 S.2.2.2.1.1.2.1 S.2.2.2.1.1.2.2.1 S.2.2.2.1.1.2.2.2.1 S.2.2.2.1.1.2.2.2.2.1 S.2.2.2.1.1.2.2.2.2.2.1 S.2.2.2.1.1.2.2.2.2.2.2.1 S.2.2.2.1.1.2.2.2.2.2.2.2, bX2 G q (o + 27) S.2.2.2.2.1.1 S.2.2.2.2.1.2.1 S.2.2.2.2.1.2.2.1 S.2.2.2.2.1.2.2.2.1 S.2.2.2.2.1.2.2.2.2.1 S.2.2.2.2.1.2.2.2.2.2.1 S.2.2.2.2.1.2.2.2.2.2.2.1 S.2.2.2.2.1.2.2.2.2.2.2.2, bX1 G q (o + 33) S.2.2.2.2.2.1.1 S.2.2.2.2.2.1.2.1 S.2.2.2.2.2.1.2.2.1 S.2.2.2.2.2.1.2.2.2, bX4 G q (o + 36) S.2.2.2.2.2.2.1.1 S.2.2.2.2.2.2.1.2, bX3 G q (o + 38) S.2.2.2.2.2.2.2.1.1 S.2.2.2.2.2.2.2.1.2.1 S.2.2.2.2.2.2.2.1.2.2.1 S.2.2.2.2.2.2.2.1.2.2.2, bX0 G q (o + 43) S.2.2.2.2.2.2.2.2.1.2.2.1 S.2.2.2.2.2.2.2.2.1.2.2.2, bX2 G q ((o + 43) + 3) S.2.2.2.2.2.2.2.2.1.1.1 S.2.2.2.2.2.2.2.2.1.1.2.1 S.2.2.2.2.2.2.2.2.1.1.2.2.1 S.2.2.2.2.2.2.2.2.1.1.2.2.2.1 S.2.2.2.2.2.2.2.2.1.1.2.2.2.2.1 S.2.2.2.2.2.2.2.2.1.1.2.2.2.2.2.1 S.2.2.2.2.2.2.2.2.1.1.2.2.2.2.2.2.1 S.2.2.2.2.2.2.2.2.1.1.2.2.2.2.2.2.2, bX4 G q ((o + 43) + 9) S.2.2.2.2.2.2.2.2.1.2.1.1 S.2.2.2.2.2.2.2.2.1.2.1.2, bX7 G q (o + 54) S.2.2.2.2.2.2.2.2.2.1 S.2.2.2.2.2.2.2.2.2.2.1 S.2.2.2.2.2.2.2.2.2.2.2] (some (.int y)) [bX10 G q o, bX9 G q (o + 1) S.1.1 S.1.2.1 S.1.2.2.1 S.1.2.2.2.1 S.1.2.2.2.2, bX6 G q (o + 3) S.2.1.1 S.2.1.2, bX8 G q (o + 12) S.2.2.1.1 S.2.2.1.2, bX5 G q (o + 19) S.2.2.2.1.2.1 S.2.2.2.1.2.2.1 S.2.2.2.1.2.2.2.1 S.2.2.2.1.2.2.2.2, bX2 G q ((o + 19) + 2) S.2.2.2.1.1.1 S.2.2.2.1.1.2.1 S.2.2.2.1.1.2.2.1 S.2.2.2.1.1.2.2.2.1 S.2.2.2.1.1.2.2.2.2.1 S.2.2.2.1.1.2.2.2.2.2.1 S.2.2.2.1.1.2.2.2.2.2.2.1 S.2.2.2.1.1.2.2.2.2.2.2.2, bX2 G q (o + 27) S.2.2.2.2.1.1 S.2.2.2.2.1.2.1 S.2.2.2.2.1.2.2.1 S.2.2.2.2.1.2.2.2.1 S.2.2.2.2.1.2.2.2.2.1 S.2.2.2.2.1.2.2.2.2.2.1 S.2.2.2.2.1.2.2.2.2.2.2.1 S.2.2.2.2.1.2.2.2.2.2.2.2, bX1 G q (o + 33) S.2.2.2.2.2.1.1 S.2.2.2.2.2.1.2.1 S.2.2.2.2.2.1.2.2.1 S.2.2.2.2.2.1.2.2.2, bX4 G q (o + 36) S.2.2.2.2.2.2.1.1 S.2.2.2.2.2.2.1.2, bX3 G q (o + 38) S.2.2.2.2.2.2.2.1.1 S.2.2.2.2.2.2.2.1.2.1 S.2.2.2.2.2.2.2.1.2.2.1 S.2.2.2.2.2.2.2.1.2.2.2, bX0 G q (o + 43) S.2.2.2.2.2.2.2.2.1.2.2.1 S.2.2.2.2.2.2.2.2.1.2.2.2, bX2 G q ((o + 43) + 3) S.2.2.2.2.2.2.2.2.1.1.1 S.2.2.2.2.2.2.2.2.1.1.2.1 S.2.2.2.2.2.2.2.2.1.1.2.2.1 S.2.2.2.2.2.2.2.2.1.1.2.2.2.1 S.2.2.2.2.2.2.2.2.1.1.2.2.2.2.1 S.2.2.2.2.2.2.2.2.1.1.2.2.2.2.2.1 S.2.2.2.2.2.2.2.2.1.1.2.2.2.2.2.2.1 S.2.2.2.2.2.2.2.2.1.1.2.2.2.2.2.2.2, bX4 G q ((o + 43) + 9) S.2.2.2.2.2.2.2.2.1.2.1.1 S.2.2.2.2.2.2.2.2.1.2.1.2, bX7 G q (o + 54) S.2.2.2.2.2.2.2.2.2.1 S.2.2.2.2.2.2.2.2.2.2.1 S.2.2.2.2.2.2.2.2.2.2.2] := by
  refine z_met zc_X10_tellsUnlikeCells (Nat.le_of_ble_eq_true rfl) ?_
  intro p e s m below meth c A ls hZ hl hw
  have hl : lv_has ls 5 [(0, .ref (q (o + 0))), (1, .int v1)] := hl
  obtain ⟨hS0, hr, hlk, hK, hA, hT⟩ := id hZ
  have hx := hS0.1
  have hb := hS0.2.1
  have hml := hS0.2.2.1
  have hown : s.vm.findClass RX10 = some m.cls := hS0.2.2.2.1
  have hts := hS0.2.2.2.2
  unfold f_X10_tellsUnlikeCells at hf
  refine lv_iconst (v := 0) hx hb dX10_tellsUnlikeCells_0 rfl ?_
  refine lv_istore_n (lv' := [(2, .int 0), (0, .ref (q (o + 0))), (1, .int v1)]) hx hb dX10_tellsUnlikeCells_1 rfl hl (by decide) rfl (fun ls hl => ?_)
  refine lv_iconst (v := 0) hx hb dX10_tellsUnlikeCells_2 rfl ?_
  refine lv_istore_n (lv' := [(3, .int 0), (2, .int 0), (0, .ref (q (o + 0))), (1, .int v1)]) hx hb dX10_tellsUnlikeCells_3 rfl hl (by decide) rfl (fun ls hl => ?_)
  exact k_X10_tellsUnlikeCells_4 hZ _ 4096 _ _ _ _ _ _ _ hf hw (lv_sub hl [2, 3, 1, 0] rfl)
theorem zc_X10_lets : zC yX10_lets wsX10_lets cX10_lets 3 (some .int) 1 := ⟨⟨_, rfl⟩, by decide +kernel, by decide +kernel, by decide +kernel, by decide +kernel⟩
theorem m_X10_lets_0 : (.fieldLink RX10 19 "CellKeys" "rows" "LCellKeys$Rows;" : Cond) ∈ wsX10_lets := by decide +kernel
theorem in_X10_lets_X10 : ∀ w ∈ u_ws RX10 TX10 10, w ∈ wsX10_lets := by decide +kernel
theorem m_X10_lets_1 : (.fieldLink RX10 40 "CellKeys" "jail" "LCellKeys$Jail;" : Cond) ∈ wsX10_lets := by decide +kernel
theorem m_X10_lets_2 : (.fieldLink RX10 10 "CellKeys" "told" "LCellKeys$Told;" : Cond) ∈ wsX10_lets := by decide +kernel
set_option maxHeartbeats 4000000 in
set_option maxRecDepth 100000 in
theorem c_X10_lets (l : Launch) (G : zG) (q : Nat → Nat) (o : Nat) (S : VX10) (v1 : Int32) (y : Int32 × VX10) (hf : f_X10_lets S v1 = some y) : zMet l yX10_lets wsX10_lets 5 113 G [.ref (q (o + 0)), .int v1] [bX10 G q o, bX9 G q (o + 1) S.1.1 S.1.2.1 S.1.2.2.1 S.1.2.2.2.1 S.1.2.2.2.2, bX6 G q (o + 3) S.2.1.1 S.2.1.2, bX8 G q (o + 12) S.2.2.1.1 S.2.2.1.2, bX5 G q (o + 19) S.2.2.2.1.2.1 S.2.2.2.1.2.2.1 S.2.2.2.1.2.2.2.1 S.2.2.2.1.2.2.2.2, bX2 G q ((o + 19) + 2) S.2.2.2.1.1.1 S.2.2.2.1.1.2.1 S.2.2.2.1.1.2.2.1 S.2.2.2.1.1.2.2.2.1 S.2.2.2.1.1.2.2.2.2.1 S.2.2.2.1.1.2.2.2.2.2.1 S.2.2.2.1.1.2.2.2.2.2.2.1 S.2.2.2.1.1.2.2.2.2.2.2.2, bX2 G q (o + 27) S.2.2.2.2.1.1 S.2.2.2.2.1.2.1 S.2.2.2.2.1.2.2.1 S.2.2.2.2.1.2.2.2.1 S.2.2.2.2.1.2.2.2.2.1 S.2.2.2.2.1.2.2.2.2.2.1 S.2.2.2.2.1.2.2.2.2.2.2.1 S.2.2.2.2.1.2.2.2.2.2.2.2, bX1 G q (o + 33) S.2.2.2.2.2.1.1 S.2.2.2.2.2.1.2.1 S.2.2.2.2.2.1.2.2.1 S.2.2.2.2.2.1.2.2.2, bX4 G q (o + 36) S.2.2.2.2.2.2.1.1 S.2.2.2.2.2.2.1.2, bX3 G q (o + 38) S.2.2.2.2.2.2.2.1.1 S.2.2.2.2.2.2.2.1.2.1 S.2.2.2.2.2.2.2.1.2.2.1 S.2.2.2.2.2.2.2.1.2.2.2, bX0 G q (o + 43) S.2.2.2.2.2.2.2.2.1.2.2.1 S.2.2.2.2.2.2.2.2.1.2.2.2, bX2 G q ((o + 43) + 3) S.2.2.2.2.2.2.2.2.1.1.1 S.2.2.2.2.2.2.2.2.1.1.2.1 S.2.2.2.2.2.2.2.2.1.1.2.2.1 S.2.2.2.2.2.2.2.2.1.1.2.2.2.1 S.2.2.2.2.2.2.2.2.1.1.2.2.2.2.1 S.2.2.2.2.2.2.2.2.1.1.2.2.2.2.2.1 S.2.2.2.2.2.2.2.2.1.1.2.2.2.2.2.2.1 S.2.2.2.2.2.2.2.2.1.1.2.2.2.2.2.2.2, bX4 G q ((o + 43) + 9) S.2.2.2.2.2.2.2.2.1.2.1.1 S.2.2.2.2.2.2.2.2.1.2.1.2, bX7 G q (o + 54) S.2.2.2.2.2.2.2.2.2.1 S.2.2.2.2.2.2.2.2.2.2.1 S.2.2.2.2.2.2.2.2.2.2.2] (some (.int y.1)) [bX10 G q o, bX9 G q (o + 1) y.2.1.1 y.2.1.2.1 y.2.1.2.2.1 y.2.1.2.2.2.1 y.2.1.2.2.2.2, bX6 G q (o + 3) y.2.2.1.1 y.2.2.1.2, bX8 G q (o + 12) y.2.2.2.1.1 y.2.2.2.1.2, bX5 G q (o + 19) y.2.2.2.2.1.2.1 y.2.2.2.2.1.2.2.1 y.2.2.2.2.1.2.2.2.1 y.2.2.2.2.1.2.2.2.2, bX2 G q ((o + 19) + 2) y.2.2.2.2.1.1.1 y.2.2.2.2.1.1.2.1 y.2.2.2.2.1.1.2.2.1 y.2.2.2.2.1.1.2.2.2.1 y.2.2.2.2.1.1.2.2.2.2.1 y.2.2.2.2.1.1.2.2.2.2.2.1 y.2.2.2.2.1.1.2.2.2.2.2.2.1 y.2.2.2.2.1.1.2.2.2.2.2.2.2, bX2 G q (o + 27) y.2.2.2.2.2.1.1 y.2.2.2.2.2.1.2.1 y.2.2.2.2.2.1.2.2.1 y.2.2.2.2.2.1.2.2.2.1 y.2.2.2.2.2.1.2.2.2.2.1 y.2.2.2.2.2.1.2.2.2.2.2.1 y.2.2.2.2.2.1.2.2.2.2.2.2.1 y.2.2.2.2.2.1.2.2.2.2.2.2.2, bX1 G q (o + 33) y.2.2.2.2.2.2.1.1 y.2.2.2.2.2.2.1.2.1 y.2.2.2.2.2.2.1.2.2.1 y.2.2.2.2.2.2.1.2.2.2, bX4 G q (o + 36) y.2.2.2.2.2.2.2.1.1 y.2.2.2.2.2.2.2.1.2, bX3 G q (o + 38) y.2.2.2.2.2.2.2.2.1.1 y.2.2.2.2.2.2.2.2.1.2.1 y.2.2.2.2.2.2.2.2.1.2.2.1 y.2.2.2.2.2.2.2.2.1.2.2.2, bX0 G q (o + 43) y.2.2.2.2.2.2.2.2.2.1.2.2.1 y.2.2.2.2.2.2.2.2.2.1.2.2.2, bX2 G q ((o + 43) + 3) y.2.2.2.2.2.2.2.2.2.1.1.1 y.2.2.2.2.2.2.2.2.2.1.1.2.1 y.2.2.2.2.2.2.2.2.2.1.1.2.2.1 y.2.2.2.2.2.2.2.2.2.1.1.2.2.2.1 y.2.2.2.2.2.2.2.2.2.1.1.2.2.2.2.1 y.2.2.2.2.2.2.2.2.2.1.1.2.2.2.2.2.1 y.2.2.2.2.2.2.2.2.2.1.1.2.2.2.2.2.2.1 y.2.2.2.2.2.2.2.2.2.1.1.2.2.2.2.2.2.2, bX4 G q ((o + 43) + 9) y.2.2.2.2.2.2.2.2.2.1.2.1.1 y.2.2.2.2.2.2.2.2.2.1.2.1.2, bX7 G q (o + 54) y.2.2.2.2.2.2.2.2.2.2.1 y.2.2.2.2.2.2.2.2.2.2.2.1 y.2.2.2.2.2.2.2.2.2.2.2.2] := by
  refine z_met zc_X10_lets (Nat.le_of_ble_eq_true rfl) ?_
  intro p e s m below meth c A ls hZ hl hw
  have hl : lv_has ls 3 [(0, .ref (q (o + 0))), (1, .int v1)] := hl
  obtain ⟨hS0, hr, hlk, hK, hA, hT⟩ := id hZ
  have hx := hS0.1
  have hb := hS0.2.1
  have hml := hS0.2.2.1
  have hown : s.vm.findClass RX10 = some m.cls := hS0.2.2.2.1
  have hts := hS0.2.2.2.2
  unfold f_X10_lets at hf
  refine lv_aload_n hx hb dX10_lets_0 rfl (lv_at hl 0 rfl) ?_
  refine lv_iload_n hx hb dX10_lets_1 rfl (lv_at hl 1 rfl) ?_
  obtain ⟨r1, e2, hf⟩ := z_bd hf
  refine z_callV1 (As := [.int v1]) (rest := []) (bs' := [bX10 G q o, bX9 G q (o + 1) r1.2.1.1 r1.2.1.2.1 r1.2.1.2.2.1 r1.2.1.2.2.2.1 r1.2.1.2.2.2.2, bX6 G q (o + 3) r1.2.2.1.1 r1.2.2.1.2, bX8 G q (o + 12) r1.2.2.2.1.1 r1.2.2.2.1.2, bX5 G q (o + 19) r1.2.2.2.2.1.2.1 r1.2.2.2.2.1.2.2.1 r1.2.2.2.2.1.2.2.2.1 r1.2.2.2.2.1.2.2.2.2, bX2 G q ((o + 19) + 2) r1.2.2.2.2.1.1.1 r1.2.2.2.2.1.1.2.1 r1.2.2.2.2.1.1.2.2.1 r1.2.2.2.2.1.1.2.2.2.1 r1.2.2.2.2.1.1.2.2.2.2.1 r1.2.2.2.2.1.1.2.2.2.2.2.1 r1.2.2.2.2.1.1.2.2.2.2.2.2.1 r1.2.2.2.2.1.1.2.2.2.2.2.2.2, bX2 G q (o + 27) r1.2.2.2.2.2.1.1 r1.2.2.2.2.2.1.2.1 r1.2.2.2.2.2.1.2.2.1 r1.2.2.2.2.2.1.2.2.2.1 r1.2.2.2.2.2.1.2.2.2.2.1 r1.2.2.2.2.2.1.2.2.2.2.2.1 r1.2.2.2.2.2.1.2.2.2.2.2.2.1 r1.2.2.2.2.2.1.2.2.2.2.2.2.2, bX1 G q (o + 33) r1.2.2.2.2.2.2.1.1 r1.2.2.2.2.2.2.1.2.1 r1.2.2.2.2.2.2.1.2.2.1 r1.2.2.2.2.2.2.1.2.2.2, bX4 G q (o + 36) r1.2.2.2.2.2.2.2.1.1 r1.2.2.2.2.2.2.2.1.2, bX3 G q (o + 38) r1.2.2.2.2.2.2.2.2.1.1 r1.2.2.2.2.2.2.2.2.1.2.1 r1.2.2.2.2.2.2.2.2.1.2.2.1 r1.2.2.2.2.2.2.2.2.1.2.2.2, bX0 G q (o + 43) r1.2.2.2.2.2.2.2.2.2.1.2.2.1 r1.2.2.2.2.2.2.2.2.2.1.2.2.2, bX2 G q ((o + 43) + 3) r1.2.2.2.2.2.2.2.2.2.1.1.1 r1.2.2.2.2.2.2.2.2.2.1.1.2.1 r1.2.2.2.2.2.2.2.2.2.1.1.2.2.1 r1.2.2.2.2.2.2.2.2.2.1.1.2.2.2.1 r1.2.2.2.2.2.2.2.2.2.1.1.2.2.2.2.1 r1.2.2.2.2.2.2.2.2.2.1.1.2.2.2.2.2.1 r1.2.2.2.2.2.2.2.2.2.1.1.2.2.2.2.2.2.1 r1.2.2.2.2.2.2.2.2.2.1.1.2.2.2.2.2.2.2, bX4 G q ((o + 43) + 9) r1.2.2.2.2.2.2.2.2.2.1.2.1.1 r1.2.2.2.2.2.2.2.2.2.1.2.1.2, bX7 G q (o + 54) r1.2.2.2.2.2.2.2.2.2.2.1 r1.2.2.2.2.2.2.2.2.2.2.2.1 r1.2.2.2.2.2.2.2.2.2.2.2.2]) hS0 (c_X10_rowRefusal l G q o S v1 r1 e2) zc_X10_rowRefusal rfl gX10_lets_X10_rowRefusal ⟨Nat.le_of_ble_eq_true rfl, Nat.le_of_ble_eq_true rfl⟩ hK hA hT hw (is := [0, 1, 2, 3, 4, 5, 6, 7, 8, 9, 10, 11, 12, 13]) rfl rfl rfl rfl rfl rfl rfl hl.1 rfl (Nat.le_of_ble_eq_true rfl) dX10_lets_2 (fun H locs hw => ?_)
  refine lv_istore_n (lv' := [(2, .int r1.1), (0, .ref (q (o + 0))), (1, .int v1)]) hx hb dX10_lets_5 rfl hl (by decide) rfl (fun ls hl => ?_)
  refine lv_iload_n hx hb dX10_lets_6 rfl (lv_at hl 0 rfl) ?_
  refine lv_if_eq (tgt := 12) hx hb dX10_lets_7 rfl (fun hc => ?_) (fun hc => ?_)
  · have hf := z_t hc hf
    refine lv_aload_n hx hb dX10_lets_12 rfl (lv_at hl 1 rfl) ?_
    refine z_get hS0 in_X10_lets_X10 hK hw 0 1 rfl rfl rfl (by decide) (hts _ m_X10_lets_0) (v := .ref (q ((o + 3) + 0))) rfl dX10_lets_13 ?_
    refine lv_iload_n hx hb dX10_lets_16 rfl (lv_at hl 2 rfl) ?_
    obtain ⟨r3, e4, hf⟩ := z_bd hf
    refine z_callV1 (As := [.int v1]) (rest := []) (bs' := [bX10 G q o, bX9 G q (o + 1) r1.2.1.1 r1.2.1.2.1 r1.2.1.2.2.1 r1.2.1.2.2.2.1 r1.2.1.2.2.2.2, bX6 G q (o + 3) r1.2.2.1.1 r1.2.2.1.2, bX8 G q (o + 12) r1.2.2.2.1.1 r1.2.2.2.1.2, bX5 G q (o + 19) r1.2.2.2.2.1.2.1 r1.2.2.2.2.1.2.2.1 r1.2.2.2.2.1.2.2.2.1 r1.2.2.2.2.1.2.2.2.2, bX2 G q ((o + 19) + 2) r1.2.2.2.2.1.1.1 r1.2.2.2.2.1.1.2.1 r1.2.2.2.2.1.1.2.2.1 r1.2.2.2.2.1.1.2.2.2.1 r1.2.2.2.2.1.1.2.2.2.2.1 r1.2.2.2.2.1.1.2.2.2.2.2.1 r1.2.2.2.2.1.1.2.2.2.2.2.2.1 r1.2.2.2.2.1.1.2.2.2.2.2.2.2, bX2 G q (o + 27) r1.2.2.2.2.2.1.1 r1.2.2.2.2.2.1.2.1 r1.2.2.2.2.2.1.2.2.1 r1.2.2.2.2.2.1.2.2.2.1 r1.2.2.2.2.2.1.2.2.2.2.1 r1.2.2.2.2.2.1.2.2.2.2.2.1 r1.2.2.2.2.2.1.2.2.2.2.2.2.1 r1.2.2.2.2.2.1.2.2.2.2.2.2.2, bX1 G q (o + 33) r1.2.2.2.2.2.2.1.1 r1.2.2.2.2.2.2.1.2.1 r1.2.2.2.2.2.2.1.2.2.1 r1.2.2.2.2.2.2.1.2.2.2, bX4 G q (o + 36) r1.2.2.2.2.2.2.2.1.1 r1.2.2.2.2.2.2.2.1.2, bX3 G q (o + 38) r1.2.2.2.2.2.2.2.2.1.1 r1.2.2.2.2.2.2.2.2.1.2.1 r1.2.2.2.2.2.2.2.2.1.2.2.1 r1.2.2.2.2.2.2.2.2.1.2.2.2, bX0 G q (o + 43) r1.2.2.2.2.2.2.2.2.2.1.2.2.1 r1.2.2.2.2.2.2.2.2.2.1.2.2.2, bX2 G q ((o + 43) + 3) r1.2.2.2.2.2.2.2.2.2.1.1.1 r1.2.2.2.2.2.2.2.2.2.1.1.2.1 r1.2.2.2.2.2.2.2.2.2.1.1.2.2.1 r1.2.2.2.2.2.2.2.2.2.1.1.2.2.2.1 r1.2.2.2.2.2.2.2.2.2.1.1.2.2.2.2.1 r1.2.2.2.2.2.2.2.2.2.1.1.2.2.2.2.2.1 r1.2.2.2.2.2.2.2.2.2.1.1.2.2.2.2.2.2.1 r1.2.2.2.2.2.2.2.2.2.1.1.2.2.2.2.2.2.2, bX4 G q ((o + 43) + 9) r1.2.2.2.2.2.2.2.2.2.1.2.1.1 r1.2.2.2.2.2.2.2.2.2.1.2.1.2, bX7 G q (o + 54) r1.2.2.2.2.2.2.2.2.2.2.1 r1.2.2.2.2.2.2.2.2.2.2.2.1 r1.2.2.2.2.2.2.2.2.2.2.2.2]) hS0 (c_X6_sizeOf l G q (o + 3) r1.2.2.1 v1 r3 e4) zc_X6_sizeOf rfl gX10_lets_X6_sizeOf ⟨Nat.le_of_ble_eq_true rfl, Nat.le_of_ble_eq_true rfl⟩ hK hA hT hw (is := [2]) rfl rfl rfl rfl rfl rfl rfl hl.1 rfl (Nat.le_of_ble_eq_true rfl) dX10_lets_17 (fun H locs hw => ?_)
    refine lv_aload_n hx hb dX10_lets_20 rfl (lv_at hl 1 rfl) ?_
    refine z_get hS0 in_X10_lets_X10 hK hw 0 4 rfl rfl rfl (by decide) (hts _ m_X10_lets_1) (v := .ref (q ((o + 27) + 0))) rfl dX10_lets_21 ?_
    obtain ⟨r5, e6, hf⟩ := z_bd hf
    refine z_callV1 (As := []) (rest := [.int r3]) (bs' := [bX10 G q o, bX9 G q (o + 1) r1.2.1.1 r1.2.1.2.1 r1.2.1.2.2.1 r1.2.1.2.2.2.1 r1.2.1.2.2.2.2, bX6 G q (o + 3) r1.2.2.1.1 r1.2.2.1.2, bX8 G q (o + 12) r1.2.2.2.1.1 r1.2.2.2.1.2, bX5 G q (o + 19) r1.2.2.2.2.1.2.1 r1.2.2.2.2.1.2.2.1 r1.2.2.2.2.1.2.2.2.1 r1.2.2.2.2.1.2.2.2.2, bX2 G q ((o + 19) + 2) r1.2.2.2.2.1.1.1 r1.2.2.2.2.1.1.2.1 r1.2.2.2.2.1.1.2.2.1 r1.2.2.2.2.1.1.2.2.2.1 r1.2.2.2.2.1.1.2.2.2.2.1 r1.2.2.2.2.1.1.2.2.2.2.2.1 r1.2.2.2.2.1.1.2.2.2.2.2.2.1 r1.2.2.2.2.1.1.2.2.2.2.2.2.2, bX2 G q (o + 27) r1.2.2.2.2.2.1.1 r1.2.2.2.2.2.1.2.1 r1.2.2.2.2.2.1.2.2.1 r1.2.2.2.2.2.1.2.2.2.1 r1.2.2.2.2.2.1.2.2.2.2.1 r1.2.2.2.2.2.1.2.2.2.2.2.1 r1.2.2.2.2.2.1.2.2.2.2.2.2.1 r1.2.2.2.2.2.1.2.2.2.2.2.2.2, bX1 G q (o + 33) r1.2.2.2.2.2.2.1.1 r1.2.2.2.2.2.2.1.2.1 r1.2.2.2.2.2.2.1.2.2.1 r1.2.2.2.2.2.2.1.2.2.2, bX4 G q (o + 36) r1.2.2.2.2.2.2.2.1.1 r1.2.2.2.2.2.2.2.1.2, bX3 G q (o + 38) r1.2.2.2.2.2.2.2.2.1.1 r1.2.2.2.2.2.2.2.2.1.2.1 r1.2.2.2.2.2.2.2.2.1.2.2.1 r1.2.2.2.2.2.2.2.2.1.2.2.2, bX0 G q (o + 43) r1.2.2.2.2.2.2.2.2.2.1.2.2.1 r1.2.2.2.2.2.2.2.2.2.1.2.2.2, bX2 G q ((o + 43) + 3) r1.2.2.2.2.2.2.2.2.2.1.1.1 r1.2.2.2.2.2.2.2.2.2.1.1.2.1 r1.2.2.2.2.2.2.2.2.2.1.1.2.2.1 r1.2.2.2.2.2.2.2.2.2.1.1.2.2.2.1 r1.2.2.2.2.2.2.2.2.2.1.1.2.2.2.2.1 r1.2.2.2.2.2.2.2.2.2.1.1.2.2.2.2.2.1 r1.2.2.2.2.2.2.2.2.2.1.1.2.2.2.2.2.2.1 r1.2.2.2.2.2.2.2.2.2.1.1.2.2.2.2.2.2.2, bX4 G q ((o + 43) + 9) r1.2.2.2.2.2.2.2.2.2.1.2.1.1 r1.2.2.2.2.2.2.2.2.2.1.2.1.2, bX7 G q (o + 54) r1.2.2.2.2.2.2.2.2.2.2.1 r1.2.2.2.2.2.2.2.2.2.2.2.1 r1.2.2.2.2.2.2.2.2.2.2.2.2]) hS0 (c_X2_cells l G q (o + 27) r1.2.2.2.2.2.1 r5 e6) zc_X2_cells rfl gX10_lets_X2_cells ⟨Nat.le_of_ble_eq_true rfl, Nat.le_of_ble_eq_true rfl⟩ hK hA hT hw (is := [6]) rfl rfl rfl rfl rfl rfl rfl hl.1 rfl (Nat.le_of_ble_eq_true rfl) dX10_lets_24 (fun H locs hw => ?_)
    refine lv_icmp_le (tgt := 39) hx hb dX10_lets_27 rfl (fun hc => ?_) (fun hc => ?_)
    · have hf := z_t hc hf
      refine lv_aload_n hx hb dX10_lets_39 rfl (lv_at hl 1 rfl) ?_
      refine lv_iload_n hx hb dX10_lets_40 rfl (lv_at hl 2 rfl) ?_
      obtain ⟨r7, e8, hf⟩ := z_bd hf
      refine z_callV1 (As := [.int v1]) (rest := []) (bs' := [bX10 G q o, bX9 G q (o + 1) r1.2.1.1 r1.2.1.2.1 r1.2.1.2.2.1 r1.2.1.2.2.2.1 r1.2.1.2.2.2.2, bX6 G q (o + 3) r1.2.2.1.1 r1.2.2.1.2, bX8 G q (o + 12) r1.2.2.2.1.1 r1.2.2.2.1.2, bX5 G q (o + 19) r1.2.2.2.2.1.2.1 r1.2.2.2.2.1.2.2.1 r1.2.2.2.2.1.2.2.2.1 r1.2.2.2.2.1.2.2.2.2, bX2 G q ((o + 19) + 2) r1.2.2.2.2.1.1.1 r1.2.2.2.2.1.1.2.1 r1.2.2.2.2.1.1.2.2.1 r1.2.2.2.2.1.1.2.2.2.1 r1.2.2.2.2.1.1.2.2.2.2.1 r1.2.2.2.2.1.1.2.2.2.2.2.1 r1.2.2.2.2.1.1.2.2.2.2.2.2.1 r1.2.2.2.2.1.1.2.2.2.2.2.2.2, bX2 G q (o + 27) r1.2.2.2.2.2.1.1 r1.2.2.2.2.2.1.2.1 r1.2.2.2.2.2.1.2.2.1 r1.2.2.2.2.2.1.2.2.2.1 r1.2.2.2.2.2.1.2.2.2.2.1 r1.2.2.2.2.2.1.2.2.2.2.2.1 r1.2.2.2.2.2.1.2.2.2.2.2.2.1 r1.2.2.2.2.2.1.2.2.2.2.2.2.2, bX1 G q (o + 33) r1.2.2.2.2.2.2.1.1 r1.2.2.2.2.2.2.1.2.1 r1.2.2.2.2.2.2.1.2.2.1 r1.2.2.2.2.2.2.1.2.2.2, bX4 G q (o + 36) r1.2.2.2.2.2.2.2.1.1 r1.2.2.2.2.2.2.2.1.2, bX3 G q (o + 38) r1.2.2.2.2.2.2.2.2.1.1 r1.2.2.2.2.2.2.2.2.1.2.1 r1.2.2.2.2.2.2.2.2.1.2.2.1 r1.2.2.2.2.2.2.2.2.1.2.2.2, bX0 G q (o + 43) r1.2.2.2.2.2.2.2.2.2.1.2.2.1 r1.2.2.2.2.2.2.2.2.2.1.2.2.2, bX2 G q ((o + 43) + 3) r1.2.2.2.2.2.2.2.2.2.1.1.1 r1.2.2.2.2.2.2.2.2.2.1.1.2.1 r1.2.2.2.2.2.2.2.2.2.1.1.2.2.1 r1.2.2.2.2.2.2.2.2.2.1.1.2.2.2.1 r1.2.2.2.2.2.2.2.2.2.1.1.2.2.2.2.1 r1.2.2.2.2.2.2.2.2.2.1.1.2.2.2.2.2.1 r1.2.2.2.2.2.2.2.2.2.1.1.2.2.2.2.2.2.1 r1.2.2.2.2.2.2.2.2.2.1.1.2.2.2.2.2.2.2, bX4 G q ((o + 43) + 9) r1.2.2.2.2.2.2.2.2.2.1.2.1.1 r1.2.2.2.2.2.2.2.2.2.1.2.1.2, bX7 G q (o + 54) r1.2.2.2.2.2.2.2.2.2.2.1 r1.2.2.2.2.2.2.2.2.2.2.2.1 r1.2.2.2.2.2.2.2.2.2.2.2.2]) hS0 (c_X10_tellsUnlikeCells l G q o r1.2 v1 r7 e8) zc_X10_tellsUnlikeCells rfl gX10_lets_X10_tellsUnlikeCells ⟨Nat.le_of_ble_eq_true rfl, Nat.le_of_ble_eq_true rfl⟩ hK hA hT hw (is := [0, 1, 2, 3, 4, 5, 6, 7, 8, 9, 10, 11, 12, 13]) rfl rfl rfl rfl rfl rfl rfl hl.1 rfl (Nat.le_of_ble_eq_true rfl) dX10_lets_41 (fun H locs hw => ?_)
      refine lv_if_ne (tgt := 56) hx hb dX10_lets_44 rfl (fun hc => ?_) (fun hc => ?_)
      · have hf := z_f hc hf
        refine lv_aload_n hx hb dX10_lets_56 rfl (lv_at hl 1 rfl) ?_
        refine lv_iload_n hx hb dX10_lets_57 rfl (lv_at hl 2 rfl) ?_
        obtain ⟨r9, e10, hf⟩ := z_bd hf
        refine z_callV1 (As := [.int v1]) (rest := []) (bs' := [bX10 G q o, bX9 G q (o + 1) r9.2.1.1 r9.2.1.2.1 r9.2.1.2.2.1 r9.2.1.2.2.2.1 r9.2.1.2.2.2.2, bX6 G q (o + 3) r9.2.2.1.1 r9.2.2.1.2, bX8 G q (o + 12) r9.2.2.2.1.1 r9.2.2.2.1.2, bX5 G q (o + 19) r9.2.2.2.2.1.2.1 r9.2.2.2.2.1.2.2.1 r9.2.2.2.2.1.2.2.2.1 r9.2.2.2.2.1.2.2.2.2, bX2 G q ((o + 19) + 2) r9.2.2.2.2.1.1.1 r9.2.2.2.2.1.1.2.1 r9.2.2.2.2.1.1.2.2.1 r9.2.2.2.2.1.1.2.2.2.1 r9.2.2.2.2.1.1.2.2.2.2.1 r9.2.2.2.2.1.1.2.2.2.2.2.1 r9.2.2.2.2.1.1.2.2.2.2.2.2.1 r9.2.2.2.2.1.1.2.2.2.2.2.2.2, bX2 G q (o + 27) r9.2.2.2.2.2.1.1 r9.2.2.2.2.2.1.2.1 r9.2.2.2.2.2.1.2.2.1 r9.2.2.2.2.2.1.2.2.2.1 r9.2.2.2.2.2.1.2.2.2.2.1 r9.2.2.2.2.2.1.2.2.2.2.2.1 r9.2.2.2.2.2.1.2.2.2.2.2.2.1 r9.2.2.2.2.2.1.2.2.2.2.2.2.2, bX1 G q (o + 33) r9.2.2.2.2.2.2.1.1 r9.2.2.2.2.2.2.1.2.1 r9.2.2.2.2.2.2.1.2.2.1 r9.2.2.2.2.2.2.1.2.2.2, bX4 G q (o + 36) r9.2.2.2.2.2.2.2.1.1 r9.2.2.2.2.2.2.2.1.2, bX3 G q (o + 38) r9.2.2.2.2.2.2.2.2.1.1 r9.2.2.2.2.2.2.2.2.1.2.1 r9.2.2.2.2.2.2.2.2.1.2.2.1 r9.2.2.2.2.2.2.2.2.1.2.2.2, bX0 G q (o + 43) r9.2.2.2.2.2.2.2.2.2.1.2.2.1 r9.2.2.2.2.2.2.2.2.2.1.2.2.2, bX2 G q ((o + 43) + 3) r9.2.2.2.2.2.2.2.2.2.1.1.1 r9.2.2.2.2.2.2.2.2.2.1.1.2.1 r9.2.2.2.2.2.2.2.2.2.1.1.2.2.1 r9.2.2.2.2.2.2.2.2.2.1.1.2.2.2.1 r9.2.2.2.2.2.2.2.2.2.1.1.2.2.2.2.1 r9.2.2.2.2.2.2.2.2.2.1.1.2.2.2.2.2.1 r9.2.2.2.2.2.2.2.2.2.1.1.2.2.2.2.2.2.1 r9.2.2.2.2.2.2.2.2.2.1.1.2.2.2.2.2.2.2, bX4 G q ((o + 43) + 9) r9.2.2.2.2.2.2.2.2.2.1.2.1.1 r9.2.2.2.2.2.2.2.2.2.1.2.1.2, bX7 G q (o + 54) r9.2.2.2.2.2.2.2.2.2.2.1 r9.2.2.2.2.2.2.2.2.2.2.2.1 r9.2.2.2.2.2.2.2.2.2.2.2.2]) hS0 (c_X10_letRowOut l G q o r1.2 v1 r9 e10) zc_X10_letRowOut rfl gX10_lets_X10_letRowOut ⟨Nat.le_of_ble_eq_true rfl, Nat.le_of_ble_eq_true rfl⟩ hK hA hT hw (is := [0, 1, 2, 3, 4, 5, 6, 7, 8, 9, 10, 11, 12, 13]) rfl rfl rfl rfl rfl rfl rfl hl.1 rfl (Nat.le_of_ble_eq_true rfl) dX10_lets_58 (fun H locs hw => ?_)
        cases hf
        exact z_iret hx hb hr hlk hw dX10_lets_61
      · have hf := z_t hc hf
        refine lv_aload_n hx hb dX10_lets_47 rfl (lv_at hl 1 rfl) ?_
        refine z_get hS0 in_X10_lets_X10 hK hw 0 0 rfl rfl rfl (by decide) (hts _ m_X10_lets_2) (v := .ref (q ((o + 1) + 0))) rfl dX10_lets_48 ?_
        refine lv_iconst (v := 3) hx hb dX10_lets_51 rfl ?_
        obtain ⟨r11, e12, hf⟩ := z_bd hf
        refine z_callV1 (As := [.int 3]) (rest := []) (bs' := [bX10 G q o, bX9 G q (o + 1) r11.2.1 r11.2.2.1 r11.2.2.2.1 r11.2.2.2.2.1 r11.2.2.2.2.2, bX6 G q (o + 3) r1.2.2.1.1 r1.2.2.1.2, bX8 G q (o + 12) r1.2.2.2.1.1 r1.2.2.2.1.2, bX5 G q (o + 19) r1.2.2.2.2.1.2.1 r1.2.2.2.2.1.2.2.1 r1.2.2.2.2.1.2.2.2.1 r1.2.2.2.2.1.2.2.2.2, bX2 G q ((o + 19) + 2) r1.2.2.2.2.1.1.1 r1.2.2.2.2.1.1.2.1 r1.2.2.2.2.1.1.2.2.1 r1.2.2.2.2.1.1.2.2.2.1 r1.2.2.2.2.1.1.2.2.2.2.1 r1.2.2.2.2.1.1.2.2.2.2.2.1 r1.2.2.2.2.1.1.2.2.2.2.2.2.1 r1.2.2.2.2.1.1.2.2.2.2.2.2.2, bX2 G q (o + 27) r1.2.2.2.2.2.1.1 r1.2.2.2.2.2.1.2.1 r1.2.2.2.2.2.1.2.2.1 r1.2.2.2.2.2.1.2.2.2.1 r1.2.2.2.2.2.1.2.2.2.2.1 r1.2.2.2.2.2.1.2.2.2.2.2.1 r1.2.2.2.2.2.1.2.2.2.2.2.2.1 r1.2.2.2.2.2.1.2.2.2.2.2.2.2, bX1 G q (o + 33) r1.2.2.2.2.2.2.1.1 r1.2.2.2.2.2.2.1.2.1 r1.2.2.2.2.2.2.1.2.2.1 r1.2.2.2.2.2.2.1.2.2.2, bX4 G q (o + 36) r1.2.2.2.2.2.2.2.1.1 r1.2.2.2.2.2.2.2.1.2, bX3 G q (o + 38) r1.2.2.2.2.2.2.2.2.1.1 r1.2.2.2.2.2.2.2.2.1.2.1 r1.2.2.2.2.2.2.2.2.1.2.2.1 r1.2.2.2.2.2.2.2.2.1.2.2.2, bX0 G q (o + 43) r1.2.2.2.2.2.2.2.2.2.1.2.2.1 r1.2.2.2.2.2.2.2.2.2.1.2.2.2, bX2 G q ((o + 43) + 3) r1.2.2.2.2.2.2.2.2.2.1.1.1 r1.2.2.2.2.2.2.2.2.2.1.1.2.1 r1.2.2.2.2.2.2.2.2.2.1.1.2.2.1 r1.2.2.2.2.2.2.2.2.2.1.1.2.2.2.1 r1.2.2.2.2.2.2.2.2.2.1.1.2.2.2.2.1 r1.2.2.2.2.2.2.2.2.2.1.1.2.2.2.2.2.1 r1.2.2.2.2.2.2.2.2.2.1.1.2.2.2.2.2.2.1 r1.2.2.2.2.2.2.2.2.2.1.1.2.2.2.2.2.2.2, bX4 G q ((o + 43) + 9) r1.2.2.2.2.2.2.2.2.2.1.2.1.1 r1.2.2.2.2.2.2.2.2.2.1.2.1.2, bX7 G q (o + 54) r1.2.2.2.2.2.2.2.2.2.2.1 r1.2.2.2.2.2.2.2.2.2.2.2.1 r1.2.2.2.2.2.2.2.2.2.2.2.2]) hS0 (c_X9_found l G q (o + 1) r1.2.1 3 r11 e12) zc_X9_found rfl gX10_lets_X9_found ⟨Nat.le_of_ble_eq_true rfl, Nat.le_of_ble_eq_true rfl⟩ hK hA hT hw (is := [1]) rfl rfl rfl rfl rfl rfl rfl hl.1 rfl (Nat.le_of_ble_eq_true rfl) dX10_lets_52 (fun H locs hw => ?_)
        cases hf
        exact z_iret hx hb hr hlk hw dX10_lets_55
    · have hf := z_f hc hf
      refine lv_aload_n hx hb dX10_lets_30 rfl (lv_at hl 1 rfl) ?_
      refine z_get hS0 in_X10_lets_X10 hK hw 0 0 rfl rfl rfl (by decide) (hts _ m_X10_lets_2) (v := .ref (q ((o + 1) + 0))) rfl dX10_lets_31 ?_
      refine lv_iconst (v := 5) hx hb dX10_lets_34 rfl ?_
      obtain ⟨r13, e14, hf⟩ := z_bd hf
      refine z_callV1 (As := [.int 5]) (rest := []) (bs' := [bX10 G q o, bX9 G q (o + 1) r13.2.1 r13.2.2.1 r13.2.2.2.1 r13.2.2.2.2.1 r13.2.2.2.2.2, bX6 G q (o + 3) r1.2.2.1.1 r1.2.2.1.2, bX8 G q (o + 12) r1.2.2.2.1.1 r1.2.2.2.1.2, bX5 G q (o + 19) r1.2.2.2.2.1.2.1 r1.2.2.2.2.1.2.2.1 r1.2.2.2.2.1.2.2.2.1 r1.2.2.2.2.1.2.2.2.2, bX2 G q ((o + 19) + 2) r1.2.2.2.2.1.1.1 r1.2.2.2.2.1.1.2.1 r1.2.2.2.2.1.1.2.2.1 r1.2.2.2.2.1.1.2.2.2.1 r1.2.2.2.2.1.1.2.2.2.2.1 r1.2.2.2.2.1.1.2.2.2.2.2.1 r1.2.2.2.2.1.1.2.2.2.2.2.2.1 r1.2.2.2.2.1.1.2.2.2.2.2.2.2, bX2 G q (o + 27) r1.2.2.2.2.2.1.1 r1.2.2.2.2.2.1.2.1 r1.2.2.2.2.2.1.2.2.1 r1.2.2.2.2.2.1.2.2.2.1 r1.2.2.2.2.2.1.2.2.2.2.1 r1.2.2.2.2.2.1.2.2.2.2.2.1 r1.2.2.2.2.2.1.2.2.2.2.2.2.1 r1.2.2.2.2.2.1.2.2.2.2.2.2.2, bX1 G q (o + 33) r1.2.2.2.2.2.2.1.1 r1.2.2.2.2.2.2.1.2.1 r1.2.2.2.2.2.2.1.2.2.1 r1.2.2.2.2.2.2.1.2.2.2, bX4 G q (o + 36) r1.2.2.2.2.2.2.2.1.1 r1.2.2.2.2.2.2.2.1.2, bX3 G q (o + 38) r1.2.2.2.2.2.2.2.2.1.1 r1.2.2.2.2.2.2.2.2.1.2.1 r1.2.2.2.2.2.2.2.2.1.2.2.1 r1.2.2.2.2.2.2.2.2.1.2.2.2, bX0 G q (o + 43) r1.2.2.2.2.2.2.2.2.2.1.2.2.1 r1.2.2.2.2.2.2.2.2.2.1.2.2.2, bX2 G q ((o + 43) + 3) r1.2.2.2.2.2.2.2.2.2.1.1.1 r1.2.2.2.2.2.2.2.2.2.1.1.2.1 r1.2.2.2.2.2.2.2.2.2.1.1.2.2.1 r1.2.2.2.2.2.2.2.2.2.1.1.2.2.2.1 r1.2.2.2.2.2.2.2.2.2.1.1.2.2.2.2.1 r1.2.2.2.2.2.2.2.2.2.1.1.2.2.2.2.2.1 r1.2.2.2.2.2.2.2.2.2.1.1.2.2.2.2.2.2.1 r1.2.2.2.2.2.2.2.2.2.1.1.2.2.2.2.2.2.2, bX4 G q ((o + 43) + 9) r1.2.2.2.2.2.2.2.2.2.1.2.1.1 r1.2.2.2.2.2.2.2.2.2.1.2.1.2, bX7 G q (o + 54) r1.2.2.2.2.2.2.2.2.2.2.1 r1.2.2.2.2.2.2.2.2.2.2.2.1 r1.2.2.2.2.2.2.2.2.2.2.2.2]) hS0 (c_X9_found l G q (o + 1) r1.2.1 5 r13 e14) zc_X9_found rfl gX10_lets_X9_found ⟨Nat.le_of_ble_eq_true rfl, Nat.le_of_ble_eq_true rfl⟩ hK hA hT hw (is := [1]) rfl rfl rfl rfl rfl rfl rfl hl.1 rfl (Nat.le_of_ble_eq_true rfl) dX10_lets_35 (fun H locs hw => ?_)
      cases hf
      exact z_iret hx hb hr hlk hw dX10_lets_38
  · have hf := z_f hc hf
    refine lv_iload_n hx hb dX10_lets_10 rfl (lv_at hl 0 rfl) ?_
    cases hf
    exact z_iret hx hb hr hlk hw dX10_lets_11
theorem zc_X10_lower : zC yX10_lower wsX10_lower cX10_lower 1 (some .long) 0 := ⟨⟨_, rfl⟩, by decide +kernel, by decide +kernel, by decide +kernel, by decide +kernel⟩
theorem m_X10_lower_0 : (.fieldLink RX10 10 "CellKeys" "told" "LCellKeys$Told;" : Cond) ∈ wsX10_lower := by decide +kernel
theorem in_X10_lower_X10 : ∀ w ∈ u_ws RX10 TX10 10, w ∈ wsX10_lower := by decide +kernel
set_option maxHeartbeats 4000000 in
set_option maxRecDepth 100000 in
theorem c_X10_lower (l : Launch) (G : zG) (q : Nat → Nat) (o : Nat) (S : VX10)  (y : Int64) (hf : f_X10_lower S = some y) : zMet l yX10_lower wsX10_lower 1 20 G [.ref (q (o + 0))] [bX10 G q o, bX9 G q (o + 1) S.1.1 S.1.2.1 S.1.2.2.1 S.1.2.2.2.1 S.1.2.2.2.2, bX6 G q (o + 3) S.2.1.1 S.2.1.2, bX8 G q (o + 12) S.2.2.1.1 S.2.2.1.2, bX5 G q (o + 19) S.2.2.2.1.2.1 S.2.2.2.1.2.2.1 S.2.2.2.1.2.2.2.1 S.2.2.2.1.2.2.2.2, bX2 G q ((o + 19) + 2) S.2.2.2.1.1.1 S.2.2.2.1.1.2.1 S.2.2.2.1.1.2.2.1 S.2.2.2.1.1.2.2.2.1 S.2.2.2.1.1.2.2.2.2.1 S.2.2.2.1.1.2.2.2.2.2.1 S.2.2.2.1.1.2.2.2.2.2.2.1 S.2.2.2.1.1.2.2.2.2.2.2.2, bX2 G q (o + 27) S.2.2.2.2.1.1 S.2.2.2.2.1.2.1 S.2.2.2.2.1.2.2.1 S.2.2.2.2.1.2.2.2.1 S.2.2.2.2.1.2.2.2.2.1 S.2.2.2.2.1.2.2.2.2.2.1 S.2.2.2.2.1.2.2.2.2.2.2.1 S.2.2.2.2.1.2.2.2.2.2.2.2, bX1 G q (o + 33) S.2.2.2.2.2.1.1 S.2.2.2.2.2.1.2.1 S.2.2.2.2.2.1.2.2.1 S.2.2.2.2.2.1.2.2.2, bX4 G q (o + 36) S.2.2.2.2.2.2.1.1 S.2.2.2.2.2.2.1.2, bX3 G q (o + 38) S.2.2.2.2.2.2.2.1.1 S.2.2.2.2.2.2.2.1.2.1 S.2.2.2.2.2.2.2.1.2.2.1 S.2.2.2.2.2.2.2.1.2.2.2, bX0 G q (o + 43) S.2.2.2.2.2.2.2.2.1.2.2.1 S.2.2.2.2.2.2.2.2.1.2.2.2, bX2 G q ((o + 43) + 3) S.2.2.2.2.2.2.2.2.1.1.1 S.2.2.2.2.2.2.2.2.1.1.2.1 S.2.2.2.2.2.2.2.2.1.1.2.2.1 S.2.2.2.2.2.2.2.2.1.1.2.2.2.1 S.2.2.2.2.2.2.2.2.1.1.2.2.2.2.1 S.2.2.2.2.2.2.2.2.1.1.2.2.2.2.2.1 S.2.2.2.2.2.2.2.2.1.1.2.2.2.2.2.2.1 S.2.2.2.2.2.2.2.2.1.1.2.2.2.2.2.2.2, bX4 G q ((o + 43) + 9) S.2.2.2.2.2.2.2.2.1.2.1.1 S.2.2.2.2.2.2.2.2.1.2.1.2, bX7 G q (o + 54) S.2.2.2.2.2.2.2.2.2.1 S.2.2.2.2.2.2.2.2.2.2.1 S.2.2.2.2.2.2.2.2.2.2.2] (some (.long y)) [bX10 G q o, bX9 G q (o + 1) S.1.1 S.1.2.1 S.1.2.2.1 S.1.2.2.2.1 S.1.2.2.2.2, bX6 G q (o + 3) S.2.1.1 S.2.1.2, bX8 G q (o + 12) S.2.2.1.1 S.2.2.1.2, bX5 G q (o + 19) S.2.2.2.1.2.1 S.2.2.2.1.2.2.1 S.2.2.2.1.2.2.2.1 S.2.2.2.1.2.2.2.2, bX2 G q ((o + 19) + 2) S.2.2.2.1.1.1 S.2.2.2.1.1.2.1 S.2.2.2.1.1.2.2.1 S.2.2.2.1.1.2.2.2.1 S.2.2.2.1.1.2.2.2.2.1 S.2.2.2.1.1.2.2.2.2.2.1 S.2.2.2.1.1.2.2.2.2.2.2.1 S.2.2.2.1.1.2.2.2.2.2.2.2, bX2 G q (o + 27) S.2.2.2.2.1.1 S.2.2.2.2.1.2.1 S.2.2.2.2.1.2.2.1 S.2.2.2.2.1.2.2.2.1 S.2.2.2.2.1.2.2.2.2.1 S.2.2.2.2.1.2.2.2.2.2.1 S.2.2.2.2.1.2.2.2.2.2.2.1 S.2.2.2.2.1.2.2.2.2.2.2.2, bX1 G q (o + 33) S.2.2.2.2.2.1.1 S.2.2.2.2.2.1.2.1 S.2.2.2.2.2.1.2.2.1 S.2.2.2.2.2.1.2.2.2, bX4 G q (o + 36) S.2.2.2.2.2.2.1.1 S.2.2.2.2.2.2.1.2, bX3 G q (o + 38) S.2.2.2.2.2.2.2.1.1 S.2.2.2.2.2.2.2.1.2.1 S.2.2.2.2.2.2.2.1.2.2.1 S.2.2.2.2.2.2.2.1.2.2.2, bX0 G q (o + 43) S.2.2.2.2.2.2.2.2.1.2.2.1 S.2.2.2.2.2.2.2.2.1.2.2.2, bX2 G q ((o + 43) + 3) S.2.2.2.2.2.2.2.2.1.1.1 S.2.2.2.2.2.2.2.2.1.1.2.1 S.2.2.2.2.2.2.2.2.1.1.2.2.1 S.2.2.2.2.2.2.2.2.1.1.2.2.2.1 S.2.2.2.2.2.2.2.2.1.1.2.2.2.2.1 S.2.2.2.2.2.2.2.2.1.1.2.2.2.2.2.1 S.2.2.2.2.2.2.2.2.1.1.2.2.2.2.2.2.1 S.2.2.2.2.2.2.2.2.1.1.2.2.2.2.2.2.2, bX4 G q ((o + 43) + 9) S.2.2.2.2.2.2.2.2.1.2.1.1 S.2.2.2.2.2.2.2.2.1.2.1.2, bX7 G q (o + 54) S.2.2.2.2.2.2.2.2.2.1 S.2.2.2.2.2.2.2.2.2.2.1 S.2.2.2.2.2.2.2.2.2.2.2] := by
  refine z_met zc_X10_lower (Nat.le_of_ble_eq_true rfl) ?_
  intro p e s m below meth c A ls hZ hl hw
  have hl : lv_has ls 1 [(0, .ref (q (o + 0)))] := hl
  obtain ⟨hS0, hr, hlk, hK, hA, hT⟩ := id hZ
  have hx := hS0.1
  have hb := hS0.2.1
  have hml := hS0.2.2.1
  have hown : s.vm.findClass RX10 = some m.cls := hS0.2.2.2.1
  have hts := hS0.2.2.2.2
  unfold f_X10_lower at hf
  refine lv_aload_n hx hb dX10_lower_0 rfl (lv_at hl 0 rfl) ?_
  refine z_get hS0 in_X10_lower_X10 hK hw 0 0 rfl rfl rfl (by decide) (hts _ m_X10_lower_0) (v := .ref (q ((o + 1) + 0))) rfl dX10_lower_1 ?_
  obtain ⟨r1, e2, hf⟩ := z_bd hf
  refine z_callV1 (As := []) (rest := []) (bs' := [bX10 G q o, bX9 G q (o + 1) S.1.1 S.1.2.1 S.1.2.2.1 S.1.2.2.2.1 S.1.2.2.2.2, bX6 G q (o + 3) S.2.1.1 S.2.1.2, bX8 G q (o + 12) S.2.2.1.1 S.2.2.1.2, bX5 G q (o + 19) S.2.2.2.1.2.1 S.2.2.2.1.2.2.1 S.2.2.2.1.2.2.2.1 S.2.2.2.1.2.2.2.2, bX2 G q ((o + 19) + 2) S.2.2.2.1.1.1 S.2.2.2.1.1.2.1 S.2.2.2.1.1.2.2.1 S.2.2.2.1.1.2.2.2.1 S.2.2.2.1.1.2.2.2.2.1 S.2.2.2.1.1.2.2.2.2.2.1 S.2.2.2.1.1.2.2.2.2.2.2.1 S.2.2.2.1.1.2.2.2.2.2.2.2, bX2 G q (o + 27) S.2.2.2.2.1.1 S.2.2.2.2.1.2.1 S.2.2.2.2.1.2.2.1 S.2.2.2.2.1.2.2.2.1 S.2.2.2.2.1.2.2.2.2.1 S.2.2.2.2.1.2.2.2.2.2.1 S.2.2.2.2.1.2.2.2.2.2.2.1 S.2.2.2.2.1.2.2.2.2.2.2.2, bX1 G q (o + 33) S.2.2.2.2.2.1.1 S.2.2.2.2.2.1.2.1 S.2.2.2.2.2.1.2.2.1 S.2.2.2.2.2.1.2.2.2, bX4 G q (o + 36) S.2.2.2.2.2.2.1.1 S.2.2.2.2.2.2.1.2, bX3 G q (o + 38) S.2.2.2.2.2.2.2.1.1 S.2.2.2.2.2.2.2.1.2.1 S.2.2.2.2.2.2.2.1.2.2.1 S.2.2.2.2.2.2.2.1.2.2.2, bX0 G q (o + 43) S.2.2.2.2.2.2.2.2.1.2.2.1 S.2.2.2.2.2.2.2.2.1.2.2.2, bX2 G q ((o + 43) + 3) S.2.2.2.2.2.2.2.2.1.1.1 S.2.2.2.2.2.2.2.2.1.1.2.1 S.2.2.2.2.2.2.2.2.1.1.2.2.1 S.2.2.2.2.2.2.2.2.1.1.2.2.2.1 S.2.2.2.2.2.2.2.2.1.1.2.2.2.2.1 S.2.2.2.2.2.2.2.2.1.1.2.2.2.2.2.1 S.2.2.2.2.2.2.2.2.1.1.2.2.2.2.2.2.1 S.2.2.2.2.2.2.2.2.1.1.2.2.2.2.2.2.2, bX4 G q ((o + 43) + 9) S.2.2.2.2.2.2.2.2.1.2.1.1 S.2.2.2.2.2.2.2.2.1.2.1.2, bX7 G q (o + 54) S.2.2.2.2.2.2.2.2.2.1 S.2.2.2.2.2.2.2.2.2.2.1 S.2.2.2.2.2.2.2.2.2.2.2]) hS0 (c_X9_lowerNumber l G q (o + 1) S.1 r1 e2) zc_X9_lowerNumber rfl gX10_lower_X9_lowerNumber ⟨Nat.le_of_ble_eq_true rfl, Nat.le_of_ble_eq_true rfl⟩ hK hA hT hw (is := [1]) rfl rfl rfl rfl rfl rfl rfl hl.1 rfl (Nat.le_of_ble_eq_true rfl) dX10_lower_4 (fun H locs hw => ?_)
  cases hf
  exact z_lret hx hb hr hlk hw dX10_lower_7
theorem zc_X10_mark : zC yX10_mark wsX10_mark cX10_mark 3 (some .int) 2 := ⟨⟨_, rfl⟩, by decide +kernel, by decide +kernel, by decide +kernel, by decide +kernel⟩
theorem m_X10_mark_0 : (.fieldLink RX10 40 "CellKeys" "jail" "LCellKeys$Jail;" : Cond) ∈ wsX10_mark := by decide +kernel
theorem in_X10_mark_X10 : ∀ w ∈ u_ws RX10 TX10 10, w ∈ wsX10_mark := by decide +kernel
theorem m_X10_mark_1 : (.fieldLink RX10 10 "CellKeys" "told" "LCellKeys$Told;" : Cond) ∈ wsX10_mark := by decide +kernel
set_option maxHeartbeats 4000000 in
set_option maxRecDepth 100000 in
theorem c_X10_mark (l : Launch) (G : zG) (q : Nat → Nat) (o : Nat) (S : VX10) (v1 : Int32) (v2 : Int32) (y : Int32 × VX10) (hf : f_X10_mark S v1 v2 = some y) : zMet l yX10_mark wsX10_mark 2 46 G [.ref (q (o + 0)), .int v1, .int v2] [bX10 G q o, bX9 G q (o + 1) S.1.1 S.1.2.1 S.1.2.2.1 S.1.2.2.2.1 S.1.2.2.2.2, bX6 G q (o + 3) S.2.1.1 S.2.1.2, bX8 G q (o + 12) S.2.2.1.1 S.2.2.1.2, bX5 G q (o + 19) S.2.2.2.1.2.1 S.2.2.2.1.2.2.1 S.2.2.2.1.2.2.2.1 S.2.2.2.1.2.2.2.2, bX2 G q ((o + 19) + 2) S.2.2.2.1.1.1 S.2.2.2.1.1.2.1 S.2.2.2.1.1.2.2.1 S.2.2.2.1.1.2.2.2.1 S.2.2.2.1.1.2.2.2.2.1 S.2.2.2.1.1.2.2.2.2.2.1 S.2.2.2.1.1.2.2.2.2.2.2.1 S.2.2.2.1.1.2.2.2.2.2.2.2, bX2 G q (o + 27) S.2.2.2.2.1.1 S.2.2.2.2.1.2.1 S.2.2.2.2.1.2.2.1 S.2.2.2.2.1.2.2.2.1 S.2.2.2.2.1.2.2.2.2.1 S.2.2.2.2.1.2.2.2.2.2.1 S.2.2.2.2.1.2.2.2.2.2.2.1 S.2.2.2.2.1.2.2.2.2.2.2.2, bX1 G q (o + 33) S.2.2.2.2.2.1.1 S.2.2.2.2.2.1.2.1 S.2.2.2.2.2.1.2.2.1 S.2.2.2.2.2.1.2.2.2, bX4 G q (o + 36) S.2.2.2.2.2.2.1.1 S.2.2.2.2.2.2.1.2, bX3 G q (o + 38) S.2.2.2.2.2.2.2.1.1 S.2.2.2.2.2.2.2.1.2.1 S.2.2.2.2.2.2.2.1.2.2.1 S.2.2.2.2.2.2.2.1.2.2.2, bX0 G q (o + 43) S.2.2.2.2.2.2.2.2.1.2.2.1 S.2.2.2.2.2.2.2.2.1.2.2.2, bX2 G q ((o + 43) + 3) S.2.2.2.2.2.2.2.2.1.1.1 S.2.2.2.2.2.2.2.2.1.1.2.1 S.2.2.2.2.2.2.2.2.1.1.2.2.1 S.2.2.2.2.2.2.2.2.1.1.2.2.2.1 S.2.2.2.2.2.2.2.2.1.1.2.2.2.2.1 S.2.2.2.2.2.2.2.2.1.1.2.2.2.2.2.1 S.2.2.2.2.2.2.2.2.1.1.2.2.2.2.2.2.1 S.2.2.2.2.2.2.2.2.1.1.2.2.2.2.2.2.2, bX4 G q ((o + 43) + 9) S.2.2.2.2.2.2.2.2.1.2.1.1 S.2.2.2.2.2.2.2.2.1.2.1.2, bX7 G q (o + 54) S.2.2.2.2.2.2.2.2.2.1 S.2.2.2.2.2.2.2.2.2.2.1 S.2.2.2.2.2.2.2.2.2.2.2] (some (.int y.1)) [bX10 G q o, bX9 G q (o + 1) y.2.1.1 y.2.1.2.1 y.2.1.2.2.1 y.2.1.2.2.2.1 y.2.1.2.2.2.2, bX6 G q (o + 3) y.2.2.1.1 y.2.2.1.2, bX8 G q (o + 12) y.2.2.2.1.1 y.2.2.2.1.2, bX5 G q (o + 19) y.2.2.2.2.1.2.1 y.2.2.2.2.1.2.2.1 y.2.2.2.2.1.2.2.2.1 y.2.2.2.2.1.2.2.2.2, bX2 G q ((o + 19) + 2) y.2.2.2.2.1.1.1 y.2.2.2.2.1.1.2.1 y.2.2.2.2.1.1.2.2.1 y.2.2.2.2.1.1.2.2.2.1 y.2.2.2.2.1.1.2.2.2.2.1 y.2.2.2.2.1.1.2.2.2.2.2.1 y.2.2.2.2.1.1.2.2.2.2.2.2.1 y.2.2.2.2.1.1.2.2.2.2.2.2.2, bX2 G q (o + 27) y.2.2.2.2.2.1.1 y.2.2.2.2.2.1.2.1 y.2.2.2.2.2.1.2.2.1 y.2.2.2.2.2.1.2.2.2.1 y.2.2.2.2.2.1.2.2.2.2.1 y.2.2.2.2.2.1.2.2.2.2.2.1 y.2.2.2.2.2.1.2.2.2.2.2.2.1 y.2.2.2.2.2.1.2.2.2.2.2.2.2, bX1 G q (o + 33) y.2.2.2.2.2.2.1.1 y.2.2.2.2.2.2.1.2.1 y.2.2.2.2.2.2.1.2.2.1 y.2.2.2.2.2.2.1.2.2.2, bX4 G q (o + 36) y.2.2.2.2.2.2.2.1.1 y.2.2.2.2.2.2.2.1.2, bX3 G q (o + 38) y.2.2.2.2.2.2.2.2.1.1 y.2.2.2.2.2.2.2.2.1.2.1 y.2.2.2.2.2.2.2.2.1.2.2.1 y.2.2.2.2.2.2.2.2.1.2.2.2, bX0 G q (o + 43) y.2.2.2.2.2.2.2.2.2.1.2.2.1 y.2.2.2.2.2.2.2.2.2.1.2.2.2, bX2 G q ((o + 43) + 3) y.2.2.2.2.2.2.2.2.2.1.1.1 y.2.2.2.2.2.2.2.2.2.1.1.2.1 y.2.2.2.2.2.2.2.2.2.1.1.2.2.1 y.2.2.2.2.2.2.2.2.2.1.1.2.2.2.1 y.2.2.2.2.2.2.2.2.2.1.1.2.2.2.2.1 y.2.2.2.2.2.2.2.2.2.1.1.2.2.2.2.2.1 y.2.2.2.2.2.2.2.2.2.1.1.2.2.2.2.2.2.1 y.2.2.2.2.2.2.2.2.2.1.1.2.2.2.2.2.2.2, bX4 G q ((o + 43) + 9) y.2.2.2.2.2.2.2.2.2.1.2.1.1 y.2.2.2.2.2.2.2.2.2.1.2.1.2, bX7 G q (o + 54) y.2.2.2.2.2.2.2.2.2.2.1 y.2.2.2.2.2.2.2.2.2.2.2.1 y.2.2.2.2.2.2.2.2.2.2.2.2] := by
  refine z_met zc_X10_mark (Nat.le_of_ble_eq_true rfl) ?_
  intro p e s m below meth c A ls hZ hl hw
  have hl : lv_has ls 3 [(0, .ref (q (o + 0))), (1, .int v1), (2, .int v2)] := hl
  obtain ⟨hS0, hr, hlk, hK, hA, hT⟩ := id hZ
  have hx := hS0.1
  have hb := hS0.2.1
  have hml := hS0.2.2.1
  have hown : s.vm.findClass RX10 = some m.cls := hS0.2.2.2.1
  have hts := hS0.2.2.2.2
  unfold f_X10_mark at hf
  refine lv_aload_n hx hb dX10_mark_0 rfl (lv_at hl 0 rfl) ?_
  refine z_get hS0 in_X10_mark_X10 hK hw 0 4 rfl rfl rfl (by decide) (hts _ m_X10_mark_0) (v := .ref (q ((o + 27) + 0))) rfl dX10_mark_1 ?_
  refine lv_iload_n hx hb dX10_mark_4 rfl (lv_at hl 1 rfl) ?_
  obtain ⟨r1, e2, hf⟩ := z_bd hf
  refine z_callV1 (As := [.int v1]) (rest := []) (bs' := [bX10 G q o, bX9 G q (o + 1) S.1.1 S.1.2.1 S.1.2.2.1 S.1.2.2.2.1 S.1.2.2.2.2, bX6 G q (o + 3) S.2.1.1 S.2.1.2, bX8 G q (o + 12) S.2.2.1.1 S.2.2.1.2, bX5 G q (o + 19) S.2.2.2.1.2.1 S.2.2.2.1.2.2.1 S.2.2.2.1.2.2.2.1 S.2.2.2.1.2.2.2.2, bX2 G q ((o + 19) + 2) S.2.2.2.1.1.1 S.2.2.2.1.1.2.1 S.2.2.2.1.1.2.2.1 S.2.2.2.1.1.2.2.2.1 S.2.2.2.1.1.2.2.2.2.1 S.2.2.2.1.1.2.2.2.2.2.1 S.2.2.2.1.1.2.2.2.2.2.2.1 S.2.2.2.1.1.2.2.2.2.2.2.2, bX2 G q (o + 27) S.2.2.2.2.1.1 S.2.2.2.2.1.2.1 S.2.2.2.2.1.2.2.1 S.2.2.2.2.1.2.2.2.1 S.2.2.2.2.1.2.2.2.2.1 S.2.2.2.2.1.2.2.2.2.2.1 S.2.2.2.2.1.2.2.2.2.2.2.1 S.2.2.2.2.1.2.2.2.2.2.2.2, bX1 G q (o + 33) S.2.2.2.2.2.1.1 S.2.2.2.2.2.1.2.1 S.2.2.2.2.2.1.2.2.1 S.2.2.2.2.2.1.2.2.2, bX4 G q (o + 36) S.2.2.2.2.2.2.1.1 S.2.2.2.2.2.2.1.2, bX3 G q (o + 38) S.2.2.2.2.2.2.2.1.1 S.2.2.2.2.2.2.2.1.2.1 S.2.2.2.2.2.2.2.1.2.2.1 S.2.2.2.2.2.2.2.1.2.2.2, bX0 G q (o + 43) S.2.2.2.2.2.2.2.2.1.2.2.1 S.2.2.2.2.2.2.2.2.1.2.2.2, bX2 G q ((o + 43) + 3) S.2.2.2.2.2.2.2.2.1.1.1 S.2.2.2.2.2.2.2.2.1.1.2.1 S.2.2.2.2.2.2.2.2.1.1.2.2.1 S.2.2.2.2.2.2.2.2.1.1.2.2.2.1 S.2.2.2.2.2.2.2.2.1.1.2.2.2.2.1 S.2.2.2.2.2.2.2.2.1.1.2.2.2.2.2.1 S.2.2.2.2.2.2.2.2.1.1.2.2.2.2.2.2.1 S.2.2.2.2.2.2.2.2.1.1.2.2.2.2.2.2.2, bX4 G q ((o + 43) + 9) S.2.2.2.2.2.2.2.2.1.2.1.1 S.2.2.2.2.2.2.2.2.1.2.1.2, bX7 G q (o + 54) S.2.2.2.2.2.2.2.2.2.1 S.2.2.2.2.2.2.2.2.2.2.1 S.2.2.2.2.2.2.2.2.2.2.2]) hS0 (c_X2_isCell l G q (o + 27) S.2.2.2.2.1 v1 r1 e2) zc_X2_isCell rfl gX10_mark_X2_isCell ⟨Nat.le_of_ble_eq_true rfl, Nat.le_of_ble_eq_true rfl⟩ hK hA hT hw (is := [6]) rfl rfl rfl rfl rfl rfl rfl hl.1 rfl (Nat.le_of_ble_eq_true rfl) dX10_mark_5 (fun H locs hw => ?_)
  refine lv_if_eq (tgt := 20) hx hb dX10_mark_8 rfl (fun hc => ?_) (fun hc => ?_)
  · have hf := z_t hc hf
    refine lv_iconst (v := (-1)) hx hb dX10_mark_20 rfl ?_
    cases hf
    exact z_iret hx hb hr hlk hw dX10_mark_21
  · have hf := z_f hc hf
    refine lv_iload_n hx hb dX10_mark_11 rfl (lv_at hl 2 rfl) ?_
    refine lv_if_le (tgt := 20) hx hb dX10_mark_12 rfl (fun hc => ?_) (fun hc => ?_)
    · have hf := z_t hc hf
      refine lv_iconst (v := (-1)) hx hb dX10_mark_20 rfl ?_
      cases hf
      exact z_iret hx hb hr hlk hw dX10_mark_21
    · have hf := z_f hc hf
      refine lv_iload_n hx hb dX10_mark_15 rfl (lv_at hl 2 rfl) ?_
      refine lv_iconst (v := 5) hx hb dX10_mark_16 rfl ?_
      refine lv_icmp_le (tgt := 22) hx hb dX10_mark_17 rfl (fun hc => ?_) (fun hc => ?_)
      · have hf := z_t hc hf
        refine lv_aload_n hx hb dX10_mark_22 rfl (lv_at hl 0 rfl) ?_
        refine z_get hS0 in_X10_mark_X10 hK hw 0 4 rfl rfl rfl (by decide) (hts _ m_X10_mark_0) (v := .ref (q ((o + 27) + 0))) rfl dX10_mark_23 ?_
        refine lv_iload_n hx hb dX10_mark_26 rfl (lv_at hl 1 rfl) ?_
        refine lv_iload_n hx hb dX10_mark_27 rfl (lv_at hl 2 rfl) ?_
        obtain ⟨r3, e4, hf⟩ := z_bd hf
        refine z_callV1 (As := [.int v1, .int v2]) (rest := []) (bs' := [bX10 G q o, bX9 G q (o + 1) S.1.1 S.1.2.1 S.1.2.2.1 S.1.2.2.2.1 S.1.2.2.2.2, bX6 G q (o + 3) S.2.1.1 S.2.1.2, bX8 G q (o + 12) S.2.2.1.1 S.2.2.1.2, bX5 G q (o + 19) S.2.2.2.1.2.1 S.2.2.2.1.2.2.1 S.2.2.2.1.2.2.2.1 S.2.2.2.1.2.2.2.2, bX2 G q ((o + 19) + 2) S.2.2.2.1.1.1 S.2.2.2.1.1.2.1 S.2.2.2.1.1.2.2.1 S.2.2.2.1.1.2.2.2.1 S.2.2.2.1.1.2.2.2.2.1 S.2.2.2.1.1.2.2.2.2.2.1 S.2.2.2.1.1.2.2.2.2.2.2.1 S.2.2.2.1.1.2.2.2.2.2.2.2, bX2 G q (o + 27) S.2.2.2.2.1.1 S.2.2.2.2.1.2.1 S.2.2.2.2.1.2.2.1 S.2.2.2.2.1.2.2.2.1 S.2.2.2.2.1.2.2.2.2.1 S.2.2.2.2.1.2.2.2.2.2.1 S.2.2.2.2.1.2.2.2.2.2.2.1 S.2.2.2.2.1.2.2.2.2.2.2.2, bX1 G q (o + 33) S.2.2.2.2.2.1.1 S.2.2.2.2.2.1.2.1 S.2.2.2.2.2.1.2.2.1 S.2.2.2.2.2.1.2.2.2, bX4 G q (o + 36) S.2.2.2.2.2.2.1.1 S.2.2.2.2.2.2.1.2, bX3 G q (o + 38) S.2.2.2.2.2.2.2.1.1 S.2.2.2.2.2.2.2.1.2.1 S.2.2.2.2.2.2.2.1.2.2.1 S.2.2.2.2.2.2.2.1.2.2.2, bX0 G q (o + 43) S.2.2.2.2.2.2.2.2.1.2.2.1 S.2.2.2.2.2.2.2.2.1.2.2.2, bX2 G q ((o + 43) + 3) S.2.2.2.2.2.2.2.2.1.1.1 S.2.2.2.2.2.2.2.2.1.1.2.1 S.2.2.2.2.2.2.2.2.1.1.2.2.1 S.2.2.2.2.2.2.2.2.1.1.2.2.2.1 S.2.2.2.2.2.2.2.2.1.1.2.2.2.2.1 S.2.2.2.2.2.2.2.2.1.1.2.2.2.2.2.1 S.2.2.2.2.2.2.2.2.1.1.2.2.2.2.2.2.1 S.2.2.2.2.2.2.2.2.1.1.2.2.2.2.2.2.2, bX4 G q ((o + 43) + 9) S.2.2.2.2.2.2.2.2.1.2.1.1 S.2.2.2.2.2.2.2.2.1.2.1.2, bX7 G q (o + 54) S.2.2.2.2.2.2.2.2.2.1 S.2.2.2.2.2.2.2.2.2.2.1 S.2.2.2.2.2.2.2.2.2.2.2]) hS0 (c_X2_isOf l G q (o + 27) S.2.2.2.2.1 v1 v2 r3 e4) zc_X2_isOf rfl gX10_mark_X2_isOf ⟨Nat.le_of_ble_eq_true rfl, Nat.le_of_ble_eq_true rfl⟩ hK hA hT hw (is := [6]) rfl rfl rfl rfl rfl rfl rfl hl.1 rfl (Nat.le_of_ble_eq_true rfl) dX10_mark_28 (fun H locs hw => ?_)
        refine lv_if_ne (tgt := 43) hx hb dX10_mark_31 rfl (fun hc => ?_) (fun hc => ?_)
        · have hf := z_f hc hf
          refine lv_aload_n hx hb dX10_mark_43 rfl (lv_at hl 0 rfl) ?_
          refine z_get hS0 in_X10_mark_X10 hK hw 0 4 rfl rfl rfl (by decide) (hts _ m_X10_mark_0) (v := .ref (q ((o + 27) + 0))) rfl dX10_mark_44 ?_
          refine lv_iload_n hx hb dX10_mark_47 rfl (lv_at hl 1 rfl) ?_
          refine lv_iload_n hx hb dX10_mark_48 rfl (lv_at hl 2 rfl) ?_
          obtain ⟨r5, e6, hf⟩ := z_bd hf
          refine z_callV1 (As := [.int v1, .int v2]) (rest := []) (bs' := [bX10 G q o, bX9 G q (o + 1) S.1.1 S.1.2.1 S.1.2.2.1 S.1.2.2.2.1 S.1.2.2.2.2, bX6 G q (o + 3) S.2.1.1 S.2.1.2, bX8 G q (o + 12) S.2.2.1.1 S.2.2.1.2, bX5 G q (o + 19) S.2.2.2.1.2.1 S.2.2.2.1.2.2.1 S.2.2.2.1.2.2.2.1 S.2.2.2.1.2.2.2.2, bX2 G q ((o + 19) + 2) S.2.2.2.1.1.1 S.2.2.2.1.1.2.1 S.2.2.2.1.1.2.2.1 S.2.2.2.1.1.2.2.2.1 S.2.2.2.1.1.2.2.2.2.1 S.2.2.2.1.1.2.2.2.2.2.1 S.2.2.2.1.1.2.2.2.2.2.2.1 S.2.2.2.1.1.2.2.2.2.2.2.2, bX2 G q (o + 27) S.2.2.2.2.1.1 S.2.2.2.2.1.2.1 S.2.2.2.2.1.2.2.1 S.2.2.2.2.1.2.2.2.1 S.2.2.2.2.1.2.2.2.2.1 S.2.2.2.2.1.2.2.2.2.2.1 S.2.2.2.2.1.2.2.2.2.2.2.1 S.2.2.2.2.1.2.2.2.2.2.2.2, bX1 G q (o + 33) S.2.2.2.2.2.1.1 S.2.2.2.2.2.1.2.1 S.2.2.2.2.2.1.2.2.1 S.2.2.2.2.2.1.2.2.2, bX4 G q (o + 36) S.2.2.2.2.2.2.1.1 S.2.2.2.2.2.2.1.2, bX3 G q (o + 38) S.2.2.2.2.2.2.2.1.1 S.2.2.2.2.2.2.2.1.2.1 S.2.2.2.2.2.2.2.1.2.2.1 S.2.2.2.2.2.2.2.1.2.2.2, bX0 G q (o + 43) S.2.2.2.2.2.2.2.2.1.2.2.1 S.2.2.2.2.2.2.2.2.1.2.2.2, bX2 G q ((o + 43) + 3) S.2.2.2.2.2.2.2.2.1.1.1 S.2.2.2.2.2.2.2.2.1.1.2.1 S.2.2.2.2.2.2.2.2.1.1.2.2.1 S.2.2.2.2.2.2.2.2.1.1.2.2.2.1 S.2.2.2.2.2.2.2.2.1.1.2.2.2.2.1 S.2.2.2.2.2.2.2.2.1.1.2.2.2.2.2.1 S.2.2.2.2.2.2.2.2.1.1.2.2.2.2.2.2.1 S.2.2.2.2.2.2.2.2.1.1.2.2.2.2.2.2.2, bX4 G q ((o + 43) + 9) S.2.2.2.2.2.2.2.2.1.2.1.1 S.2.2.2.2.2.2.2.2.1.2.1.2, bX7 G q (o + 54) S.2.2.2.2.2.2.2.2.2.1 S.2.2.2.2.2.2.2.2.2.2.1 S.2.2.2.2.2.2.2.2.2.2.2]) hS0 (c_X2_markOf l G q (o + 27) S.2.2.2.2.1 v1 v2 r5 e6) zc_X2_markOf rfl gX10_mark_X2_markOf ⟨Nat.le_of_ble_eq_true rfl, Nat.le_of_ble_eq_true rfl⟩ hK hA hT hw (is := [6]) rfl rfl rfl rfl rfl rfl rfl hl.1 rfl (Nat.le_of_ble_eq_true rfl) dX10_mark_49 (fun H locs hw => ?_)
          cases hf
          exact z_iret hx hb hr hlk hw dX10_mark_52
        · have hf := z_t hc hf
          refine lv_aload_n hx hb dX10_mark_34 rfl (lv_at hl 0 rfl) ?_
          refine z_get hS0 in_X10_mark_X10 hK hw 0 0 rfl rfl rfl (by decide) (hts _ m_X10_mark_1) (v := .ref (q ((o + 1) + 0))) rfl dX10_mark_35 ?_
          refine lv_iconst (v := 3) hx hb dX10_mark_38 rfl ?_
          obtain ⟨r7, e8, hf⟩ := z_bd hf
          refine z_callV1 (As := [.int 3]) (rest := []) (bs' := [bX10 G q o, bX9 G q (o + 1) r7.2.1 r7.2.2.1 r7.2.2.2.1 r7.2.2.2.2.1 r7.2.2.2.2.2, bX6 G q (o + 3) S.2.1.1 S.2.1.2, bX8 G q (o + 12) S.2.2.1.1 S.2.2.1.2, bX5 G q (o + 19) S.2.2.2.1.2.1 S.2.2.2.1.2.2.1 S.2.2.2.1.2.2.2.1 S.2.2.2.1.2.2.2.2, bX2 G q ((o + 19) + 2) S.2.2.2.1.1.1 S.2.2.2.1.1.2.1 S.2.2.2.1.1.2.2.1 S.2.2.2.1.1.2.2.2.1 S.2.2.2.1.1.2.2.2.2.1 S.2.2.2.1.1.2.2.2.2.2.1 S.2.2.2.1.1.2.2.2.2.2.2.1 S.2.2.2.1.1.2.2.2.2.2.2.2, bX2 G q (o + 27) S.2.2.2.2.1.1 S.2.2.2.2.1.2.1 S.2.2.2.2.1.2.2.1 S.2.2.2.2.1.2.2.2.1 S.2.2.2.2.1.2.2.2.2.1 S.2.2.2.2.1.2.2.2.2.2.1 S.2.2.2.2.1.2.2.2.2.2.2.1 S.2.2.2.2.1.2.2.2.2.2.2.2, bX1 G q (o + 33) S.2.2.2.2.2.1.1 S.2.2.2.2.2.1.2.1 S.2.2.2.2.2.1.2.2.1 S.2.2.2.2.2.1.2.2.2, bX4 G q (o + 36) S.2.2.2.2.2.2.1.1 S.2.2.2.2.2.2.1.2, bX3 G q (o + 38) S.2.2.2.2.2.2.2.1.1 S.2.2.2.2.2.2.2.1.2.1 S.2.2.2.2.2.2.2.1.2.2.1 S.2.2.2.2.2.2.2.1.2.2.2, bX0 G q (o + 43) S.2.2.2.2.2.2.2.2.1.2.2.1 S.2.2.2.2.2.2.2.2.1.2.2.2, bX2 G q ((o + 43) + 3) S.2.2.2.2.2.2.2.2.1.1.1 S.2.2.2.2.2.2.2.2.1.1.2.1 S.2.2.2.2.2.2.2.2.1.1.2.2.1 S.2.2.2.2.2.2.2.2.1.1.2.2.2.1 S.2.2.2.2.2.2.2.2.1.1.2.2.2.2.1 S.2.2.2.2.2.2.2.2.1.1.2.2.2.2.2.1 S.2.2.2.2.2.2.2.2.1.1.2.2.2.2.2.2.1 S.2.2.2.2.2.2.2.2.1.1.2.2.2.2.2.2.2, bX4 G q ((o + 43) + 9) S.2.2.2.2.2.2.2.2.1.2.1.1 S.2.2.2.2.2.2.2.2.1.2.1.2, bX7 G q (o + 54) S.2.2.2.2.2.2.2.2.2.1 S.2.2.2.2.2.2.2.2.2.2.1 S.2.2.2.2.2.2.2.2.2.2.2]) hS0 (c_X9_found l G q (o + 1) S.1 3 r7 e8) zc_X9_found rfl gX10_mark_X9_found ⟨Nat.le_of_ble_eq_true rfl, Nat.le_of_ble_eq_true rfl⟩ hK hA hT hw (is := [1]) rfl rfl rfl rfl rfl rfl rfl hl.1 rfl (Nat.le_of_ble_eq_true rfl) dX10_mark_39 (fun H locs hw => ?_)
          cases hf
          exact z_iret hx hb hr hlk hw dX10_mark_42
      · have hf := z_f hc hf
        refine lv_iconst (v := (-1)) hx hb dX10_mark_20 rfl ?_
        cases hf
        exact z_iret hx hb hr hlk hw dX10_mark_21
theorem zc_X10_mean : zC yX10_mean wsX10_mean cX10_mean 4 (some .int) 1 := ⟨⟨_, rfl⟩, by decide +kernel, by decide +kernel, by decide +kernel, by decide +kernel⟩
theorem m_X10_mean_0 : (.fieldLink RX10 19 "CellKeys" "rows" "LCellKeys$Rows;" : Cond) ∈ wsX10_mean := by decide +kernel
theorem in_X10_mean_X10 : ∀ w ∈ u_ws RX10 TX10 10, w ∈ wsX10_mean := by decide +kernel
theorem m_X10_mean_1 : (.fieldLink RX10 10 "CellKeys" "told" "LCellKeys$Told;" : Cond) ∈ wsX10_mean := by decide +kernel
set_option maxHeartbeats 4000000 in
set_option maxRecDepth 100000 in
theorem c_X10_mean (l : Launch) (G : zG) (q : Nat → Nat) (o : Nat) (S : VX10) (v1 : Int32) (y : Int32 × VX10) (hf : f_X10_mean S v1 = some y) : zMet l yX10_mean wsX10_mean 5 110 G [.ref (q (o + 0)), .int v1] [bX10 G q o, bX9 G q (o + 1) S.1.1 S.1.2.1 S.1.2.2.1 S.1.2.2.2.1 S.1.2.2.2.2, bX6 G q (o + 3) S.2.1.1 S.2.1.2, bX8 G q (o + 12) S.2.2.1.1 S.2.2.1.2, bX5 G q (o + 19) S.2.2.2.1.2.1 S.2.2.2.1.2.2.1 S.2.2.2.1.2.2.2.1 S.2.2.2.1.2.2.2.2, bX2 G q ((o + 19) + 2) S.2.2.2.1.1.1 S.2.2.2.1.1.2.1 S.2.2.2.1.1.2.2.1 S.2.2.2.1.1.2.2.2.1 S.2.2.2.1.1.2.2.2.2.1 S.2.2.2.1.1.2.2.2.2.2.1 S.2.2.2.1.1.2.2.2.2.2.2.1 S.2.2.2.1.1.2.2.2.2.2.2.2, bX2 G q (o + 27) S.2.2.2.2.1.1 S.2.2.2.2.1.2.1 S.2.2.2.2.1.2.2.1 S.2.2.2.2.1.2.2.2.1 S.2.2.2.2.1.2.2.2.2.1 S.2.2.2.2.1.2.2.2.2.2.1 S.2.2.2.2.1.2.2.2.2.2.2.1 S.2.2.2.2.1.2.2.2.2.2.2.2, bX1 G q (o + 33) S.2.2.2.2.2.1.1 S.2.2.2.2.2.1.2.1 S.2.2.2.2.2.1.2.2.1 S.2.2.2.2.2.1.2.2.2, bX4 G q (o + 36) S.2.2.2.2.2.2.1.1 S.2.2.2.2.2.2.1.2, bX3 G q (o + 38) S.2.2.2.2.2.2.2.1.1 S.2.2.2.2.2.2.2.1.2.1 S.2.2.2.2.2.2.2.1.2.2.1 S.2.2.2.2.2.2.2.1.2.2.2, bX0 G q (o + 43) S.2.2.2.2.2.2.2.2.1.2.2.1 S.2.2.2.2.2.2.2.2.1.2.2.2, bX2 G q ((o + 43) + 3) S.2.2.2.2.2.2.2.2.1.1.1 S.2.2.2.2.2.2.2.2.1.1.2.1 S.2.2.2.2.2.2.2.2.1.1.2.2.1 S.2.2.2.2.2.2.2.2.1.1.2.2.2.1 S.2.2.2.2.2.2.2.2.1.1.2.2.2.2.1 S.2.2.2.2.2.2.2.2.1.1.2.2.2.2.2.1 S.2.2.2.2.2.2.2.2.1.1.2.2.2.2.2.2.1 S.2.2.2.2.2.2.2.2.1.1.2.2.2.2.2.2.2, bX4 G q ((o + 43) + 9) S.2.2.2.2.2.2.2.2.1.2.1.1 S.2.2.2.2.2.2.2.2.1.2.1.2, bX7 G q (o + 54) S.2.2.2.2.2.2.2.2.2.1 S.2.2.2.2.2.2.2.2.2.2.1 S.2.2.2.2.2.2.2.2.2.2.2] (some (.int y.1)) [bX10 G q o, bX9 G q (o + 1) y.2.1.1 y.2.1.2.1 y.2.1.2.2.1 y.2.1.2.2.2.1 y.2.1.2.2.2.2, bX6 G q (o + 3) y.2.2.1.1 y.2.2.1.2, bX8 G q (o + 12) y.2.2.2.1.1 y.2.2.2.1.2, bX5 G q (o + 19) y.2.2.2.2.1.2.1 y.2.2.2.2.1.2.2.1 y.2.2.2.2.1.2.2.2.1 y.2.2.2.2.1.2.2.2.2, bX2 G q ((o + 19) + 2) y.2.2.2.2.1.1.1 y.2.2.2.2.1.1.2.1 y.2.2.2.2.1.1.2.2.1 y.2.2.2.2.1.1.2.2.2.1 y.2.2.2.2.1.1.2.2.2.2.1 y.2.2.2.2.1.1.2.2.2.2.2.1 y.2.2.2.2.1.1.2.2.2.2.2.2.1 y.2.2.2.2.1.1.2.2.2.2.2.2.2, bX2 G q (o + 27) y.2.2.2.2.2.1.1 y.2.2.2.2.2.1.2.1 y.2.2.2.2.2.1.2.2.1 y.2.2.2.2.2.1.2.2.2.1 y.2.2.2.2.2.1.2.2.2.2.1 y.2.2.2.2.2.1.2.2.2.2.2.1 y.2.2.2.2.2.1.2.2.2.2.2.2.1 y.2.2.2.2.2.1.2.2.2.2.2.2.2, bX1 G q (o + 33) y.2.2.2.2.2.2.1.1 y.2.2.2.2.2.2.1.2.1 y.2.2.2.2.2.2.1.2.2.1 y.2.2.2.2.2.2.1.2.2.2, bX4 G q (o + 36) y.2.2.2.2.2.2.2.1.1 y.2.2.2.2.2.2.2.1.2, bX3 G q (o + 38) y.2.2.2.2.2.2.2.2.1.1 y.2.2.2.2.2.2.2.2.1.2.1 y.2.2.2.2.2.2.2.2.1.2.2.1 y.2.2.2.2.2.2.2.2.1.2.2.2, bX0 G q (o + 43) y.2.2.2.2.2.2.2.2.2.1.2.2.1 y.2.2.2.2.2.2.2.2.2.1.2.2.2, bX2 G q ((o + 43) + 3) y.2.2.2.2.2.2.2.2.2.1.1.1 y.2.2.2.2.2.2.2.2.2.1.1.2.1 y.2.2.2.2.2.2.2.2.2.1.1.2.2.1 y.2.2.2.2.2.2.2.2.2.1.1.2.2.2.1 y.2.2.2.2.2.2.2.2.2.1.1.2.2.2.2.1 y.2.2.2.2.2.2.2.2.2.1.1.2.2.2.2.2.1 y.2.2.2.2.2.2.2.2.2.1.1.2.2.2.2.2.2.1 y.2.2.2.2.2.2.2.2.2.1.1.2.2.2.2.2.2.2, bX4 G q ((o + 43) + 9) y.2.2.2.2.2.2.2.2.2.1.2.1.1 y.2.2.2.2.2.2.2.2.2.1.2.1.2, bX7 G q (o + 54) y.2.2.2.2.2.2.2.2.2.2.1 y.2.2.2.2.2.2.2.2.2.2.2.1 y.2.2.2.2.2.2.2.2.2.2.2.2] := by
  refine z_met zc_X10_mean (Nat.le_of_ble_eq_true rfl) ?_
  intro p e s m below meth c A ls hZ hl hw
  have hl : lv_has ls 4 [(0, .ref (q (o + 0))), (1, .int v1)] := hl
  obtain ⟨hS0, hr, hlk, hK, hA, hT⟩ := id hZ
  have hx := hS0.1
  have hb := hS0.2.1
  have hml := hS0.2.2.1
  have hown : s.vm.findClass RX10 = some m.cls := hS0.2.2.2.1
  have hts := hS0.2.2.2.2
  unfold f_X10_mean at hf
  refine lv_aload_n hx hb dX10_mean_0 rfl (lv_at hl 0 rfl) ?_
  refine lv_iload_n hx hb dX10_mean_1 rfl (lv_at hl 1 rfl) ?_
  obtain ⟨r1, e2, hf⟩ := z_bd hf
  refine z_callV1 (As := [.int v1]) (rest := []) (bs' := [bX10 G q o, bX9 G q (o + 1) r1.2.1.1 r1.2.1.2.1 r1.2.1.2.2.1 r1.2.1.2.2.2.1 r1.2.1.2.2.2.2, bX6 G q (o + 3) r1.2.2.1.1 r1.2.2.1.2, bX8 G q (o + 12) r1.2.2.2.1.1 r1.2.2.2.1.2, bX5 G q (o + 19) r1.2.2.2.2.1.2.1 r1.2.2.2.2.1.2.2.1 r1.2.2.2.2.1.2.2.2.1 r1.2.2.2.2.1.2.2.2.2, bX2 G q ((o + 19) + 2) r1.2.2.2.2.1.1.1 r1.2.2.2.2.1.1.2.1 r1.2.2.2.2.1.1.2.2.1 r1.2.2.2.2.1.1.2.2.2.1 r1.2.2.2.2.1.1.2.2.2.2.1 r1.2.2.2.2.1.1.2.2.2.2.2.1 r1.2.2.2.2.1.1.2.2.2.2.2.2.1 r1.2.2.2.2.1.1.2.2.2.2.2.2.2, bX2 G q (o + 27) r1.2.2.2.2.2.1.1 r1.2.2.2.2.2.1.2.1 r1.2.2.2.2.2.1.2.2.1 r1.2.2.2.2.2.1.2.2.2.1 r1.2.2.2.2.2.1.2.2.2.2.1 r1.2.2.2.2.2.1.2.2.2.2.2.1 r1.2.2.2.2.2.1.2.2.2.2.2.2.1 r1.2.2.2.2.2.1.2.2.2.2.2.2.2, bX1 G q (o + 33) r1.2.2.2.2.2.2.1.1 r1.2.2.2.2.2.2.1.2.1 r1.2.2.2.2.2.2.1.2.2.1 r1.2.2.2.2.2.2.1.2.2.2, bX4 G q (o + 36) r1.2.2.2.2.2.2.2.1.1 r1.2.2.2.2.2.2.2.1.2, bX3 G q (o + 38) r1.2.2.2.2.2.2.2.2.1.1 r1.2.2.2.2.2.2.2.2.1.2.1 r1.2.2.2.2.2.2.2.2.1.2.2.1 r1.2.2.2.2.2.2.2.2.1.2.2.2, bX0 G q (o + 43) r1.2.2.2.2.2.2.2.2.2.1.2.2.1 r1.2.2.2.2.2.2.2.2.2.1.2.2.2, bX2 G q ((o + 43) + 3) r1.2.2.2.2.2.2.2.2.2.1.1.1 r1.2.2.2.2.2.2.2.2.2.1.1.2.1 r1.2.2.2.2.2.2.2.2.2.1.1.2.2.1 r1.2.2.2.2.2.2.2.2.2.1.1.2.2.2.1 r1.2.2.2.2.2.2.2.2.2.1.1.2.2.2.2.1 r1.2.2.2.2.2.2.2.2.2.1.1.2.2.2.2.2.1 r1.2.2.2.2.2.2.2.2.2.1.1.2.2.2.2.2.2.1 r1.2.2.2.2.2.2.2.2.2.1.1.2.2.2.2.2.2.2, bX4 G q ((o + 43) + 9) r1.2.2.2.2.2.2.2.2.2.1.2.1.1 r1.2.2.2.2.2.2.2.2.2.1.2.1.2, bX7 G q (o + 54) r1.2.2.2.2.2.2.2.2.2.2.1 r1.2.2.2.2.2.2.2.2.2.2.2.1 r1.2.2.2.2.2.2.2.2.2.2.2.2]) hS0 (c_X10_rowRefusal l G q o S v1 r1 e2) zc_X10_rowRefusal rfl gX10_mean_X10_rowRefusal ⟨Nat.le_of_ble_eq_true rfl, Nat.le_of_ble_eq_true rfl⟩ hK hA hT hw (is := [0, 1, 2, 3, 4, 5, 6, 7, 8, 9, 10, 11, 12, 13]) rfl rfl rfl rfl rfl rfl rfl hl.1 rfl (Nat.le_of_ble_eq_true rfl) dX10_mean_2 (fun H locs hw => ?_)
  refine lv_istore_n (lv' := [(2, .int r1.1), (0, .ref (q (o + 0))), (1, .int v1)]) hx hb dX10_mean_5 rfl hl (by decide) rfl (fun ls hl => ?_)
  refine lv_iload_n hx hb dX10_mean_6 rfl (lv_at hl 0 rfl) ?_
  refine lv_if_eq (tgt := 12) hx hb dX10_mean_7 rfl (fun hc => ?_) (fun hc => ?_)
  · have hf := z_t hc hf
    refine lv_aload_n hx hb dX10_mean_12 rfl (lv_at hl 1 rfl) ?_
    refine z_get hS0 in_X10_mean_X10 hK hw 0 1 rfl rfl rfl (by decide) (hts _ m_X10_mean_0) (v := .ref (q ((o + 3) + 0))) rfl dX10_mean_13 ?_
    refine lv_iload_n hx hb dX10_mean_16 rfl (lv_at hl 2 rfl) ?_
    obtain ⟨r3, e4, hf⟩ := z_bd hf
    refine z_callV1 (As := [.int v1]) (rest := []) (bs' := [bX10 G q o, bX9 G q (o + 1) r1.2.1.1 r1.2.1.2.1 r1.2.1.2.2.1 r1.2.1.2.2.2.1 r1.2.1.2.2.2.2, bX6 G q (o + 3) r1.2.2.1.1 r1.2.2.1.2, bX8 G q (o + 12) r1.2.2.2.1.1 r1.2.2.2.1.2, bX5 G q (o + 19) r1.2.2.2.2.1.2.1 r1.2.2.2.2.1.2.2.1 r1.2.2.2.2.1.2.2.2.1 r1.2.2.2.2.1.2.2.2.2, bX2 G q ((o + 19) + 2) r1.2.2.2.2.1.1.1 r1.2.2.2.2.1.1.2.1 r1.2.2.2.2.1.1.2.2.1 r1.2.2.2.2.1.1.2.2.2.1 r1.2.2.2.2.1.1.2.2.2.2.1 r1.2.2.2.2.1.1.2.2.2.2.2.1 r1.2.2.2.2.1.1.2.2.2.2.2.2.1 r1.2.2.2.2.1.1.2.2.2.2.2.2.2, bX2 G q (o + 27) r1.2.2.2.2.2.1.1 r1.2.2.2.2.2.1.2.1 r1.2.2.2.2.2.1.2.2.1 r1.2.2.2.2.2.1.2.2.2.1 r1.2.2.2.2.2.1.2.2.2.2.1 r1.2.2.2.2.2.1.2.2.2.2.2.1 r1.2.2.2.2.2.1.2.2.2.2.2.2.1 r1.2.2.2.2.2.1.2.2.2.2.2.2.2, bX1 G q (o + 33) r1.2.2.2.2.2.2.1.1 r1.2.2.2.2.2.2.1.2.1 r1.2.2.2.2.2.2.1.2.2.1 r1.2.2.2.2.2.2.1.2.2.2, bX4 G q (o + 36) r1.2.2.2.2.2.2.2.1.1 r1.2.2.2.2.2.2.2.1.2, bX3 G q (o + 38) r1.2.2.2.2.2.2.2.2.1.1 r1.2.2.2.2.2.2.2.2.1.2.1 r1.2.2.2.2.2.2.2.2.1.2.2.1 r1.2.2.2.2.2.2.2.2.1.2.2.2, bX0 G q (o + 43) r1.2.2.2.2.2.2.2.2.2.1.2.2.1 r1.2.2.2.2.2.2.2.2.2.1.2.2.2, bX2 G q ((o + 43) + 3) r1.2.2.2.2.2.2.2.2.2.1.1.1 r1.2.2.2.2.2.2.2.2.2.1.1.2.1 r1.2.2.2.2.2.2.2.2.2.1.1.2.2.1 r1.2.2.2.2.2.2.2.2.2.1.1.2.2.2.1 r1.2.2.2.2.2.2.2.2.2.1.1.2.2.2.2.1 r1.2.2.2.2.2.2.2.2.2.1.1.2.2.2.2.2.1 r1.2.2.2.2.2.2.2.2.2.1.1.2.2.2.2.2.2.1 r1.2.2.2.2.2.2.2.2.2.1.1.2.2.2.2.2.2.2, bX4 G q ((o + 43) + 9) r1.2.2.2.2.2.2.2.2.2.1.2.1.1 r1.2.2.2.2.2.2.2.2.2.1.2.1.2, bX7 G q (o + 54) r1.2.2.2.2.2.2.2.2.2.2.1 r1.2.2.2.2.2.2.2.2.2.2.2.1 r1.2.2.2.2.2.2.2.2.2.2.2.2]) hS0 (c_X6_sizeOf l G q (o + 3) r1.2.2.1 v1 r3 e4) zc_X6_sizeOf rfl gX10_mean_X6_sizeOf ⟨Nat.le_of_ble_eq_true rfl, Nat.le_of_ble_eq_true rfl⟩ hK hA hT hw (is := [2]) rfl rfl rfl rfl rfl rfl rfl hl.1 rfl (Nat.le_of_ble_eq_true rfl) dX10_mean_17 (fun H locs hw => ?_)
    refine lv_istore_n (lv' := [(3, .int r3), (2, .int r1.1), (0, .ref (q (o + 0))), (1, .int v1)]) hx hb dX10_mean_20 rfl hl (by decide) rfl (fun ls hl => ?_)
    refine lv_iload_n hx hb dX10_mean_21 rfl (lv_at hl 0 rfl) ?_
    refine lv_iconst (v := 1) hx hb dX10_mean_22 rfl ?_
    refine lv_icmp_ge (tgt := 35) hx hb dX10_mean_23 rfl (fun hc => ?_) (fun hc => ?_)
    · have hf := z_t hc hf
      refine lv_aload_n hx hb dX10_mean_35 rfl (lv_at hl 2 rfl) ?_
      refine z_get hS0 in_X10_mean_X10 hK hw 0 0 rfl rfl rfl (by decide) (hts _ m_X10_mean_1) (v := .ref (q ((o + 1) + 0))) rfl dX10_mean_36 ?_
      refine lv_aload_n hx hb dX10_mean_39 rfl (lv_at hl 2 rfl) ?_
      refine z_get hS0 in_X10_mean_X10 hK hw 0 1 rfl rfl rfl (by decide) (hts _ m_X10_mean_0) (v := .ref (q ((o + 3) + 0))) rfl dX10_mean_40 ?_
      refine lv_iload_n hx hb dX10_mean_43 rfl (lv_at hl 3 rfl) ?_
      obtain ⟨r5, e6, hf⟩ := z_bd hf
      refine z_callV1 (As := [.int v1]) (rest := [.ref (q ((o + 1) + 0))]) (bs' := [bX10 G q o, bX9 G q (o + 1) r1.2.1.1 r1.2.1.2.1 r1.2.1.2.2.1 r1.2.1.2.2.2.1 r1.2.1.2.2.2.2, bX6 G q (o + 3) r1.2.2.1.1 r1.2.2.1.2, bX8 G q (o + 12) r1.2.2.2.1.1 r1.2.2.2.1.2, bX5 G q (o + 19) r1.2.2.2.2.1.2.1 r1.2.2.2.2.1.2.2.1 r1.2.2.2.2.1.2.2.2.1 r1.2.2.2.2.1.2.2.2.2, bX2 G q ((o + 19) + 2) r1.2.2.2.2.1.1.1 r1.2.2.2.2.1.1.2.1 r1.2.2.2.2.1.1.2.2.1 r1.2.2.2.2.1.1.2.2.2.1 r1.2.2.2.2.1.1.2.2.2.2.1 r1.2.2.2.2.1.1.2.2.2.2.2.1 r1.2.2.2.2.1.1.2.2.2.2.2.2.1 r1.2.2.2.2.1.1.2.2.2.2.2.2.2, bX2 G q (o + 27) r1.2.2.2.2.2.1.1 r1.2.2.2.2.2.1.2.1 r1.2.2.2.2.2.1.2.2.1 r1.2.2.2.2.2.1.2.2.2.1 r1.2.2.2.2.2.1.2.2.2.2.1 r1.2.2.2.2.2.1.2.2.2.2.2.1 r1.2.2.2.2.2.1.2.2.2.2.2.2.1 r1.2.2.2.2.2.1.2.2.2.2.2.2.2, bX1 G q (o + 33) r1.2.2.2.2.2.2.1.1 r1.2.2.2.2.2.2.1.2.1 r1.2.2.2.2.2.2.1.2.2.1 r1.2.2.2.2.2.2.1.2.2.2, bX4 G q (o + 36) r1.2.2.2.2.2.2.2.1.1 r1.2.2.2.2.2.2.2.1.2, bX3 G q (o + 38) r1.2.2.2.2.2.2.2.2.1.1 r1.2.2.2.2.2.2.2.2.1.2.1 r1.2.2.2.2.2.2.2.2.1.2.2.1 r1.2.2.2.2.2.2.2.2.1.2.2.2, bX0 G q (o + 43) r1.2.2.2.2.2.2.2.2.2.1.2.2.1 r1.2.2.2.2.2.2.2.2.2.1.2.2.2, bX2 G q ((o + 43) + 3) r1.2.2.2.2.2.2.2.2.2.1.1.1 r1.2.2.2.2.2.2.2.2.2.1.1.2.1 r1.2.2.2.2.2.2.2.2.2.1.1.2.2.1 r1.2.2.2.2.2.2.2.2.2.1.1.2.2.2.1 r1.2.2.2.2.2.2.2.2.2.1.1.2.2.2.2.1 r1.2.2.2.2.2.2.2.2.2.1.1.2.2.2.2.2.1 r1.2.2.2.2.2.2.2.2.2.1.1.2.2.2.2.2.2.1 r1.2.2.2.2.2.2.2.2.2.1.1.2.2.2.2.2.2.2, bX4 G q ((o + 43) + 9) r1.2.2.2.2.2.2.2.2.2.1.2.1.1 r1.2.2.2.2.2.2.2.2.2.1.2.1.2, bX7 G q (o + 54) r1.2.2.2.2.2.2.2.2.2.2.1 r1.2.2.2.2.2.2.2.2.2.2.2.1 r1.2.2.2.2.2.2.2.2.2.2.2.2]) hS0 (c_X6_sumOf l G q (o + 3) r1.2.2.1 v1 r5 e6) zc_X6_sumOf rfl gX10_mean_X6_sumOf ⟨Nat.le_of_ble_eq_true rfl, Nat.le_of_ble_eq_true rfl⟩ hK hA hT hw (is := [2]) rfl rfl rfl rfl rfl rfl rfl hl.1 rfl (Nat.le_of_ble_eq_true rfl) dX10_mean_44 (fun H locs hw => ?_)
      refine lv_iload_n hx hb dX10_mean_47 rfl (lv_at hl 0 rfl) ?_
      refine lv_i2l (v := r3.toInt64) hx hb dX10_mean_48 rfl ?_
      obtain ⟨g7, hf⟩ := z_gn hf
      refine lv_ldiv hx hb dX10_mean_49 g7 ?_
      refine lv_l2i (v := (r5 / r3.toInt64).toInt32) hx hb dX10_mean_50 rfl ?_
      obtain ⟨r8, e9, hf⟩ := z_bd hf
      refine z_callV0 (As := [.int ((r5 / r3.toInt64).toInt32)]) (rest := []) (bs' := [bX10 G q o, bX9 G q (o + 1) r8.1 r8.2.1 r8.2.2.1 r8.2.2.2.1 r8.2.2.2.2, bX6 G q (o + 3) r1.2.2.1.1 r1.2.2.1.2, bX8 G q (o + 12) r1.2.2.2.1.1 r1.2.2.2.1.2, bX5 G q (o + 19) r1.2.2.2.2.1.2.1 r1.2.2.2.2.1.2.2.1 r1.2.2.2.2.1.2.2.2.1 r1.2.2.2.2.1.2.2.2.2, bX2 G q ((o + 19) + 2) r1.2.2.2.2.1.1.1 r1.2.2.2.2.1.1.2.1 r1.2.2.2.2.1.1.2.2.1 r1.2.2.2.2.1.1.2.2.2.1 r1.2.2.2.2.1.1.2.2.2.2.1 r1.2.2.2.2.1.1.2.2.2.2.2.1 r1.2.2.2.2.1.1.2.2.2.2.2.2.1 r1.2.2.2.2.1.1.2.2.2.2.2.2.2, bX2 G q (o + 27) r1.2.2.2.2.2.1.1 r1.2.2.2.2.2.1.2.1 r1.2.2.2.2.2.1.2.2.1 r1.2.2.2.2.2.1.2.2.2.1 r1.2.2.2.2.2.1.2.2.2.2.1 r1.2.2.2.2.2.1.2.2.2.2.2.1 r1.2.2.2.2.2.1.2.2.2.2.2.2.1 r1.2.2.2.2.2.1.2.2.2.2.2.2.2, bX1 G q (o + 33) r1.2.2.2.2.2.2.1.1 r1.2.2.2.2.2.2.1.2.1 r1.2.2.2.2.2.2.1.2.2.1 r1.2.2.2.2.2.2.1.2.2.2, bX4 G q (o + 36) r1.2.2.2.2.2.2.2.1.1 r1.2.2.2.2.2.2.2.1.2, bX3 G q (o + 38) r1.2.2.2.2.2.2.2.2.1.1 r1.2.2.2.2.2.2.2.2.1.2.1 r1.2.2.2.2.2.2.2.2.1.2.2.1 r1.2.2.2.2.2.2.2.2.1.2.2.2, bX0 G q (o + 43) r1.2.2.2.2.2.2.2.2.2.1.2.2.1 r1.2.2.2.2.2.2.2.2.2.1.2.2.2, bX2 G q ((o + 43) + 3) r1.2.2.2.2.2.2.2.2.2.1.1.1 r1.2.2.2.2.2.2.2.2.2.1.1.2.1 r1.2.2.2.2.2.2.2.2.2.1.1.2.2.1 r1.2.2.2.2.2.2.2.2.2.1.1.2.2.2.1 r1.2.2.2.2.2.2.2.2.2.1.1.2.2.2.2.1 r1.2.2.2.2.2.2.2.2.2.1.1.2.2.2.2.2.1 r1.2.2.2.2.2.2.2.2.2.1.1.2.2.2.2.2.2.1 r1.2.2.2.2.2.2.2.2.2.1.1.2.2.2.2.2.2.2, bX4 G q ((o + 43) + 9) r1.2.2.2.2.2.2.2.2.2.1.2.1.1 r1.2.2.2.2.2.2.2.2.2.1.2.1.2, bX7 G q (o + 54) r1.2.2.2.2.2.2.2.2.2.2.1 r1.2.2.2.2.2.2.2.2.2.2.2.1 r1.2.2.2.2.2.2.2.2.2.2.2.2]) hS0 (c_X9_tell l G q (o + 1) r1.2.1 ((r5 / r3.toInt64).toInt32) r8 e9) zc_X9_tell rfl gX10_mean_X9_tell ⟨Nat.le_of_ble_eq_true rfl, Nat.le_of_ble_eq_true rfl⟩ hK hA hT hw (is := [1]) rfl rfl rfl rfl rfl rfl rfl hl.1 rfl (Nat.le_of_ble_eq_true rfl) dX10_mean_51 (fun H locs hw => ?_)
      refine lv_iconst (v := 1) hx hb dX10_mean_54 rfl ?_
      cases hf
      exact z_iret hx hb hr hlk hw dX10_mean_55
    · have hf := z_f hc hf
      refine lv_aload_n hx hb dX10_mean_26 rfl (lv_at hl 2 rfl) ?_
      refine z_get hS0 in_X10_mean_X10 hK hw 0 0 rfl rfl rfl (by decide) (hts _ m_X10_mean_1) (v := .ref (q ((o + 1) + 0))) rfl dX10_mean_27 ?_
      refine lv_iconst (v := 4) hx hb dX10_mean_30 rfl ?_
      obtain ⟨r10, e11, hf⟩ := z_bd hf
      refine z_callV1 (As := [.int 4]) (rest := []) (bs' := [bX10 G q o, bX9 G q (o + 1) r10.2.1 r10.2.2.1 r10.2.2.2.1 r10.2.2.2.2.1 r10.2.2.2.2.2, bX6 G q (o + 3) r1.2.2.1.1 r1.2.2.1.2, bX8 G q (o + 12) r1.2.2.2.1.1 r1.2.2.2.1.2, bX5 G q (o + 19) r1.2.2.2.2.1.2.1 r1.2.2.2.2.1.2.2.1 r1.2.2.2.2.1.2.2.2.1 r1.2.2.2.2.1.2.2.2.2, bX2 G q ((o + 19) + 2) r1.2.2.2.2.1.1.1 r1.2.2.2.2.1.1.2.1 r1.2.2.2.2.1.1.2.2.1 r1.2.2.2.2.1.1.2.2.2.1 r1.2.2.2.2.1.1.2.2.2.2.1 r1.2.2.2.2.1.1.2.2.2.2.2.1 r1.2.2.2.2.1.1.2.2.2.2.2.2.1 r1.2.2.2.2.1.1.2.2.2.2.2.2.2, bX2 G q (o + 27) r1.2.2.2.2.2.1.1 r1.2.2.2.2.2.1.2.1 r1.2.2.2.2.2.1.2.2.1 r1.2.2.2.2.2.1.2.2.2.1 r1.2.2.2.2.2.1.2.2.2.2.1 r1.2.2.2.2.2.1.2.2.2.2.2.1 r1.2.2.2.2.2.1.2.2.2.2.2.2.1 r1.2.2.2.2.2.1.2.2.2.2.2.2.2, bX1 G q (o + 33) r1.2.2.2.2.2.2.1.1 r1.2.2.2.2.2.2.1.2.1 r1.2.2.2.2.2.2.1.2.2.1 r1.2.2.2.2.2.2.1.2.2.2, bX4 G q (o + 36) r1.2.2.2.2.2.2.2.1.1 r1.2.2.2.2.2.2.2.1.2, bX3 G q (o + 38) r1.2.2.2.2.2.2.2.2.1.1 r1.2.2.2.2.2.2.2.2.1.2.1 r1.2.2.2.2.2.2.2.2.1.2.2.1 r1.2.2.2.2.2.2.2.2.1.2.2.2, bX0 G q (o + 43) r1.2.2.2.2.2.2.2.2.2.1.2.2.1 r1.2.2.2.2.2.2.2.2.2.1.2.2.2, bX2 G q ((o + 43) + 3) r1.2.2.2.2.2.2.2.2.2.1.1.1 r1.2.2.2.2.2.2.2.2.2.1.1.2.1 r1.2.2.2.2.2.2.2.2.2.1.1.2.2.1 r1.2.2.2.2.2.2.2.2.2.1.1.2.2.2.1 r1.2.2.2.2.2.2.2.2.2.1.1.2.2.2.2.1 r1.2.2.2.2.2.2.2.2.2.1.1.2.2.2.2.2.1 r1.2.2.2.2.2.2.2.2.2.1.1.2.2.2.2.2.2.1 r1.2.2.2.2.2.2.2.2.2.1.1.2.2.2.2.2.2.2, bX4 G q ((o + 43) + 9) r1.2.2.2.2.2.2.2.2.2.1.2.1.1 r1.2.2.2.2.2.2.2.2.2.1.2.1.2, bX7 G q (o + 54) r1.2.2.2.2.2.2.2.2.2.2.1 r1.2.2.2.2.2.2.2.2.2.2.2.1 r1.2.2.2.2.2.2.2.2.2.2.2.2]) hS0 (c_X9_found l G q (o + 1) r1.2.1 4 r10 e11) zc_X9_found rfl gX10_mean_X9_found ⟨Nat.le_of_ble_eq_true rfl, Nat.le_of_ble_eq_true rfl⟩ hK hA hT hw (is := [1]) rfl rfl rfl rfl rfl rfl rfl hl.1 rfl (Nat.le_of_ble_eq_true rfl) dX10_mean_31 (fun H locs hw => ?_)
      cases hf
      exact z_iret hx hb hr hlk hw dX10_mean_34
  · have hf := z_f hc hf
    refine lv_iload_n hx hb dX10_mean_10 rfl (lv_at hl 0 rfl) ?_
    cases hf
    exact z_iret hx hb hr hlk hw dX10_mean_11
theorem zc_X10_most : zC yX10_most wsX10_most cX10_most 2 (some .int) 0 := ⟨⟨_, rfl⟩, by decide +kernel, by decide +kernel, by decide +kernel, by decide +kernel⟩
theorem m_X10_most_0 : (.fieldLink RX10 54 "CellKeys" "reach" "LCellKeys$Reach;" : Cond) ∈ wsX10_most := by decide +kernel
theorem in_X10_most_X10 : ∀ w ∈ u_ws RX10 TX10 10, w ∈ wsX10_most := by decide +kernel
theorem m_X10_most_1 : (.fieldLink RX10 10 "CellKeys" "told" "LCellKeys$Told;" : Cond) ∈ wsX10_most := by decide +kernel
set_option maxHeartbeats 4000000 in
set_option maxRecDepth 100000 in
theorem c_X10_most (l : Launch) (G : zG) (q : Nat → Nat) (o : Nat) (S : VX10)  (y : Int32 × VX10) (hf : f_X10_most S = some y) : zMet l yX10_most wsX10_most 5 127 G [.ref (q (o + 0))] [bX10 G q o, bX9 G q (o + 1) S.1.1 S.1.2.1 S.1.2.2.1 S.1.2.2.2.1 S.1.2.2.2.2, bX6 G q (o + 3) S.2.1.1 S.2.1.2, bX8 G q (o + 12) S.2.2.1.1 S.2.2.1.2, bX5 G q (o + 19) S.2.2.2.1.2.1 S.2.2.2.1.2.2.1 S.2.2.2.1.2.2.2.1 S.2.2.2.1.2.2.2.2, bX2 G q ((o + 19) + 2) S.2.2.2.1.1.1 S.2.2.2.1.1.2.1 S.2.2.2.1.1.2.2.1 S.2.2.2.1.1.2.2.2.1 S.2.2.2.1.1.2.2.2.2.1 S.2.2.2.1.1.2.2.2.2.2.1 S.2.2.2.1.1.2.2.2.2.2.2.1 S.2.2.2.1.1.2.2.2.2.2.2.2, bX2 G q (o + 27) S.2.2.2.2.1.1 S.2.2.2.2.1.2.1 S.2.2.2.2.1.2.2.1 S.2.2.2.2.1.2.2.2.1 S.2.2.2.2.1.2.2.2.2.1 S.2.2.2.2.1.2.2.2.2.2.1 S.2.2.2.2.1.2.2.2.2.2.2.1 S.2.2.2.2.1.2.2.2.2.2.2.2, bX1 G q (o + 33) S.2.2.2.2.2.1.1 S.2.2.2.2.2.1.2.1 S.2.2.2.2.2.1.2.2.1 S.2.2.2.2.2.1.2.2.2, bX4 G q (o + 36) S.2.2.2.2.2.2.1.1 S.2.2.2.2.2.2.1.2, bX3 G q (o + 38) S.2.2.2.2.2.2.2.1.1 S.2.2.2.2.2.2.2.1.2.1 S.2.2.2.2.2.2.2.1.2.2.1 S.2.2.2.2.2.2.2.1.2.2.2, bX0 G q (o + 43) S.2.2.2.2.2.2.2.2.1.2.2.1 S.2.2.2.2.2.2.2.2.1.2.2.2, bX2 G q ((o + 43) + 3) S.2.2.2.2.2.2.2.2.1.1.1 S.2.2.2.2.2.2.2.2.1.1.2.1 S.2.2.2.2.2.2.2.2.1.1.2.2.1 S.2.2.2.2.2.2.2.2.1.1.2.2.2.1 S.2.2.2.2.2.2.2.2.1.1.2.2.2.2.1 S.2.2.2.2.2.2.2.2.1.1.2.2.2.2.2.1 S.2.2.2.2.2.2.2.2.1.1.2.2.2.2.2.2.1 S.2.2.2.2.2.2.2.2.1.1.2.2.2.2.2.2.2, bX4 G q ((o + 43) + 9) S.2.2.2.2.2.2.2.2.1.2.1.1 S.2.2.2.2.2.2.2.2.1.2.1.2, bX7 G q (o + 54) S.2.2.2.2.2.2.2.2.2.1 S.2.2.2.2.2.2.2.2.2.2.1 S.2.2.2.2.2.2.2.2.2.2.2] (some (.int y.1)) [bX10 G q o, bX9 G q (o + 1) y.2.1.1 y.2.1.2.1 y.2.1.2.2.1 y.2.1.2.2.2.1 y.2.1.2.2.2.2, bX6 G q (o + 3) y.2.2.1.1 y.2.2.1.2, bX8 G q (o + 12) y.2.2.2.1.1 y.2.2.2.1.2, bX5 G q (o + 19) y.2.2.2.2.1.2.1 y.2.2.2.2.1.2.2.1 y.2.2.2.2.1.2.2.2.1 y.2.2.2.2.1.2.2.2.2, bX2 G q ((o + 19) + 2) y.2.2.2.2.1.1.1 y.2.2.2.2.1.1.2.1 y.2.2.2.2.1.1.2.2.1 y.2.2.2.2.1.1.2.2.2.1 y.2.2.2.2.1.1.2.2.2.2.1 y.2.2.2.2.1.1.2.2.2.2.2.1 y.2.2.2.2.1.1.2.2.2.2.2.2.1 y.2.2.2.2.1.1.2.2.2.2.2.2.2, bX2 G q (o + 27) y.2.2.2.2.2.1.1 y.2.2.2.2.2.1.2.1 y.2.2.2.2.2.1.2.2.1 y.2.2.2.2.2.1.2.2.2.1 y.2.2.2.2.2.1.2.2.2.2.1 y.2.2.2.2.2.1.2.2.2.2.2.1 y.2.2.2.2.2.1.2.2.2.2.2.2.1 y.2.2.2.2.2.1.2.2.2.2.2.2.2, bX1 G q (o + 33) y.2.2.2.2.2.2.1.1 y.2.2.2.2.2.2.1.2.1 y.2.2.2.2.2.2.1.2.2.1 y.2.2.2.2.2.2.1.2.2.2, bX4 G q (o + 36) y.2.2.2.2.2.2.2.1.1 y.2.2.2.2.2.2.2.1.2, bX3 G q (o + 38) y.2.2.2.2.2.2.2.2.1.1 y.2.2.2.2.2.2.2.2.1.2.1 y.2.2.2.2.2.2.2.2.1.2.2.1 y.2.2.2.2.2.2.2.2.1.2.2.2, bX0 G q (o + 43) y.2.2.2.2.2.2.2.2.2.1.2.2.1 y.2.2.2.2.2.2.2.2.2.1.2.2.2, bX2 G q ((o + 43) + 3) y.2.2.2.2.2.2.2.2.2.1.1.1 y.2.2.2.2.2.2.2.2.2.1.1.2.1 y.2.2.2.2.2.2.2.2.2.1.1.2.2.1 y.2.2.2.2.2.2.2.2.2.1.1.2.2.2.1 y.2.2.2.2.2.2.2.2.2.1.1.2.2.2.2.1 y.2.2.2.2.2.2.2.2.2.1.1.2.2.2.2.2.1 y.2.2.2.2.2.2.2.2.2.1.1.2.2.2.2.2.2.1 y.2.2.2.2.2.2.2.2.2.1.1.2.2.2.2.2.2.2, bX4 G q ((o + 43) + 9) y.2.2.2.2.2.2.2.2.2.1.2.1.1 y.2.2.2.2.2.2.2.2.2.1.2.1.2, bX7 G q (o + 54) y.2.2.2.2.2.2.2.2.2.2.1 y.2.2.2.2.2.2.2.2.2.2.2.1 y.2.2.2.2.2.2.2.2.2.2.2.2] := by
  refine z_met zc_X10_most (Nat.le_of_ble_eq_true rfl) ?_
  intro p e s m below meth c A ls hZ hl hw
  have hl : lv_has ls 2 [(0, .ref (q (o + 0)))] := hl
  obtain ⟨hS0, hr, hlk, hK, hA, hT⟩ := id hZ
  have hx := hS0.1
  have hb := hS0.2.1
  have hml := hS0.2.2.1
  have hown : s.vm.findClass RX10 = some m.cls := hS0.2.2.2.1
  have hts := hS0.2.2.2.2
  unfold f_X10_most at hf
  refine lv_aload_n hx hb dX10_most_0 rfl (lv_at hl 0 rfl) ?_
  obtain ⟨r1, e2, hf⟩ := z_bd hf
  refine z_callV0 (As := []) (rest := []) (bs' := [bX10 G q o, bX9 G q (o + 1) r1.1.1 r1.1.2.1 r1.1.2.2.1 r1.1.2.2.2.1 r1.1.2.2.2.2, bX6 G q (o + 3) r1.2.1.1 r1.2.1.2, bX8 G q (o + 12) r1.2.2.1.1 r1.2.2.1.2, bX5 G q (o + 19) r1.2.2.2.1.2.1 r1.2.2.2.1.2.2.1 r1.2.2.2.1.2.2.2.1 r1.2.2.2.1.2.2.2.2, bX2 G q ((o + 19) + 2) r1.2.2.2.1.1.1 r1.2.2.2.1.1.2.1 r1.2.2.2.1.1.2.2.1 r1.2.2.2.1.1.2.2.2.1 r1.2.2.2.1.1.2.2.2.2.1 r1.2.2.2.1.1.2.2.2.2.2.1 r1.2.2.2.1.1.2.2.2.2.2.2.1 r1.2.2.2.1.1.2.2.2.2.2.2.2, bX2 G q (o + 27) r1.2.2.2.2.1.1 r1.2.2.2.2.1.2.1 r1.2.2.2.2.1.2.2.1 r1.2.2.2.2.1.2.2.2.1 r1.2.2.2.2.1.2.2.2.2.1 r1.2.2.2.2.1.2.2.2.2.2.1 r1.2.2.2.2.1.2.2.2.2.2.2.1 r1.2.2.2.2.1.2.2.2.2.2.2.2, bX1 G q (o + 33) r1.2.2.2.2.2.1.1 r1.2.2.2.2.2.1.2.1 r1.2.2.2.2.2.1.2.2.1 r1.2.2.2.2.2.1.2.2.2, bX4 G q (o + 36) r1.2.2.2.2.2.2.1.1 r1.2.2.2.2.2.2.1.2, bX3 G q (o + 38) r1.2.2.2.2.2.2.2.1.1 r1.2.2.2.2.2.2.2.1.2.1 r1.2.2.2.2.2.2.2.1.2.2.1 r1.2.2.2.2.2.2.2.1.2.2.2, bX0 G q (o + 43) r1.2.2.2.2.2.2.2.2.1.2.2.1 r1.2.2.2.2.2.2.2.2.1.2.2.2, bX2 G q ((o + 43) + 3) r1.2.2.2.2.2.2.2.2.1.1.1 r1.2.2.2.2.2.2.2.2.1.1.2.1 r1.2.2.2.2.2.2.2.2.1.1.2.2.1 r1.2.2.2.2.2.2.2.2.1.1.2.2.2.1 r1.2.2.2.2.2.2.2.2.1.1.2.2.2.2.1 r1.2.2.2.2.2.2.2.2.1.1.2.2.2.2.2.1 r1.2.2.2.2.2.2.2.2.1.1.2.2.2.2.2.2.1 r1.2.2.2.2.2.2.2.2.1.1.2.2.2.2.2.2.2, bX4 G q ((o + 43) + 9) r1.2.2.2.2.2.2.2.2.1.2.1.1 r1.2.2.2.2.2.2.2.2.1.2.1.2, bX7 G q (o + 54) r1.2.2.2.2.2.2.2.2.2.1 r1.2.2.2.2.2.2.2.2.2.2.1 r1.2.2.2.2.2.2.2.2.2.2.2]) hS0 (c_X10_reachAll l G q o S r1 e2) zc_X10_reachAll rfl gX10_most_X10_reachAll ⟨Nat.le_of_ble_eq_true rfl, Nat.le_of_ble_eq_true rfl⟩ hK hA hT hw (is := [0, 1, 2, 3, 4, 5, 6, 7, 8, 9, 10, 11, 12, 13]) rfl rfl rfl rfl rfl rfl rfl hl.1 rfl (Nat.le_of_ble_eq_true rfl) dX10_most_1 (fun H locs hw => ?_)
  refine lv_aload_n hx hb dX10_most_4 rfl (lv_at hl 0 rfl) ?_
  refine z_get hS0 in_X10_most_X10 hK hw 0 6 rfl rfl rfl (by decide) (hts _ m_X10_most_0) (v := .ref (q ((o + 36) + 0))) rfl dX10_most_5 ?_
  obtain ⟨r3, e4, hf⟩ := z_bd hf
  refine z_callV1 (As := []) (rest := []) (bs' := [bX10 G q o, bX9 G q (o + 1) r1.1.1 r1.1.2.1 r1.1.2.2.1 r1.1.2.2.2.1 r1.1.2.2.2.2, bX6 G q (o + 3) r1.2.1.1 r1.2.1.2, bX8 G q (o + 12) r1.2.2.1.1 r1.2.2.1.2, bX5 G q (o + 19) r1.2.2.2.1.2.1 r1.2.2.2.1.2.2.1 r1.2.2.2.1.2.2.2.1 r1.2.2.2.1.2.2.2.2, bX2 G q ((o + 19) + 2) r1.2.2.2.1.1.1 r1.2.2.2.1.1.2.1 r1.2.2.2.1.1.2.2.1 r1.2.2.2.1.1.2.2.2.1 r1.2.2.2.1.1.2.2.2.2.1 r1.2.2.2.1.1.2.2.2.2.2.1 r1.2.2.2.1.1.2.2.2.2.2.2.1 r1.2.2.2.1.1.2.2.2.2.2.2.2, bX2 G q (o + 27) r1.2.2.2.2.1.1 r1.2.2.2.2.1.2.1 r1.2.2.2.2.1.2.2.1 r1.2.2.2.2.1.2.2.2.1 r1.2.2.2.2.1.2.2.2.2.1 r1.2.2.2.2.1.2.2.2.2.2.1 r1.2.2.2.2.1.2.2.2.2.2.2.1 r1.2.2.2.2.1.2.2.2.2.2.2.2, bX1 G q (o + 33) r1.2.2.2.2.2.1.1 r1.2.2.2.2.2.1.2.1 r1.2.2.2.2.2.1.2.2.1 r1.2.2.2.2.2.1.2.2.2, bX4 G q (o + 36) r1.2.2.2.2.2.2.1.1 r1.2.2.2.2.2.2.1.2, bX3 G q (o + 38) r1.2.2.2.2.2.2.2.1.1 r1.2.2.2.2.2.2.2.1.2.1 r1.2.2.2.2.2.2.2.1.2.2.1 r1.2.2.2.2.2.2.2.1.2.2.2, bX0 G q (o + 43) r1.2.2.2.2.2.2.2.2.1.2.2.1 r1.2.2.2.2.2.2.2.2.1.2.2.2, bX2 G q ((o + 43) + 3) r1.2.2.2.2.2.2.2.2.1.1.1 r1.2.2.2.2.2.2.2.2.1.1.2.1 r1.2.2.2.2.2.2.2.2.1.1.2.2.1 r1.2.2.2.2.2.2.2.2.1.1.2.2.2.1 r1.2.2.2.2.2.2.2.2.1.1.2.2.2.2.1 r1.2.2.2.2.2.2.2.2.1.1.2.2.2.2.2.1 r1.2.2.2.2.2.2.2.2.1.1.2.2.2.2.2.2.1 r1.2.2.2.2.2.2.2.2.1.1.2.2.2.2.2.2.2, bX4 G q ((o + 43) + 9) r1.2.2.2.2.2.2.2.2.1.2.1.1 r1.2.2.2.2.2.2.2.2.1.2.1.2, bX7 G q (o + 54) r1.2.2.2.2.2.2.2.2.2.1 r1.2.2.2.2.2.2.2.2.2.2.1 r1.2.2.2.2.2.2.2.2.2.2.2]) hS0 (c_X4_greatest l G q (o + 36) r1.2.2.2.2.2.2.1 r3 e4) zc_X4_greatest rfl gX10_most_X4_greatest ⟨Nat.le_of_ble_eq_true rfl, Nat.le_of_ble_eq_true rfl⟩ hK hA hT hw (is := [8]) rfl rfl rfl rfl rfl rfl rfl hl.1 rfl (Nat.le_of_ble_eq_true rfl) dX10_most_8 (fun H locs hw => ?_)
  refine lv_istore_n (lv' := [(1, .int r3), (0, .ref (q (o + 0)))]) hx hb dX10_most_11 rfl hl (by decide) rfl (fun ls hl => ?_)
  refine lv_aload_n hx hb dX10_most_12 rfl (lv_at hl 1 rfl) ?_
  refine z_get hS0 in_X10_most_X10 hK hw 0 0 rfl rfl rfl (by decide) (hts _ m_X10_most_1) (v := .ref (q ((o + 1) + 0))) rfl dX10_most_13 ?_
  refine lv_aload_n hx hb dX10_most_16 rfl (lv_at hl 1 rfl) ?_
  refine z_get hS0 in_X10_most_X10 hK hw 0 6 rfl rfl rfl (by decide) (hts _ m_X10_most_0) (v := .ref (q ((o + 36) + 0))) rfl dX10_most_17 ?_
  refine lv_iload_n hx hb dX10_most_20 rfl (lv_at hl 0 rfl) ?_
  obtain ⟨r5, e6, hf⟩ := z_bd hf
  refine z_callV1 (As := [.int r3]) (rest := [.ref (q ((o + 1) + 0))]) (bs' := [bX10 G q o, bX9 G q (o + 1) r1.1.1 r1.1.2.1 r1.1.2.2.1 r1.1.2.2.2.1 r1.1.2.2.2.2, bX6 G q (o + 3) r1.2.1.1 r1.2.1.2, bX8 G q (o + 12) r1.2.2.1.1 r1.2.2.1.2, bX5 G q (o + 19) r1.2.2.2.1.2.1 r1.2.2.2.1.2.2.1 r1.2.2.2.1.2.2.2.1 r1.2.2.2.1.2.2.2.2, bX2 G q ((o + 19) + 2) r1.2.2.2.1.1.1 r1.2.2.2.1.1.2.1 r1.2.2.2.1.1.2.2.1 r1.2.2.2.1.1.2.2.2.1 r1.2.2.2.1.1.2.2.2.2.1 r1.2.2.2.1.1.2.2.2.2.2.1 r1.2.2.2.1.1.2.2.2.2.2.2.1 r1.2.2.2.1.1.2.2.2.2.2.2.2, bX2 G q (o + 27) r1.2.2.2.2.1.1 r1.2.2.2.2.1.2.1 r1.2.2.2.2.1.2.2.1 r1.2.2.2.2.1.2.2.2.1 r1.2.2.2.2.1.2.2.2.2.1 r1.2.2.2.2.1.2.2.2.2.2.1 r1.2.2.2.2.1.2.2.2.2.2.2.1 r1.2.2.2.2.1.2.2.2.2.2.2.2, bX1 G q (o + 33) r1.2.2.2.2.2.1.1 r1.2.2.2.2.2.1.2.1 r1.2.2.2.2.2.1.2.2.1 r1.2.2.2.2.2.1.2.2.2, bX4 G q (o + 36) r1.2.2.2.2.2.2.1.1 r1.2.2.2.2.2.2.1.2, bX3 G q (o + 38) r1.2.2.2.2.2.2.2.1.1 r1.2.2.2.2.2.2.2.1.2.1 r1.2.2.2.2.2.2.2.1.2.2.1 r1.2.2.2.2.2.2.2.1.2.2.2, bX0 G q (o + 43) r1.2.2.2.2.2.2.2.2.1.2.2.1 r1.2.2.2.2.2.2.2.2.1.2.2.2, bX2 G q ((o + 43) + 3) r1.2.2.2.2.2.2.2.2.1.1.1 r1.2.2.2.2.2.2.2.2.1.1.2.1 r1.2.2.2.2.2.2.2.2.1.1.2.2.1 r1.2.2.2.2.2.2.2.2.1.1.2.2.2.1 r1.2.2.2.2.2.2.2.2.1.1.2.2.2.2.1 r1.2.2.2.2.2.2.2.2.1.1.2.2.2.2.2.1 r1.2.2.2.2.2.2.2.2.1.1.2.2.2.2.2.2.1 r1.2.2.2.2.2.2.2.2.1.1.2.2.2.2.2.2.2, bX4 G q ((o + 43) + 9) r1.2.2.2.2.2.2.2.2.1.2.1.1 r1.2.2.2.2.2.2.2.2.1.2.1.2, bX7 G q (o + 54) r1.2.2.2.2.2.2.2.2.2.1 r1.2.2.2.2.2.2.2.2.2.2.1 r1.2.2.2.2.2.2.2.2.2.2.2]) hS0 (c_X4_favoursOf l G q (o + 36) r1.2.2.2.2.2.2.1 r3 r5 e6) zc_X4_favoursOf rfl gX10_most_X4_favoursOf ⟨Nat.le_of_ble_eq_true rfl, Nat.le_of_ble_eq_true rfl⟩ hK hA hT hw (is := [8]) rfl rfl rfl rfl rfl rfl rfl hl.1 rfl (Nat.le_of_ble_eq_true rfl) dX10_most_21 (fun H locs hw => ?_)
  obtain ⟨r7, e8, hf⟩ := z_bd hf
  refine z_callV0 (As := [.int r5]) (rest := []) (bs' := [bX10 G q o, bX9 G q (o + 1) r7.1 r7.2.1 r7.2.2.1 r7.2.2.2.1 r7.2.2.2.2, bX6 G q (o + 3) r1.2.1.1 r1.2.1.2, bX8 G q (o + 12) r1.2.2.1.1 r1.2.2.1.2, bX5 G q (o + 19) r1.2.2.2.1.2.1 r1.2.2.2.1.2.2.1 r1.2.2.2.1.2.2.2.1 r1.2.2.2.1.2.2.2.2, bX2 G q ((o + 19) + 2) r1.2.2.2.1.1.1 r1.2.2.2.1.1.2.1 r1.2.2.2.1.1.2.2.1 r1.2.2.2.1.1.2.2.2.1 r1.2.2.2.1.1.2.2.2.2.1 r1.2.2.2.1.1.2.2.2.2.2.1 r1.2.2.2.1.1.2.2.2.2.2.2.1 r1.2.2.2.1.1.2.2.2.2.2.2.2, bX2 G q (o + 27) r1.2.2.2.2.1.1 r1.2.2.2.2.1.2.1 r1.2.2.2.2.1.2.2.1 r1.2.2.2.2.1.2.2.2.1 r1.2.2.2.2.1.2.2.2.2.1 r1.2.2.2.2.1.2.2.2.2.2.1 r1.2.2.2.2.1.2.2.2.2.2.2.1 r1.2.2.2.2.1.2.2.2.2.2.2.2, bX1 G q (o + 33) r1.2.2.2.2.2.1.1 r1.2.2.2.2.2.1.2.1 r1.2.2.2.2.2.1.2.2.1 r1.2.2.2.2.2.1.2.2.2, bX4 G q (o + 36) r1.2.2.2.2.2.2.1.1 r1.2.2.2.2.2.2.1.2, bX3 G q (o + 38) r1.2.2.2.2.2.2.2.1.1 r1.2.2.2.2.2.2.2.1.2.1 r1.2.2.2.2.2.2.2.1.2.2.1 r1.2.2.2.2.2.2.2.1.2.2.2, bX0 G q (o + 43) r1.2.2.2.2.2.2.2.2.1.2.2.1 r1.2.2.2.2.2.2.2.2.1.2.2.2, bX2 G q ((o + 43) + 3) r1.2.2.2.2.2.2.2.2.1.1.1 r1.2.2.2.2.2.2.2.2.1.1.2.1 r1.2.2.2.2.2.2.2.2.1.1.2.2.1 r1.2.2.2.2.2.2.2.2.1.1.2.2.2.1 r1.2.2.2.2.2.2.2.2.1.1.2.2.2.2.1 r1.2.2.2.2.2.2.2.2.1.1.2.2.2.2.2.1 r1.2.2.2.2.2.2.2.2.1.1.2.2.2.2.2.2.1 r1.2.2.2.2.2.2.2.2.1.1.2.2.2.2.2.2.2, bX4 G q ((o + 43) + 9) r1.2.2.2.2.2.2.2.2.1.2.1.1 r1.2.2.2.2.2.2.2.2.1.2.1.2, bX7 G q (o + 54) r1.2.2.2.2.2.2.2.2.2.1 r1.2.2.2.2.2.2.2.2.2.2.1 r1.2.2.2.2.2.2.2.2.2.2.2]) hS0 (c_X9_tell l G q (o + 1) r1.1 r5 r7 e8) zc_X9_tell rfl gX10_most_X9_tell ⟨Nat.le_of_ble_eq_true rfl, Nat.le_of_ble_eq_true rfl⟩ hK hA hT hw (is := [1]) rfl rfl rfl rfl rfl rfl rfl hl.1 rfl (Nat.le_of_ble_eq_true rfl) dX10_most_24 (fun H locs hw => ?_)
  refine lv_iload_n hx hb dX10_most_27 rfl (lv_at hl 0 rfl) ?_
  cases hf
  exact z_iret hx hb hr hlk hw dX10_most_28
theorem zc_X10_odds : zC yX10_odds wsX10_odds cX10_odds 6 (some .int) 2 := ⟨⟨_, rfl⟩, by decide +kernel, by decide +kernel, by decide +kernel, by decide +kernel⟩
theorem m_X10_odds_0 : (.fieldLink RX10 40 "CellKeys" "jail" "LCellKeys$Jail;" : Cond) ∈ wsX10_odds := by decide +kernel
theorem in_X10_odds_X10 : ∀ w ∈ u_ws RX10 TX10 10, w ∈ wsX10_odds := by decide +kernel
theorem m_X10_odds_1 : (.fieldLink RX10 10 "CellKeys" "told" "LCellKeys$Told;" : Cond) ∈ wsX10_odds := by decide +kernel
set_option maxHeartbeats 4000000 in
set_option maxRecDepth 100000 in
theorem k_X10_odds_32 {p : Program} {l : Launch} {e : Env} {s : State} {m : MethodId} {args : Array Value} {below : List Frame} {meth : Method} {c : Code} {A : Nat → Prop} {G : zG} {q : Nat → Nat} {o : Nat}  (hZ : zZ p s m args meth c A G cX10_odds 6 RX10 wsX10_odds (some .int)) (y : Int32 × VX10)  (n : Nat) : ∀ (S : VX10) (v1 : Int32) (v2 : Int32) (v3 : Int32) (v4 : Int32) (v5 : Int32) (H : Heap) (locs : List Loc) (ls : Array Slot), f_X10_odds_32 n S v1 v2 v3 v4 v5 = some y → zH G A s.heap [bX10 G q o, bX9 G q (o + 1) S.1.1 S.1.2.1 S.1.2.2.1 S.1.2.2.2.1 S.1.2.2.2.2, bX6 G q (o + 3) S.2.1.1 S.2.1.2, bX8 G q (o + 12) S.2.2.1.1 S.2.2.1.2, bX5 G q (o + 19) S.2.2.2.1.2.1 S.2.2.2.1.2.2.1 S.2.2.2.1.2.2.2.1 S.2.2.2.1.2.2.2.2, bX2 G q ((o + 19) + 2) S.2.2.2.1.1.1 S.2.2.2.1.1.2.1 S.2.2.2.1.1.2.2.1 S.2.2.2.1.1.2.2.2.1 S.2.2.2.1.1.2.2.2.2.1 S.2.2.2.1.1.2.2.2.2.2.1 S.2.2.2.1.1.2.2.2.2.2.2.1 S.2.2.2.1.1.2.2.2.2.2.2.2, bX2 G q (o + 27) S.2.2.2.2.1.1 S.2.2.2.2.1.2.1 S.2.2.2.2.1.2.2.1 S.2.2.2.2.1.2.2.2.1 S.2.2.2.2.1.2.2.2.2.1 S.2.2.2.2.1.2.2.2.2.2.1 S.2.2.2.2.1.2.2.2.2.2.2.1 S.2.2.2.2.1.2.2.2.2.2.2.2, bX1 G q (o + 33) S.2.2.2.2.2.1.1 S.2.2.2.2.2.1.2.1 S.2.2.2.2.2.1.2.2.1 S.2.2.2.2.2.1.2.2.2, bX4 G q (o + 36) S.2.2.2.2.2.2.1.1 S.2.2.2.2.2.2.1.2, bX3 G q (o + 38) S.2.2.2.2.2.2.2.1.1 S.2.2.2.2.2.2.2.1.2.1 S.2.2.2.2.2.2.2.1.2.2.1 S.2.2.2.2.2.2.2.1.2.2.2, bX0 G q (o + 43) S.2.2.2.2.2.2.2.2.1.2.2.1 S.2.2.2.2.2.2.2.2.1.2.2.2, bX2 G q ((o + 43) + 3) S.2.2.2.2.2.2.2.2.1.1.1 S.2.2.2.2.2.2.2.2.1.1.2.1 S.2.2.2.2.2.2.2.2.1.1.2.2.1 S.2.2.2.2.2.2.2.2.1.1.2.2.2.1 S.2.2.2.2.2.2.2.2.1.1.2.2.2.2.1 S.2.2.2.2.2.2.2.2.1.1.2.2.2.2.2.1 S.2.2.2.2.2.2.2.2.1.1.2.2.2.2.2.2.1 S.2.2.2.2.2.2.2.2.1.1.2.2.2.2.2.2.2, bX4 G q ((o + 43) + 9) S.2.2.2.2.2.2.2.2.1.2.1.1 S.2.2.2.2.2.2.2.2.1.2.1.2, bX7 G q (o + 54) S.2.2.2.2.2.2.2.2.2.1 S.2.2.2.2.2.2.2.2.2.2.1 S.2.2.2.2.2.2.2.2.2.2.2] H locs → lv_has ls 6 [(0, .ref (q (o + 0))), (1, .int v1), (2, .int v2), (3, .int v3), (4, .int v4), (5, .int v5)] → W p l e { frames := 5, cells := 0, slots := 0, locals := 127 } s m args below meth c H locs 0 0 (MQ below (zQ (some (.int y.1)) (zPost G [bX10 G q o, bX9 G q (o + 1) y.2.1.1 y.2.1.2.1 y.2.1.2.2.1 y.2.1.2.2.2.1 y.2.1.2.2.2.2, bX6 G q (o + 3) y.2.2.1.1 y.2.2.1.2, bX8 G q (o + 12) y.2.2.2.1.1 y.2.2.2.1.2, bX5 G q (o + 19) y.2.2.2.2.1.2.1 y.2.2.2.2.1.2.2.1 y.2.2.2.2.1.2.2.2.1 y.2.2.2.2.1.2.2.2.2, bX2 G q ((o + 19) + 2) y.2.2.2.2.1.1.1 y.2.2.2.2.1.1.2.1 y.2.2.2.2.1.1.2.2.1 y.2.2.2.2.1.1.2.2.2.1 y.2.2.2.2.1.1.2.2.2.2.1 y.2.2.2.2.1.1.2.2.2.2.2.1 y.2.2.2.2.1.1.2.2.2.2.2.2.1 y.2.2.2.2.1.1.2.2.2.2.2.2.2, bX2 G q (o + 27) y.2.2.2.2.2.1.1 y.2.2.2.2.2.1.2.1 y.2.2.2.2.2.1.2.2.1 y.2.2.2.2.2.1.2.2.2.1 y.2.2.2.2.2.1.2.2.2.2.1 y.2.2.2.2.2.1.2.2.2.2.2.1 y.2.2.2.2.2.1.2.2.2.2.2.2.1 y.2.2.2.2.2.1.2.2.2.2.2.2.2, bX1 G q (o + 33) y.2.2.2.2.2.2.1.1 y.2.2.2.2.2.2.1.2.1 y.2.2.2.2.2.2.1.2.2.1 y.2.2.2.2.2.2.1.2.2.2, bX4 G q (o + 36) y.2.2.2.2.2.2.2.1.1 y.2.2.2.2.2.2.2.1.2, bX3 G q (o + 38) y.2.2.2.2.2.2.2.2.1.1 y.2.2.2.2.2.2.2.2.1.2.1 y.2.2.2.2.2.2.2.2.1.2.2.1 y.2.2.2.2.2.2.2.2.1.2.2.2, bX0 G q (o + 43) y.2.2.2.2.2.2.2.2.2.1.2.2.1 y.2.2.2.2.2.2.2.2.2.1.2.2.2, bX2 G q ((o + 43) + 3) y.2.2.2.2.2.2.2.2.2.1.1.1 y.2.2.2.2.2.2.2.2.2.1.1.2.1 y.2.2.2.2.2.2.2.2.2.1.1.2.2.1 y.2.2.2.2.2.2.2.2.2.1.1.2.2.2.1 y.2.2.2.2.2.2.2.2.2.1.1.2.2.2.2.1 y.2.2.2.2.2.2.2.2.2.1.1.2.2.2.2.2.1 y.2.2.2.2.2.2.2.2.2.1.1.2.2.2.2.2.2.1 y.2.2.2.2.2.2.2.2.2.1.1.2.2.2.2.2.2.2, bX4 G q ((o + 43) + 9) y.2.2.2.2.2.2.2.2.2.1.2.1.1 y.2.2.2.2.2.2.2.2.2.1.2.1.2, bX7 G q (o + 54) y.2.2.2.2.2.2.2.2.2.2.1 y.2.2.2.2.2.2.2.2.2.2.2.1 y.2.2.2.2.2.2.2.2.2.2.2.2]) A) args s 0 0 A) (F0 m 32 ls []) := by
  obtain ⟨hS0, hr, hlk, hK, hA, hT⟩ := id hZ
  have hx := hS0.1
  have hb := hS0.2.1
  have hml := hS0.2.2.1
  have hown : s.vm.findClass RX10 = some m.cls := hS0.2.2.2.1
  have hts := hS0.2.2.2.2
  induction n with
  | zero =>
    intro S v1 v2 v3 v4 v5 H locs ls hf hw hl
    unfold f_X10_odds_32 at hf
    cases hf
  | succ n ih =>
    intro S v1 v2 v3 v4 v5 H locs ls hf hw hl
    unfold f_X10_odds_32 at hf
    refine lv_iload hx hb dX10_odds_32 (lv_at hl 5 rfl) ?_
    refine lv_aload_n hx hb dX10_odds_34 rfl (lv_at hl 0 rfl) ?_
    refine z_get hS0 in_X10_odds_X10 hK hw 0 4 rfl rfl rfl (by decide) (hts _ m_X10_odds_0) (v := .ref (q ((o + 27) + 0))) rfl dX10_odds_35 ?_
    obtain ⟨r1, e2, hf⟩ := z_bd hf
    refine z_callV1 (As := []) (rest := [.int v5]) (bs' := [bX10 G q o, bX9 G q (o + 1) S.1.1 S.1.2.1 S.1.2.2.1 S.1.2.2.2.1 S.1.2.2.2.2, bX6 G q (o + 3) S.2.1.1 S.2.1.2, bX8 G q (o + 12) S.2.2.1.1 S.2.2.1.2, bX5 G q (o + 19) S.2.2.2.1.2.1 S.2.2.2.1.2.2.1 S.2.2.2.1.2.2.2.1 S.2.2.2.1.2.2.2.2, bX2 G q ((o + 19) + 2) S.2.2.2.1.1.1 S.2.2.2.1.1.2.1 S.2.2.2.1.1.2.2.1 S.2.2.2.1.1.2.2.2.1 S.2.2.2.1.1.2.2.2.2.1 S.2.2.2.1.1.2.2.2.2.2.1 S.2.2.2.1.1.2.2.2.2.2.2.1 S.2.2.2.1.1.2.2.2.2.2.2.2, bX2 G q (o + 27) S.2.2.2.2.1.1 S.2.2.2.2.1.2.1 S.2.2.2.2.1.2.2.1 S.2.2.2.2.1.2.2.2.1 S.2.2.2.2.1.2.2.2.2.1 S.2.2.2.2.1.2.2.2.2.2.1 S.2.2.2.2.1.2.2.2.2.2.2.1 S.2.2.2.2.1.2.2.2.2.2.2.2, bX1 G q (o + 33) S.2.2.2.2.2.1.1 S.2.2.2.2.2.1.2.1 S.2.2.2.2.2.1.2.2.1 S.2.2.2.2.2.1.2.2.2, bX4 G q (o + 36) S.2.2.2.2.2.2.1.1 S.2.2.2.2.2.2.1.2, bX3 G q (o + 38) S.2.2.2.2.2.2.2.1.1 S.2.2.2.2.2.2.2.1.2.1 S.2.2.2.2.2.2.2.1.2.2.1 S.2.2.2.2.2.2.2.1.2.2.2, bX0 G q (o + 43) S.2.2.2.2.2.2.2.2.1.2.2.1 S.2.2.2.2.2.2.2.2.1.2.2.2, bX2 G q ((o + 43) + 3) S.2.2.2.2.2.2.2.2.1.1.1 S.2.2.2.2.2.2.2.2.1.1.2.1 S.2.2.2.2.2.2.2.2.1.1.2.2.1 S.2.2.2.2.2.2.2.2.1.1.2.2.2.1 S.2.2.2.2.2.2.2.2.1.1.2.2.2.2.1 S.2.2.2.2.2.2.2.2.1.1.2.2.2.2.2.1 S.2.2.2.2.2.2.2.2.1.1.2.2.2.2.2.2.1 S.2.2.2.2.2.2.2.2.1.1.2.2.2.2.2.2.2, bX4 G q ((o + 43) + 9) S.2.2.2.2.2.2.2.2.1.2.1.1 S.2.2.2.2.2.2.2.2.1.2.1.2, bX7 G q (o + 54) S.2.2.2.2.2.2.2.2.2.1 S.2.2.2.2.2.2.2.2.2.2.1 S.2.2.2.2.2.2.2.2.2.2.2]) hS0 (c_X2_everyone l G q (o + 27) S.2.2.2.2.1 r1 e2) zc_X2_everyone rfl gX10_odds_X2_everyone ⟨Nat.le_of_ble_eq_true rfl, Nat.le_of_ble_eq_true rfl⟩ hK hA hT hw (is := [6]) rfl rfl rfl rfl rfl rfl rfl hl.1 rfl (Nat.le_of_ble_eq_true rfl) dX10_odds_38 (fun H locs hw => ?_)
    refine lv_icmp_gt (tgt := 74) hx hb dX10_odds_41 rfl (fun hc => ?_) (fun hc => ?_)
    · have hf := z_t hc hf
      refine lv_iload_n hx hb dX10_odds_74 rfl (lv_at hl 3 rfl) ?_
      refine lv_if_ne (tgt := 87) hx hb dX10_odds_75 rfl (fun hc => ?_) (fun hc => ?_)
      · have hf := z_f hc hf
        refine lv_aload_n hx hb dX10_odds_87 rfl (lv_at hl 0 rfl) ?_
        refine z_get hS0 in_X10_odds_X10 hK hw 0 0 rfl rfl rfl (by decide) (hts _ m_X10_odds_1) (v := .ref (q ((o + 1) + 0))) rfl dX10_odds_88 ?_
        refine lv_iload hx hb dX10_odds_91 (lv_at hl 4 rfl) ?_
        refine lv_iload_n hx hb dX10_odds_93 rfl (lv_at hl 3 rfl) ?_
        obtain ⟨r3, e4, hf⟩ := z_bd hf
        refine z_callV0 (As := [.int v4, .int v3]) (rest := []) (bs' := [bX10 G q o, bX9 G q (o + 1) r3.1 r3.2.1 r3.2.2.1 r3.2.2.2.1 r3.2.2.2.2, bX6 G q (o + 3) S.2.1.1 S.2.1.2, bX8 G q (o + 12) S.2.2.1.1 S.2.2.1.2, bX5 G q (o + 19) S.2.2.2.1.2.1 S.2.2.2.1.2.2.1 S.2.2.2.1.2.2.2.1 S.2.2.2.1.2.2.2.2, bX2 G q ((o + 19) + 2) S.2.2.2.1.1.1 S.2.2.2.1.1.2.1 S.2.2.2.1.1.2.2.1 S.2.2.2.1.1.2.2.2.1 S.2.2.2.1.1.2.2.2.2.1 S.2.2.2.1.1.2.2.2.2.2.1 S.2.2.2.1.1.2.2.2.2.2.2.1 S.2.2.2.1.1.2.2.2.2.2.2.2, bX2 G q (o + 27) S.2.2.2.2.1.1 S.2.2.2.2.1.2.1 S.2.2.2.2.1.2.2.1 S.2.2.2.2.1.2.2.2.1 S.2.2.2.2.1.2.2.2.2.1 S.2.2.2.2.1.2.2.2.2.2.1 S.2.2.2.2.1.2.2.2.2.2.2.1 S.2.2.2.2.1.2.2.2.2.2.2.2, bX1 G q (o + 33) S.2.2.2.2.2.1.1 S.2.2.2.2.2.1.2.1 S.2.2.2.2.2.1.2.2.1 S.2.2.2.2.2.1.2.2.2, bX4 G q (o + 36) S.2.2.2.2.2.2.1.1 S.2.2.2.2.2.2.1.2, bX3 G q (o + 38) S.2.2.2.2.2.2.2.1.1 S.2.2.2.2.2.2.2.1.2.1 S.2.2.2.2.2.2.2.1.2.2.1 S.2.2.2.2.2.2.2.1.2.2.2, bX0 G q (o + 43) S.2.2.2.2.2.2.2.2.1.2.2.1 S.2.2.2.2.2.2.2.2.1.2.2.2, bX2 G q ((o + 43) + 3) S.2.2.2.2.2.2.2.2.1.1.1 S.2.2.2.2.2.2.2.2.1.1.2.1 S.2.2.2.2.2.2.2.2.1.1.2.2.1 S.2.2.2.2.2.2.2.2.1.1.2.2.2.1 S.2.2.2.2.2.2.2.2.1.1.2.2.2.2.1 S.2.2.2.2.2.2.2.2.1.1.2.2.2.2.2.1 S.2.2.2.2.2.2.2.2.1.1.2.2.2.2.2.2.1 S.2.2.2.2.2.2.2.2.1.1.2.2.2.2.2.2.2, bX4 G q ((o + 43) + 9) S.2.2.2.2.2.2.2.2.1.2.1.1 S.2.2.2.2.2.2.2.2.1.2.1.2, bX7 G q (o + 54) S.2.2.2.2.2.2.2.2.2.1 S.2.2.2.2.2.2.2.2.2.2.1 S.2.2.2.2.2.2.2.2.2.2.2]) hS0 (c_X9_tellFraction l G q (o + 1) S.1 v4 v3 r3 e4) zc_X9_tellFraction rfl gX10_odds_X9_tellFraction ⟨Nat.le_of_ble_eq_true rfl, Nat.le_of_ble_eq_true rfl⟩ hK hA hT hw (is := [1]) rfl rfl rfl rfl rfl rfl rfl hl.1 rfl (Nat.le_of_ble_eq_true rfl) dX10_odds_94 (fun H locs hw => ?_)
        refine lv_iload hx hb dX10_odds_97 (lv_at hl 4 rfl) ?_
        cases hf
        exact z_iret hx hb hr hlk hw dX10_odds_99
      · have hf := z_t hc hf
        refine lv_aload_n hx hb dX10_odds_78 rfl (lv_at hl 0 rfl) ?_
        refine z_get hS0 in_X10_odds_X10 hK hw 0 0 rfl rfl rfl (by decide) (hts _ m_X10_odds_1) (v := .ref (q ((o + 1) + 0))) rfl dX10_odds_79 ?_
        refine lv_iconst (v := 4) hx hb dX10_odds_82 rfl ?_
        obtain ⟨r5, e6, hf⟩ := z_bd hf
        refine z_callV1 (As := [.int 4]) (rest := []) (bs' := [bX10 G q o, bX9 G q (o + 1) r5.2.1 r5.2.2.1 r5.2.2.2.1 r5.2.2.2.2.1 r5.2.2.2.2.2, bX6 G q (o + 3) S.2.1.1 S.2.1.2, bX8 G q (o + 12) S.2.2.1.1 S.2.2.1.2, bX5 G q (o + 19) S.2.2.2.1.2.1 S.2.2.2.1.2.2.1 S.2.2.2.1.2.2.2.1 S.2.2.2.1.2.2.2.2, bX2 G q ((o + 19) + 2) S.2.2.2.1.1.1 S.2.2.2.1.1.2.1 S.2.2.2.1.1.2.2.1 S.2.2.2.1.1.2.2.2.1 S.2.2.2.1.1.2.2.2.2.1 S.2.2.2.1.1.2.2.2.2.2.1 S.2.2.2.1.1.2.2.2.2.2.2.1 S.2.2.2.1.1.2.2.2.2.2.2.2, bX2 G q (o + 27) S.2.2.2.2.1.1 S.2.2.2.2.1.2.1 S.2.2.2.2.1.2.2.1 S.2.2.2.2.1.2.2.2.1 S.2.2.2.2.1.2.2.2.2.1 S.2.2.2.2.1.2.2.2.2.2.1 S.2.2.2.2.1.2.2.2.2.2.2.1 S.2.2.2.2.1.2.2.2.2.2.2.2, bX1 G q (o + 33) S.2.2.2.2.2.1.1 S.2.2.2.2.2.1.2.1 S.2.2.2.2.2.1.2.2.1 S.2.2.2.2.2.1.2.2.2, bX4 G q (o + 36) S.2.2.2.2.2.2.1.1 S.2.2.2.2.2.2.1.2, bX3 G q (o + 38) S.2.2.2.2.2.2.2.1.1 S.2.2.2.2.2.2.2.1.2.1 S.2.2.2.2.2.2.2.1.2.2.1 S.2.2.2.2.2.2.2.1.2.2.2, bX0 G q (o + 43) S.2.2.2.2.2.2.2.2.1.2.2.1 S.2.2.2.2.2.2.2.2.1.2.2.2, bX2 G q ((o + 43) + 3) S.2.2.2.2.2.2.2.2.1.1.1 S.2.2.2.2.2.2.2.2.1.1.2.1 S.2.2.2.2.2.2.2.2.1.1.2.2.1 S.2.2.2.2.2.2.2.2.1.1.2.2.2.1 S.2.2.2.2.2.2.2.2.1.1.2.2.2.2.1 S.2.2.2.2.2.2.2.2.1.1.2.2.2.2.2.1 S.2.2.2.2.2.2.2.2.1.1.2.2.2.2.2.2.1 S.2.2.2.2.2.2.2.2.1.1.2.2.2.2.2.2.2, bX4 G q ((o + 43) + 9) S.2.2.2.2.2.2.2.2.1.2.1.1 S.2.2.2.2.2.2.2.2.1.2.1.2, bX7 G q (o + 54) S.2.2.2.2.2.2.2.2.2.1 S.2.2.2.2.2.2.2.2.2.2.1 S.2.2.2.2.2.2.2.2.2.2.2]) hS0 (c_X9_found l G q (o + 1) S.1 4 r5 e6) zc_X9_found rfl gX10_odds_X9_found ⟨Nat.le_of_ble_eq_true rfl, Nat.le_of_ble_eq_true rfl⟩ hK hA hT hw (is := [1]) rfl rfl rfl rfl rfl rfl rfl hl.1 rfl (Nat.le_of_ble_eq_true rfl) dX10_odds_83 (fun H locs hw => ?_)
        cases hf
        exact z_iret hx hb hr hlk hw dX10_odds_86
    · have hf := z_f hc hf
      refine lv_aload_n hx hb dX10_odds_44 rfl (lv_at hl 0 rfl) ?_
      refine lv_iload hx hb dX10_odds_45 (lv_at hl 5 rfl) ?_
      refine lv_iload_n hx hb dX10_odds_47 rfl (lv_at hl 1 rfl) ?_
      obtain ⟨r7, e8, hf⟩ := z_bd hf
      refine z_callV1 (As := [.int v5, .int v1]) (rest := []) (bs' := [bX10 G q o, bX9 G q (o + 1) S.1.1 S.1.2.1 S.1.2.2.1 S.1.2.2.2.1 S.1.2.2.2.2, bX6 G q (o + 3) S.2.1.1 S.2.1.2, bX8 G q (o + 12) S.2.2.1.1 S.2.2.1.2, bX5 G q (o + 19) S.2.2.2.1.2.1 S.2.2.2.1.2.2.1 S.2.2.2.1.2.2.2.1 S.2.2.2.1.2.2.2.2, bX2 G q ((o + 19) + 2) S.2.2.2.1.1.1 S.2.2.2.1.1.2.1 S.2.2.2.1.1.2.2.1 S.2.2.2.1.1.2.2.2.1 S.2.2.2.1.1.2.2.2.2.1 S.2.2.2.1.1.2.2.2.2.2.1 S.2.2.2.1.1.2.2.2.2.2.2.1 S.2.2.2.1.1.2.2.2.2.2.2.2, bX2 G q (o + 27) S.2.2.2.2.1.1 S.2.2.2.2.1.2.1 S.2.2.2.2.1.2.2.1 S.2.2.2.2.1.2.2.2.1 S.2.2.2.2.1.2.2.2.2.1 S.2.2.2.2.1.2.2.2.2.2.1 S.2.2.2.2.1.2.2.2.2.2.2.1 S.2.2.2.2.1.2.2.2.2.2.2.2, bX1 G q (o + 33) S.2.2.2.2.2.1.1 S.2.2.2.2.2.1.2.1 S.2.2.2.2.2.1.2.2.1 S.2.2.2.2.2.1.2.2.2, bX4 G q (o + 36) S.2.2.2.2.2.2.1.1 S.2.2.2.2.2.2.1.2, bX3 G q (o + 38) S.2.2.2.2.2.2.2.1.1 S.2.2.2.2.2.2.2.1.2.1 S.2.2.2.2.2.2.2.1.2.2.1 S.2.2.2.2.2.2.2.1.2.2.2, bX0 G q (o + 43) S.2.2.2.2.2.2.2.2.1.2.2.1 S.2.2.2.2.2.2.2.2.1.2.2.2, bX2 G q ((o + 43) + 3) S.2.2.2.2.2.2.2.2.1.1.1 S.2.2.2.2.2.2.2.2.1.1.2.1 S.2.2.2.2.2.2.2.2.1.1.2.2.1 S.2.2.2.2.2.2.2.2.1.1.2.2.2.1 S.2.2.2.2.2.2.2.2.1.1.2.2.2.2.1 S.2.2.2.2.2.2.2.2.1.1.2.2.2.2.2.1 S.2.2.2.2.2.2.2.2.1.1.2.2.2.2.2.2.1 S.2.2.2.2.2.2.2.2.1.1.2.2.2.2.2.2.2, bX4 G q ((o + 43) + 9) S.2.2.2.2.2.2.2.2.1.2.1.1 S.2.2.2.2.2.2.2.2.1.2.1.2, bX7 G q (o + 54) S.2.2.2.2.2.2.2.2.2.1 S.2.2.2.2.2.2.2.2.2.2.1 S.2.2.2.2.2.2.2.2.2.2.2]) hS0 (c_X10_fitsNight l G q o S v5 v1 r7 e8) zc_X10_fitsNight rfl gX10_odds_X10_fitsNight ⟨Nat.le_of_ble_eq_true rfl, Nat.le_of_ble_eq_true rfl⟩ hK hA hT hw (is := [0, 1, 2, 3, 4, 5, 6, 7, 8, 9, 10, 11, 12, 13]) rfl rfl rfl rfl rfl rfl rfl hl.1 rfl (Nat.le_of_ble_eq_true rfl) dX10_odds_48 (fun H locs hw => ?_)
      refine lv_if_eq (tgt := 68) hx hb dX10_odds_51 rfl (fun hc => ?_) (fun hc => ?_)
      · have hf := z_t hc hf
        refine lv_iinc (v := (v5 + 1)) (lv' := [(5, .int (v5 + 1)), (0, .ref (q (o + 0))), (1, .int v1), (2, .int v2), (3, .int v3), (4, .int v4)]) hx hb dX10_odds_68 hl (k := 5) rfl rfl (by decide) rfl (fun ls hl => ?_)
        refine lv_goto (tgt := 32) hx hb dX10_odds_71 rfl ?_
        exact ih _ _ _ _ _ _ _ _ _ hf hw (lv_sub hl [1, 2, 3, 4, 5, 0] rfl)
      · have hf := z_f hc hf
        refine lv_iinc (v := (v3 + 1)) (lv' := [(3, .int (v3 + 1)), (0, .ref (q (o + 0))), (1, .int v1), (2, .int v2), (4, .int v4), (5, .int v5)]) hx hb dX10_odds_54 hl (k := 3) rfl rfl (by decide) rfl (fun ls hl => ?_)
        refine lv_iload hx hb dX10_odds_57 (lv_at hl 4 rfl) ?_
        refine lv_iload hx hb dX10_odds_59 (lv_at hl 5 rfl) ?_
        refine lv_iload_n hx hb dX10_odds_61 rfl (lv_at hl 3 rfl) ?_
        refine lv_ishr hx hb dX10_odds_62 ?_
        refine lv_iconst (v := 1) hx hb dX10_odds_63 rfl ?_
        refine lv_iand hx hb dX10_odds_64 ?_
        refine lv_iadd hx hb dX10_odds_65 ?_
        refine lv_istore (lv' := [(4, .int (v4 + ((v5 >>> (v2 &&& 31)) &&& (1 : Int32)))), (3, .int (v3 + 1)), (0, .ref (q (o + 0))), (1, .int v1), (2, .int v2), (5, .int v5)]) hx hb dX10_odds_66 hl (by decide) rfl (fun ls hl => ?_)
        refine lv_iinc (v := (v5 + 1)) (lv' := [(5, .int (v5 + 1)), (4, .int (v4 + ((v5 >>> (v2 &&& 31)) &&& (1 : Int32)))), (3, .int (v3 + 1)), (0, .ref (q (o + 0))), (1, .int v1), (2, .int v2)]) hx hb dX10_odds_68 hl (k := 5) rfl rfl (by decide) rfl (fun ls hl => ?_)
        refine lv_goto (tgt := 32) hx hb dX10_odds_71 rfl ?_
        exact ih _ _ _ _ _ _ _ _ _ hf hw (lv_sub hl [3, 4, 5, 2, 1, 0] rfl)
set_option maxHeartbeats 4000000 in
set_option maxRecDepth 100000 in
theorem c_X10_odds (l : Launch) (G : zG) (q : Nat → Nat) (o : Nat) (S : VX10) (v1 : Int32) (v2 : Int32) (y : Int32 × VX10) (hf : f_X10_odds S v1 v2 = some y) : zMet l yX10_odds wsX10_odds 5 127 G [.ref (q (o + 0)), .int v1, .int v2] [bX10 G q o, bX9 G q (o + 1) S.1.1 S.1.2.1 S.1.2.2.1 S.1.2.2.2.1 S.1.2.2.2.2, bX6 G q (o + 3) S.2.1.1 S.2.1.2, bX8 G q (o + 12) S.2.2.1.1 S.2.2.1.2, bX5 G q (o + 19) S.2.2.2.1.2.1 S.2.2.2.1.2.2.1 S.2.2.2.1.2.2.2.1 S.2.2.2.1.2.2.2.2, bX2 G q ((o + 19) + 2) S.2.2.2.1.1.1 S.2.2.2.1.1.2.1 S.2.2.2.1.1.2.2.1 S.2.2.2.1.1.2.2.2.1 S.2.2.2.1.1.2.2.2.2.1 S.2.2.2.1.1.2.2.2.2.2.1 S.2.2.2.1.1.2.2.2.2.2.2.1 S.2.2.2.1.1.2.2.2.2.2.2.2, bX2 G q (o + 27) S.2.2.2.2.1.1 S.2.2.2.2.1.2.1 S.2.2.2.2.1.2.2.1 S.2.2.2.2.1.2.2.2.1 S.2.2.2.2.1.2.2.2.2.1 S.2.2.2.2.1.2.2.2.2.2.1 S.2.2.2.2.1.2.2.2.2.2.2.1 S.2.2.2.2.1.2.2.2.2.2.2.2, bX1 G q (o + 33) S.2.2.2.2.2.1.1 S.2.2.2.2.2.1.2.1 S.2.2.2.2.2.1.2.2.1 S.2.2.2.2.2.1.2.2.2, bX4 G q (o + 36) S.2.2.2.2.2.2.1.1 S.2.2.2.2.2.2.1.2, bX3 G q (o + 38) S.2.2.2.2.2.2.2.1.1 S.2.2.2.2.2.2.2.1.2.1 S.2.2.2.2.2.2.2.1.2.2.1 S.2.2.2.2.2.2.2.1.2.2.2, bX0 G q (o + 43) S.2.2.2.2.2.2.2.2.1.2.2.1 S.2.2.2.2.2.2.2.2.1.2.2.2, bX2 G q ((o + 43) + 3) S.2.2.2.2.2.2.2.2.1.1.1 S.2.2.2.2.2.2.2.2.1.1.2.1 S.2.2.2.2.2.2.2.2.1.1.2.2.1 S.2.2.2.2.2.2.2.2.1.1.2.2.2.1 S.2.2.2.2.2.2.2.2.1.1.2.2.2.2.1 S.2.2.2.2.2.2.2.2.1.1.2.2.2.2.2.1 S.2.2.2.2.2.2.2.2.1.1.2.2.2.2.2.2.1 S.2.2.2.2.2.2.2.2.1.1.2.2.2.2.2.2.2, bX4 G q ((o + 43) + 9) S.2.2.2.2.2.2.2.2.1.2.1.1 S.2.2.2.2.2.2.2.2.1.2.1.2, bX7 G q (o + 54) S.2.2.2.2.2.2.2.2.2.1 S.2.2.2.2.2.2.2.2.2.2.1 S.2.2.2.2.2.2.2.2.2.2.2] (some (.int y.1)) [bX10 G q o, bX9 G q (o + 1) y.2.1.1 y.2.1.2.1 y.2.1.2.2.1 y.2.1.2.2.2.1 y.2.1.2.2.2.2, bX6 G q (o + 3) y.2.2.1.1 y.2.2.1.2, bX8 G q (o + 12) y.2.2.2.1.1 y.2.2.2.1.2, bX5 G q (o + 19) y.2.2.2.2.1.2.1 y.2.2.2.2.1.2.2.1 y.2.2.2.2.1.2.2.2.1 y.2.2.2.2.1.2.2.2.2, bX2 G q ((o + 19) + 2) y.2.2.2.2.1.1.1 y.2.2.2.2.1.1.2.1 y.2.2.2.2.1.1.2.2.1 y.2.2.2.2.1.1.2.2.2.1 y.2.2.2.2.1.1.2.2.2.2.1 y.2.2.2.2.1.1.2.2.2.2.2.1 y.2.2.2.2.1.1.2.2.2.2.2.2.1 y.2.2.2.2.1.1.2.2.2.2.2.2.2, bX2 G q (o + 27) y.2.2.2.2.2.1.1 y.2.2.2.2.2.1.2.1 y.2.2.2.2.2.1.2.2.1 y.2.2.2.2.2.1.2.2.2.1 y.2.2.2.2.2.1.2.2.2.2.1 y.2.2.2.2.2.1.2.2.2.2.2.1 y.2.2.2.2.2.1.2.2.2.2.2.2.1 y.2.2.2.2.2.1.2.2.2.2.2.2.2, bX1 G q (o + 33) y.2.2.2.2.2.2.1.1 y.2.2.2.2.2.2.1.2.1 y.2.2.2.2.2.2.1.2.2.1 y.2.2.2.2.2.2.1.2.2.2, bX4 G q (o + 36) y.2.2.2.2.2.2.2.1.1 y.2.2.2.2.2.2.2.1.2, bX3 G q (o + 38) y.2.2.2.2.2.2.2.2.1.1 y.2.2.2.2.2.2.2.2.1.2.1 y.2.2.2.2.2.2.2.2.1.2.2.1 y.2.2.2.2.2.2.2.2.1.2.2.2, bX0 G q (o + 43) y.2.2.2.2.2.2.2.2.2.1.2.2.1 y.2.2.2.2.2.2.2.2.2.1.2.2.2, bX2 G q ((o + 43) + 3) y.2.2.2.2.2.2.2.2.2.1.1.1 y.2.2.2.2.2.2.2.2.2.1.1.2.1 y.2.2.2.2.2.2.2.2.2.1.1.2.2.1 y.2.2.2.2.2.2.2.2.2.1.1.2.2.2.1 y.2.2.2.2.2.2.2.2.2.1.1.2.2.2.2.1 y.2.2.2.2.2.2.2.2.2.1.1.2.2.2.2.2.1 y.2.2.2.2.2.2.2.2.2.1.1.2.2.2.2.2.2.1 y.2.2.2.2.2.2.2.2.2.1.1.2.2.2.2.2.2.2, bX4 G q ((o + 43) + 9) y.2.2.2.2.2.2.2.2.2.1.2.1.1 y.2.2.2.2.2.2.2.2.2.1.2.1.2, bX7 G q (o + 54) y.2.2.2.2.2.2.2.2.2.2.1 y.2.2.2.2.2.2.2.2.2.2.2.1 y.2.2.2.2.2.2.2.2.2.2.2.2] := by
  refine z_met zc_X10_odds (Nat.le_of_ble_eq_true rfl) ?_
  intro p e s m below meth c A ls hZ hl hw
  have hl : lv_has ls 6 [(0, .ref (q (o + 0))), (1, .int v1), (2, .int v2)] := hl
  obtain ⟨hS0, hr, hlk, hK, hA, hT⟩ := id hZ
  have hx := hS0.1
  have hb := hS0.2.1
  have hml := hS0.2.2.1
  have hown : s.vm.findClass RX10 = some m.cls := hS0.2.2.2.1
  have hts := hS0.2.2.2.2
  unfold f_X10_odds at hf
  refine lv_iload_n hx hb dX10_odds_0 rfl (lv_at hl 1 rfl) ?_
  obtain ⟨r9, e10, hf⟩ := z_bd hf
  refine z_callS1 (As := [.int v1]) (rest := []) (bs' := [bX10 G q o, bX9 G q (o + 1) S.1.1 S.1.2.1 S.1.2.2.1 S.1.2.2.2.1 S.1.2.2.2.2, bX6 G q (o + 3) S.2.1.1 S.2.1.2, bX8 G q (o + 12) S.2.2.1.1 S.2.2.1.2, bX5 G q (o + 19) S.2.2.2.1.2.1 S.2.2.2.1.2.2.1 S.2.2.2.1.2.2.2.1 S.2.2.2.1.2.2.2.2, bX2 G q ((o + 19) + 2) S.2.2.2.1.1.1 S.2.2.2.1.1.2.1 S.2.2.2.1.1.2.2.1 S.2.2.2.1.1.2.2.2.1 S.2.2.2.1.1.2.2.2.2.1 S.2.2.2.1.1.2.2.2.2.2.1 S.2.2.2.1.1.2.2.2.2.2.2.1 S.2.2.2.1.1.2.2.2.2.2.2.2, bX2 G q (o + 27) S.2.2.2.2.1.1 S.2.2.2.2.1.2.1 S.2.2.2.2.1.2.2.1 S.2.2.2.2.1.2.2.2.1 S.2.2.2.2.1.2.2.2.2.1 S.2.2.2.2.1.2.2.2.2.2.1 S.2.2.2.2.1.2.2.2.2.2.2.1 S.2.2.2.2.1.2.2.2.2.2.2.2, bX1 G q (o + 33) S.2.2.2.2.2.1.1 S.2.2.2.2.2.1.2.1 S.2.2.2.2.2.1.2.2.1 S.2.2.2.2.2.1.2.2.2, bX4 G q (o + 36) S.2.2.2.2.2.2.1.1 S.2.2.2.2.2.2.1.2, bX3 G q (o + 38) S.2.2.2.2.2.2.2.1.1 S.2.2.2.2.2.2.2.1.2.1 S.2.2.2.2.2.2.2.1.2.2.1 S.2.2.2.2.2.2.2.1.2.2.2, bX0 G q (o + 43) S.2.2.2.2.2.2.2.2.1.2.2.1 S.2.2.2.2.2.2.2.2.1.2.2.2, bX2 G q ((o + 43) + 3) S.2.2.2.2.2.2.2.2.1.1.1 S.2.2.2.2.2.2.2.2.1.1.2.1 S.2.2.2.2.2.2.2.2.1.1.2.2.1 S.2.2.2.2.2.2.2.2.1.1.2.2.2.1 S.2.2.2.2.2.2.2.2.1.1.2.2.2.2.1 S.2.2.2.2.2.2.2.2.1.1.2.2.2.2.2.1 S.2.2.2.2.2.2.2.2.1.1.2.2.2.2.2.2.1 S.2.2.2.2.2.2.2.2.1.1.2.2.2.2.2.2.2, bX4 G q ((o + 43) + 9) S.2.2.2.2.2.2.2.2.1.2.1.1 S.2.2.2.2.2.2.2.2.1.2.1.2, bX7 G q (o + 54) S.2.2.2.2.2.2.2.2.2.1 S.2.2.2.2.2.2.2.2.2.2.1 S.2.2.2.2.2.2.2.2.2.2.2]) hS0 (c_X10_isFavours l G v1 r9 e10) zc_X10_isFavours gX10_odds_X10_isFavours ⟨Nat.le_of_ble_eq_true rfl, Nat.le_of_ble_eq_true rfl⟩ hK hA hT hw (is := []) rfl rfl rfl rfl rfl hl.1 rfl (Nat.le_of_ble_eq_true rfl) dX10_odds_1 (fun H locs hw => ?_)
  refine lv_if_eq (tgt := 18) hx hb dX10_odds_4 rfl (fun hc => ?_) (fun hc => ?_)
  · have hf := z_t hc hf
    refine lv_iconst (v := (-1)) hx hb dX10_odds_18 rfl ?_
    cases hf
    exact z_iret hx hb hr hlk hw dX10_odds_19
  · have hf := z_f hc hf
    refine lv_aload_n hx hb dX10_odds_7 rfl (lv_at hl 0 rfl) ?_
    refine z_get hS0 in_X10_odds_X10 hK hw 0 4 rfl rfl rfl (by decide) (hts _ m_X10_odds_0) (v := .ref (q ((o + 27) + 0))) rfl dX10_odds_8 ?_
    refine lv_iload_n hx hb dX10_odds_11 rfl (lv_at hl 2 rfl) ?_
    obtain ⟨r11, e12, hf⟩ := z_bd hf
    refine z_callV1 (As := [.int v2]) (rest := []) (bs' := [bX10 G q o, bX9 G q (o + 1) S.1.1 S.1.2.1 S.1.2.2.1 S.1.2.2.2.1 S.1.2.2.2.2, bX6 G q (o + 3) S.2.1.1 S.2.1.2, bX8 G q (o + 12) S.2.2.1.1 S.2.2.1.2, bX5 G q (o + 19) S.2.2.2.1.2.1 S.2.2.2.1.2.2.1 S.2.2.2.1.2.2.2.1 S.2.2.2.1.2.2.2.2, bX2 G q ((o + 19) + 2) S.2.2.2.1.1.1 S.2.2.2.1.1.2.1 S.2.2.2.1.1.2.2.1 S.2.2.2.1.1.2.2.2.1 S.2.2.2.1.1.2.2.2.2.1 S.2.2.2.1.1.2.2.2.2.2.1 S.2.2.2.1.1.2.2.2.2.2.2.1 S.2.2.2.1.1.2.2.2.2.2.2.2, bX2 G q (o + 27) S.2.2.2.2.1.1 S.2.2.2.2.1.2.1 S.2.2.2.2.1.2.2.1 S.2.2.2.2.1.2.2.2.1 S.2.2.2.2.1.2.2.2.2.1 S.2.2.2.2.1.2.2.2.2.2.1 S.2.2.2.2.1.2.2.2.2.2.2.1 S.2.2.2.2.1.2.2.2.2.2.2.2, bX1 G q (o + 33) S.2.2.2.2.2.1.1 S.2.2.2.2.2.1.2.1 S.2.2.2.2.2.1.2.2.1 S.2.2.2.2.2.1.2.2.2, bX4 G q (o + 36) S.2.2.2.2.2.2.1.1 S.2.2.2.2.2.2.1.2, bX3 G q (o + 38) S.2.2.2.2.2.2.2.1.1 S.2.2.2.2.2.2.2.1.2.1 S.2.2.2.2.2.2.2.1.2.2.1 S.2.2.2.2.2.2.2.1.2.2.2, bX0 G q (o + 43) S.2.2.2.2.2.2.2.2.1.2.2.1 S.2.2.2.2.2.2.2.2.1.2.2.2, bX2 G q ((o + 43) + 3) S.2.2.2.2.2.2.2.2.1.1.1 S.2.2.2.2.2.2.2.2.1.1.2.1 S.2.2.2.2.2.2.2.2.1.1.2.2.1 S.2.2.2.2.2.2.2.2.1.1.2.2.2.1 S.2.2.2.2.2.2.2.2.1.1.2.2.2.2.1 S.2.2.2.2.2.2.2.2.1.1.2.2.2.2.2.1 S.2.2.2.2.2.2.2.2.1.1.2.2.2.2.2.2.1 S.2.2.2.2.2.2.2.2.1.1.2.2.2.2.2.2.2, bX4 G q ((o + 43) + 9) S.2.2.2.2.2.2.2.2.1.2.1.1 S.2.2.2.2.2.2.2.2.1.2.1.2, bX7 G q (o + 54) S.2.2.2.2.2.2.2.2.2.1 S.2.2.2.2.2.2.2.2.2.2.1 S.2.2.2.2.2.2.2.2.2.2.2]) hS0 (c_X2_isCell l G q (o + 27) S.2.2.2.2.1 v2 r11 e12) zc_X2_isCell rfl gX10_odds_X2_isCell ⟨Nat.le_of_ble_eq_true rfl, Nat.le_of_ble_eq_true rfl⟩ hK hA hT hw (is := [6]) rfl rfl rfl rfl rfl rfl rfl hl.1 rfl (Nat.le_of_ble_eq_true rfl) dX10_odds_12 (fun H locs hw => ?_)
    refine lv_if_ne (tgt := 20) hx hb dX10_odds_15 rfl (fun hc => ?_) (fun hc => ?_)
    · have hf := z_f hc hf
      refine lv_aload_n hx hb dX10_odds_20 rfl (lv_at hl 0 rfl) ?_
      obtain ⟨r13, e14, hf⟩ := z_bd hf
      refine z_callV0 (As := []) (rest := []) (bs' := [bX10 G q o, bX9 G q (o + 1) r13.1.1 r13.1.2.1 r13.1.2.2.1 r13.1.2.2.2.1 r13.1.2.2.2.2, bX6 G q (o + 3) r13.2.1.1 r13.2.1.2, bX8 G q (o + 12) r13.2.2.1.1 r13.2.2.1.2, bX5 G q (o + 19) r13.2.2.2.1.2.1 r13.2.2.2.1.2.2.1 r13.2.2.2.1.2.2.2.1 r13.2.2.2.1.2.2.2.2, bX2 G q ((o + 19) + 2) r13.2.2.2.1.1.1 r13.2.2.2.1.1.2.1 r13.2.2.2.1.1.2.2.1 r13.2.2.2.1.1.2.2.2.1 r13.2.2.2.1.1.2.2.2.2.1 r13.2.2.2.1.1.2.2.2.2.2.1 r13.2.2.2.1.1.2.2.2.2.2.2.1 r13.2.2.2.1.1.2.2.2.2.2.2.2, bX2 G q (o + 27) r13.2.2.2.2.1.1 r13.2.2.2.2.1.2.1 r13.2.2.2.2.1.2.2.1 r13.2.2.2.2.1.2.2.2.1 r13.2.2.2.2.1.2.2.2.2.1 r13.2.2.2.2.1.2.2.2.2.2.1 r13.2.2.2.2.1.2.2.2.2.2.2.1 r13.2.2.2.2.1.2.2.2.2.2.2.2, bX1 G q (o + 33) r13.2.2.2.2.2.1.1 r13.2.2.2.2.2.1.2.1 r13.2.2.2.2.2.1.2.2.1 r13.2.2.2.2.2.1.2.2.2, bX4 G q (o + 36) r13.2.2.2.2.2.2.1.1 r13.2.2.2.2.2.2.1.2, bX3 G q (o + 38) r13.2.2.2.2.2.2.2.1.1 r13.2.2.2.2.2.2.2.1.2.1 r13.2.2.2.2.2.2.2.1.2.2.1 r13.2.2.2.2.2.2.2.1.2.2.2, bX0 G q (o + 43) r13.2.2.2.2.2.2.2.2.1.2.2.1 r13.2.2.2.2.2.2.2.2.1.2.2.2, bX2 G q ((o + 43) + 3) r13.2.2.2.2.2.2.2.2.1.1.1 r13.2.2.2.2.2.2.2.2.1.1.2.1 r13.2.2.2.2.2.2.2.2.1.1.2.2.1 r13.2.2.2.2.2.2.2.2.1.1.2.2.2.1 r13.2.2.2.2.2.2.2.2.1.1.2.2.2.2.1 r13.2.2.2.2.2.2.2.2.1.1.2.2.2.2.2.1 r13.2.2.2.2.2.2.2.2.1.1.2.2.2.2.2.2.1 r13.2.2.2.2.2.2.2.2.1.1.2.2.2.2.2.2.2, bX4 G q ((o + 43) + 9) r13.2.2.2.2.2.2.2.2.1.2.1.1 r13.2.2.2.2.2.2.2.2.1.2.1.2, bX7 G q (o + 54) r13.2.2.2.2.2.2.2.2.2.1 r13.2.2.2.2.2.2.2.2.2.2.1 r13.2.2.2.2.2.2.2.2.2.2.2]) hS0 (c_X10_reachAll l G q o S r13 e14) zc_X10_reachAll rfl gX10_odds_X10_reachAll ⟨Nat.le_of_ble_eq_true rfl, Nat.le_of_ble_eq_true rfl⟩ hK hA hT hw (is := [0, 1, 2, 3, 4, 5, 6, 7, 8, 9, 10, 11, 12, 13]) rfl rfl rfl rfl rfl rfl rfl hl.1 rfl (Nat.le_of_ble_eq_true rfl) dX10_odds_21 (fun H locs hw => ?_)
      refine lv_iconst (v := 0) hx hb dX10_odds_24 rfl ?_
      refine lv_istore_n (lv' := [(3, .int 0), (0, .ref (q (o + 0))), (1, .int v1), (2, .int v2)]) hx hb dX10_odds_25 rfl hl (by decide) rfl (fun ls hl => ?_)
      refine lv_iconst (v := 0) hx hb dX10_odds_26 rfl ?_
      refine lv_istore (lv' := [(4, .int 0), (3, .int 0), (0, .ref (q (o + 0))), (1, .int v1), (2, .int v2)]) hx hb dX10_odds_27 hl (by decide) rfl (fun ls hl => ?_)
      refine lv_iconst (v := 0) hx hb dX10_odds_29 rfl ?_
      refine lv_istore (lv' := [(5, .int 0), (4, .int 0), (3, .int 0), (0, .ref (q (o + 0))), (1, .int v1), (2, .int v2)]) hx hb dX10_odds_30 hl (by decide) rfl (fun ls hl => ?_)
      exact k_X10_odds_32 hZ _ 4096 _ _ _ _ _ _ _ _ _ hf hw (lv_sub hl [3, 4, 5, 2, 1, 0] rfl)
    · have hf := z_t hc hf
      refine lv_iconst (v := (-1)) hx hb dX10_odds_18 rfl ?_
      cases hf
      exact z_iret hx hb hr hlk hw dX10_odds_19
theorem zc_X10_on : zC yX10_on wsX10_on cX10_on 2 (some .int) 1 := ⟨⟨_, rfl⟩, by decide +kernel, by decide +kernel, by decide +kernel, by decide +kernel⟩
theorem m_X10_on_0 : (.fieldLink RX10 47 "CellKeys" "evenings" "LCellKeys$Evenings;" : Cond) ∈ wsX10_on := by decide +kernel
theorem in_X10_on_X10 : ∀ w ∈ u_ws RX10 TX10 10, w ∈ wsX10_on := by decide +kernel
theorem m_X10_on_1 : (.fieldLink RX10 10 "CellKeys" "told" "LCellKeys$Told;" : Cond) ∈ wsX10_on := by decide +kernel
set_option maxHeartbeats 4000000 in
set_option maxRecDepth 100000 in
theorem c_X10_on (l : Launch) (G : zG) (q : Nat → Nat) (o : Nat) (S : VX10) (v1 : Int32) (y : Int32 × VX10) (hf : f_X10_on S v1 = some y) : zMet l yX10_on wsX10_on 3 63 G [.ref (q (o + 0)), .int v1] [bX10 G q o, bX9 G q (o + 1) S.1.1 S.1.2.1 S.1.2.2.1 S.1.2.2.2.1 S.1.2.2.2.2, bX6 G q (o + 3) S.2.1.1 S.2.1.2, bX8 G q (o + 12) S.2.2.1.1 S.2.2.1.2, bX5 G q (o + 19) S.2.2.2.1.2.1 S.2.2.2.1.2.2.1 S.2.2.2.1.2.2.2.1 S.2.2.2.1.2.2.2.2, bX2 G q ((o + 19) + 2) S.2.2.2.1.1.1 S.2.2.2.1.1.2.1 S.2.2.2.1.1.2.2.1 S.2.2.2.1.1.2.2.2.1 S.2.2.2.1.1.2.2.2.2.1 S.2.2.2.1.1.2.2.2.2.2.1 S.2.2.2.1.1.2.2.2.2.2.2.1 S.2.2.2.1.1.2.2.2.2.2.2.2, bX2 G q (o + 27) S.2.2.2.2.1.1 S.2.2.2.2.1.2.1 S.2.2.2.2.1.2.2.1 S.2.2.2.2.1.2.2.2.1 S.2.2.2.2.1.2.2.2.2.1 S.2.2.2.2.1.2.2.2.2.2.1 S.2.2.2.2.1.2.2.2.2.2.2.1 S.2.2.2.2.1.2.2.2.2.2.2.2, bX1 G q (o + 33) S.2.2.2.2.2.1.1 S.2.2.2.2.2.1.2.1 S.2.2.2.2.2.1.2.2.1 S.2.2.2.2.2.1.2.2.2, bX4 G q (o + 36) S.2.2.2.2.2.2.1.1 S.2.2.2.2.2.2.1.2, bX3 G q (o + 38) S.2.2.2.2.2.2.2.1.1 S.2.2.2.2.2.2.2.1.2.1 S.2.2.2.2.2.2.2.1.2.2.1 S.2.2.2.2.2.2.2.1.2.2.2, bX0 G q (o + 43) S.2.2.2.2.2.2.2.2.1.2.2.1 S.2.2.2.2.2.2.2.2.1.2.2.2, bX2 G q ((o + 43) + 3) S.2.2.2.2.2.2.2.2.1.1.1 S.2.2.2.2.2.2.2.2.1.1.2.1 S.2.2.2.2.2.2.2.2.1.1.2.2.1 S.2.2.2.2.2.2.2.2.1.1.2.2.2.1 S.2.2.2.2.2.2.2.2.1.1.2.2.2.2.1 S.2.2.2.2.2.2.2.2.1.1.2.2.2.2.2.1 S.2.2.2.2.2.2.2.2.1.1.2.2.2.2.2.2.1 S.2.2.2.2.2.2.2.2.1.1.2.2.2.2.2.2.2, bX4 G q ((o + 43) + 9) S.2.2.2.2.2.2.2.2.1.2.1.1 S.2.2.2.2.2.2.2.2.1.2.1.2, bX7 G q (o + 54) S.2.2.2.2.2.2.2.2.2.1 S.2.2.2.2.2.2.2.2.2.2.1 S.2.2.2.2.2.2.2.2.2.2.2] (some (.int y.1)) [bX10 G q o, bX9 G q (o + 1) y.2.1.1 y.2.1.2.1 y.2.1.2.2.1 y.2.1.2.2.2.1 y.2.1.2.2.2.2, bX6 G q (o + 3) y.2.2.1.1 y.2.2.1.2, bX8 G q (o + 12) y.2.2.2.1.1 y.2.2.2.1.2, bX5 G q (o + 19) y.2.2.2.2.1.2.1 y.2.2.2.2.1.2.2.1 y.2.2.2.2.1.2.2.2.1 y.2.2.2.2.1.2.2.2.2, bX2 G q ((o + 19) + 2) y.2.2.2.2.1.1.1 y.2.2.2.2.1.1.2.1 y.2.2.2.2.1.1.2.2.1 y.2.2.2.2.1.1.2.2.2.1 y.2.2.2.2.1.1.2.2.2.2.1 y.2.2.2.2.1.1.2.2.2.2.2.1 y.2.2.2.2.1.1.2.2.2.2.2.2.1 y.2.2.2.2.1.1.2.2.2.2.2.2.2, bX2 G q (o + 27) y.2.2.2.2.2.1.1 y.2.2.2.2.2.1.2.1 y.2.2.2.2.2.1.2.2.1 y.2.2.2.2.2.1.2.2.2.1 y.2.2.2.2.2.1.2.2.2.2.1 y.2.2.2.2.2.1.2.2.2.2.2.1 y.2.2.2.2.2.1.2.2.2.2.2.2.1 y.2.2.2.2.2.1.2.2.2.2.2.2.2, bX1 G q (o + 33) y.2.2.2.2.2.2.1.1 y.2.2.2.2.2.2.1.2.1 y.2.2.2.2.2.2.1.2.2.1 y.2.2.2.2.2.2.1.2.2.2, bX4 G q (o + 36) y.2.2.2.2.2.2.2.1.1 y.2.2.2.2.2.2.2.1.2, bX3 G q (o + 38) y.2.2.2.2.2.2.2.2.1.1 y.2.2.2.2.2.2.2.2.1.2.1 y.2.2.2.2.2.2.2.2.1.2.2.1 y.2.2.2.2.2.2.2.2.1.2.2.2, bX0 G q (o + 43) y.2.2.2.2.2.2.2.2.2.1.2.2.1 y.2.2.2.2.2.2.2.2.2.1.2.2.2, bX2 G q ((o + 43) + 3) y.2.2.2.2.2.2.2.2.2.1.1.1 y.2.2.2.2.2.2.2.2.2.1.1.2.1 y.2.2.2.2.2.2.2.2.2.1.1.2.2.1 y.2.2.2.2.2.2.2.2.2.1.1.2.2.2.1 y.2.2.2.2.2.2.2.2.2.1.1.2.2.2.2.1 y.2.2.2.2.2.2.2.2.2.1.1.2.2.2.2.2.1 y.2.2.2.2.2.2.2.2.2.1.1.2.2.2.2.2.2.1 y.2.2.2.2.2.2.2.2.2.1.1.2.2.2.2.2.2.2, bX4 G q ((o + 43) + 9) y.2.2.2.2.2.2.2.2.2.1.2.1.1 y.2.2.2.2.2.2.2.2.2.1.2.1.2, bX7 G q (o + 54) y.2.2.2.2.2.2.2.2.2.2.1 y.2.2.2.2.2.2.2.2.2.2.2.1 y.2.2.2.2.2.2.2.2.2.2.2.2] := by
  refine z_met zc_X10_on (Nat.le_of_ble_eq_true rfl) ?_
  intro p e s m below meth c A ls hZ hl hw
  have hl : lv_has ls 2 [(0, .ref (q (o + 0))), (1, .int v1)] := hl
  obtain ⟨hS0, hr, hlk, hK, hA, hT⟩ := id hZ
  have hx := hS0.1
  have hb := hS0.2.1
  have hml := hS0.2.2.1
  have hown : s.vm.findClass RX10 = some m.cls := hS0.2.2.2.1
  have hts := hS0.2.2.2.2
  unfold f_X10_on at hf
  refine lv_aload_n hx hb dX10_on_0 rfl (lv_at hl 0 rfl) ?_
  refine z_get hS0 in_X10_on_X10 hK hw 0 5 rfl rfl rfl (by decide) (hts _ m_X10_on_0) (v := .ref (q ((o + 33) + 0))) rfl dX10_on_1 ?_
  refine lv_iload_n hx hb dX10_on_4 rfl (lv_at hl 1 rfl) ?_
  obtain ⟨r1, e2, hf⟩ := z_bd hf
  refine z_callV1 (As := [.int v1]) (rest := []) (bs' := [bX10 G q o, bX9 G q (o + 1) S.1.1 S.1.2.1 S.1.2.2.1 S.1.2.2.2.1 S.1.2.2.2.2, bX6 G q (o + 3) S.2.1.1 S.2.1.2, bX8 G q (o + 12) S.2.2.1.1 S.2.2.1.2, bX5 G q (o + 19) S.2.2.2.1.2.1 S.2.2.2.1.2.2.1 S.2.2.2.1.2.2.2.1 S.2.2.2.1.2.2.2.2, bX2 G q ((o + 19) + 2) S.2.2.2.1.1.1 S.2.2.2.1.1.2.1 S.2.2.2.1.1.2.2.1 S.2.2.2.1.1.2.2.2.1 S.2.2.2.1.1.2.2.2.2.1 S.2.2.2.1.1.2.2.2.2.2.1 S.2.2.2.1.1.2.2.2.2.2.2.1 S.2.2.2.1.1.2.2.2.2.2.2.2, bX2 G q (o + 27) S.2.2.2.2.1.1 S.2.2.2.2.1.2.1 S.2.2.2.2.1.2.2.1 S.2.2.2.2.1.2.2.2.1 S.2.2.2.2.1.2.2.2.2.1 S.2.2.2.2.1.2.2.2.2.2.1 S.2.2.2.2.1.2.2.2.2.2.2.1 S.2.2.2.2.1.2.2.2.2.2.2.2, bX1 G q (o + 33) S.2.2.2.2.2.1.1 S.2.2.2.2.2.1.2.1 S.2.2.2.2.2.1.2.2.1 S.2.2.2.2.2.1.2.2.2, bX4 G q (o + 36) S.2.2.2.2.2.2.1.1 S.2.2.2.2.2.2.1.2, bX3 G q (o + 38) S.2.2.2.2.2.2.2.1.1 S.2.2.2.2.2.2.2.1.2.1 S.2.2.2.2.2.2.2.1.2.2.1 S.2.2.2.2.2.2.2.1.2.2.2, bX0 G q (o + 43) S.2.2.2.2.2.2.2.2.1.2.2.1 S.2.2.2.2.2.2.2.2.1.2.2.2, bX2 G q ((o + 43) + 3) S.2.2.2.2.2.2.2.2.1.1.1 S.2.2.2.2.2.2.2.2.1.1.2.1 S.2.2.2.2.2.2.2.2.1.1.2.2.1 S.2.2.2.2.2.2.2.2.1.1.2.2.2.1 S.2.2.2.2.2.2.2.2.1.1.2.2.2.2.1 S.2.2.2.2.2.2.2.2.1.1.2.2.2.2.2.1 S.2.2.2.2.2.2.2.2.1.1.2.2.2.2.2.2.1 S.2.2.2.2.2.2.2.2.1.1.2.2.2.2.2.2.2, bX4 G q ((o + 43) + 9) S.2.2.2.2.2.2.2.2.1.2.1.1 S.2.2.2.2.2.2.2.2.1.2.1.2, bX7 G q (o + 54) S.2.2.2.2.2.2.2.2.2.1 S.2.2.2.2.2.2.2.2.2.2.1 S.2.2.2.2.2.2.2.2.2.2.2]) hS0 (c_X1_isNumber l G q (o + 33) S.2.2.2.2.2.1 v1 r1 e2) zc_X1_isNumber rfl gX10_on_X1_isNumber ⟨Nat.le_of_ble_eq_true rfl, Nat.le_of_ble_eq_true rfl⟩ hK hA hT hw (is := [7]) rfl rfl rfl rfl rfl rfl rfl hl.1 rfl (Nat.le_of_ble_eq_true rfl) dX10_on_5 (fun H locs hw => ?_)
  refine lv_if_ne (tgt := 13) hx hb dX10_on_8 rfl (fun hc => ?_) (fun hc => ?_)
  · have hf := z_f hc hf
    refine lv_aload_n hx hb dX10_on_13 rfl (lv_at hl 0 rfl) ?_
    refine z_get hS0 in_X10_on_X10 hK hw 0 5 rfl rfl rfl (by decide) (hts _ m_X10_on_0) (v := .ref (q ((o + 33) + 0))) rfl dX10_on_14 ?_
    refine lv_iload_n hx hb dX10_on_17 rfl (lv_at hl 1 rfl) ?_
    obtain ⟨r3, e4, hf⟩ := z_bd hf
    refine z_callV1 (As := [.int v1]) (rest := []) (bs' := [bX10 G q o, bX9 G q (o + 1) S.1.1 S.1.2.1 S.1.2.2.1 S.1.2.2.2.1 S.1.2.2.2.2, bX6 G q (o + 3) S.2.1.1 S.2.1.2, bX8 G q (o + 12) S.2.2.1.1 S.2.2.1.2, bX5 G q (o + 19) S.2.2.2.1.2.1 S.2.2.2.1.2.2.1 S.2.2.2.1.2.2.2.1 S.2.2.2.1.2.2.2.2, bX2 G q ((o + 19) + 2) S.2.2.2.1.1.1 S.2.2.2.1.1.2.1 S.2.2.2.1.1.2.2.1 S.2.2.2.1.1.2.2.2.1 S.2.2.2.1.1.2.2.2.2.1 S.2.2.2.1.1.2.2.2.2.2.1 S.2.2.2.1.1.2.2.2.2.2.2.1 S.2.2.2.1.1.2.2.2.2.2.2.2, bX2 G q (o + 27) S.2.2.2.2.1.1 S.2.2.2.2.1.2.1 S.2.2.2.2.1.2.2.1 S.2.2.2.2.1.2.2.2.1 S.2.2.2.2.1.2.2.2.2.1 S.2.2.2.2.1.2.2.2.2.2.1 S.2.2.2.2.1.2.2.2.2.2.2.1 S.2.2.2.2.1.2.2.2.2.2.2.2, bX1 G q (o + 33) S.2.2.2.2.2.1.1 S.2.2.2.2.2.1.2.1 S.2.2.2.2.2.1.2.2.1 S.2.2.2.2.2.1.2.2.2, bX4 G q (o + 36) S.2.2.2.2.2.2.1.1 S.2.2.2.2.2.2.1.2, bX3 G q (o + 38) S.2.2.2.2.2.2.2.1.1 S.2.2.2.2.2.2.2.1.2.1 S.2.2.2.2.2.2.2.1.2.2.1 S.2.2.2.2.2.2.2.1.2.2.2, bX0 G q (o + 43) S.2.2.2.2.2.2.2.2.1.2.2.1 S.2.2.2.2.2.2.2.2.1.2.2.2, bX2 G q ((o + 43) + 3) S.2.2.2.2.2.2.2.2.1.1.1 S.2.2.2.2.2.2.2.2.1.1.2.1 S.2.2.2.2.2.2.2.2.1.1.2.2.1 S.2.2.2.2.2.2.2.2.1.1.2.2.2.1 S.2.2.2.2.2.2.2.2.1.1.2.2.2.2.1 S.2.2.2.2.2.2.2.2.1.1.2.2.2.2.2.1 S.2.2.2.2.2.2.2.2.1.1.2.2.2.2.2.2.1 S.2.2.2.2.2.2.2.2.1.1.2.2.2.2.2.2.2, bX4 G q ((o + 43) + 9) S.2.2.2.2.2.2.2.2.1.2.1.1 S.2.2.2.2.2.2.2.2.1.2.1.2, bX7 G q (o + 54) S.2.2.2.2.2.2.2.2.2.1 S.2.2.2.2.2.2.2.2.2.2.1 S.2.2.2.2.2.2.2.2.2.2.2]) hS0 (c_X1_isKept l G q (o + 33) S.2.2.2.2.2.1 v1 r3 e4) zc_X1_isKept rfl gX10_on_X1_isKept ⟨Nat.le_of_ble_eq_true rfl, Nat.le_of_ble_eq_true rfl⟩ hK hA hT hw (is := [7]) rfl rfl rfl rfl rfl rfl rfl hl.1 rfl (Nat.le_of_ble_eq_true rfl) dX10_on_18 (fun H locs hw => ?_)
    refine lv_if_ne (tgt := 33) hx hb dX10_on_21 rfl (fun hc => ?_) (fun hc => ?_)
    · have hf := z_f hc hf
      refine lv_aload_n hx hb dX10_on_33 rfl (lv_at hl 0 rfl) ?_
      refine z_get hS0 in_X10_on_X10 hK hw 0 5 rfl rfl rfl (by decide) (hts _ m_X10_on_0) (v := .ref (q ((o + 33) + 0))) rfl dX10_on_34 ?_
      refine lv_iload_n hx hb dX10_on_37 rfl (lv_at hl 1 rfl) ?_
      obtain ⟨r5, e6, hf⟩ := z_bd hf
      refine z_callV0 (As := [.int v1]) (rest := []) (bs' := [bX10 G q o, bX9 G q (o + 1) S.1.1 S.1.2.1 S.1.2.2.1 S.1.2.2.2.1 S.1.2.2.2.2, bX6 G q (o + 3) S.2.1.1 S.2.1.2, bX8 G q (o + 12) S.2.2.1.1 S.2.2.1.2, bX5 G q (o + 19) S.2.2.2.1.2.1 S.2.2.2.1.2.2.1 S.2.2.2.1.2.2.2.1 S.2.2.2.1.2.2.2.2, bX2 G q ((o + 19) + 2) S.2.2.2.1.1.1 S.2.2.2.1.1.2.1 S.2.2.2.1.1.2.2.1 S.2.2.2.1.1.2.2.2.1 S.2.2.2.1.1.2.2.2.2.1 S.2.2.2.1.1.2.2.2.2.2.1 S.2.2.2.1.1.2.2.2.2.2.2.1 S.2.2.2.1.1.2.2.2.2.2.2.2, bX2 G q (o + 27) S.2.2.2.2.1.1 S.2.2.2.2.1.2.1 S.2.2.2.2.1.2.2.1 S.2.2.2.2.1.2.2.2.1 S.2.2.2.2.1.2.2.2.2.1 S.2.2.2.2.1.2.2.2.2.2.1 S.2.2.2.2.1.2.2.2.2.2.2.1 S.2.2.2.2.1.2.2.2.2.2.2.2, bX1 G q (o + 33) r5.1 r5.2.1 r5.2.2.1 r5.2.2.2, bX4 G q (o + 36) S.2.2.2.2.2.2.1.1 S.2.2.2.2.2.2.1.2, bX3 G q (o + 38) S.2.2.2.2.2.2.2.1.1 S.2.2.2.2.2.2.2.1.2.1 S.2.2.2.2.2.2.2.1.2.2.1 S.2.2.2.2.2.2.2.1.2.2.2, bX0 G q (o + 43) S.2.2.2.2.2.2.2.2.1.2.2.1 S.2.2.2.2.2.2.2.2.1.2.2.2, bX2 G q ((o + 43) + 3) S.2.2.2.2.2.2.2.2.1.1.1 S.2.2.2.2.2.2.2.2.1.1.2.1 S.2.2.2.2.2.2.2.2.1.1.2.2.1 S.2.2.2.2.2.2.2.2.1.1.2.2.2.1 S.2.2.2.2.2.2.2.2.1.1.2.2.2.2.1 S.2.2.2.2.2.2.2.2.1.1.2.2.2.2.2.1 S.2.2.2.2.2.2.2.2.1.1.2.2.2.2.2.2.1 S.2.2.2.2.2.2.2.2.1.1.2.2.2.2.2.2.2, bX4 G q ((o + 43) + 9) S.2.2.2.2.2.2.2.2.1.2.1.1 S.2.2.2.2.2.2.2.2.1.2.1.2, bX7 G q (o + 54) S.2.2.2.2.2.2.2.2.2.1 S.2.2.2.2.2.2.2.2.2.2.1 S.2.2.2.2.2.2.2.2.2.2.2]) hS0 (c_X1_restore l G q (o + 33) S.2.2.2.2.2.1 v1 r5 e6) zc_X1_restore rfl gX10_on_X1_restore ⟨Nat.le_of_ble_eq_true rfl, Nat.le_of_ble_eq_true rfl⟩ hK hA hT hw (is := [7]) rfl rfl rfl rfl rfl rfl rfl hl.1 rfl (Nat.le_of_ble_eq_true rfl) dX10_on_38 (fun H locs hw => ?_)
      refine lv_aload_n hx hb dX10_on_41 rfl (lv_at hl 0 rfl) ?_
      refine z_get hS0 in_X10_on_X10 hK hw 0 5 rfl rfl rfl (by decide) (hts _ m_X10_on_0) (v := .ref (q ((o + 33) + 0))) rfl dX10_on_42 ?_
      obtain ⟨r7, e8, hf⟩ := z_bd hf
      refine z_callV1 (As := []) (rest := []) (bs' := [bX10 G q o, bX9 G q (o + 1) S.1.1 S.1.2.1 S.1.2.2.1 S.1.2.2.2.1 S.1.2.2.2.2, bX6 G q (o + 3) S.2.1.1 S.2.1.2, bX8 G q (o + 12) S.2.2.1.1 S.2.2.1.2, bX5 G q (o + 19) S.2.2.2.1.2.1 S.2.2.2.1.2.2.1 S.2.2.2.1.2.2.2.1 S.2.2.2.1.2.2.2.2, bX2 G q ((o + 19) + 2) S.2.2.2.1.1.1 S.2.2.2.1.1.2.1 S.2.2.2.1.1.2.2.1 S.2.2.2.1.1.2.2.2.1 S.2.2.2.1.1.2.2.2.2.1 S.2.2.2.1.1.2.2.2.2.2.1 S.2.2.2.1.1.2.2.2.2.2.2.1 S.2.2.2.1.1.2.2.2.2.2.2.2, bX2 G q (o + 27) S.2.2.2.2.1.1 S.2.2.2.2.1.2.1 S.2.2.2.2.1.2.2.1 S.2.2.2.2.1.2.2.2.1 S.2.2.2.2.1.2.2.2.2.1 S.2.2.2.2.1.2.2.2.2.2.1 S.2.2.2.2.1.2.2.2.2.2.2.1 S.2.2.2.2.1.2.2.2.2.2.2.2, bX1 G q (o + 33) r5.1 r5.2.1 r5.2.2.1 r5.2.2.2, bX4 G q (o + 36) S.2.2.2.2.2.2.1.1 S.2.2.2.2.2.2.1.2, bX3 G q (o + 38) S.2.2.2.2.2.2.2.1.1 S.2.2.2.2.2.2.2.1.2.1 S.2.2.2.2.2.2.2.1.2.2.1 S.2.2.2.2.2.2.2.1.2.2.2, bX0 G q (o + 43) S.2.2.2.2.2.2.2.2.1.2.2.1 S.2.2.2.2.2.2.2.2.1.2.2.2, bX2 G q ((o + 43) + 3) S.2.2.2.2.2.2.2.2.1.1.1 S.2.2.2.2.2.2.2.2.1.1.2.1 S.2.2.2.2.2.2.2.2.1.1.2.2.1 S.2.2.2.2.2.2.2.2.1.1.2.2.2.1 S.2.2.2.2.2.2.2.2.1.1.2.2.2.2.1 S.2.2.2.2.2.2.2.2.1.1.2.2.2.2.2.1 S.2.2.2.2.2.2.2.2.1.1.2.2.2.2.2.2.1 S.2.2.2.2.2.2.2.2.1.1.2.2.2.2.2.2.2, bX4 G q ((o + 43) + 9) S.2.2.2.2.2.2.2.2.1.2.1.1 S.2.2.2.2.2.2.2.2.1.2.1.2, bX7 G q (o + 54) S.2.2.2.2.2.2.2.2.2.1 S.2.2.2.2.2.2.2.2.2.2.1 S.2.2.2.2.2.2.2.2.2.2.2]) hS0 (c_X1_howManyOut l G q (o + 33) r5 r7 e8) zc_X1_howManyOut rfl gX10_on_X1_howManyOut ⟨Nat.le_of_ble_eq_true rfl, Nat.le_of_ble_eq_true rfl⟩ hK hA hT hw (is := [7]) rfl rfl rfl rfl rfl rfl rfl hl.1 rfl (Nat.le_of_ble_eq_true rfl) dX10_on_45 (fun H locs hw => ?_)
      cases hf
      exact z_iret hx hb hr hlk hw dX10_on_48
    · have hf := z_t hc hf
      refine lv_aload_n hx hb dX10_on_24 rfl (lv_at hl 0 rfl) ?_
      refine z_get hS0 in_X10_on_X10 hK hw 0 0 rfl rfl rfl (by decide) (hts _ m_X10_on_1) (v := .ref (q ((o + 1) + 0))) rfl dX10_on_25 ?_
      refine lv_iconst (v := 1) hx hb dX10_on_28 rfl ?_
      obtain ⟨r9, e10, hf⟩ := z_bd hf
      refine z_callV1 (As := [.int 1]) (rest := []) (bs' := [bX10 G q o, bX9 G q (o + 1) r9.2.1 r9.2.2.1 r9.2.2.2.1 r9.2.2.2.2.1 r9.2.2.2.2.2, bX6 G q (o + 3) S.2.1.1 S.2.1.2, bX8 G q (o + 12) S.2.2.1.1 S.2.2.1.2, bX5 G q (o + 19) S.2.2.2.1.2.1 S.2.2.2.1.2.2.1 S.2.2.2.1.2.2.2.1 S.2.2.2.1.2.2.2.2, bX2 G q ((o + 19) + 2) S.2.2.2.1.1.1 S.2.2.2.1.1.2.1 S.2.2.2.1.1.2.2.1 S.2.2.2.1.1.2.2.2.1 S.2.2.2.1.1.2.2.2.2.1 S.2.2.2.1.1.2.2.2.2.2.1 S.2.2.2.1.1.2.2.2.2.2.2.1 S.2.2.2.1.1.2.2.2.2.2.2.2, bX2 G q (o + 27) S.2.2.2.2.1.1 S.2.2.2.2.1.2.1 S.2.2.2.2.1.2.2.1 S.2.2.2.2.1.2.2.2.1 S.2.2.2.2.1.2.2.2.2.1 S.2.2.2.2.1.2.2.2.2.2.1 S.2.2.2.2.1.2.2.2.2.2.2.1 S.2.2.2.2.1.2.2.2.2.2.2.2, bX1 G q (o + 33) S.2.2.2.2.2.1.1 S.2.2.2.2.2.1.2.1 S.2.2.2.2.2.1.2.2.1 S.2.2.2.2.2.1.2.2.2, bX4 G q (o + 36) S.2.2.2.2.2.2.1.1 S.2.2.2.2.2.2.1.2, bX3 G q (o + 38) S.2.2.2.2.2.2.2.1.1 S.2.2.2.2.2.2.2.1.2.1 S.2.2.2.2.2.2.2.1.2.2.1 S.2.2.2.2.2.2.2.1.2.2.2, bX0 G q (o + 43) S.2.2.2.2.2.2.2.2.1.2.2.1 S.2.2.2.2.2.2.2.2.1.2.2.2, bX2 G q ((o + 43) + 3) S.2.2.2.2.2.2.2.2.1.1.1 S.2.2.2.2.2.2.2.2.1.1.2.1 S.2.2.2.2.2.2.2.2.1.1.2.2.1 S.2.2.2.2.2.2.2.2.1.1.2.2.2.1 S.2.2.2.2.2.2.2.2.1.1.2.2.2.2.1 S.2.2.2.2.2.2.2.2.1.1.2.2.2.2.2.1 S.2.2.2.2.2.2.2.2.1.1.2.2.2.2.2.2.1 S.2.2.2.2.2.2.2.2.1.1.2.2.2.2.2.2.2, bX4 G q ((o + 43) + 9) S.2.2.2.2.2.2.2.2.1.2.1.1 S.2.2.2.2.2.2.2.2.1.2.1.2, bX7 G q (o + 54) S.2.2.2.2.2.2.2.2.2.1 S.2.2.2.2.2.2.2.2.2.2.1 S.2.2.2.2.2.2.2.2.2.2.2]) hS0 (c_X9_found l G q (o + 1) S.1 1 r9 e10) zc_X9_found rfl gX10_on_X9_found ⟨Nat.le_of_ble_eq_true rfl, Nat.le_of_ble_eq_true rfl⟩ hK hA hT hw (is := [1]) rfl rfl rfl rfl rfl rfl rfl hl.1 rfl (Nat.le_of_ble_eq_true rfl) dX10_on_29 (fun H locs hw => ?_)
      cases hf
      exact z_iret hx hb hr hlk hw dX10_on_32
  · have hf := z_t hc hf
    refine lv_iconst (v := (-1)) hx hb dX10_on_11 rfl ?_
    cases hf
    exact z_iret hx hb hr hlk hw dX10_on_12
theorem zc_X10_order : zC yX10_order wsX10_order cX10_order 6 (some .int) 2 := ⟨⟨_, rfl⟩, by decide +kernel, by decide +kernel, by decide +kernel, by decide +kernel⟩
theorem m_X10_order_0 : (.fieldLink RX10 19 "CellKeys" "rows" "LCellKeys$Rows;" : Cond) ∈ wsX10_order := by decide +kernel
theorem in_X10_order_X10 : ∀ w ∈ u_ws RX10 TX10 10, w ∈ wsX10_order := by decide +kernel
theorem m_X10_order_1 : (.fieldLink RX10 61 "CellKeys" "orders" "LCellKeys$Orders;" : Cond) ∈ wsX10_order := by decide +kernel
theorem m_X10_order_2 : (.fieldLink RX10 40 "CellKeys" "jail" "LCellKeys$Jail;" : Cond) ∈ wsX10_order := by decide +kernel
set_option maxHeartbeats 4000000 in
set_option maxRecDepth 100000 in
theorem k_X10_order_65 {p : Program} {l : Launch} {e : Env} {s : State} {m : MethodId} {args : Array Value} {below : List Frame} {meth : Method} {c : Code} {A : Nat → Prop} {G : zG} {q : Nat → Nat} {o : Nat}  (hZ : zZ p s m args meth c A G cX10_order 6 RX10 wsX10_order (some .int)) (y : Int32 × VX10)  (n : Nat) : ∀ (S : VX10) (v2 : Int32) (v3 : Int32) (v4 : Int32) (v5 : Int32) (H : Heap) (locs : List Loc) (ls : Array Slot), f_X10_order_65 n S v2 v3 v4 v5 = some y → zH G A s.heap [bX10 G q o, bX9 G q (o + 1) S.1.1 S.1.2.1 S.1.2.2.1 S.1.2.2.2.1 S.1.2.2.2.2, bX6 G q (o + 3) S.2.1.1 S.2.1.2, bX8 G q (o + 12) S.2.2.1.1 S.2.2.1.2, bX5 G q (o + 19) S.2.2.2.1.2.1 S.2.2.2.1.2.2.1 S.2.2.2.1.2.2.2.1 S.2.2.2.1.2.2.2.2, bX2 G q ((o + 19) + 2) S.2.2.2.1.1.1 S.2.2.2.1.1.2.1 S.2.2.2.1.1.2.2.1 S.2.2.2.1.1.2.2.2.1 S.2.2.2.1.1.2.2.2.2.1 S.2.2.2.1.1.2.2.2.2.2.1 S.2.2.2.1.1.2.2.2.2.2.2.1 S.2.2.2.1.1.2.2.2.2.2.2.2, bX2 G q (o + 27) S.2.2.2.2.1.1 S.2.2.2.2.1.2.1 S.2.2.2.2.1.2.2.1 S.2.2.2.2.1.2.2.2.1 S.2.2.2.2.1.2.2.2.2.1 S.2.2.2.2.1.2.2.2.2.2.1 S.2.2.2.2.1.2.2.2.2.2.2.1 S.2.2.2.2.1.2.2.2.2.2.2.2, bX1 G q (o + 33) S.2.2.2.2.2.1.1 S.2.2.2.2.2.1.2.1 S.2.2.2.2.2.1.2.2.1 S.2.2.2.2.2.1.2.2.2, bX4 G q (o + 36) S.2.2.2.2.2.2.1.1 S.2.2.2.2.2.2.1.2, bX3 G q (o + 38) S.2.2.2.2.2.2.2.1.1 S.2.2.2.2.2.2.2.1.2.1 S.2.2.2.2.2.2.2.1.2.2.1 S.2.2.2.2.2.2.2.1.2.2.2, bX0 G q (o + 43) S.2.2.2.2.2.2.2.2.1.2.2.1 S.2.2.2.2.2.2.2.2.1.2.2.2, bX2 G q ((o + 43) + 3) S.2.2.2.2.2.2.2.2.1.1.1 S.2.2.2.2.2.2.2.2.1.1.2.1 S.2.2.2.2.2.2.2.2.1.1.2.2.1 S.2.2.2.2.2.2.2.2.1.1.2.2.2.1 S.2.2.2.2.2.2.2.2.1.1.2.2.2.2.1 S.2.2.2.2.2.2.2.2.1.1.2.2.2.2.2.1 S.2.2.2.2.2.2.2.2.1.1.2.2.2.2.2.2.1 S.2.2.2.2.2.2.2.2.1.1.2.2.2.2.2.2.2, bX4 G q ((o + 43) + 9) S.2.2.2.2.2.2.2.2.1.2.1.1 S.2.2.2.2.2.2.2.2.1.2.1.2, bX7 G q (o + 54) S.2.2.2.2.2.2.2.2.2.1 S.2.2.2.2.2.2.2.2.2.2.1 S.2.2.2.2.2.2.2.2.2.2.2] H locs → lv_has ls 6 [(0, .ref (q (o + 0))), (2, .int v2), (3, .int v3), (4, .int v4), (5, .int v5)] → W p l e { frames := 6, cells := 0, slots := 0, locals := 155 } s m args below meth c H locs 0 0 (MQ below (zQ (some (.int y.1)) (zPost G [bX10 G q o, bX9 G q (o + 1) y.2.1.1 y.2.1.2.1 y.2.1.2.2.1 y.2.1.2.2.2.1 y.2.1.2.2.2.2, bX6 G q (o + 3) y.2.2.1.1 y.2.2.1.2, bX8 G q (o + 12) y.2.2.2.1.1 y.2.2.2.1.2, bX5 G q (o + 19) y.2.2.2.2.1.2.1 y.2.2.2.2.1.2.2.1 y.2.2.2.2.1.2.2.2.1 y.2.2.2.2.1.2.2.2.2, bX2 G q ((o + 19) + 2) y.2.2.2.2.1.1.1 y.2.2.2.2.1.1.2.1 y.2.2.2.2.1.1.2.2.1 y.2.2.2.2.1.1.2.2.2.1 y.2.2.2.2.1.1.2.2.2.2.1 y.2.2.2.2.1.1.2.2.2.2.2.1 y.2.2.2.2.1.1.2.2.2.2.2.2.1 y.2.2.2.2.1.1.2.2.2.2.2.2.2, bX2 G q (o + 27) y.2.2.2.2.2.1.1 y.2.2.2.2.2.1.2.1 y.2.2.2.2.2.1.2.2.1 y.2.2.2.2.2.1.2.2.2.1 y.2.2.2.2.2.1.2.2.2.2.1 y.2.2.2.2.2.1.2.2.2.2.2.1 y.2.2.2.2.2.1.2.2.2.2.2.2.1 y.2.2.2.2.2.1.2.2.2.2.2.2.2, bX1 G q (o + 33) y.2.2.2.2.2.2.1.1 y.2.2.2.2.2.2.1.2.1 y.2.2.2.2.2.2.1.2.2.1 y.2.2.2.2.2.2.1.2.2.2, bX4 G q (o + 36) y.2.2.2.2.2.2.2.1.1 y.2.2.2.2.2.2.2.1.2, bX3 G q (o + 38) y.2.2.2.2.2.2.2.2.1.1 y.2.2.2.2.2.2.2.2.1.2.1 y.2.2.2.2.2.2.2.2.1.2.2.1 y.2.2.2.2.2.2.2.2.1.2.2.2, bX0 G q (o + 43) y.2.2.2.2.2.2.2.2.2.1.2.2.1 y.2.2.2.2.2.2.2.2.2.1.2.2.2, bX2 G q ((o + 43) + 3) y.2.2.2.2.2.2.2.2.2.1.1.1 y.2.2.2.2.2.2.2.2.2.1.1.2.1 y.2.2.2.2.2.2.2.2.2.1.1.2.2.1 y.2.2.2.2.2.2.2.2.2.1.1.2.2.2.1 y.2.2.2.2.2.2.2.2.2.1.1.2.2.2.2.1 y.2.2.2.2.2.2.2.2.2.1.1.2.2.2.2.2.1 y.2.2.2.2.2.2.2.2.2.1.1.2.2.2.2.2.2.1 y.2.2.2.2.2.2.2.2.2.1.1.2.2.2.2.2.2.2, bX4 G q ((o + 43) + 9) y.2.2.2.2.2.2.2.2.2.1.2.1.1 y.2.2.2.2.2.2.2.2.2.1.2.1.2, bX7 G q (o + 54) y.2.2.2.2.2.2.2.2.2.2.1 y.2.2.2.2.2.2.2.2.2.2.2.1 y.2.2.2.2.2.2.2.2.2.2.2.2]) A) args s 0 0 A) (F0 m 65 ls []) := by
  obtain ⟨hS0, hr, hlk, hK, hA, hT⟩ := id hZ
  have hx := hS0.1
  have hb := hS0.2.1
  have hml := hS0.2.2.1
  have hown : s.vm.findClass RX10 = some m.cls := hS0.2.2.2.1
  have hts := hS0.2.2.2.2
  induction n with
  | zero =>
    intro S v2 v3 v4 v5 H locs ls hf hw hl
    unfold f_X10_order_65 at hf
    cases hf
  | succ n ih =>
    intro S v2 v3 v4 v5 H locs ls hf hw hl
    unfold f_X10_order_65 at hf
    refine lv_iload hx hb dX10_order_65 (lv_at hl 4 rfl) ?_
    refine lv_iload hx hb dX10_order_67 (lv_at hl 3 rfl) ?_
    refine lv_icmp_ge (tgt := 97) hx hb dX10_order_69 rfl (fun hc => ?_) (fun hc => ?_)
    · have hf := z_t hc hf
      refine lv_iload_n hx hb dX10_order_97 rfl (lv_at hl 2 rfl) ?_
      cases hf
      exact z_iret hx hb hr hlk hw dX10_order_98
    · have hf := z_f hc hf
      refine lv_aload_n hx hb dX10_order_72 rfl (lv_at hl 0 rfl) ?_
      refine z_get hS0 in_X10_order_X10 hK hw 0 1 rfl rfl rfl (by decide) (hts _ m_X10_order_0) (v := .ref (q ((o + 3) + 0))) rfl dX10_order_73 ?_
      refine lv_iload_n hx hb dX10_order_76 rfl (lv_at hl 1 rfl) ?_
      refine lv_iload hx hb dX10_order_77 (lv_at hl 4 rfl) ?_
      refine lv_aload_n hx hb dX10_order_79 rfl (lv_at hl 0 rfl) ?_
      refine z_get hS0 in_X10_order_X10 hK hw 0 7 rfl rfl rfl (by decide) (hts _ m_X10_order_1) (v := .ref (q ((o + 38) + 0))) rfl dX10_order_80 ?_
      refine lv_iload hx hb dX10_order_83 (lv_at hl 4 rfl) ?_
      obtain ⟨r1, e2, hf⟩ := z_bd hf
      refine z_callV1 (As := [.int v5]) (rest := [.int v5, .int v2, .ref (q ((o + 3) + 0))]) (bs' := [bX10 G q o, bX9 G q (o + 1) S.1.1 S.1.2.1 S.1.2.2.1 S.1.2.2.2.1 S.1.2.2.2.2, bX6 G q (o + 3) S.2.1.1 S.2.1.2, bX8 G q (o + 12) S.2.2.1.1 S.2.2.1.2, bX5 G q (o + 19) S.2.2.2.1.2.1 S.2.2.2.1.2.2.1 S.2.2.2.1.2.2.2.1 S.2.2.2.1.2.2.2.2, bX2 G q ((o + 19) + 2) S.2.2.2.1.1.1 S.2.2.2.1.1.2.1 S.2.2.2.1.1.2.2.1 S.2.2.2.1.1.2.2.2.1 S.2.2.2.1.1.2.2.2.2.1 S.2.2.2.1.1.2.2.2.2.2.1 S.2.2.2.1.1.2.2.2.2.2.2.1 S.2.2.2.1.1.2.2.2.2.2.2.2, bX2 G q (o + 27) S.2.2.2.2.1.1 S.2.2.2.2.1.2.1 S.2.2.2.2.1.2.2.1 S.2.2.2.2.1.2.2.2.1 S.2.2.2.2.1.2.2.2.2.1 S.2.2.2.2.1.2.2.2.2.2.1 S.2.2.2.2.1.2.2.2.2.2.2.1 S.2.2.2.2.1.2.2.2.2.2.2.2, bX1 G q (o + 33) S.2.2.2.2.2.1.1 S.2.2.2.2.2.1.2.1 S.2.2.2.2.2.1.2.2.1 S.2.2.2.2.2.1.2.2.2, bX4 G q (o + 36) S.2.2.2.2.2.2.1.1 S.2.2.2.2.2.2.1.2, bX3 G q (o + 38) S.2.2.2.2.2.2.2.1.1 S.2.2.2.2.2.2.2.1.2.1 S.2.2.2.2.2.2.2.1.2.2.1 S.2.2.2.2.2.2.2.1.2.2.2, bX0 G q (o + 43) S.2.2.2.2.2.2.2.2.1.2.2.1 S.2.2.2.2.2.2.2.2.1.2.2.2, bX2 G q ((o + 43) + 3) S.2.2.2.2.2.2.2.2.1.1.1 S.2.2.2.2.2.2.2.2.1.1.2.1 S.2.2.2.2.2.2.2.2.1.1.2.2.1 S.2.2.2.2.2.2.2.2.1.1.2.2.2.1 S.2.2.2.2.2.2.2.2.1.1.2.2.2.2.1 S.2.2.2.2.2.2.2.2.1.1.2.2.2.2.2.1 S.2.2.2.2.2.2.2.2.1.1.2.2.2.2.2.2.1 S.2.2.2.2.2.2.2.2.1.1.2.2.2.2.2.2.2, bX4 G q ((o + 43) + 9) S.2.2.2.2.2.2.2.2.1.2.1.1 S.2.2.2.2.2.2.2.2.1.2.1.2, bX7 G q (o + 54) S.2.2.2.2.2.2.2.2.2.1 S.2.2.2.2.2.2.2.2.2.2.1 S.2.2.2.2.2.2.2.2.2.2.2]) hS0 (c_X3_stepAt l G q (o + 38) S.2.2.2.2.2.2.2.1 v5 r1 e2) zc_X3_stepAt rfl gX10_order_X3_stepAt ⟨Nat.le_of_ble_eq_true rfl, Nat.le_of_ble_eq_true rfl⟩ hK hA hT hw (is := [9]) rfl rfl rfl rfl rfl rfl rfl hl.1 rfl (Nat.le_of_ble_eq_true rfl) dX10_order_85 (fun H locs hw => ?_)
      obtain ⟨r3, e4, hf⟩ := z_bd hf
      refine z_callV0 (As := [.int v2, .int v5, .int r1]) (rest := []) (bs' := [bX10 G q o, bX9 G q (o + 1) S.1.1 S.1.2.1 S.1.2.2.1 S.1.2.2.2.1 S.1.2.2.2.2, bX6 G q (o + 3) r3.1 r3.2, bX8 G q (o + 12) S.2.2.1.1 S.2.2.1.2, bX5 G q (o + 19) S.2.2.2.1.2.1 S.2.2.2.1.2.2.1 S.2.2.2.1.2.2.2.1 S.2.2.2.1.2.2.2.2, bX2 G q ((o + 19) + 2) S.2.2.2.1.1.1 S.2.2.2.1.1.2.1 S.2.2.2.1.1.2.2.1 S.2.2.2.1.1.2.2.2.1 S.2.2.2.1.1.2.2.2.2.1 S.2.2.2.1.1.2.2.2.2.2.1 S.2.2.2.1.1.2.2.2.2.2.2.1 S.2.2.2.1.1.2.2.2.2.2.2.2, bX2 G q (o + 27) S.2.2.2.2.1.1 S.2.2.2.2.1.2.1 S.2.2.2.2.1.2.2.1 S.2.2.2.2.1.2.2.2.1 S.2.2.2.2.1.2.2.2.2.1 S.2.2.2.2.1.2.2.2.2.2.1 S.2.2.2.2.1.2.2.2.2.2.2.1 S.2.2.2.2.1.2.2.2.2.2.2.2, bX1 G q (o + 33) S.2.2.2.2.2.1.1 S.2.2.2.2.2.1.2.1 S.2.2.2.2.2.1.2.2.1 S.2.2.2.2.2.1.2.2.2, bX4 G q (o + 36) S.2.2.2.2.2.2.1.1 S.2.2.2.2.2.2.1.2, bX3 G q (o + 38) S.2.2.2.2.2.2.2.1.1 S.2.2.2.2.2.2.2.1.2.1 S.2.2.2.2.2.2.2.1.2.2.1 S.2.2.2.2.2.2.2.1.2.2.2, bX0 G q (o + 43) S.2.2.2.2.2.2.2.2.1.2.2.1 S.2.2.2.2.2.2.2.2.1.2.2.2, bX2 G q ((o + 43) + 3) S.2.2.2.2.2.2.2.2.1.1.1 S.2.2.2.2.2.2.2.2.1.1.2.1 S.2.2.2.2.2.2.2.2.1.1.2.2.1 S.2.2.2.2.2.2.2.2.1.1.2.2.2.1 S.2.2.2.2.2.2.2.2.1.1.2.2.2.2.1 S.2.2.2.2.2.2.2.2.1.1.2.2.2.2.2.1 S.2.2.2.2.2.2.2.2.1.1.2.2.2.2.2.2.1 S.2.2.2.2.2.2.2.2.1.1.2.2.2.2.2.2.2, bX4 G q ((o + 43) + 9) S.2.2.2.2.2.2.2.2.1.2.1.1 S.2.2.2.2.2.2.2.2.1.2.1.2, bX7 G q (o + 54) S.2.2.2.2.2.2.2.2.2.1 S.2.2.2.2.2.2.2.2.2.2.1 S.2.2.2.2.2.2.2.2.2.2.2]) hS0 (c_X6_set l G q (o + 3) S.2.1 v2 v5 r1 r3 e4) zc_X6_set rfl gX10_order_X6_set ⟨Nat.le_of_ble_eq_true rfl, Nat.le_of_ble_eq_true rfl⟩ hK hA hT hw (is := [2]) rfl rfl rfl rfl rfl rfl rfl hl.1 rfl (Nat.le_of_ble_eq_true rfl) dX10_order_88 (fun H locs hw => ?_)
      refine lv_iinc (v := (v5 + 1)) (lv' := [(5, .int (v5 + 1)), (0, .ref (q (o + 0))), (2, .int v2), (3, .int v3), (4, .int v4)]) hx hb dX10_order_91 hl (k := 4) rfl rfl (by decide) rfl (fun ls hl => ?_)
      refine lv_goto (tgt := 65) hx hb dX10_order_94 rfl ?_
      exact ih _ _ _ _ _ _ _ _ hf hw (lv_sub hl [1, 2, 3, 4, 0] rfl)
set_option maxHeartbeats 4000000 in
set_option maxRecDepth 100000 in
theorem c_X10_order (l : Launch) (G : zG) (q : Nat → Nat) (o : Nat) (S : VX10) (v1 : Int32) (v2 : Int32) (y : Int32 × VX10) (hf : f_X10_order S v1 v2 = some y) : zMet l yX10_order wsX10_order 6 155 G [.ref (q (o + 0)), .int v1, .int v2] [bX10 G q o, bX9 G q (o + 1) S.1.1 S.1.2.1 S.1.2.2.1 S.1.2.2.2.1 S.1.2.2.2.2, bX6 G q (o + 3) S.2.1.1 S.2.1.2, bX8 G q (o + 12) S.2.2.1.1 S.2.2.1.2, bX5 G q (o + 19) S.2.2.2.1.2.1 S.2.2.2.1.2.2.1 S.2.2.2.1.2.2.2.1 S.2.2.2.1.2.2.2.2, bX2 G q ((o + 19) + 2) S.2.2.2.1.1.1 S.2.2.2.1.1.2.1 S.2.2.2.1.1.2.2.1 S.2.2.2.1.1.2.2.2.1 S.2.2.2.1.1.2.2.2.2.1 S.2.2.2.1.1.2.2.2.2.2.1 S.2.2.2.1.1.2.2.2.2.2.2.1 S.2.2.2.1.1.2.2.2.2.2.2.2, bX2 G q (o + 27) S.2.2.2.2.1.1 S.2.2.2.2.1.2.1 S.2.2.2.2.1.2.2.1 S.2.2.2.2.1.2.2.2.1 S.2.2.2.2.1.2.2.2.2.1 S.2.2.2.2.1.2.2.2.2.2.1 S.2.2.2.2.1.2.2.2.2.2.2.1 S.2.2.2.2.1.2.2.2.2.2.2.2, bX1 G q (o + 33) S.2.2.2.2.2.1.1 S.2.2.2.2.2.1.2.1 S.2.2.2.2.2.1.2.2.1 S.2.2.2.2.2.1.2.2.2, bX4 G q (o + 36) S.2.2.2.2.2.2.1.1 S.2.2.2.2.2.2.1.2, bX3 G q (o + 38) S.2.2.2.2.2.2.2.1.1 S.2.2.2.2.2.2.2.1.2.1 S.2.2.2.2.2.2.2.1.2.2.1 S.2.2.2.2.2.2.2.1.2.2.2, bX0 G q (o + 43) S.2.2.2.2.2.2.2.2.1.2.2.1 S.2.2.2.2.2.2.2.2.1.2.2.2, bX2 G q ((o + 43) + 3) S.2.2.2.2.2.2.2.2.1.1.1 S.2.2.2.2.2.2.2.2.1.1.2.1 S.2.2.2.2.2.2.2.2.1.1.2.2.1 S.2.2.2.2.2.2.2.2.1.1.2.2.2.1 S.2.2.2.2.2.2.2.2.1.1.2.2.2.2.1 S.2.2.2.2.2.2.2.2.1.1.2.2.2.2.2.1 S.2.2.2.2.2.2.2.2.1.1.2.2.2.2.2.2.1 S.2.2.2.2.2.2.2.2.1.1.2.2.2.2.2.2.2, bX4 G q ((o + 43) + 9) S.2.2.2.2.2.2.2.2.1.2.1.1 S.2.2.2.2.2.2.2.2.1.2.1.2, bX7 G q (o + 54) S.2.2.2.2.2.2.2.2.2.1 S.2.2.2.2.2.2.2.2.2.2.1 S.2.2.2.2.2.2.2.2.2.2.2] (some (.int y.1)) [bX10 G q o, bX9 G q (o + 1) y.2.1.1 y.2.1.2.1 y.2.1.2.2.1 y.2.1.2.2.2.1 y.2.1.2.2.2.2, bX6 G q (o + 3) y.2.2.1.1 y.2.2.1.2, bX8 G q (o + 12) y.2.2.2.1.1 y.2.2.2.1.2, bX5 G q (o + 19) y.2.2.2.2.1.2.1 y.2.2.2.2.1.2.2.1 y.2.2.2.2.1.2.2.2.1 y.2.2.2.2.1.2.2.2.2, bX2 G q ((o + 19) + 2) y.2.2.2.2.1.1.1 y.2.2.2.2.1.1.2.1 y.2.2.2.2.1.1.2.2.1 y.2.2.2.2.1.1.2.2.2.1 y.2.2.2.2.1.1.2.2.2.2.1 y.2.2.2.2.1.1.2.2.2.2.2.1 y.2.2.2.2.1.1.2.2.2.2.2.2.1 y.2.2.2.2.1.1.2.2.2.2.2.2.2, bX2 G q (o + 27) y.2.2.2.2.2.1.1 y.2.2.2.2.2.1.2.1 y.2.2.2.2.2.1.2.2.1 y.2.2.2.2.2.1.2.2.2.1 y.2.2.2.2.2.1.2.2.2.2.1 y.2.2.2.2.2.1.2.2.2.2.2.1 y.2.2.2.2.2.1.2.2.2.2.2.2.1 y.2.2.2.2.2.1.2.2.2.2.2.2.2, bX1 G q (o + 33) y.2.2.2.2.2.2.1.1 y.2.2.2.2.2.2.1.2.1 y.2.2.2.2.2.2.1.2.2.1 y.2.2.2.2.2.2.1.2.2.2, bX4 G q (o + 36) y.2.2.2.2.2.2.2.1.1 y.2.2.2.2.2.2.2.1.2, bX3 G q (o + 38) y.2.2.2.2.2.2.2.2.1.1 y.2.2.2.2.2.2.2.2.1.2.1 y.2.2.2.2.2.2.2.2.1.2.2.1 y.2.2.2.2.2.2.2.2.1.2.2.2, bX0 G q (o + 43) y.2.2.2.2.2.2.2.2.2.1.2.2.1 y.2.2.2.2.2.2.2.2.2.1.2.2.2, bX2 G q ((o + 43) + 3) y.2.2.2.2.2.2.2.2.2.1.1.1 y.2.2.2.2.2.2.2.2.2.1.1.2.1 y.2.2.2.2.2.2.2.2.2.1.1.2.2.1 y.2.2.2.2.2.2.2.2.2.1.1.2.2.2.1 y.2.2.2.2.2.2.2.2.2.1.1.2.2.2.2.1 y.2.2.2.2.2.2.2.2.2.1.1.2.2.2.2.2.1 y.2.2.2.2.2.2.2.2.2.1.1.2.2.2.2.2.2.1 y.2.2.2.2.2.2.2.2.2.1.1.2.2.2.2.2.2.2, bX4 G q ((o + 43) + 9) y.2.2.2.2.2.2.2.2.2.1.2.1.1 y.2.2.2.2.2.2.2.2.2.1.2.1.2, bX7 G q (o + 54) y.2.2.2.2.2.2.2.2.2.2.1 y.2.2.2.2.2.2.2.2.2.2.2.1 y.2.2.2.2.2.2.2.2.2.2.2.2] := by
  refine z_met zc_X10_order (Nat.le_of_ble_eq_true rfl) ?_
  intro p e s m below meth c A ls hZ hl hw
  have hl : lv_has ls 6 [(0, .ref (q (o + 0))), (1, .int v1), (2, .int v2)] := hl
  obtain ⟨hS0, hr, hlk, hK, hA, hT⟩ := id hZ
  have hx := hS0.1
  have hb := hS0.2.1
  have hml := hS0.2.2.1
  have hown : s.vm.findClass RX10 = some m.cls := hS0.2.2.2.1
  have hts := hS0.2.2.2.2
  unfold f_X10_order at hf
  refine lv_aload_n hx hb dX10_order_0 rfl (lv_at hl 0 rfl) ?_
  refine z_get hS0 in_X10_order_X10 hK hw 0 4 rfl rfl rfl (by decide) (hts _ m_X10_order_2) (v := .ref (q ((o + 27) + 0))) rfl dX10_order_1 ?_
  refine lv_iload_n hx hb dX10_order_4 rfl (lv_at hl 1 rfl) ?_
  obtain ⟨r5, e6, hf⟩ := z_bd hf
  refine z_callV1 (As := [.int v1]) (rest := []) (bs' := [bX10 G q o, bX9 G q (o + 1) S.1.1 S.1.2.1 S.1.2.2.1 S.1.2.2.2.1 S.1.2.2.2.2, bX6 G q (o + 3) S.2.1.1 S.2.1.2, bX8 G q (o + 12) S.2.2.1.1 S.2.2.1.2, bX5 G q (o + 19) S.2.2.2.1.2.1 S.2.2.2.1.2.2.1 S.2.2.2.1.2.2.2.1 S.2.2.2.1.2.2.2.2, bX2 G q ((o + 19) + 2) S.2.2.2.1.1.1 S.2.2.2.1.1.2.1 S.2.2.2.1.1.2.2.1 S.2.2.2.1.1.2.2.2.1 S.2.2.2.1.1.2.2.2.2.1 S.2.2.2.1.1.2.2.2.2.2.1 S.2.2.2.1.1.2.2.2.2.2.2.1 S.2.2.2.1.1.2.2.2.2.2.2.2, bX2 G q (o + 27) S.2.2.2.2.1.1 S.2.2.2.2.1.2.1 S.2.2.2.2.1.2.2.1 S.2.2.2.2.1.2.2.2.1 S.2.2.2.2.1.2.2.2.2.1 S.2.2.2.2.1.2.2.2.2.2.1 S.2.2.2.2.1.2.2.2.2.2.2.1 S.2.2.2.2.1.2.2.2.2.2.2.2, bX1 G q (o + 33) S.2.2.2.2.2.1.1 S.2.2.2.2.2.1.2.1 S.2.2.2.2.2.1.2.2.1 S.2.2.2.2.2.1.2.2.2, bX4 G q (o + 36) S.2.2.2.2.2.2.1.1 S.2.2.2.2.2.2.1.2, bX3 G q (o + 38) S.2.2.2.2.2.2.2.1.1 S.2.2.2.2.2.2.2.1.2.1 S.2.2.2.2.2.2.2.1.2.2.1 S.2.2.2.2.2.2.2.1.2.2.2, bX0 G q (o + 43) S.2.2.2.2.2.2.2.2.1.2.2.1 S.2.2.2.2.2.2.2.2.1.2.2.2, bX2 G q ((o + 43) + 3) S.2.2.2.2.2.2.2.2.1.1.1 S.2.2.2.2.2.2.2.2.1.1.2.1 S.2.2.2.2.2.2.2.2.1.1.2.2.1 S.2.2.2.2.2.2.2.2.1.1.2.2.2.1 S.2.2.2.2.2.2.2.2.1.1.2.2.2.2.1 S.2.2.2.2.2.2.2.2.1.1.2.2.2.2.2.1 S.2.2.2.2.2.2.2.2.1.1.2.2.2.2.2.2.1 S.2.2.2.2.2.2.2.2.1.1.2.2.2.2.2.2.2, bX4 G q ((o + 43) + 9) S.2.2.2.2.2.2.2.2.1.2.1.1 S.2.2.2.2.2.2.2.2.1.2.1.2, bX7 G q (o + 54) S.2.2.2.2.2.2.2.2.2.1 S.2.2.2.2.2.2.2.2.2.2.1 S.2.2.2.2.2.2.2.2.2.2.2]) hS0 (c_X2_isSet l G q (o + 27) S.2.2.2.2.1 v1 r5 e6) zc_X2_isSet rfl gX10_order_X2_isSet ⟨Nat.le_of_ble_eq_true rfl, Nat.le_of_ble_eq_true rfl⟩ hK hA hT hw (is := [6]) rfl rfl rfl rfl rfl rfl rfl hl.1 rfl (Nat.le_of_ble_eq_true rfl) dX10_order_5 (fun H locs hw => ?_)
  refine lv_if_eq (tgt := 22) hx hb dX10_order_8 rfl (fun hc => ?_) (fun hc => ?_)
  · have hf := z_t hc hf
    refine lv_iconst (v := (-1)) hx hb dX10_order_22 rfl ?_
    cases hf
    exact z_iret hx hb hr hlk hw dX10_order_23
  · have hf := z_f hc hf
    refine lv_aload_n hx hb dX10_order_11 rfl (lv_at hl 0 rfl) ?_
    refine z_get hS0 in_X10_order_X10 hK hw 0 1 rfl rfl rfl (by decide) (hts _ m_X10_order_0) (v := .ref (q ((o + 3) + 0))) rfl dX10_order_12 ?_
    refine lv_iload_n hx hb dX10_order_15 rfl (lv_at hl 2 rfl) ?_
    obtain ⟨r7, e8, hf⟩ := z_bd hf
    refine z_callV1 (As := [.int v2]) (rest := []) (bs' := [bX10 G q o, bX9 G q (o + 1) S.1.1 S.1.2.1 S.1.2.2.1 S.1.2.2.2.1 S.1.2.2.2.2, bX6 G q (o + 3) S.2.1.1 S.2.1.2, bX8 G q (o + 12) S.2.2.1.1 S.2.2.1.2, bX5 G q (o + 19) S.2.2.2.1.2.1 S.2.2.2.1.2.2.1 S.2.2.2.1.2.2.2.1 S.2.2.2.1.2.2.2.2, bX2 G q ((o + 19) + 2) S.2.2.2.1.1.1 S.2.2.2.1.1.2.1 S.2.2.2.1.1.2.2.1 S.2.2.2.1.1.2.2.2.1 S.2.2.2.1.1.2.2.2.2.1 S.2.2.2.1.1.2.2.2.2.2.1 S.2.2.2.1.1.2.2.2.2.2.2.1 S.2.2.2.1.1.2.2.2.2.2.2.2, bX2 G q (o + 27) S.2.2.2.2.1.1 S.2.2.2.2.1.2.1 S.2.2.2.2.1.2.2.1 S.2.2.2.2.1.2.2.2.1 S.2.2.2.2.1.2.2.2.2.1 S.2.2.2.2.1.2.2.2.2.2.1 S.2.2.2.2.1.2.2.2.2.2.2.1 S.2.2.2.2.1.2.2.2.2.2.2.2, bX1 G q (o + 33) S.2.2.2.2.2.1.1 S.2.2.2.2.2.1.2.1 S.2.2.2.2.2.1.2.2.1 S.2.2.2.2.2.1.2.2.2, bX4 G q (o + 36) S.2.2.2.2.2.2.1.1 S.2.2.2.2.2.2.1.2, bX3 G q (o + 38) S.2.2.2.2.2.2.2.1.1 S.2.2.2.2.2.2.2.1.2.1 S.2.2.2.2.2.2.2.1.2.2.1 S.2.2.2.2.2.2.2.1.2.2.2, bX0 G q (o + 43) S.2.2.2.2.2.2.2.2.1.2.2.1 S.2.2.2.2.2.2.2.2.1.2.2.2, bX2 G q ((o + 43) + 3) S.2.2.2.2.2.2.2.2.1.1.1 S.2.2.2.2.2.2.2.2.1.1.2.1 S.2.2.2.2.2.2.2.2.1.1.2.2.1 S.2.2.2.2.2.2.2.2.1.1.2.2.2.1 S.2.2.2.2.2.2.2.2.1.1.2.2.2.2.1 S.2.2.2.2.2.2.2.2.1.1.2.2.2.2.2.1 S.2.2.2.2.2.2.2.2.1.1.2.2.2.2.2.2.1 S.2.2.2.2.2.2.2.2.1.1.2.2.2.2.2.2.2, bX4 G q ((o + 43) + 9) S.2.2.2.2.2.2.2.2.1.2.1.1 S.2.2.2.2.2.2.2.2.1.2.1.2, bX7 G q (o + 54) S.2.2.2.2.2.2.2.2.2.1 S.2.2.2.2.2.2.2.2.2.2.1 S.2.2.2.2.2.2.2.2.2.2.2]) hS0 (c_X6_isNumber l G q (o + 3) S.2.1 v2 r7 e8) zc_X6_isNumber rfl gX10_order_X6_isNumber ⟨Nat.le_of_ble_eq_true rfl, Nat.le_of_ble_eq_true rfl⟩ hK hA hT hw (is := [2]) rfl rfl rfl rfl rfl rfl rfl hl.1 rfl (Nat.le_of_ble_eq_true rfl) dX10_order_16 (fun H locs hw => ?_)
    refine lv_if_ne (tgt := 24) hx hb dX10_order_19 rfl (fun hc => ?_) (fun hc => ?_)
    · have hf := z_f hc hf
      refine lv_aload_n hx hb dX10_order_24 rfl (lv_at hl 0 rfl) ?_
      refine z_get hS0 in_X10_order_X10 hK hw 0 7 rfl rfl rfl (by decide) (hts _ m_X10_order_1) (v := .ref (q ((o + 38) + 0))) rfl dX10_order_25 ?_
      refine lv_aload_n hx hb dX10_order_28 rfl (lv_at hl 0 rfl) ?_
      refine z_get hS0 in_X10_order_X10 hK hw 0 4 rfl rfl rfl (by decide) (hts _ m_X10_order_2) (v := .ref (q ((o + 27) + 0))) rfl dX10_order_29 ?_
      refine lv_iload_n hx hb dX10_order_32 rfl (lv_at hl 1 rfl) ?_
      obtain ⟨r9, e10, hf⟩ := z_bd hf
      refine z_callV1 (As := [.ref (q ((o + 27) + 0)), .int v1]) (rest := []) (bs' := [bX10 G q o, bX9 G q (o + 1) S.1.1 S.1.2.1 S.1.2.2.1 S.1.2.2.2.1 S.1.2.2.2.2, bX6 G q (o + 3) S.2.1.1 S.2.1.2, bX8 G q (o + 12) S.2.2.1.1 S.2.2.1.2, bX5 G q (o + 19) S.2.2.2.1.2.1 S.2.2.2.1.2.2.1 S.2.2.2.1.2.2.2.1 S.2.2.2.1.2.2.2.2, bX2 G q ((o + 19) + 2) S.2.2.2.1.1.1 S.2.2.2.1.1.2.1 S.2.2.2.1.1.2.2.1 S.2.2.2.1.1.2.2.2.1 S.2.2.2.1.1.2.2.2.2.1 S.2.2.2.1.1.2.2.2.2.2.1 S.2.2.2.1.1.2.2.2.2.2.2.1 S.2.2.2.1.1.2.2.2.2.2.2.2, bX2 G q (o + 27) S.2.2.2.2.1.1 S.2.2.2.2.1.2.1 S.2.2.2.2.1.2.2.1 S.2.2.2.2.1.2.2.2.1 S.2.2.2.2.1.2.2.2.2.1 S.2.2.2.2.1.2.2.2.2.2.1 S.2.2.2.2.1.2.2.2.2.2.2.1 S.2.2.2.2.1.2.2.2.2.2.2.2, bX1 G q (o + 33) S.2.2.2.2.2.1.1 S.2.2.2.2.2.1.2.1 S.2.2.2.2.2.1.2.2.1 S.2.2.2.2.2.1.2.2.2, bX4 G q (o + 36) S.2.2.2.2.2.2.1.1 S.2.2.2.2.2.2.1.2, bX3 G q (o + 38) r9.2.1 r9.2.2.1 r9.2.2.2.1 r9.2.2.2.2, bX0 G q (o + 43) S.2.2.2.2.2.2.2.2.1.2.2.1 S.2.2.2.2.2.2.2.2.1.2.2.2, bX2 G q ((o + 43) + 3) S.2.2.2.2.2.2.2.2.1.1.1 S.2.2.2.2.2.2.2.2.1.1.2.1 S.2.2.2.2.2.2.2.2.1.1.2.2.1 S.2.2.2.2.2.2.2.2.1.1.2.2.2.1 S.2.2.2.2.2.2.2.2.1.1.2.2.2.2.1 S.2.2.2.2.2.2.2.2.1.1.2.2.2.2.2.1 S.2.2.2.2.2.2.2.2.1.1.2.2.2.2.2.2.1 S.2.2.2.2.2.2.2.2.1.1.2.2.2.2.2.2.2, bX4 G q ((o + 43) + 9) S.2.2.2.2.2.2.2.2.1.2.1.1 S.2.2.2.2.2.2.2.2.1.2.1.2, bX7 G q (o + 54) S.2.2.2.2.2.2.2.2.2.1 S.2.2.2.2.2.2.2.2.2.2.1 S.2.2.2.2.2.2.2.2.2.2.2]) hS0 (c_X3_findFirst l G q (o + 38) q (o + 27) S.2.2.2.2.2.2.2.1 S.2.2.2.2.1 v1 r9 e10) zc_X3_findFirst rfl gX10_order_X3_findFirst ⟨Nat.le_of_ble_eq_true rfl, Nat.le_of_ble_eq_true rfl⟩ hK hA hT hw (is := [9, 6]) rfl rfl rfl rfl rfl rfl rfl hl.1 rfl (Nat.le_of_ble_eq_true rfl) dX10_order_33 (fun H locs hw => ?_)
      refine lv_istore_n (lv' := [(3, .int r9.1), (0, .ref (q (o + 0))), (1, .int v1), (2, .int v2)]) hx hb dX10_order_36 rfl hl (by decide) rfl (fun ls hl => ?_)
      refine lv_iload_n hx hb dX10_order_37 rfl (lv_at hl 0 rfl) ?_
      refine lv_bipush (v := (-9)) hx hb dX10_order_38 rfl ?_
      refine lv_icmp_ne (tgt := 46) hx hb dX10_order_40 rfl (fun hc => ?_) (fun hc => ?_)
      · have hf := z_f hc hf
        refine lv_iload_n hx hb dX10_order_46 rfl (lv_at hl 2 rfl) ?_
        obtain ⟨r11, e12, hf⟩ := z_bd hf
        refine z_callS1 (As := [.int v1]) (rest := []) (bs' := [bX10 G q o, bX9 G q (o + 1) S.1.1 S.1.2.1 S.1.2.2.1 S.1.2.2.2.1 S.1.2.2.2.2, bX6 G q (o + 3) S.2.1.1 S.2.1.2, bX8 G q (o + 12) S.2.2.1.1 S.2.2.1.2, bX5 G q (o + 19) S.2.2.2.1.2.1 S.2.2.2.1.2.2.1 S.2.2.2.1.2.2.2.1 S.2.2.2.1.2.2.2.2, bX2 G q ((o + 19) + 2) S.2.2.2.1.1.1 S.2.2.2.1.1.2.1 S.2.2.2.1.1.2.2.1 S.2.2.2.1.1.2.2.2.1 S.2.2.2.1.1.2.2.2.2.1 S.2.2.2.1.1.2.2.2.2.2.1 S.2.2.2.1.1.2.2.2.2.2.2.1 S.2.2.2.1.1.2.2.2.2.2.2.2, bX2 G q (o + 27) S.2.2.2.2.1.1 S.2.2.2.2.1.2.1 S.2.2.2.2.1.2.2.1 S.2.2.2.2.1.2.2.2.1 S.2.2.2.2.1.2.2.2.2.1 S.2.2.2.2.1.2.2.2.2.2.1 S.2.2.2.2.1.2.2.2.2.2.2.1 S.2.2.2.2.1.2.2.2.2.2.2.2, bX1 G q (o + 33) S.2.2.2.2.2.1.1 S.2.2.2.2.2.1.2.1 S.2.2.2.2.2.1.2.2.1 S.2.2.2.2.2.1.2.2.2, bX4 G q (o + 36) S.2.2.2.2.2.2.1.1 S.2.2.2.2.2.2.1.2, bX3 G q (o + 38) r9.2.1 r9.2.2.1 r9.2.2.2.1 r9.2.2.2.2, bX0 G q (o + 43) S.2.2.2.2.2.2.2.2.1.2.2.1 S.2.2.2.2.2.2.2.2.1.2.2.2, bX2 G q ((o + 43) + 3) S.2.2.2.2.2.2.2.2.1.1.1 S.2.2.2.2.2.2.2.2.1.1.2.1 S.2.2.2.2.2.2.2.2.1.1.2.2.1 S.2.2.2.2.2.2.2.2.1.1.2.2.2.1 S.2.2.2.2.2.2.2.2.1.1.2.2.2.2.1 S.2.2.2.2.2.2.2.2.1.1.2.2.2.2.2.1 S.2.2.2.2.2.2.2.2.1.1.2.2.2.2.2.2.1 S.2.2.2.2.2.2.2.2.1.1.2.2.2.2.2.2.2, bX4 G q ((o + 43) + 9) S.2.2.2.2.2.2.2.2.1.2.1.1 S.2.2.2.2.2.2.2.2.1.2.1.2, bX7 G q (o + 54) S.2.2.2.2.2.2.2.2.2.1 S.2.2.2.2.2.2.2.2.2.2.1 S.2.2.2.2.2.2.2.2.2.2.2]) hS0 (c_J6_bitCount_0f7a4 l G v1 r11 e12) zc_J6_bitCount_0f7a4 gX10_order_J6_bitCount_0f7a4 ⟨Nat.le_of_ble_eq_true rfl, Nat.le_of_ble_eq_true rfl⟩ hK hA hT hw (is := []) rfl rfl rfl rfl rfl hl.1 rfl (Nat.le_of_ble_eq_true rfl) dX10_order_47 (fun H locs hw => ?_)
        refine lv_istore (lv' := [(4, .int r11), (3, .int r9.1), (0, .ref (q (o + 0))), (1, .int v1), (2, .int v2)]) hx hb dX10_order_50 hl (by decide) rfl (fun ls hl => ?_)
        refine lv_aload_n hx hb dX10_order_52 rfl (lv_at hl 2 rfl) ?_
        refine z_get hS0 in_X10_order_X10 hK hw 0 1 rfl rfl rfl (by decide) (hts _ m_X10_order_0) (v := .ref (q ((o + 3) + 0))) rfl dX10_order_53 ?_
        refine lv_iload_n hx hb dX10_order_56 rfl (lv_at hl 4 rfl) ?_
        refine lv_iload hx hb dX10_order_57 (lv_at hl 0 rfl) ?_
        obtain ⟨r13, e14, hf⟩ := z_bd hf
        refine z_callV0 (As := [.int v2, .int r11]) (rest := []) (bs' := [bX10 G q o, bX9 G q (o + 1) S.1.1 S.1.2.1 S.1.2.2.1 S.1.2.2.2.1 S.1.2.2.2.2, bX6 G q (o + 3) r13.1 r13.2, bX8 G q (o + 12) S.2.2.1.1 S.2.2.1.2, bX5 G q (o + 19) S.2.2.2.1.2.1 S.2.2.2.1.2.2.1 S.2.2.2.1.2.2.2.1 S.2.2.2.1.2.2.2.2, bX2 G q ((o + 19) + 2) S.2.2.2.1.1.1 S.2.2.2.1.1.2.1 S.2.2.2.1.1.2.2.1 S.2.2.2.1.1.2.2.2.1 S.2.2.2.1.1.2.2.2.2.1 S.2.2.2.1.1.2.2.2.2.2.1 S.2.2.2.1.1.2.2.2.2.2.2.1 S.2.2.2.1.1.2.2.2.2.2.2.2, bX2 G q (o + 27) S.2.2.2.2.1.1 S.2.2.2.2.1.2.1 S.2.2.2.2.1.2.2.1 S.2.2.2.2.1.2.2.2.1 S.2.2.2.2.1.2.2.2.2.1 S.2.2.2.2.1.2.2.2.2.2.1 S.2.2.2.2.1.2.2.2.2.2.2.1 S.2.2.2.2.1.2.2.2.2.2.2.2, bX1 G q (o + 33) S.2.2.2.2.2.1.1 S.2.2.2.2.2.1.2.1 S.2.2.2.2.2.1.2.2.1 S.2.2.2.2.2.1.2.2.2, bX4 G q (o + 36) S.2.2.2.2.2.2.1.1 S.2.2.2.2.2.2.1.2, bX3 G q (o + 38) r9.2.1 r9.2.2.1 r9.2.2.2.1 r9.2.2.2.2, bX0 G q (o + 43) S.2.2.2.2.2.2.2.2.1.2.2.1 S.2.2.2.2.2.2.2.2.1.2.2.2, bX2 G q ((o + 43) + 3) S.2.2.2.2.2.2.2.2.1.1.1 S.2.2.2.2.2.2.2.2.1.1.2.1 S.2.2.2.2.2.2.2.2.1.1.2.2.1 S.2.2.2.2.2.2.2.2.1.1.2.2.2.1 S.2.2.2.2.2.2.2.2.1.1.2.2.2.2.1 S.2.2.2.2.2.2.2.2.1.1.2.2.2.2.2.1 S.2.2.2.2.2.2.2.2.1.1.2.2.2.2.2.2.1 S.2.2.2.2.2.2.2.2.1.1.2.2.2.2.2.2.2, bX4 G q ((o + 43) + 9) S.2.2.2.2.2.2.2.2.1.2.1.1 S.2.2.2.2.2.2.2.2.1.2.1.2, bX7 G q (o + 54) S.2.2.2.2.2.2.2.2.2.1 S.2.2.2.2.2.2.2.2.2.2.1 S.2.2.2.2.2.2.2.2.2.2.2]) hS0 (c_X6_make l G q (o + 3) S.2.1 v2 r11 r13 e14) zc_X6_make rfl gX10_order_X6_make ⟨Nat.le_of_ble_eq_true rfl, Nat.le_of_ble_eq_true rfl⟩ hK hA hT hw (is := [2]) rfl rfl rfl rfl rfl rfl rfl hl.1 rfl (Nat.le_of_ble_eq_true rfl) dX10_order_59 (fun H locs hw => ?_)
        refine lv_iconst (v := 0) hx hb dX10_order_62 rfl ?_
        refine lv_istore (lv' := [(5, .int 0), (4, .int r11), (3, .int r9.1), (0, .ref (q (o + 0))), (1, .int v1), (2, .int v2)]) hx hb dX10_order_63 hl (by decide) rfl (fun ls hl => ?_)
        exact k_X10_order_65 hZ _ 4096 _ _ _ _ _ _ _ _ hf hw (lv_sub hl [3, 5, 2, 1, 0] rfl)
      · have hf := z_t hc hf
        refine lv_bipush (v := (-9)) hx hb dX10_order_43 rfl ?_
        cases hf
        exact z_iret hx hb hr hlk hw dX10_order_45
    · have hf := z_t hc hf
      refine lv_iconst (v := (-1)) hx hb dX10_order_22 rfl ?_
      cases hf
      exact z_iret hx hb hr hlk hw dX10_order_23
theorem zc_X10_out : zC yX10_out wsX10_out cX10_out 1 (some .int) 0 := ⟨⟨_, rfl⟩, by decide +kernel, by decide +kernel, by decide +kernel, by decide +kernel⟩
theorem m_X10_out_0 : (.fieldLink RX10 10 "CellKeys" "told" "LCellKeys$Told;" : Cond) ∈ wsX10_out := by decide +kernel
theorem in_X10_out_X10 : ∀ w ∈ u_ws RX10 TX10 10, w ∈ wsX10_out := by decide +kernel
theorem m_X10_out_1 : (.fieldLink RX10 47 "CellKeys" "evenings" "LCellKeys$Evenings;" : Cond) ∈ wsX10_out := by decide +kernel
set_option maxHeartbeats 4000000 in
set_option maxRecDepth 100000 in
theorem c_X10_out (l : Launch) (G : zG) (q : Nat → Nat) (o : Nat) (S : VX10)  (y : Int32 × VX10) (hf : f_X10_out S = some y) : zMet l yX10_out wsX10_out 1 21 G [.ref (q (o + 0))] [bX10 G q o, bX9 G q (o + 1) S.1.1 S.1.2.1 S.1.2.2.1 S.1.2.2.2.1 S.1.2.2.2.2, bX6 G q (o + 3) S.2.1.1 S.2.1.2, bX8 G q (o + 12) S.2.2.1.1 S.2.2.1.2, bX5 G q (o + 19) S.2.2.2.1.2.1 S.2.2.2.1.2.2.1 S.2.2.2.1.2.2.2.1 S.2.2.2.1.2.2.2.2, bX2 G q ((o + 19) + 2) S.2.2.2.1.1.1 S.2.2.2.1.1.2.1 S.2.2.2.1.1.2.2.1 S.2.2.2.1.1.2.2.2.1 S.2.2.2.1.1.2.2.2.2.1 S.2.2.2.1.1.2.2.2.2.2.1 S.2.2.2.1.1.2.2.2.2.2.2.1 S.2.2.2.1.1.2.2.2.2.2.2.2, bX2 G q (o + 27) S.2.2.2.2.1.1 S.2.2.2.2.1.2.1 S.2.2.2.2.1.2.2.1 S.2.2.2.2.1.2.2.2.1 S.2.2.2.2.1.2.2.2.2.1 S.2.2.2.2.1.2.2.2.2.2.1 S.2.2.2.2.1.2.2.2.2.2.2.1 S.2.2.2.2.1.2.2.2.2.2.2.2, bX1 G q (o + 33) S.2.2.2.2.2.1.1 S.2.2.2.2.2.1.2.1 S.2.2.2.2.2.1.2.2.1 S.2.2.2.2.2.1.2.2.2, bX4 G q (o + 36) S.2.2.2.2.2.2.1.1 S.2.2.2.2.2.2.1.2, bX3 G q (o + 38) S.2.2.2.2.2.2.2.1.1 S.2.2.2.2.2.2.2.1.2.1 S.2.2.2.2.2.2.2.1.2.2.1 S.2.2.2.2.2.2.2.1.2.2.2, bX0 G q (o + 43) S.2.2.2.2.2.2.2.2.1.2.2.1 S.2.2.2.2.2.2.2.2.1.2.2.2, bX2 G q ((o + 43) + 3) S.2.2.2.2.2.2.2.2.1.1.1 S.2.2.2.2.2.2.2.2.1.1.2.1 S.2.2.2.2.2.2.2.2.1.1.2.2.1 S.2.2.2.2.2.2.2.2.1.1.2.2.2.1 S.2.2.2.2.2.2.2.2.1.1.2.2.2.2.1 S.2.2.2.2.2.2.2.2.1.1.2.2.2.2.2.1 S.2.2.2.2.2.2.2.2.1.1.2.2.2.2.2.2.1 S.2.2.2.2.2.2.2.2.1.1.2.2.2.2.2.2.2, bX4 G q ((o + 43) + 9) S.2.2.2.2.2.2.2.2.1.2.1.1 S.2.2.2.2.2.2.2.2.1.2.1.2, bX7 G q (o + 54) S.2.2.2.2.2.2.2.2.2.1 S.2.2.2.2.2.2.2.2.2.2.1 S.2.2.2.2.2.2.2.2.2.2.2] (some (.int y.1)) [bX10 G q o, bX9 G q (o + 1) y.2.1.1 y.2.1.2.1 y.2.1.2.2.1 y.2.1.2.2.2.1 y.2.1.2.2.2.2, bX6 G q (o + 3) y.2.2.1.1 y.2.2.1.2, bX8 G q (o + 12) y.2.2.2.1.1 y.2.2.2.1.2, bX5 G q (o + 19) y.2.2.2.2.1.2.1 y.2.2.2.2.1.2.2.1 y.2.2.2.2.1.2.2.2.1 y.2.2.2.2.1.2.2.2.2, bX2 G q ((o + 19) + 2) y.2.2.2.2.1.1.1 y.2.2.2.2.1.1.2.1 y.2.2.2.2.1.1.2.2.1 y.2.2.2.2.1.1.2.2.2.1 y.2.2.2.2.1.1.2.2.2.2.1 y.2.2.2.2.1.1.2.2.2.2.2.1 y.2.2.2.2.1.1.2.2.2.2.2.2.1 y.2.2.2.2.1.1.2.2.2.2.2.2.2, bX2 G q (o + 27) y.2.2.2.2.2.1.1 y.2.2.2.2.2.1.2.1 y.2.2.2.2.2.1.2.2.1 y.2.2.2.2.2.1.2.2.2.1 y.2.2.2.2.2.1.2.2.2.2.1 y.2.2.2.2.2.1.2.2.2.2.2.1 y.2.2.2.2.2.1.2.2.2.2.2.2.1 y.2.2.2.2.2.1.2.2.2.2.2.2.2, bX1 G q (o + 33) y.2.2.2.2.2.2.1.1 y.2.2.2.2.2.2.1.2.1 y.2.2.2.2.2.2.1.2.2.1 y.2.2.2.2.2.2.1.2.2.2, bX4 G q (o + 36) y.2.2.2.2.2.2.2.1.1 y.2.2.2.2.2.2.2.1.2, bX3 G q (o + 38) y.2.2.2.2.2.2.2.2.1.1 y.2.2.2.2.2.2.2.2.1.2.1 y.2.2.2.2.2.2.2.2.1.2.2.1 y.2.2.2.2.2.2.2.2.1.2.2.2, bX0 G q (o + 43) y.2.2.2.2.2.2.2.2.2.1.2.2.1 y.2.2.2.2.2.2.2.2.2.1.2.2.2, bX2 G q ((o + 43) + 3) y.2.2.2.2.2.2.2.2.2.1.1.1 y.2.2.2.2.2.2.2.2.2.1.1.2.1 y.2.2.2.2.2.2.2.2.2.1.1.2.2.1 y.2.2.2.2.2.2.2.2.2.1.1.2.2.2.1 y.2.2.2.2.2.2.2.2.2.1.1.2.2.2.2.1 y.2.2.2.2.2.2.2.2.2.1.1.2.2.2.2.2.1 y.2.2.2.2.2.2.2.2.2.1.1.2.2.2.2.2.2.1 y.2.2.2.2.2.2.2.2.2.1.1.2.2.2.2.2.2.2, bX4 G q ((o + 43) + 9) y.2.2.2.2.2.2.2.2.2.1.2.1.1 y.2.2.2.2.2.2.2.2.2.1.2.1.2, bX7 G q (o + 54) y.2.2.2.2.2.2.2.2.2.2.1 y.2.2.2.2.2.2.2.2.2.2.2.1 y.2.2.2.2.2.2.2.2.2.2.2.2] := by
  refine z_met zc_X10_out (Nat.le_of_ble_eq_true rfl) ?_
  intro p e s m below meth c A ls hZ hl hw
  have hl : lv_has ls 1 [(0, .ref (q (o + 0)))] := hl
  obtain ⟨hS0, hr, hlk, hK, hA, hT⟩ := id hZ
  have hx := hS0.1
  have hb := hS0.2.1
  have hml := hS0.2.2.1
  have hown : s.vm.findClass RX10 = some m.cls := hS0.2.2.2.1
  have hts := hS0.2.2.2.2
  unfold f_X10_out at hf
  refine lv_aload_n hx hb dX10_out_0 rfl (lv_at hl 0 rfl) ?_
  refine z_get hS0 in_X10_out_X10 hK hw 0 0 rfl rfl rfl (by decide) (hts _ m_X10_out_0) (v := .ref (q ((o + 1) + 0))) rfl dX10_out_1 ?_
  refine lv_aload_n hx hb dX10_out_4 rfl (lv_at hl 0 rfl) ?_
  refine z_get hS0 in_X10_out_X10 hK hw 0 5 rfl rfl rfl (by decide) (hts _ m_X10_out_1) (v := .ref (q ((o + 33) + 0))) rfl dX10_out_5 ?_
  obtain ⟨r1, e2, hf⟩ := z_bd hf
  refine z_callV1 (As := []) (rest := [.ref (q ((o + 1) + 0))]) (bs' := [bX10 G q o, bX9 G q (o + 1) S.1.1 S.1.2.1 S.1.2.2.1 S.1.2.2.2.1 S.1.2.2.2.2, bX6 G q (o + 3) S.2.1.1 S.2.1.2, bX8 G q (o + 12) S.2.2.1.1 S.2.2.1.2, bX5 G q (o + 19) S.2.2.2.1.2.1 S.2.2.2.1.2.2.1 S.2.2.2.1.2.2.2.1 S.2.2.2.1.2.2.2.2, bX2 G q ((o + 19) + 2) S.2.2.2.1.1.1 S.2.2.2.1.1.2.1 S.2.2.2.1.1.2.2.1 S.2.2.2.1.1.2.2.2.1 S.2.2.2.1.1.2.2.2.2.1 S.2.2.2.1.1.2.2.2.2.2.1 S.2.2.2.1.1.2.2.2.2.2.2.1 S.2.2.2.1.1.2.2.2.2.2.2.2, bX2 G q (o + 27) S.2.2.2.2.1.1 S.2.2.2.2.1.2.1 S.2.2.2.2.1.2.2.1 S.2.2.2.2.1.2.2.2.1 S.2.2.2.2.1.2.2.2.2.1 S.2.2.2.2.1.2.2.2.2.2.1 S.2.2.2.2.1.2.2.2.2.2.2.1 S.2.2.2.2.1.2.2.2.2.2.2.2, bX1 G q (o + 33) S.2.2.2.2.2.1.1 S.2.2.2.2.2.1.2.1 S.2.2.2.2.2.1.2.2.1 S.2.2.2.2.2.1.2.2.2, bX4 G q (o + 36) S.2.2.2.2.2.2.1.1 S.2.2.2.2.2.2.1.2, bX3 G q (o + 38) S.2.2.2.2.2.2.2.1.1 S.2.2.2.2.2.2.2.1.2.1 S.2.2.2.2.2.2.2.1.2.2.1 S.2.2.2.2.2.2.2.1.2.2.2, bX0 G q (o + 43) S.2.2.2.2.2.2.2.2.1.2.2.1 S.2.2.2.2.2.2.2.2.1.2.2.2, bX2 G q ((o + 43) + 3) S.2.2.2.2.2.2.2.2.1.1.1 S.2.2.2.2.2.2.2.2.1.1.2.1 S.2.2.2.2.2.2.2.2.1.1.2.2.1 S.2.2.2.2.2.2.2.2.1.1.2.2.2.1 S.2.2.2.2.2.2.2.2.1.1.2.2.2.2.1 S.2.2.2.2.2.2.2.2.1.1.2.2.2.2.2.1 S.2.2.2.2.2.2.2.2.1.1.2.2.2.2.2.2.1 S.2.2.2.2.2.2.2.2.1.1.2.2.2.2.2.2.2, bX4 G q ((o + 43) + 9) S.2.2.2.2.2.2.2.2.1.2.1.1 S.2.2.2.2.2.2.2.2.1.2.1.2, bX7 G q (o + 54) S.2.2.2.2.2.2.2.2.2.1 S.2.2.2.2.2.2.2.2.2.2.1 S.2.2.2.2.2.2.2.2.2.2.2]) hS0 (c_X1_favours l G q (o + 33) S.2.2.2.2.2.1 r1 e2) zc_X1_favours rfl gX10_out_X1_favours ⟨Nat.le_of_ble_eq_true rfl, Nat.le_of_ble_eq_true rfl⟩ hK hA hT hw (is := [7]) rfl rfl rfl rfl rfl rfl rfl hl.1 rfl (Nat.le_of_ble_eq_true rfl) dX10_out_8 (fun H locs hw => ?_)
  obtain ⟨r3, e4, hf⟩ := z_bd hf
  refine z_callV0 (As := [.int r1]) (rest := []) (bs' := [bX10 G q o, bX9 G q (o + 1) r3.1 r3.2.1 r3.2.2.1 r3.2.2.2.1 r3.2.2.2.2, bX6 G q (o + 3) S.2.1.1 S.2.1.2, bX8 G q (o + 12) S.2.2.1.1 S.2.2.1.2, bX5 G q (o + 19) S.2.2.2.1.2.1 S.2.2.2.1.2.2.1 S.2.2.2.1.2.2.2.1 S.2.2.2.1.2.2.2.2, bX2 G q ((o + 19) + 2) S.2.2.2.1.1.1 S.2.2.2.1.1.2.1 S.2.2.2.1.1.2.2.1 S.2.2.2.1.1.2.2.2.1 S.2.2.2.1.1.2.2.2.2.1 S.2.2.2.1.1.2.2.2.2.2.1 S.2.2.2.1.1.2.2.2.2.2.2.1 S.2.2.2.1.1.2.2.2.2.2.2.2, bX2 G q (o + 27) S.2.2.2.2.1.1 S.2.2.2.2.1.2.1 S.2.2.2.2.1.2.2.1 S.2.2.2.2.1.2.2.2.1 S.2.2.2.2.1.2.2.2.2.1 S.2.2.2.2.1.2.2.2.2.2.1 S.2.2.2.2.1.2.2.2.2.2.2.1 S.2.2.2.2.1.2.2.2.2.2.2.2, bX1 G q (o + 33) S.2.2.2.2.2.1.1 S.2.2.2.2.2.1.2.1 S.2.2.2.2.2.1.2.2.1 S.2.2.2.2.2.1.2.2.2, bX4 G q (o + 36) S.2.2.2.2.2.2.1.1 S.2.2.2.2.2.2.1.2, bX3 G q (o + 38) S.2.2.2.2.2.2.2.1.1 S.2.2.2.2.2.2.2.1.2.1 S.2.2.2.2.2.2.2.1.2.2.1 S.2.2.2.2.2.2.2.1.2.2.2, bX0 G q (o + 43) S.2.2.2.2.2.2.2.2.1.2.2.1 S.2.2.2.2.2.2.2.2.1.2.2.2, bX2 G q ((o + 43) + 3) S.2.2.2.2.2.2.2.2.1.1.1 S.2.2.2.2.2.2.2.2.1.1.2.1 S.2.2.2.2.2.2.2.2.1.1.2.2.1 S.2.2.2.2.2.2.2.2.1.1.2.2.2.1 S.2.2.2.2.2.2.2.2.1.1.2.2.2.2.1 S.2.2.2.2.2.2.2.2.1.1.2.2.2.2.2.1 S.2.2.2.2.2.2.2.2.1.1.2.2.2.2.2.2.1 S.2.2.2.2.2.2.2.2.1.1.2.2.2.2.2.2.2, bX4 G q ((o + 43) + 9) S.2.2.2.2.2.2.2.2.1.2.1.1 S.2.2.2.2.2.2.2.2.1.2.1.2, bX7 G q (o + 54) S.2.2.2.2.2.2.2.2.2.1 S.2.2.2.2.2.2.2.2.2.2.1 S.2.2.2.2.2.2.2.2.2.2.2]) hS0 (c_X9_tell l G q (o + 1) S.1 r1 r3 e4) zc_X9_tell rfl gX10_out_X9_tell ⟨Nat.le_of_ble_eq_true rfl, Nat.le_of_ble_eq_true rfl⟩ hK hA hT hw (is := [1]) rfl rfl rfl rfl rfl rfl rfl hl.1 rfl (Nat.le_of_ble_eq_true rfl) dX10_out_11 (fun H locs hw => ?_)
  refine lv_aload_n hx hb dX10_out_14 rfl (lv_at hl 0 rfl) ?_
  refine z_get hS0 in_X10_out_X10 hK hw 0 5 rfl rfl rfl (by decide) (hts _ m_X10_out_1) (v := .ref (q ((o + 33) + 0))) rfl dX10_out_15 ?_
  obtain ⟨r5, e6, hf⟩ := z_bd hf
  refine z_callV1 (As := []) (rest := []) (bs' := [bX10 G q o, bX9 G q (o + 1) r3.1 r3.2.1 r3.2.2.1 r3.2.2.2.1 r3.2.2.2.2, bX6 G q (o + 3) S.2.1.1 S.2.1.2, bX8 G q (o + 12) S.2.2.1.1 S.2.2.1.2, bX5 G q (o + 19) S.2.2.2.1.2.1 S.2.2.2.1.2.2.1 S.2.2.2.1.2.2.2.1 S.2.2.2.1.2.2.2.2, bX2 G q ((o + 19) + 2) S.2.2.2.1.1.1 S.2.2.2.1.1.2.1 S.2.2.2.1.1.2.2.1 S.2.2.2.1.1.2.2.2.1 S.2.2.2.1.1.2.2.2.2.1 S.2.2.2.1.1.2.2.2.2.2.1 S.2.2.2.1.1.2.2.2.2.2.2.1 S.2.2.2.1.1.2.2.2.2.2.2.2, bX2 G q (o + 27) S.2.2.2.2.1.1 S.2.2.2.2.1.2.1 S.2.2.2.2.1.2.2.1 S.2.2.2.2.1.2.2.2.1 S.2.2.2.2.1.2.2.2.2.1 S.2.2.2.2.1.2.2.2.2.2.1 S.2.2.2.2.1.2.2.2.2.2.2.1 S.2.2.2.2.1.2.2.2.2.2.2.2, bX1 G q (o + 33) S.2.2.2.2.2.1.1 S.2.2.2.2.2.1.2.1 S.2.2.2.2.2.1.2.2.1 S.2.2.2.2.2.1.2.2.2, bX4 G q (o + 36) S.2.2.2.2.2.2.1.1 S.2.2.2.2.2.2.1.2, bX3 G q (o + 38) S.2.2.2.2.2.2.2.1.1 S.2.2.2.2.2.2.2.1.2.1 S.2.2.2.2.2.2.2.1.2.2.1 S.2.2.2.2.2.2.2.1.2.2.2, bX0 G q (o + 43) S.2.2.2.2.2.2.2.2.1.2.2.1 S.2.2.2.2.2.2.2.2.1.2.2.2, bX2 G q ((o + 43) + 3) S.2.2.2.2.2.2.2.2.1.1.1 S.2.2.2.2.2.2.2.2.1.1.2.1 S.2.2.2.2.2.2.2.2.1.1.2.2.1 S.2.2.2.2.2.2.2.2.1.1.2.2.2.1 S.2.2.2.2.2.2.2.2.1.1.2.2.2.2.1 S.2.2.2.2.2.2.2.2.1.1.2.2.2.2.2.1 S.2.2.2.2.2.2.2.2.1.1.2.2.2.2.2.2.1 S.2.2.2.2.2.2.2.2.1.1.2.2.2.2.2.2.2, bX4 G q ((o + 43) + 9) S.2.2.2.2.2.2.2.2.1.2.1.1 S.2.2.2.2.2.2.2.2.1.2.1.2, bX7 G q (o + 54) S.2.2.2.2.2.2.2.2.2.1 S.2.2.2.2.2.2.2.2.2.2.1 S.2.2.2.2.2.2.2.2.2.2.2]) hS0 (c_X1_whoIsOut l G q (o + 33) S.2.2.2.2.2.1 r5 e6) zc_X1_whoIsOut rfl gX10_out_X1_whoIsOut ⟨Nat.le_of_ble_eq_true rfl, Nat.le_of_ble_eq_true rfl⟩ hK hA hT hw (is := [7]) rfl rfl rfl rfl rfl rfl rfl hl.1 rfl (Nat.le_of_ble_eq_true rfl) dX10_out_18 (fun H locs hw => ?_)
  cases hf
  exact z_iret hx hb hr hlk hw dX10_out_21
theorem zc_X10_put : zC yX10_put wsX10_put cX10_put 6 (some .int) 3 := ⟨⟨_, rfl⟩, by decide +kernel, by decide +kernel, by decide +kernel, by decide +kernel⟩
theorem m_X10_put_0 : (.fieldLink RX10 26 "CellKeys" "texts" "LCellKeys$Texts;" : Cond) ∈ wsX10_put := by decide +kernel
theorem in_X10_put_X10 : ∀ w ∈ u_ws RX10 TX10 10, w ∈ wsX10_put := by decide +kernel
theorem m_X10_put_1 : (.fieldLink RX10 10 "CellKeys" "told" "LCellKeys$Told;" : Cond) ∈ wsX10_put := by decide +kernel
set_option maxHeartbeats 4000000 in
set_option maxRecDepth 100000 in
theorem c_X10_put (l : Launch) (G : zG) (q : Nat → Nat) (o : Nat) (S : VX10) (v1 : Int32) (v2 : Int32) (v3 : Int32) (y : Int32 × VX10) (hf : f_X10_put S v1 v2 v3 = some y) : zMet l yX10_put wsX10_put 4 87 G [.ref (q (o + 0)), .int v1, .int v2, .int v3] [bX10 G q o, bX9 G q (o + 1) S.1.1 S.1.2.1 S.1.2.2.1 S.1.2.2.2.1 S.1.2.2.2.2, bX6 G q (o + 3) S.2.1.1 S.2.1.2, bX8 G q (o + 12) S.2.2.1.1 S.2.2.1.2, bX5 G q (o + 19) S.2.2.2.1.2.1 S.2.2.2.1.2.2.1 S.2.2.2.1.2.2.2.1 S.2.2.2.1.2.2.2.2, bX2 G q ((o + 19) + 2) S.2.2.2.1.1.1 S.2.2.2.1.1.2.1 S.2.2.2.1.1.2.2.1 S.2.2.2.1.1.2.2.2.1 S.2.2.2.1.1.2.2.2.2.1 S.2.2.2.1.1.2.2.2.2.2.1 S.2.2.2.1.1.2.2.2.2.2.2.1 S.2.2.2.1.1.2.2.2.2.2.2.2, bX2 G q (o + 27) S.2.2.2.2.1.1 S.2.2.2.2.1.2.1 S.2.2.2.2.1.2.2.1 S.2.2.2.2.1.2.2.2.1 S.2.2.2.2.1.2.2.2.2.1 S.2.2.2.2.1.2.2.2.2.2.1 S.2.2.2.2.1.2.2.2.2.2.2.1 S.2.2.2.2.1.2.2.2.2.2.2.2, bX1 G q (o + 33) S.2.2.2.2.2.1.1 S.2.2.2.2.2.1.2.1 S.2.2.2.2.2.1.2.2.1 S.2.2.2.2.2.1.2.2.2, bX4 G q (o + 36) S.2.2.2.2.2.2.1.1 S.2.2.2.2.2.2.1.2, bX3 G q (o + 38) S.2.2.2.2.2.2.2.1.1 S.2.2.2.2.2.2.2.1.2.1 S.2.2.2.2.2.2.2.1.2.2.1 S.2.2.2.2.2.2.2.1.2.2.2, bX0 G q (o + 43) S.2.2.2.2.2.2.2.2.1.2.2.1 S.2.2.2.2.2.2.2.2.1.2.2.2, bX2 G q ((o + 43) + 3) S.2.2.2.2.2.2.2.2.1.1.1 S.2.2.2.2.2.2.2.2.1.1.2.1 S.2.2.2.2.2.2.2.2.1.1.2.2.1 S.2.2.2.2.2.2.2.2.1.1.2.2.2.1 S.2.2.2.2.2.2.2.2.1.1.2.2.2.2.1 S.2.2.2.2.2.2.2.2.1.1.2.2.2.2.2.1 S.2.2.2.2.2.2.2.2.1.1.2.2.2.2.2.2.1 S.2.2.2.2.2.2.2.2.1.1.2.2.2.2.2.2.2, bX4 G q ((o + 43) + 9) S.2.2.2.2.2.2.2.2.1.2.1.1 S.2.2.2.2.2.2.2.2.1.2.1.2, bX7 G q (o + 54) S.2.2.2.2.2.2.2.2.2.1 S.2.2.2.2.2.2.2.2.2.2.1 S.2.2.2.2.2.2.2.2.2.2.2] (some (.int y.1)) [bX10 G q o, bX9 G q (o + 1) y.2.1.1 y.2.1.2.1 y.2.1.2.2.1 y.2.1.2.2.2.1 y.2.1.2.2.2.2, bX6 G q (o + 3) y.2.2.1.1 y.2.2.1.2, bX8 G q (o + 12) y.2.2.2.1.1 y.2.2.2.1.2, bX5 G q (o + 19) y.2.2.2.2.1.2.1 y.2.2.2.2.1.2.2.1 y.2.2.2.2.1.2.2.2.1 y.2.2.2.2.1.2.2.2.2, bX2 G q ((o + 19) + 2) y.2.2.2.2.1.1.1 y.2.2.2.2.1.1.2.1 y.2.2.2.2.1.1.2.2.1 y.2.2.2.2.1.1.2.2.2.1 y.2.2.2.2.1.1.2.2.2.2.1 y.2.2.2.2.1.1.2.2.2.2.2.1 y.2.2.2.2.1.1.2.2.2.2.2.2.1 y.2.2.2.2.1.1.2.2.2.2.2.2.2, bX2 G q (o + 27) y.2.2.2.2.2.1.1 y.2.2.2.2.2.1.2.1 y.2.2.2.2.2.1.2.2.1 y.2.2.2.2.2.1.2.2.2.1 y.2.2.2.2.2.1.2.2.2.2.1 y.2.2.2.2.2.1.2.2.2.2.2.1 y.2.2.2.2.2.1.2.2.2.2.2.2.1 y.2.2.2.2.2.1.2.2.2.2.2.2.2, bX1 G q (o + 33) y.2.2.2.2.2.2.1.1 y.2.2.2.2.2.2.1.2.1 y.2.2.2.2.2.2.1.2.2.1 y.2.2.2.2.2.2.1.2.2.2, bX4 G q (o + 36) y.2.2.2.2.2.2.2.1.1 y.2.2.2.2.2.2.2.1.2, bX3 G q (o + 38) y.2.2.2.2.2.2.2.2.1.1 y.2.2.2.2.2.2.2.2.1.2.1 y.2.2.2.2.2.2.2.2.1.2.2.1 y.2.2.2.2.2.2.2.2.1.2.2.2, bX0 G q (o + 43) y.2.2.2.2.2.2.2.2.2.1.2.2.1 y.2.2.2.2.2.2.2.2.2.1.2.2.2, bX2 G q ((o + 43) + 3) y.2.2.2.2.2.2.2.2.2.1.1.1 y.2.2.2.2.2.2.2.2.2.1.1.2.1 y.2.2.2.2.2.2.2.2.2.1.1.2.2.1 y.2.2.2.2.2.2.2.2.2.1.1.2.2.2.1 y.2.2.2.2.2.2.2.2.2.1.1.2.2.2.2.1 y.2.2.2.2.2.2.2.2.2.1.1.2.2.2.2.2.1 y.2.2.2.2.2.2.2.2.2.1.1.2.2.2.2.2.2.1 y.2.2.2.2.2.2.2.2.2.1.1.2.2.2.2.2.2.2, bX4 G q ((o + 43) + 9) y.2.2.2.2.2.2.2.2.2.1.2.1.1 y.2.2.2.2.2.2.2.2.2.1.2.1.2, bX7 G q (o + 54) y.2.2.2.2.2.2.2.2.2.2.1 y.2.2.2.2.2.2.2.2.2.2.2.1 y.2.2.2.2.2.2.2.2.2.2.2.2] := by
  refine z_met zc_X10_put (Nat.le_of_ble_eq_true rfl) ?_
  intro p e s m below meth c A ls hZ hl hw
  have hl : lv_has ls 6 [(0, .ref (q (o + 0))), (1, .int v1), (2, .int v2), (3, .int v3)] := hl
  obtain ⟨hS0, hr, hlk, hK, hA, hT⟩ := id hZ
  have hx := hS0.1
  have hb := hS0.2.1
  have hml := hS0.2.2.1
  have hown : s.vm.findClass RX10 = some m.cls := hS0.2.2.2.1
  have hts := hS0.2.2.2.2
  unfold f_X10_put at hf
  refine lv_aload_n hx hb dX10_put_0 rfl (lv_at hl 0 rfl) ?_
  refine lv_iload_n hx hb dX10_put_1 rfl (lv_at hl 1 rfl) ?_
  obtain ⟨r1, e2, hf⟩ := z_bd hf
  refine z_callV1 (As := [.int v1]) (rest := []) (bs' := [bX10 G q o, bX9 G q (o + 1) r1.2.1.1 r1.2.1.2.1 r1.2.1.2.2.1 r1.2.1.2.2.2.1 r1.2.1.2.2.2.2, bX6 G q (o + 3) r1.2.2.1.1 r1.2.2.1.2, bX8 G q (o + 12) r1.2.2.2.1.1 r1.2.2.2.1.2, bX5 G q (o + 19) r1.2.2.2.2.1.2.1 r1.2.2.2.2.1.2.2.1 r1.2.2.2.2.1.2.2.2.1 r1.2.2.2.2.1.2.2.2.2, bX2 G q ((o + 19) + 2) r1.2.2.2.2.1.1.1 r1.2.2.2.2.1.1.2.1 r1.2.2.2.2.1.1.2.2.1 r1.2.2.2.2.1.1.2.2.2.1 r1.2.2.2.2.1.1.2.2.2.2.1 r1.2.2.2.2.1.1.2.2.2.2.2.1 r1.2.2.2.2.1.1.2.2.2.2.2.2.1 r1.2.2.2.2.1.1.2.2.2.2.2.2.2, bX2 G q (o + 27) r1.2.2.2.2.2.1.1 r1.2.2.2.2.2.1.2.1 r1.2.2.2.2.2.1.2.2.1 r1.2.2.2.2.2.1.2.2.2.1 r1.2.2.2.2.2.1.2.2.2.2.1 r1.2.2.2.2.2.1.2.2.2.2.2.1 r1.2.2.2.2.2.1.2.2.2.2.2.2.1 r1.2.2.2.2.2.1.2.2.2.2.2.2.2, bX1 G q (o + 33) r1.2.2.2.2.2.2.1.1 r1.2.2.2.2.2.2.1.2.1 r1.2.2.2.2.2.2.1.2.2.1 r1.2.2.2.2.2.2.1.2.2.2, bX4 G q (o + 36) r1.2.2.2.2.2.2.2.1.1 r1.2.2.2.2.2.2.2.1.2, bX3 G q (o + 38) r1.2.2.2.2.2.2.2.2.1.1 r1.2.2.2.2.2.2.2.2.1.2.1 r1.2.2.2.2.2.2.2.2.1.2.2.1 r1.2.2.2.2.2.2.2.2.1.2.2.2, bX0 G q (o + 43) r1.2.2.2.2.2.2.2.2.2.1.2.2.1 r1.2.2.2.2.2.2.2.2.2.1.2.2.2, bX2 G q ((o + 43) + 3) r1.2.2.2.2.2.2.2.2.2.1.1.1 r1.2.2.2.2.2.2.2.2.2.1.1.2.1 r1.2.2.2.2.2.2.2.2.2.1.1.2.2.1 r1.2.2.2.2.2.2.2.2.2.1.1.2.2.2.1 r1.2.2.2.2.2.2.2.2.2.1.1.2.2.2.2.1 r1.2.2.2.2.2.2.2.2.2.1.1.2.2.2.2.2.1 r1.2.2.2.2.2.2.2.2.2.1.1.2.2.2.2.2.2.1 r1.2.2.2.2.2.2.2.2.2.1.1.2.2.2.2.2.2.2, bX4 G q ((o + 43) + 9) r1.2.2.2.2.2.2.2.2.2.1.2.1.1 r1.2.2.2.2.2.2.2.2.2.1.2.1.2, bX7 G q (o + 54) r1.2.2.2.2.2.2.2.2.2.2.1 r1.2.2.2.2.2.2.2.2.2.2.2.1 r1.2.2.2.2.2.2.2.2.2.2.2.2]) hS0 (c_X10_textRefusal l G q o S v1 r1 e2) zc_X10_textRefusal rfl gX10_put_X10_textRefusal ⟨Nat.le_of_ble_eq_true rfl, Nat.le_of_ble_eq_true rfl⟩ hK hA hT hw (is := [0, 1, 2, 3, 4, 5, 6, 7, 8, 9, 10, 11, 12, 13]) rfl rfl rfl rfl rfl rfl rfl hl.1 rfl (Nat.le_of_ble_eq_true rfl) dX10_put_2 (fun H locs hw => ?_)
  refine lv_istore (lv' := [(4, .int r1.1), (0, .ref (q (o + 0))), (1, .int v1), (2, .int v2), (3, .int v3)]) hx hb dX10_put_5 hl (by decide) rfl (fun ls hl => ?_)
  refine lv_iload hx hb dX10_put_7 (lv_at hl 0 rfl) ?_
  refine lv_if_eq (tgt := 15) hx hb dX10_put_9 rfl (fun hc => ?_) (fun hc => ?_)
  · have hf := z_t hc hf
    refine lv_aload_n hx hb dX10_put_15 rfl (lv_at hl 1 rfl) ?_
    refine z_get hS0 in_X10_put_X10 hK hw 0 2 rfl rfl rfl (by decide) (hts _ m_X10_put_0) (v := .ref (q ((o + 12) + 0))) rfl dX10_put_16 ?_
    refine lv_iload_n hx hb dX10_put_19 rfl (lv_at hl 2 rfl) ?_
    refine lv_iload_n hx hb dX10_put_20 rfl (lv_at hl 3 rfl) ?_
    obtain ⟨r3, e4, hf⟩ := z_bd hf
    refine z_callV1 (As := [.int v1, .int v2]) (rest := []) (bs' := [bX10 G q o, bX9 G q (o + 1) r1.2.1.1 r1.2.1.2.1 r1.2.1.2.2.1 r1.2.1.2.2.2.1 r1.2.1.2.2.2.2, bX6 G q (o + 3) r1.2.2.1.1 r1.2.2.1.2, bX8 G q (o + 12) r1.2.2.2.1.1 r1.2.2.2.1.2, bX5 G q (o + 19) r1.2.2.2.2.1.2.1 r1.2.2.2.2.1.2.2.1 r1.2.2.2.2.1.2.2.2.1 r1.2.2.2.2.1.2.2.2.2, bX2 G q ((o + 19) + 2) r1.2.2.2.2.1.1.1 r1.2.2.2.2.1.1.2.1 r1.2.2.2.2.1.1.2.2.1 r1.2.2.2.2.1.1.2.2.2.1 r1.2.2.2.2.1.1.2.2.2.2.1 r1.2.2.2.2.1.1.2.2.2.2.2.1 r1.2.2.2.2.1.1.2.2.2.2.2.2.1 r1.2.2.2.2.1.1.2.2.2.2.2.2.2, bX2 G q (o + 27) r1.2.2.2.2.2.1.1 r1.2.2.2.2.2.1.2.1 r1.2.2.2.2.2.1.2.2.1 r1.2.2.2.2.2.1.2.2.2.1 r1.2.2.2.2.2.1.2.2.2.2.1 r1.2.2.2.2.2.1.2.2.2.2.2.1 r1.2.2.2.2.2.1.2.2.2.2.2.2.1 r1.2.2.2.2.2.1.2.2.2.2.2.2.2, bX1 G q (o + 33) r1.2.2.2.2.2.2.1.1 r1.2.2.2.2.2.2.1.2.1 r1.2.2.2.2.2.2.1.2.2.1 r1.2.2.2.2.2.2.1.2.2.2, bX4 G q (o + 36) r1.2.2.2.2.2.2.2.1.1 r1.2.2.2.2.2.2.2.1.2, bX3 G q (o + 38) r1.2.2.2.2.2.2.2.2.1.1 r1.2.2.2.2.2.2.2.2.1.2.1 r1.2.2.2.2.2.2.2.2.1.2.2.1 r1.2.2.2.2.2.2.2.2.1.2.2.2, bX0 G q (o + 43) r1.2.2.2.2.2.2.2.2.2.1.2.2.1 r1.2.2.2.2.2.2.2.2.2.1.2.2.2, bX2 G q ((o + 43) + 3) r1.2.2.2.2.2.2.2.2.2.1.1.1 r1.2.2.2.2.2.2.2.2.2.1.1.2.1 r1.2.2.2.2.2.2.2.2.2.1.1.2.2.1 r1.2.2.2.2.2.2.2.2.2.1.1.2.2.2.1 r1.2.2.2.2.2.2.2.2.2.1.1.2.2.2.2.1 r1.2.2.2.2.2.2.2.2.2.1.1.2.2.2.2.2.1 r1.2.2.2.2.2.2.2.2.2.1.1.2.2.2.2.2.2.1 r1.2.2.2.2.2.2.2.2.2.1.1.2.2.2.2.2.2.2, bX4 G q ((o + 43) + 9) r1.2.2.2.2.2.2.2.2.2.1.2.1.1 r1.2.2.2.2.2.2.2.2.2.1.2.1.2, bX7 G q (o + 54) r1.2.2.2.2.2.2.2.2.2.2.1 r1.2.2.2.2.2.2.2.2.2.2.2.1 r1.2.2.2.2.2.2.2.2.2.2.2.2]) hS0 (c_X8_isPlace l G q (o + 12) r1.2.2.2.1 v1 v2 r3 e4) zc_X8_isPlace rfl gX10_put_X8_isPlace ⟨Nat.le_of_ble_eq_true rfl, Nat.le_of_ble_eq_true rfl⟩ hK hA hT hw (is := [3]) rfl rfl rfl rfl rfl rfl rfl hl.1 rfl (Nat.le_of_ble_eq_true rfl) dX10_put_21 (fun H locs hw => ?_)
    refine lv_if_ne (tgt := 36) hx hb dX10_put_24 rfl (fun hc => ?_) (fun hc => ?_)
    · have hf := z_f hc hf
      refine lv_aload_n hx hb dX10_put_36 rfl (lv_at hl 1 rfl) ?_
      refine z_get hS0 in_X10_put_X10 hK hw 0 2 rfl rfl rfl (by decide) (hts _ m_X10_put_0) (v := .ref (q ((o + 12) + 0))) rfl dX10_put_37 ?_
      refine lv_iload_n hx hb dX10_put_40 rfl (lv_at hl 2 rfl) ?_
      refine lv_iload_n hx hb dX10_put_41 rfl (lv_at hl 3 rfl) ?_
      obtain ⟨r5, e6, hf⟩ := z_bd hf
      refine z_callV1 (As := [.int v1, .int v2]) (rest := []) (bs' := [bX10 G q o, bX9 G q (o + 1) r1.2.1.1 r1.2.1.2.1 r1.2.1.2.2.1 r1.2.1.2.2.2.1 r1.2.1.2.2.2.2, bX6 G q (o + 3) r1.2.2.1.1 r1.2.2.1.2, bX8 G q (o + 12) r1.2.2.2.1.1 r1.2.2.2.1.2, bX5 G q (o + 19) r1.2.2.2.2.1.2.1 r1.2.2.2.2.1.2.2.1 r1.2.2.2.2.1.2.2.2.1 r1.2.2.2.2.1.2.2.2.2, bX2 G q ((o + 19) + 2) r1.2.2.2.2.1.1.1 r1.2.2.2.2.1.1.2.1 r1.2.2.2.2.1.1.2.2.1 r1.2.2.2.2.1.1.2.2.2.1 r1.2.2.2.2.1.1.2.2.2.2.1 r1.2.2.2.2.1.1.2.2.2.2.2.1 r1.2.2.2.2.1.1.2.2.2.2.2.2.1 r1.2.2.2.2.1.1.2.2.2.2.2.2.2, bX2 G q (o + 27) r1.2.2.2.2.2.1.1 r1.2.2.2.2.2.1.2.1 r1.2.2.2.2.2.1.2.2.1 r1.2.2.2.2.2.1.2.2.2.1 r1.2.2.2.2.2.1.2.2.2.2.1 r1.2.2.2.2.2.1.2.2.2.2.2.1 r1.2.2.2.2.2.1.2.2.2.2.2.2.1 r1.2.2.2.2.2.1.2.2.2.2.2.2.2, bX1 G q (o + 33) r1.2.2.2.2.2.2.1.1 r1.2.2.2.2.2.2.1.2.1 r1.2.2.2.2.2.2.1.2.2.1 r1.2.2.2.2.2.2.1.2.2.2, bX4 G q (o + 36) r1.2.2.2.2.2.2.2.1.1 r1.2.2.2.2.2.2.2.1.2, bX3 G q (o + 38) r1.2.2.2.2.2.2.2.2.1.1 r1.2.2.2.2.2.2.2.2.1.2.1 r1.2.2.2.2.2.2.2.2.1.2.2.1 r1.2.2.2.2.2.2.2.2.1.2.2.2, bX0 G q (o + 43) r1.2.2.2.2.2.2.2.2.2.1.2.2.1 r1.2.2.2.2.2.2.2.2.2.1.2.2.2, bX2 G q ((o + 43) + 3) r1.2.2.2.2.2.2.2.2.2.1.1.1 r1.2.2.2.2.2.2.2.2.2.1.1.2.1 r1.2.2.2.2.2.2.2.2.2.1.1.2.2.1 r1.2.2.2.2.2.2.2.2.2.1.1.2.2.2.1 r1.2.2.2.2.2.2.2.2.2.1.1.2.2.2.2.1 r1.2.2.2.2.2.2.2.2.2.1.1.2.2.2.2.2.1 r1.2.2.2.2.2.2.2.2.2.1.1.2.2.2.2.2.2.1 r1.2.2.2.2.2.2.2.2.2.1.1.2.2.2.2.2.2.2, bX4 G q ((o + 43) + 9) r1.2.2.2.2.2.2.2.2.2.1.2.1.1 r1.2.2.2.2.2.2.2.2.2.1.2.1.2, bX7 G q (o + 54) r1.2.2.2.2.2.2.2.2.2.2.1 r1.2.2.2.2.2.2.2.2.2.2.2.1 r1.2.2.2.2.2.2.2.2.2.2.2.2]) hS0 (c_X8_get l G q (o + 12) r1.2.2.2.1 v1 v2 r5 e6) zc_X8_get rfl gX10_put_X8_get ⟨Nat.le_of_ble_eq_true rfl, Nat.le_of_ble_eq_true rfl⟩ hK hA hT hw (is := [3]) rfl rfl rfl rfl rfl rfl rfl hl.1 rfl (Nat.le_of_ble_eq_true rfl) dX10_put_42 (fun H locs hw => ?_)
      refine lv_istore (lv' := [(5, .int r5), (4, .int r1.1), (0, .ref (q (o + 0))), (1, .int v1), (2, .int v2), (3, .int v3)]) hx hb dX10_put_45 hl (by decide) rfl (fun ls hl => ?_)
      refine lv_aload_n hx hb dX10_put_47 rfl (lv_at hl 2 rfl) ?_
      refine z_get hS0 in_X10_put_X10 hK hw 0 2 rfl rfl rfl (by decide) (hts _ m_X10_put_0) (v := .ref (q ((o + 12) + 0))) rfl dX10_put_48 ?_
      refine lv_iload_n hx hb dX10_put_51 rfl (lv_at hl 3 rfl) ?_
      refine lv_iload_n hx hb dX10_put_52 rfl (lv_at hl 4 rfl) ?_
      refine lv_iload_n hx hb dX10_put_53 rfl (lv_at hl 5 rfl) ?_
      refine lv_i2b (v := v3.toInt8.toInt32) hx hb dX10_put_54 rfl ?_
      obtain ⟨r7, e8, hf⟩ := z_bd hf
      refine z_callV0 (As := [.int v1, .int v2, .int v3.toInt8.toInt32]) (rest := []) (bs' := [bX10 G q o, bX9 G q (o + 1) r1.2.1.1 r1.2.1.2.1 r1.2.1.2.2.1 r1.2.1.2.2.2.1 r1.2.1.2.2.2.2, bX6 G q (o + 3) r1.2.2.1.1 r1.2.2.1.2, bX8 G q (o + 12) r7.1 r7.2, bX5 G q (o + 19) r1.2.2.2.2.1.2.1 r1.2.2.2.2.1.2.2.1 r1.2.2.2.2.1.2.2.2.1 r1.2.2.2.2.1.2.2.2.2, bX2 G q ((o + 19) + 2) r1.2.2.2.2.1.1.1 r1.2.2.2.2.1.1.2.1 r1.2.2.2.2.1.1.2.2.1 r1.2.2.2.2.1.1.2.2.2.1 r1.2.2.2.2.1.1.2.2.2.2.1 r1.2.2.2.2.1.1.2.2.2.2.2.1 r1.2.2.2.2.1.1.2.2.2.2.2.2.1 r1.2.2.2.2.1.1.2.2.2.2.2.2.2, bX2 G q (o + 27) r1.2.2.2.2.2.1.1 r1.2.2.2.2.2.1.2.1 r1.2.2.2.2.2.1.2.2.1 r1.2.2.2.2.2.1.2.2.2.1 r1.2.2.2.2.2.1.2.2.2.2.1 r1.2.2.2.2.2.1.2.2.2.2.2.1 r1.2.2.2.2.2.1.2.2.2.2.2.2.1 r1.2.2.2.2.2.1.2.2.2.2.2.2.2, bX1 G q (o + 33) r1.2.2.2.2.2.2.1.1 r1.2.2.2.2.2.2.1.2.1 r1.2.2.2.2.2.2.1.2.2.1 r1.2.2.2.2.2.2.1.2.2.2, bX4 G q (o + 36) r1.2.2.2.2.2.2.2.1.1 r1.2.2.2.2.2.2.2.1.2, bX3 G q (o + 38) r1.2.2.2.2.2.2.2.2.1.1 r1.2.2.2.2.2.2.2.2.1.2.1 r1.2.2.2.2.2.2.2.2.1.2.2.1 r1.2.2.2.2.2.2.2.2.1.2.2.2, bX0 G q (o + 43) r1.2.2.2.2.2.2.2.2.2.1.2.2.1 r1.2.2.2.2.2.2.2.2.2.1.2.2.2, bX2 G q ((o + 43) + 3) r1.2.2.2.2.2.2.2.2.2.1.1.1 r1.2.2.2.2.2.2.2.2.2.1.1.2.1 r1.2.2.2.2.2.2.2.2.2.1.1.2.2.1 r1.2.2.2.2.2.2.2.2.2.1.1.2.2.2.1 r1.2.2.2.2.2.2.2.2.2.1.1.2.2.2.2.1 r1.2.2.2.2.2.2.2.2.2.1.1.2.2.2.2.2.1 r1.2.2.2.2.2.2.2.2.2.1.1.2.2.2.2.2.2.1 r1.2.2.2.2.2.2.2.2.2.1.1.2.2.2.2.2.2.2, bX4 G q ((o + 43) + 9) r1.2.2.2.2.2.2.2.2.2.1.2.1.1 r1.2.2.2.2.2.2.2.2.2.1.2.1.2, bX7 G q (o + 54) r1.2.2.2.2.2.2.2.2.2.2.1 r1.2.2.2.2.2.2.2.2.2.2.2.1 r1.2.2.2.2.2.2.2.2.2.2.2.2]) hS0 (c_X8_set l G q (o + 12) r1.2.2.2.1 v1 v2 v3.toInt8.toInt32 r7 e8) zc_X8_set rfl gX10_put_X8_set ⟨Nat.le_of_ble_eq_true rfl, Nat.le_of_ble_eq_true rfl⟩ hK hA hT hw (is := [3]) rfl rfl rfl rfl rfl rfl rfl hl.1 rfl (Nat.le_of_ble_eq_true rfl) dX10_put_55 (fun H locs hw => ?_)
      refine lv_iload hx hb dX10_put_58 (lv_at hl 0 rfl) ?_
      refine lv_sipush (v := 1000) hx hb dX10_put_60 rfl ?_
      refine lv_iadd hx hb dX10_put_63 ?_
      cases hf
      exact z_iret hx hb hr hlk hw dX10_put_64
    · have hf := z_t hc hf
      refine lv_aload_n hx hb dX10_put_27 rfl (lv_at hl 1 rfl) ?_
      refine z_get hS0 in_X10_put_X10 hK hw 0 0 rfl rfl rfl (by decide) (hts _ m_X10_put_1) (v := .ref (q ((o + 1) + 0))) rfl dX10_put_28 ?_
      refine lv_iconst (v := 2) hx hb dX10_put_31 rfl ?_
      obtain ⟨r9, e10, hf⟩ := z_bd hf
      refine z_callV1 (As := [.int 2]) (rest := []) (bs' := [bX10 G q o, bX9 G q (o + 1) r9.2.1 r9.2.2.1 r9.2.2.2.1 r9.2.2.2.2.1 r9.2.2.2.2.2, bX6 G q (o + 3) r1.2.2.1.1 r1.2.2.1.2, bX8 G q (o + 12) r1.2.2.2.1.1 r1.2.2.2.1.2, bX5 G q (o + 19) r1.2.2.2.2.1.2.1 r1.2.2.2.2.1.2.2.1 r1.2.2.2.2.1.2.2.2.1 r1.2.2.2.2.1.2.2.2.2, bX2 G q ((o + 19) + 2) r1.2.2.2.2.1.1.1 r1.2.2.2.2.1.1.2.1 r1.2.2.2.2.1.1.2.2.1 r1.2.2.2.2.1.1.2.2.2.1 r1.2.2.2.2.1.1.2.2.2.2.1 r1.2.2.2.2.1.1.2.2.2.2.2.1 r1.2.2.2.2.1.1.2.2.2.2.2.2.1 r1.2.2.2.2.1.1.2.2.2.2.2.2.2, bX2 G q (o + 27) r1.2.2.2.2.2.1.1 r1.2.2.2.2.2.1.2.1 r1.2.2.2.2.2.1.2.2.1 r1.2.2.2.2.2.1.2.2.2.1 r1.2.2.2.2.2.1.2.2.2.2.1 r1.2.2.2.2.2.1.2.2.2.2.2.1 r1.2.2.2.2.2.1.2.2.2.2.2.2.1 r1.2.2.2.2.2.1.2.2.2.2.2.2.2, bX1 G q (o + 33) r1.2.2.2.2.2.2.1.1 r1.2.2.2.2.2.2.1.2.1 r1.2.2.2.2.2.2.1.2.2.1 r1.2.2.2.2.2.2.1.2.2.2, bX4 G q (o + 36) r1.2.2.2.2.2.2.2.1.1 r1.2.2.2.2.2.2.2.1.2, bX3 G q (o + 38) r1.2.2.2.2.2.2.2.2.1.1 r1.2.2.2.2.2.2.2.2.1.2.1 r1.2.2.2.2.2.2.2.2.1.2.2.1 r1.2.2.2.2.2.2.2.2.1.2.2.2, bX0 G q (o + 43) r1.2.2.2.2.2.2.2.2.2.1.2.2.1 r1.2.2.2.2.2.2.2.2.2.1.2.2.2, bX2 G q ((o + 43) + 3) r1.2.2.2.2.2.2.2.2.2.1.1.1 r1.2.2.2.2.2.2.2.2.2.1.1.2.1 r1.2.2.2.2.2.2.2.2.2.1.1.2.2.1 r1.2.2.2.2.2.2.2.2.2.1.1.2.2.2.1 r1.2.2.2.2.2.2.2.2.2.1.1.2.2.2.2.1 r1.2.2.2.2.2.2.2.2.2.1.1.2.2.2.2.2.1 r1.2.2.2.2.2.2.2.2.2.1.1.2.2.2.2.2.2.1 r1.2.2.2.2.2.2.2.2.2.1.1.2.2.2.2.2.2.2, bX4 G q ((o + 43) + 9) r1.2.2.2.2.2.2.2.2.2.1.2.1.1 r1.2.2.2.2.2.2.2.2.2.1.2.1.2, bX7 G q (o + 54) r1.2.2.2.2.2.2.2.2.2.2.1 r1.2.2.2.2.2.2.2.2.2.2.2.1 r1.2.2.2.2.2.2.2.2.2.2.2.2]) hS0 (c_X9_found l G q (o + 1) r1.2.1 2 r9 e10) zc_X9_found rfl gX10_put_X9_found ⟨Nat.le_of_ble_eq_true rfl, Nat.le_of_ble_eq_true rfl⟩ hK hA hT hw (is := [1]) rfl rfl rfl rfl rfl rfl rfl hl.1 rfl (Nat.le_of_ble_eq_true rfl) dX10_put_32 (fun H locs hw => ?_)
      cases hf
      exact z_iret hx hb hr hlk hw dX10_put_35
  · have hf := z_f hc hf
    refine lv_iload hx hb dX10_put_12 (lv_at hl 0 rfl) ?_
    cases hf
    exact z_iret hx hb hr hlk hw dX10_put_14
theorem zc_X10_quarrel : zC yX10_quarrel wsX10_quarrel cX10_quarrel 5 (some .int) 3 := ⟨⟨_, rfl⟩, by decide +kernel, by decide +kernel, by decide +kernel, by decide +kernel⟩
theorem m_X10_quarrel_0 : (.fieldLink RX10 40 "CellKeys" "jail" "LCellKeys$Jail;" : Cond) ∈ wsX10_quarrel := by decide +kernel
theorem in_X10_quarrel_X10 : ∀ w ∈ u_ws RX10 TX10 10, w ∈ wsX10_quarrel := by decide +kernel
set_option maxHeartbeats 4000000 in
set_option maxRecDepth 100000 in
theorem c_X10_quarrel (l : Launch) (G : zG) (q : Nat → Nat) (o : Nat) (S : VX10) (v1 : Int32) (v2 : Int32) (v3 : Int32) (y : Int32 × VX10) (hf : f_X10_quarrel S v1 v2 v3 = some y) : zMet l yX10_quarrel wsX10_quarrel 2 44 G [.ref (q (o + 0)), .int v1, .int v2, .int v3] [bX10 G q o, bX9 G q (o + 1) S.1.1 S.1.2.1 S.1.2.2.1 S.1.2.2.2.1 S.1.2.2.2.2, bX6 G q (o + 3) S.2.1.1 S.2.1.2, bX8 G q (o + 12) S.2.2.1.1 S.2.2.1.2, bX5 G q (o + 19) S.2.2.2.1.2.1 S.2.2.2.1.2.2.1 S.2.2.2.1.2.2.2.1 S.2.2.2.1.2.2.2.2, bX2 G q ((o + 19) + 2) S.2.2.2.1.1.1 S.2.2.2.1.1.2.1 S.2.2.2.1.1.2.2.1 S.2.2.2.1.1.2.2.2.1 S.2.2.2.1.1.2.2.2.2.1 S.2.2.2.1.1.2.2.2.2.2.1 S.2.2.2.1.1.2.2.2.2.2.2.1 S.2.2.2.1.1.2.2.2.2.2.2.2, bX2 G q (o + 27) S.2.2.2.2.1.1 S.2.2.2.2.1.2.1 S.2.2.2.2.1.2.2.1 S.2.2.2.2.1.2.2.2.1 S.2.2.2.2.1.2.2.2.2.1 S.2.2.2.2.1.2.2.2.2.2.1 S.2.2.2.2.1.2.2.2.2.2.2.1 S.2.2.2.2.1.2.2.2.2.2.2.2, bX1 G q (o + 33) S.2.2.2.2.2.1.1 S.2.2.2.2.2.1.2.1 S.2.2.2.2.2.1.2.2.1 S.2.2.2.2.2.1.2.2.2, bX4 G q (o + 36) S.2.2.2.2.2.2.1.1 S.2.2.2.2.2.2.1.2, bX3 G q (o + 38) S.2.2.2.2.2.2.2.1.1 S.2.2.2.2.2.2.2.1.2.1 S.2.2.2.2.2.2.2.1.2.2.1 S.2.2.2.2.2.2.2.1.2.2.2, bX0 G q (o + 43) S.2.2.2.2.2.2.2.2.1.2.2.1 S.2.2.2.2.2.2.2.2.1.2.2.2, bX2 G q ((o + 43) + 3) S.2.2.2.2.2.2.2.2.1.1.1 S.2.2.2.2.2.2.2.2.1.1.2.1 S.2.2.2.2.2.2.2.2.1.1.2.2.1 S.2.2.2.2.2.2.2.2.1.1.2.2.2.1 S.2.2.2.2.2.2.2.2.1.1.2.2.2.2.1 S.2.2.2.2.2.2.2.2.1.1.2.2.2.2.2.1 S.2.2.2.2.2.2.2.2.1.1.2.2.2.2.2.2.1 S.2.2.2.2.2.2.2.2.1.1.2.2.2.2.2.2.2, bX4 G q ((o + 43) + 9) S.2.2.2.2.2.2.2.2.1.2.1.1 S.2.2.2.2.2.2.2.2.1.2.1.2, bX7 G q (o + 54) S.2.2.2.2.2.2.2.2.2.1 S.2.2.2.2.2.2.2.2.2.2.1 S.2.2.2.2.2.2.2.2.2.2.2] (some (.int y.1)) [bX10 G q o, bX9 G q (o + 1) y.2.1.1 y.2.1.2.1 y.2.1.2.2.1 y.2.1.2.2.2.1 y.2.1.2.2.2.2, bX6 G q (o + 3) y.2.2.1.1 y.2.2.1.2, bX8 G q (o + 12) y.2.2.2.1.1 y.2.2.2.1.2, bX5 G q (o + 19) y.2.2.2.2.1.2.1 y.2.2.2.2.1.2.2.1 y.2.2.2.2.1.2.2.2.1 y.2.2.2.2.1.2.2.2.2, bX2 G q ((o + 19) + 2) y.2.2.2.2.1.1.1 y.2.2.2.2.1.1.2.1 y.2.2.2.2.1.1.2.2.1 y.2.2.2.2.1.1.2.2.2.1 y.2.2.2.2.1.1.2.2.2.2.1 y.2.2.2.2.1.1.2.2.2.2.2.1 y.2.2.2.2.1.1.2.2.2.2.2.2.1 y.2.2.2.2.1.1.2.2.2.2.2.2.2, bX2 G q (o + 27) y.2.2.2.2.2.1.1 y.2.2.2.2.2.1.2.1 y.2.2.2.2.2.1.2.2.1 y.2.2.2.2.2.1.2.2.2.1 y.2.2.2.2.2.1.2.2.2.2.1 y.2.2.2.2.2.1.2.2.2.2.2.1 y.2.2.2.2.2.1.2.2.2.2.2.2.1 y.2.2.2.2.2.1.2.2.2.2.2.2.2, bX1 G q (o + 33) y.2.2.2.2.2.2.1.1 y.2.2.2.2.2.2.1.2.1 y.2.2.2.2.2.2.1.2.2.1 y.2.2.2.2.2.2.1.2.2.2, bX4 G q (o + 36) y.2.2.2.2.2.2.2.1.1 y.2.2.2.2.2.2.2.1.2, bX3 G q (o + 38) y.2.2.2.2.2.2.2.2.1.1 y.2.2.2.2.2.2.2.2.1.2.1 y.2.2.2.2.2.2.2.2.1.2.2.1 y.2.2.2.2.2.2.2.2.1.2.2.2, bX0 G q (o + 43) y.2.2.2.2.2.2.2.2.2.1.2.2.1 y.2.2.2.2.2.2.2.2.2.1.2.2.2, bX2 G q ((o + 43) + 3) y.2.2.2.2.2.2.2.2.2.1.1.1 y.2.2.2.2.2.2.2.2.2.1.1.2.1 y.2.2.2.2.2.2.2.2.2.1.1.2.2.1 y.2.2.2.2.2.2.2.2.2.1.1.2.2.2.1 y.2.2.2.2.2.2.2.2.2.1.1.2.2.2.2.1 y.2.2.2.2.2.2.2.2.2.1.1.2.2.2.2.2.1 y.2.2.2.2.2.2.2.2.2.1.1.2.2.2.2.2.2.1 y.2.2.2.2.2.2.2.2.2.1.1.2.2.2.2.2.2.2, bX4 G q ((o + 43) + 9) y.2.2.2.2.2.2.2.2.2.1.2.1.1 y.2.2.2.2.2.2.2.2.2.1.2.1.2, bX7 G q (o + 54) y.2.2.2.2.2.2.2.2.2.2.1 y.2.2.2.2.2.2.2.2.2.2.2.1 y.2.2.2.2.2.2.2.2.2.2.2.2] := by
  refine z_met zc_X10_quarrel (Nat.le_of_ble_eq_true rfl) ?_
  intro p e s m below meth c A ls hZ hl hw
  have hl : lv_has ls 5 [(0, .ref (q (o + 0))), (1, .int v1), (2, .int v2), (3, .int v3)] := hl
  obtain ⟨hS0, hr, hlk, hK, hA, hT⟩ := id hZ
  have hx := hS0.1
  have hb := hS0.2.1
  have hml := hS0.2.2.1
  have hown : s.vm.findClass RX10 = some m.cls := hS0.2.2.2.1
  have hts := hS0.2.2.2.2
  unfold f_X10_quarrel at hf
  refine lv_aload_n hx hb dX10_quarrel_0 rfl (lv_at hl 0 rfl) ?_
  refine z_get hS0 in_X10_quarrel_X10 hK hw 0 4 rfl rfl rfl (by decide) (hts _ m_X10_quarrel_0) (v := .ref (q ((o + 27) + 0))) rfl dX10_quarrel_1 ?_
  refine lv_iload_n hx hb dX10_quarrel_4 rfl (lv_at hl 1 rfl) ?_
  obtain ⟨r1, e2, hf⟩ := z_bd hf
  refine z_callV1 (As := [.int v1]) (rest := []) (bs' := [bX10 G q o, bX9 G q (o + 1) S.1.1 S.1.2.1 S.1.2.2.1 S.1.2.2.2.1 S.1.2.2.2.2, bX6 G q (o + 3) S.2.1.1 S.2.1.2, bX8 G q (o + 12) S.2.2.1.1 S.2.2.1.2, bX5 G q (o + 19) S.2.2.2.1.2.1 S.2.2.2.1.2.2.1 S.2.2.2.1.2.2.2.1 S.2.2.2.1.2.2.2.2, bX2 G q ((o + 19) + 2) S.2.2.2.1.1.1 S.2.2.2.1.1.2.1 S.2.2.2.1.1.2.2.1 S.2.2.2.1.1.2.2.2.1 S.2.2.2.1.1.2.2.2.2.1 S.2.2.2.1.1.2.2.2.2.2.1 S.2.2.2.1.1.2.2.2.2.2.2.1 S.2.2.2.1.1.2.2.2.2.2.2.2, bX2 G q (o + 27) S.2.2.2.2.1.1 S.2.2.2.2.1.2.1 S.2.2.2.2.1.2.2.1 S.2.2.2.2.1.2.2.2.1 S.2.2.2.2.1.2.2.2.2.1 S.2.2.2.2.1.2.2.2.2.2.1 S.2.2.2.2.1.2.2.2.2.2.2.1 S.2.2.2.2.1.2.2.2.2.2.2.2, bX1 G q (o + 33) S.2.2.2.2.2.1.1 S.2.2.2.2.2.1.2.1 S.2.2.2.2.2.1.2.2.1 S.2.2.2.2.2.1.2.2.2, bX4 G q (o + 36) S.2.2.2.2.2.2.1.1 S.2.2.2.2.2.2.1.2, bX3 G q (o + 38) S.2.2.2.2.2.2.2.1.1 S.2.2.2.2.2.2.2.1.2.1 S.2.2.2.2.2.2.2.1.2.2.1 S.2.2.2.2.2.2.2.1.2.2.2, bX0 G q (o + 43) S.2.2.2.2.2.2.2.2.1.2.2.1 S.2.2.2.2.2.2.2.2.1.2.2.2, bX2 G q ((o + 43) + 3) S.2.2.2.2.2.2.2.2.1.1.1 S.2.2.2.2.2.2.2.2.1.1.2.1 S.2.2.2.2.2.2.2.2.1.1.2.2.1 S.2.2.2.2.2.2.2.2.1.1.2.2.2.1 S.2.2.2.2.2.2.2.2.1.1.2.2.2.2.1 S.2.2.2.2.2.2.2.2.1.1.2.2.2.2.2.1 S.2.2.2.2.2.2.2.2.1.1.2.2.2.2.2.2.1 S.2.2.2.2.2.2.2.2.1.1.2.2.2.2.2.2.2, bX4 G q ((o + 43) + 9) S.2.2.2.2.2.2.2.2.1.2.1.1 S.2.2.2.2.2.2.2.2.1.2.1.2, bX7 G q (o + 54) S.2.2.2.2.2.2.2.2.2.1 S.2.2.2.2.2.2.2.2.2.2.1 S.2.2.2.2.2.2.2.2.2.2.2]) hS0 (c_X2_isCell l G q (o + 27) S.2.2.2.2.1 v1 r1 e2) zc_X2_isCell rfl gX10_quarrel_X2_isCell ⟨Nat.le_of_ble_eq_true rfl, Nat.le_of_ble_eq_true rfl⟩ hK hA hT hw (is := [6]) rfl rfl rfl rfl rfl rfl rfl hl.1 rfl (Nat.le_of_ble_eq_true rfl) dX10_quarrel_5 (fun H locs hw => ?_)
  refine lv_if_eq (tgt := 34) hx hb dX10_quarrel_8 rfl (fun hc => ?_) (fun hc => ?_)
  · have hf := z_t hc hf
    refine lv_iconst (v := (-1)) hx hb dX10_quarrel_34 rfl ?_
    cases hf
    exact z_iret hx hb hr hlk hw dX10_quarrel_35
  · have hf := z_f hc hf
    refine lv_aload_n hx hb dX10_quarrel_11 rfl (lv_at hl 0 rfl) ?_
    refine z_get hS0 in_X10_quarrel_X10 hK hw 0 4 rfl rfl rfl (by decide) (hts _ m_X10_quarrel_0) (v := .ref (q ((o + 27) + 0))) rfl dX10_quarrel_12 ?_
    refine lv_iload_n hx hb dX10_quarrel_15 rfl (lv_at hl 2 rfl) ?_
    obtain ⟨r3, e4, hf⟩ := z_bd hf
    refine z_callV1 (As := [.int v2]) (rest := []) (bs' := [bX10 G q o, bX9 G q (o + 1) S.1.1 S.1.2.1 S.1.2.2.1 S.1.2.2.2.1 S.1.2.2.2.2, bX6 G q (o + 3) S.2.1.1 S.2.1.2, bX8 G q (o + 12) S.2.2.1.1 S.2.2.1.2, bX5 G q (o + 19) S.2.2.2.1.2.1 S.2.2.2.1.2.2.1 S.2.2.2.1.2.2.2.1 S.2.2.2.1.2.2.2.2, bX2 G q ((o + 19) + 2) S.2.2.2.1.1.1 S.2.2.2.1.1.2.1 S.2.2.2.1.1.2.2.1 S.2.2.2.1.1.2.2.2.1 S.2.2.2.1.1.2.2.2.2.1 S.2.2.2.1.1.2.2.2.2.2.1 S.2.2.2.1.1.2.2.2.2.2.2.1 S.2.2.2.1.1.2.2.2.2.2.2.2, bX2 G q (o + 27) S.2.2.2.2.1.1 S.2.2.2.2.1.2.1 S.2.2.2.2.1.2.2.1 S.2.2.2.2.1.2.2.2.1 S.2.2.2.2.1.2.2.2.2.1 S.2.2.2.2.1.2.2.2.2.2.1 S.2.2.2.2.1.2.2.2.2.2.2.1 S.2.2.2.2.1.2.2.2.2.2.2.2, bX1 G q (o + 33) S.2.2.2.2.2.1.1 S.2.2.2.2.2.1.2.1 S.2.2.2.2.2.1.2.2.1 S.2.2.2.2.2.1.2.2.2, bX4 G q (o + 36) S.2.2.2.2.2.2.1.1 S.2.2.2.2.2.2.1.2, bX3 G q (o + 38) S.2.2.2.2.2.2.2.1.1 S.2.2.2.2.2.2.2.1.2.1 S.2.2.2.2.2.2.2.1.2.2.1 S.2.2.2.2.2.2.2.1.2.2.2, bX0 G q (o + 43) S.2.2.2.2.2.2.2.2.1.2.2.1 S.2.2.2.2.2.2.2.2.1.2.2.2, bX2 G q ((o + 43) + 3) S.2.2.2.2.2.2.2.2.1.1.1 S.2.2.2.2.2.2.2.2.1.1.2.1 S.2.2.2.2.2.2.2.2.1.1.2.2.1 S.2.2.2.2.2.2.2.2.1.1.2.2.2.1 S.2.2.2.2.2.2.2.2.1.1.2.2.2.2.1 S.2.2.2.2.2.2.2.2.1.1.2.2.2.2.2.1 S.2.2.2.2.2.2.2.2.1.1.2.2.2.2.2.2.1 S.2.2.2.2.2.2.2.2.1.1.2.2.2.2.2.2.2, bX4 G q ((o + 43) + 9) S.2.2.2.2.2.2.2.2.1.2.1.1 S.2.2.2.2.2.2.2.2.1.2.1.2, bX7 G q (o + 54) S.2.2.2.2.2.2.2.2.2.1 S.2.2.2.2.2.2.2.2.2.2.1 S.2.2.2.2.2.2.2.2.2.2.2]) hS0 (c_X2_isCell l G q (o + 27) S.2.2.2.2.1 v2 r3 e4) zc_X2_isCell rfl gX10_quarrel_X2_isCell ⟨Nat.le_of_ble_eq_true rfl, Nat.le_of_ble_eq_true rfl⟩ hK hA hT hw (is := [6]) rfl rfl rfl rfl rfl rfl rfl hl.1 rfl (Nat.le_of_ble_eq_true rfl) dX10_quarrel_16 (fun H locs hw => ?_)
    refine lv_if_eq (tgt := 34) hx hb dX10_quarrel_19 rfl (fun hc => ?_) (fun hc => ?_)
    · have hf := z_t hc hf
      refine lv_iconst (v := (-1)) hx hb dX10_quarrel_34 rfl ?_
      cases hf
      exact z_iret hx hb hr hlk hw dX10_quarrel_35
    · have hf := z_f hc hf
      refine lv_iload_n hx hb dX10_quarrel_22 rfl (lv_at hl 1 rfl) ?_
      refine lv_iload_n hx hb dX10_quarrel_23 rfl (lv_at hl 2 rfl) ?_
      refine lv_icmp_eq (tgt := 34) hx hb dX10_quarrel_24 rfl (fun hc => ?_) (fun hc => ?_)
      · have hf := z_t hc hf
        refine lv_iconst (v := (-1)) hx hb dX10_quarrel_34 rfl ?_
        cases hf
        exact z_iret hx hb hr hlk hw dX10_quarrel_35
      · have hf := z_f hc hf
        refine lv_iload_n hx hb dX10_quarrel_27 rfl (lv_at hl 3 rfl) ?_
        obtain ⟨r5, e6, hf⟩ := z_bd hf
        refine z_callS1 (As := [.int v3]) (rest := []) (bs' := [bX10 G q o, bX9 G q (o + 1) S.1.1 S.1.2.1 S.1.2.2.1 S.1.2.2.2.1 S.1.2.2.2.2, bX6 G q (o + 3) S.2.1.1 S.2.1.2, bX8 G q (o + 12) S.2.2.1.1 S.2.2.1.2, bX5 G q (o + 19) S.2.2.2.1.2.1 S.2.2.2.1.2.2.1 S.2.2.2.1.2.2.2.1 S.2.2.2.1.2.2.2.2, bX2 G q ((o + 19) + 2) S.2.2.2.1.1.1 S.2.2.2.1.1.2.1 S.2.2.2.1.1.2.2.1 S.2.2.2.1.1.2.2.2.1 S.2.2.2.1.1.2.2.2.2.1 S.2.2.2.1.1.2.2.2.2.2.1 S.2.2.2.1.1.2.2.2.2.2.2.1 S.2.2.2.1.1.2.2.2.2.2.2.2, bX2 G q (o + 27) S.2.2.2.2.1.1 S.2.2.2.2.1.2.1 S.2.2.2.2.1.2.2.1 S.2.2.2.2.1.2.2.2.1 S.2.2.2.2.1.2.2.2.2.1 S.2.2.2.2.1.2.2.2.2.2.1 S.2.2.2.2.1.2.2.2.2.2.2.1 S.2.2.2.2.1.2.2.2.2.2.2.2, bX1 G q (o + 33) S.2.2.2.2.2.1.1 S.2.2.2.2.2.1.2.1 S.2.2.2.2.2.1.2.2.1 S.2.2.2.2.2.1.2.2.2, bX4 G q (o + 36) S.2.2.2.2.2.2.1.1 S.2.2.2.2.2.2.1.2, bX3 G q (o + 38) S.2.2.2.2.2.2.2.1.1 S.2.2.2.2.2.2.2.1.2.1 S.2.2.2.2.2.2.2.1.2.2.1 S.2.2.2.2.2.2.2.1.2.2.2, bX0 G q (o + 43) S.2.2.2.2.2.2.2.2.1.2.2.1 S.2.2.2.2.2.2.2.2.1.2.2.2, bX2 G q ((o + 43) + 3) S.2.2.2.2.2.2.2.2.1.1.1 S.2.2.2.2.2.2.2.2.1.1.2.1 S.2.2.2.2.2.2.2.2.1.1.2.2.1 S.2.2.2.2.2.2.2.2.1.1.2.2.2.1 S.2.2.2.2.2.2.2.2.1.1.2.2.2.2.1 S.2.2.2.2.2.2.2.2.1.1.2.2.2.2.2.1 S.2.2.2.2.2.2.2.2.1.1.2.2.2.2.2.2.1 S.2.2.2.2.2.2.2.2.1.1.2.2.2.2.2.2.2, bX4 G q ((o + 43) + 9) S.2.2.2.2.2.2.2.2.1.2.1.1 S.2.2.2.2.2.2.2.2.1.2.1.2, bX7 G q (o + 54) S.2.2.2.2.2.2.2.2.2.1 S.2.2.2.2.2.2.2.2.2.2.1 S.2.2.2.2.2.2.2.2.2.2.2]) hS0 (c_X10_isYesOrNo l G v3 r5 e6) zc_X10_isYesOrNo gX10_quarrel_X10_isYesOrNo ⟨Nat.le_of_ble_eq_true rfl, Nat.le_of_ble_eq_true rfl⟩ hK hA hT hw (is := []) rfl rfl rfl rfl rfl hl.1 rfl (Nat.le_of_ble_eq_true rfl) dX10_quarrel_28 (fun H locs hw => ?_)
        refine lv_if_ne (tgt := 36) hx hb dX10_quarrel_31 rfl (fun hc => ?_) (fun hc => ?_)
        · have hf := z_f hc hf
          refine lv_aload_n hx hb dX10_quarrel_36 rfl (lv_at hl 0 rfl) ?_
          refine z_get hS0 in_X10_quarrel_X10 hK hw 0 4 rfl rfl rfl (by decide) (hts _ m_X10_quarrel_0) (v := .ref (q ((o + 27) + 0))) rfl dX10_quarrel_37 ?_
          refine lv_iload_n hx hb dX10_quarrel_40 rfl (lv_at hl 1 rfl) ?_
          obtain ⟨r7, e8, hf⟩ := z_bd hf
          refine z_callV1 (As := [.int v1]) (rest := []) (bs' := [bX10 G q o, bX9 G q (o + 1) S.1.1 S.1.2.1 S.1.2.2.1 S.1.2.2.2.1 S.1.2.2.2.2, bX6 G q (o + 3) S.2.1.1 S.2.1.2, bX8 G q (o + 12) S.2.2.1.1 S.2.2.1.2, bX5 G q (o + 19) S.2.2.2.1.2.1 S.2.2.2.1.2.2.1 S.2.2.2.1.2.2.2.1 S.2.2.2.1.2.2.2.2, bX2 G q ((o + 19) + 2) S.2.2.2.1.1.1 S.2.2.2.1.1.2.1 S.2.2.2.1.1.2.2.1 S.2.2.2.1.1.2.2.2.1 S.2.2.2.1.1.2.2.2.2.1 S.2.2.2.1.1.2.2.2.2.2.1 S.2.2.2.1.1.2.2.2.2.2.2.1 S.2.2.2.1.1.2.2.2.2.2.2.2, bX2 G q (o + 27) S.2.2.2.2.1.1 S.2.2.2.2.1.2.1 S.2.2.2.2.1.2.2.1 S.2.2.2.2.1.2.2.2.1 S.2.2.2.2.1.2.2.2.2.1 S.2.2.2.2.1.2.2.2.2.2.1 S.2.2.2.2.1.2.2.2.2.2.2.1 S.2.2.2.2.1.2.2.2.2.2.2.2, bX1 G q (o + 33) S.2.2.2.2.2.1.1 S.2.2.2.2.2.1.2.1 S.2.2.2.2.2.1.2.2.1 S.2.2.2.2.2.1.2.2.2, bX4 G q (o + 36) S.2.2.2.2.2.2.1.1 S.2.2.2.2.2.2.1.2, bX3 G q (o + 38) S.2.2.2.2.2.2.2.1.1 S.2.2.2.2.2.2.2.1.2.1 S.2.2.2.2.2.2.2.1.2.2.1 S.2.2.2.2.2.2.2.1.2.2.2, bX0 G q (o + 43) S.2.2.2.2.2.2.2.2.1.2.2.1 S.2.2.2.2.2.2.2.2.1.2.2.2, bX2 G q ((o + 43) + 3) S.2.2.2.2.2.2.2.2.1.1.1 S.2.2.2.2.2.2.2.2.1.1.2.1 S.2.2.2.2.2.2.2.2.1.1.2.2.1 S.2.2.2.2.2.2.2.2.1.1.2.2.2.1 S.2.2.2.2.2.2.2.2.1.1.2.2.2.2.1 S.2.2.2.2.2.2.2.2.1.1.2.2.2.2.2.1 S.2.2.2.2.2.2.2.2.1.1.2.2.2.2.2.2.1 S.2.2.2.2.2.2.2.2.1.1.2.2.2.2.2.2.2, bX4 G q ((o + 43) + 9) S.2.2.2.2.2.2.2.2.1.2.1.1 S.2.2.2.2.2.2.2.2.1.2.1.2, bX7 G q (o + 54) S.2.2.2.2.2.2.2.2.2.1 S.2.2.2.2.2.2.2.2.2.2.1 S.2.2.2.2.2.2.2.2.2.2.2]) hS0 (c_X2_foesOf l G q (o + 27) S.2.2.2.2.1 v1 r7 e8) zc_X2_foesOf rfl gX10_quarrel_X2_foesOf ⟨Nat.le_of_ble_eq_true rfl, Nat.le_of_ble_eq_true rfl⟩ hK hA hT hw (is := [6]) rfl rfl rfl rfl rfl rfl rfl hl.1 rfl (Nat.le_of_ble_eq_true rfl) dX10_quarrel_41 (fun H locs hw => ?_)
          refine lv_iload_n hx hb dX10_quarrel_44 rfl (lv_at hl 2 rfl) ?_
          refine lv_ishr hx hb dX10_quarrel_45 ?_
          refine lv_iconst (v := 1) hx hb dX10_quarrel_46 rfl ?_
          refine lv_iand hx hb dX10_quarrel_47 ?_
          refine lv_istore (lv' := [(4, .int ((r7 >>> (v2 &&& 31)) &&& (1 : Int32))), (0, .ref (q (o + 0))), (1, .int v1), (2, .int v2), (3, .int v3)]) hx hb dX10_quarrel_48 hl (by decide) rfl (fun ls hl => ?_)
          refine lv_aload_n hx hb dX10_quarrel_50 rfl (lv_at hl 1 rfl) ?_
          refine z_get hS0 in_X10_quarrel_X10 hK hw 0 4 rfl rfl rfl (by decide) (hts _ m_X10_quarrel_0) (v := .ref (q ((o + 27) + 0))) rfl dX10_quarrel_51 ?_
          refine lv_iload_n hx hb dX10_quarrel_54 rfl (lv_at hl 2 rfl) ?_
          refine lv_iload_n hx hb dX10_quarrel_55 rfl (lv_at hl 3 rfl) ?_
          refine lv_iload_n hx hb dX10_quarrel_56 rfl (lv_at hl 4 rfl) ?_
          obtain ⟨r9, e10, hf⟩ := z_bd hf
          refine z_callV0 (As := [.int v1, .int v2, .int v3]) (rest := []) (bs' := [bX10 G q o, bX9 G q (o + 1) S.1.1 S.1.2.1 S.1.2.2.1 S.1.2.2.2.1 S.1.2.2.2.2, bX6 G q (o + 3) S.2.1.1 S.2.1.2, bX8 G q (o + 12) S.2.2.1.1 S.2.2.1.2, bX5 G q (o + 19) S.2.2.2.1.2.1 S.2.2.2.1.2.2.1 S.2.2.2.1.2.2.2.1 S.2.2.2.1.2.2.2.2, bX2 G q ((o + 19) + 2) S.2.2.2.1.1.1 S.2.2.2.1.1.2.1 S.2.2.2.1.1.2.2.1 S.2.2.2.1.1.2.2.2.1 S.2.2.2.1.1.2.2.2.2.1 S.2.2.2.1.1.2.2.2.2.2.1 S.2.2.2.1.1.2.2.2.2.2.2.1 S.2.2.2.1.1.2.2.2.2.2.2.2, bX2 G q (o + 27) r9.1 r9.2.1 r9.2.2.1 r9.2.2.2.1 r9.2.2.2.2.1 r9.2.2.2.2.2.1 r9.2.2.2.2.2.2.1 r9.2.2.2.2.2.2.2, bX1 G q (o + 33) S.2.2.2.2.2.1.1 S.2.2.2.2.2.1.2.1 S.2.2.2.2.2.1.2.2.1 S.2.2.2.2.2.1.2.2.2, bX4 G q (o + 36) S.2.2.2.2.2.2.1.1 S.2.2.2.2.2.2.1.2, bX3 G q (o + 38) S.2.2.2.2.2.2.2.1.1 S.2.2.2.2.2.2.2.1.2.1 S.2.2.2.2.2.2.2.1.2.2.1 S.2.2.2.2.2.2.2.1.2.2.2, bX0 G q (o + 43) S.2.2.2.2.2.2.2.2.1.2.2.1 S.2.2.2.2.2.2.2.2.1.2.2.2, bX2 G q ((o + 43) + 3) S.2.2.2.2.2.2.2.2.1.1.1 S.2.2.2.2.2.2.2.2.1.1.2.1 S.2.2.2.2.2.2.2.2.1.1.2.2.1 S.2.2.2.2.2.2.2.2.1.1.2.2.2.1 S.2.2.2.2.2.2.2.2.1.1.2.2.2.2.1 S.2.2.2.2.2.2.2.2.1.1.2.2.2.2.2.1 S.2.2.2.2.2.2.2.2.1.1.2.2.2.2.2.2.1 S.2.2.2.2.2.2.2.2.1.1.2.2.2.2.2.2.2, bX4 G q ((o + 43) + 9) S.2.2.2.2.2.2.2.2.1.2.1.1 S.2.2.2.2.2.2.2.2.1.2.1.2, bX7 G q (o + 54) S.2.2.2.2.2.2.2.2.2.1 S.2.2.2.2.2.2.2.2.2.2.1 S.2.2.2.2.2.2.2.2.2.2.2]) hS0 (c_X2_setQuarrel l G q (o + 27) S.2.2.2.2.1 v1 v2 v3 r9 e10) zc_X2_setQuarrel rfl gX10_quarrel_X2_setQuarrel ⟨Nat.le_of_ble_eq_true rfl, Nat.le_of_ble_eq_true rfl⟩ hK hA hT hw (is := [6]) rfl rfl rfl rfl rfl rfl rfl hl.1 rfl (Nat.le_of_ble_eq_true rfl) dX10_quarrel_57 (fun H locs hw => ?_)
          refine lv_iload hx hb dX10_quarrel_60 (lv_at hl 0 rfl) ?_
          cases hf
          exact z_iret hx hb hr hlk hw dX10_quarrel_62
        · have hf := z_t hc hf
          refine lv_iconst (v := (-1)) hx hb dX10_quarrel_34 rfl ?_
          cases hf
          exact z_iret hx hb hr hlk hw dX10_quarrel_35
theorem zc_X10_reached : zC yX10_reached wsX10_reached cX10_reached 1 (some .int) 0 := ⟨⟨_, rfl⟩, by decide +kernel, by decide +kernel, by decide +kernel, by decide +kernel⟩
theorem m_X10_reached_0 : (.fieldLink RX10 10 "CellKeys" "told" "LCellKeys$Told;" : Cond) ∈ wsX10_reached := by decide +kernel
theorem in_X10_reached_X10 : ∀ w ∈ u_ws RX10 TX10 10, w ∈ wsX10_reached := by decide +kernel
theorem m_X10_reached_1 : (.fieldLink RX10 54 "CellKeys" "reach" "LCellKeys$Reach;" : Cond) ∈ wsX10_reached := by decide +kernel
set_option maxHeartbeats 4000000 in
set_option maxRecDepth 100000 in
theorem c_X10_reached (l : Launch) (G : zG) (q : Nat → Nat) (o : Nat) (S : VX10)  (y : Int32 × VX10) (hf : f_X10_reached S = some y) : zMet l yX10_reached wsX10_reached 5 127 G [.ref (q (o + 0))] [bX10 G q o, bX9 G q (o + 1) S.1.1 S.1.2.1 S.1.2.2.1 S.1.2.2.2.1 S.1.2.2.2.2, bX6 G q (o + 3) S.2.1.1 S.2.1.2, bX8 G q (o + 12) S.2.2.1.1 S.2.2.1.2, bX5 G q (o + 19) S.2.2.2.1.2.1 S.2.2.2.1.2.2.1 S.2.2.2.1.2.2.2.1 S.2.2.2.1.2.2.2.2, bX2 G q ((o + 19) + 2) S.2.2.2.1.1.1 S.2.2.2.1.1.2.1 S.2.2.2.1.1.2.2.1 S.2.2.2.1.1.2.2.2.1 S.2.2.2.1.1.2.2.2.2.1 S.2.2.2.1.1.2.2.2.2.2.1 S.2.2.2.1.1.2.2.2.2.2.2.1 S.2.2.2.1.1.2.2.2.2.2.2.2, bX2 G q (o + 27) S.2.2.2.2.1.1 S.2.2.2.2.1.2.1 S.2.2.2.2.1.2.2.1 S.2.2.2.2.1.2.2.2.1 S.2.2.2.2.1.2.2.2.2.1 S.2.2.2.2.1.2.2.2.2.2.1 S.2.2.2.2.1.2.2.2.2.2.2.1 S.2.2.2.2.1.2.2.2.2.2.2.2, bX1 G q (o + 33) S.2.2.2.2.2.1.1 S.2.2.2.2.2.1.2.1 S.2.2.2.2.2.1.2.2.1 S.2.2.2.2.2.1.2.2.2, bX4 G q (o + 36) S.2.2.2.2.2.2.1.1 S.2.2.2.2.2.2.1.2, bX3 G q (o + 38) S.2.2.2.2.2.2.2.1.1 S.2.2.2.2.2.2.2.1.2.1 S.2.2.2.2.2.2.2.1.2.2.1 S.2.2.2.2.2.2.2.1.2.2.2, bX0 G q (o + 43) S.2.2.2.2.2.2.2.2.1.2.2.1 S.2.2.2.2.2.2.2.2.1.2.2.2, bX2 G q ((o + 43) + 3) S.2.2.2.2.2.2.2.2.1.1.1 S.2.2.2.2.2.2.2.2.1.1.2.1 S.2.2.2.2.2.2.2.2.1.1.2.2.1 S.2.2.2.2.2.2.2.2.1.1.2.2.2.1 S.2.2.2.2.2.2.2.2.1.1.2.2.2.2.1 S.2.2.2.2.2.2.2.2.1.1.2.2.2.2.2.1 S.2.2.2.2.2.2.2.2.1.1.2.2.2.2.2.2.1 S.2.2.2.2.2.2.2.2.1.1.2.2.2.2.2.2.2, bX4 G q ((o + 43) + 9) S.2.2.2.2.2.2.2.2.1.2.1.1 S.2.2.2.2.2.2.2.2.1.2.1.2, bX7 G q (o + 54) S.2.2.2.2.2.2.2.2.2.1 S.2.2.2.2.2.2.2.2.2.2.1 S.2.2.2.2.2.2.2.2.2.2.2] (some (.int y.1)) [bX10 G q o, bX9 G q (o + 1) y.2.1.1 y.2.1.2.1 y.2.1.2.2.1 y.2.1.2.2.2.1 y.2.1.2.2.2.2, bX6 G q (o + 3) y.2.2.1.1 y.2.2.1.2, bX8 G q (o + 12) y.2.2.2.1.1 y.2.2.2.1.2, bX5 G q (o + 19) y.2.2.2.2.1.2.1 y.2.2.2.2.1.2.2.1 y.2.2.2.2.1.2.2.2.1 y.2.2.2.2.1.2.2.2.2, bX2 G q ((o + 19) + 2) y.2.2.2.2.1.1.1 y.2.2.2.2.1.1.2.1 y.2.2.2.2.1.1.2.2.1 y.2.2.2.2.1.1.2.2.2.1 y.2.2.2.2.1.1.2.2.2.2.1 y.2.2.2.2.1.1.2.2.2.2.2.1 y.2.2.2.2.1.1.2.2.2.2.2.2.1 y.2.2.2.2.1.1.2.2.2.2.2.2.2, bX2 G q (o + 27) y.2.2.2.2.2.1.1 y.2.2.2.2.2.1.2.1 y.2.2.2.2.2.1.2.2.1 y.2.2.2.2.2.1.2.2.2.1 y.2.2.2.2.2.1.2.2.2.2.1 y.2.2.2.2.2.1.2.2.2.2.2.1 y.2.2.2.2.2.1.2.2.2.2.2.2.1 y.2.2.2.2.2.1.2.2.2.2.2.2.2, bX1 G q (o + 33) y.2.2.2.2.2.2.1.1 y.2.2.2.2.2.2.1.2.1 y.2.2.2.2.2.2.1.2.2.1 y.2.2.2.2.2.2.1.2.2.2, bX4 G q (o + 36) y.2.2.2.2.2.2.2.1.1 y.2.2.2.2.2.2.2.1.2, bX3 G q (o + 38) y.2.2.2.2.2.2.2.2.1.1 y.2.2.2.2.2.2.2.2.1.2.1 y.2.2.2.2.2.2.2.2.1.2.2.1 y.2.2.2.2.2.2.2.2.1.2.2.2, bX0 G q (o + 43) y.2.2.2.2.2.2.2.2.2.1.2.2.1 y.2.2.2.2.2.2.2.2.2.1.2.2.2, bX2 G q ((o + 43) + 3) y.2.2.2.2.2.2.2.2.2.1.1.1 y.2.2.2.2.2.2.2.2.2.1.1.2.1 y.2.2.2.2.2.2.2.2.2.1.1.2.2.1 y.2.2.2.2.2.2.2.2.2.1.1.2.2.2.1 y.2.2.2.2.2.2.2.2.2.1.1.2.2.2.2.1 y.2.2.2.2.2.2.2.2.2.1.1.2.2.2.2.2.1 y.2.2.2.2.2.2.2.2.2.1.1.2.2.2.2.2.2.1 y.2.2.2.2.2.2.2.2.2.1.1.2.2.2.2.2.2.2, bX4 G q ((o + 43) + 9) y.2.2.2.2.2.2.2.2.2.1.2.1.1 y.2.2.2.2.2.2.2.2.2.1.2.1.2, bX7 G q (o + 54) y.2.2.2.2.2.2.2.2.2.2.1 y.2.2.2.2.2.2.2.2.2.2.2.1 y.2.2.2.2.2.2.2.2.2.2.2.2] := by
  refine z_met zc_X10_reached (Nat.le_of_ble_eq_true rfl) ?_
  intro p e s m below meth c A ls hZ hl hw
  have hl : lv_has ls 1 [(0, .ref (q (o + 0)))] := hl
  obtain ⟨hS0, hr, hlk, hK, hA, hT⟩ := id hZ
  have hx := hS0.1
  have hb := hS0.2.1
  have hml := hS0.2.2.1
  have hown : s.vm.findClass RX10 = some m.cls := hS0.2.2.2.1
  have hts := hS0.2.2.2.2
  unfold f_X10_reached at hf
  refine lv_aload_n hx hb dX10_reached_0 rfl (lv_at hl 0 rfl) ?_
  obtain ⟨r1, e2, hf⟩ := z_bd hf
  refine z_callV0 (As := []) (rest := []) (bs' := [bX10 G q o, bX9 G q (o + 1) r1.1.1 r1.1.2.1 r1.1.2.2.1 r1.1.2.2.2.1 r1.1.2.2.2.2, bX6 G q (o + 3) r1.2.1.1 r1.2.1.2, bX8 G q (o + 12) r1.2.2.1.1 r1.2.2.1.2, bX5 G q (o + 19) r1.2.2.2.1.2.1 r1.2.2.2.1.2.2.1 r1.2.2.2.1.2.2.2.1 r1.2.2.2.1.2.2.2.2, bX2 G q ((o + 19) + 2) r1.2.2.2.1.1.1 r1.2.2.2.1.1.2.1 r1.2.2.2.1.1.2.2.1 r1.2.2.2.1.1.2.2.2.1 r1.2.2.2.1.1.2.2.2.2.1 r1.2.2.2.1.1.2.2.2.2.2.1 r1.2.2.2.1.1.2.2.2.2.2.2.1 r1.2.2.2.1.1.2.2.2.2.2.2.2, bX2 G q (o + 27) r1.2.2.2.2.1.1 r1.2.2.2.2.1.2.1 r1.2.2.2.2.1.2.2.1 r1.2.2.2.2.1.2.2.2.1 r1.2.2.2.2.1.2.2.2.2.1 r1.2.2.2.2.1.2.2.2.2.2.1 r1.2.2.2.2.1.2.2.2.2.2.2.1 r1.2.2.2.2.1.2.2.2.2.2.2.2, bX1 G q (o + 33) r1.2.2.2.2.2.1.1 r1.2.2.2.2.2.1.2.1 r1.2.2.2.2.2.1.2.2.1 r1.2.2.2.2.2.1.2.2.2, bX4 G q (o + 36) r1.2.2.2.2.2.2.1.1 r1.2.2.2.2.2.2.1.2, bX3 G q (o + 38) r1.2.2.2.2.2.2.2.1.1 r1.2.2.2.2.2.2.2.1.2.1 r1.2.2.2.2.2.2.2.1.2.2.1 r1.2.2.2.2.2.2.2.1.2.2.2, bX0 G q (o + 43) r1.2.2.2.2.2.2.2.2.1.2.2.1 r1.2.2.2.2.2.2.2.2.1.2.2.2, bX2 G q ((o + 43) + 3) r1.2.2.2.2.2.2.2.2.1.1.1 r1.2.2.2.2.2.2.2.2.1.1.2.1 r1.2.2.2.2.2.2.2.2.1.1.2.2.1 r1.2.2.2.2.2.2.2.2.1.1.2.2.2.1 r1.2.2.2.2.2.2.2.2.1.1.2.2.2.2.1 r1.2.2.2.2.2.2.2.2.1.1.2.2.2.2.2.1 r1.2.2.2.2.2.2.2.2.1.1.2.2.2.2.2.2.1 r1.2.2.2.2.2.2.2.2.1.1.2.2.2.2.2.2.2, bX4 G q ((o + 43) + 9) r1.2.2.2.2.2.2.2.2.1.2.1.1 r1.2.2.2.2.2.2.2.2.1.2.1.2, bX7 G q (o + 54) r1.2.2.2.2.2.2.2.2.2.1 r1.2.2.2.2.2.2.2.2.2.2.1 r1.2.2.2.2.2.2.2.2.2.2.2]) hS0 (c_X10_reachAll l G q o S r1 e2) zc_X10_reachAll rfl gX10_reached_X10_reachAll ⟨Nat.le_of_ble_eq_true rfl, Nat.le_of_ble_eq_true rfl⟩ hK hA hT hw (is := [0, 1, 2, 3, 4, 5, 6, 7, 8, 9, 10, 11, 12, 13]) rfl rfl rfl rfl rfl rfl rfl hl.1 rfl (Nat.le_of_ble_eq_true rfl) dX10_reached_1 (fun H locs hw => ?_)
  refine lv_aload_n hx hb dX10_reached_4 rfl (lv_at hl 0 rfl) ?_
  refine z_get hS0 in_X10_reached_X10 hK hw 0 0 rfl rfl rfl (by decide) (hts _ m_X10_reached_0) (v := .ref (q ((o + 1) + 0))) rfl dX10_reached_5 ?_
  refine lv_aload_n hx hb dX10_reached_8 rfl (lv_at hl 0 rfl) ?_
  refine z_get hS0 in_X10_reached_X10 hK hw 0 6 rfl rfl rfl (by decide) (hts _ m_X10_reached_1) (v := .ref (q ((o + 36) + 0))) rfl dX10_reached_9 ?_
  obtain ⟨r3, e4, hf⟩ := z_bd hf
  refine z_callV1 (As := []) (rest := [.ref (q ((o + 1) + 0))]) (bs' := [bX10 G q o, bX9 G q (o + 1) r1.1.1 r1.1.2.1 r1.1.2.2.1 r1.1.2.2.2.1 r1.1.2.2.2.2, bX6 G q (o + 3) r1.2.1.1 r1.2.1.2, bX8 G q (o + 12) r1.2.2.1.1 r1.2.2.1.2, bX5 G q (o + 19) r1.2.2.2.1.2.1 r1.2.2.2.1.2.2.1 r1.2.2.2.1.2.2.2.1 r1.2.2.2.1.2.2.2.2, bX2 G q ((o + 19) + 2) r1.2.2.2.1.1.1 r1.2.2.2.1.1.2.1 r1.2.2.2.1.1.2.2.1 r1.2.2.2.1.1.2.2.2.1 r1.2.2.2.1.1.2.2.2.2.1 r1.2.2.2.1.1.2.2.2.2.2.1 r1.2.2.2.1.1.2.2.2.2.2.2.1 r1.2.2.2.1.1.2.2.2.2.2.2.2, bX2 G q (o + 27) r1.2.2.2.2.1.1 r1.2.2.2.2.1.2.1 r1.2.2.2.2.1.2.2.1 r1.2.2.2.2.1.2.2.2.1 r1.2.2.2.2.1.2.2.2.2.1 r1.2.2.2.2.1.2.2.2.2.2.1 r1.2.2.2.2.1.2.2.2.2.2.2.1 r1.2.2.2.2.1.2.2.2.2.2.2.2, bX1 G q (o + 33) r1.2.2.2.2.2.1.1 r1.2.2.2.2.2.1.2.1 r1.2.2.2.2.2.1.2.2.1 r1.2.2.2.2.2.1.2.2.2, bX4 G q (o + 36) r1.2.2.2.2.2.2.1.1 r1.2.2.2.2.2.2.1.2, bX3 G q (o + 38) r1.2.2.2.2.2.2.2.1.1 r1.2.2.2.2.2.2.2.1.2.1 r1.2.2.2.2.2.2.2.1.2.2.1 r1.2.2.2.2.2.2.2.1.2.2.2, bX0 G q (o + 43) r1.2.2.2.2.2.2.2.2.1.2.2.1 r1.2.2.2.2.2.2.2.2.1.2.2.2, bX2 G q ((o + 43) + 3) r1.2.2.2.2.2.2.2.2.1.1.1 r1.2.2.2.2.2.2.2.2.1.1.2.1 r1.2.2.2.2.2.2.2.2.1.1.2.2.1 r1.2.2.2.2.2.2.2.2.1.1.2.2.2.1 r1.2.2.2.2.2.2.2.2.1.1.2.2.2.2.1 r1.2.2.2.2.2.2.2.2.1.1.2.2.2.2.2.1 r1.2.2.2.2.2.2.2.2.1.1.2.2.2.2.2.2.1 r1.2.2.2.2.2.2.2.2.1.1.2.2.2.2.2.2.2, bX4 G q ((o + 43) + 9) r1.2.2.2.2.2.2.2.2.1.2.1.1 r1.2.2.2.2.2.2.2.2.1.2.1.2, bX7 G q (o + 54) r1.2.2.2.2.2.2.2.2.2.1 r1.2.2.2.2.2.2.2.2.2.2.1 r1.2.2.2.2.2.2.2.2.2.2.2]) hS0 (c_X4_greatest l G q (o + 36) r1.2.2.2.2.2.2.1 r3 e4) zc_X4_greatest rfl gX10_reached_X4_greatest ⟨Nat.le_of_ble_eq_true rfl, Nat.le_of_ble_eq_true rfl⟩ hK hA hT hw (is := [8]) rfl rfl rfl rfl rfl rfl rfl hl.1 rfl (Nat.le_of_ble_eq_true rfl) dX10_reached_12 (fun H locs hw => ?_)
  obtain ⟨r5, e6, hf⟩ := z_bd hf
  refine z_callS1 (As := [.int r3]) (rest := [.ref (q ((o + 1) + 0))]) (bs' := [bX10 G q o, bX9 G q (o + 1) r1.1.1 r1.1.2.1 r1.1.2.2.1 r1.1.2.2.2.1 r1.1.2.2.2.2, bX6 G q (o + 3) r1.2.1.1 r1.2.1.2, bX8 G q (o + 12) r1.2.2.1.1 r1.2.2.1.2, bX5 G q (o + 19) r1.2.2.2.1.2.1 r1.2.2.2.1.2.2.1 r1.2.2.2.1.2.2.2.1 r1.2.2.2.1.2.2.2.2, bX2 G q ((o + 19) + 2) r1.2.2.2.1.1.1 r1.2.2.2.1.1.2.1 r1.2.2.2.1.1.2.2.1 r1.2.2.2.1.1.2.2.2.1 r1.2.2.2.1.1.2.2.2.2.1 r1.2.2.2.1.1.2.2.2.2.2.1 r1.2.2.2.1.1.2.2.2.2.2.2.1 r1.2.2.2.1.1.2.2.2.2.2.2.2, bX2 G q (o + 27) r1.2.2.2.2.1.1 r1.2.2.2.2.1.2.1 r1.2.2.2.2.1.2.2.1 r1.2.2.2.2.1.2.2.2.1 r1.2.2.2.2.1.2.2.2.2.1 r1.2.2.2.2.1.2.2.2.2.2.1 r1.2.2.2.2.1.2.2.2.2.2.2.1 r1.2.2.2.2.1.2.2.2.2.2.2.2, bX1 G q (o + 33) r1.2.2.2.2.2.1.1 r1.2.2.2.2.2.1.2.1 r1.2.2.2.2.2.1.2.2.1 r1.2.2.2.2.2.1.2.2.2, bX4 G q (o + 36) r1.2.2.2.2.2.2.1.1 r1.2.2.2.2.2.2.1.2, bX3 G q (o + 38) r1.2.2.2.2.2.2.2.1.1 r1.2.2.2.2.2.2.2.1.2.1 r1.2.2.2.2.2.2.2.1.2.2.1 r1.2.2.2.2.2.2.2.1.2.2.2, bX0 G q (o + 43) r1.2.2.2.2.2.2.2.2.1.2.2.1 r1.2.2.2.2.2.2.2.2.1.2.2.2, bX2 G q ((o + 43) + 3) r1.2.2.2.2.2.2.2.2.1.1.1 r1.2.2.2.2.2.2.2.2.1.1.2.1 r1.2.2.2.2.2.2.2.2.1.1.2.2.1 r1.2.2.2.2.2.2.2.2.1.1.2.2.2.1 r1.2.2.2.2.2.2.2.2.1.1.2.2.2.2.1 r1.2.2.2.2.2.2.2.2.1.1.2.2.2.2.2.1 r1.2.2.2.2.2.2.2.2.1.1.2.2.2.2.2.2.1 r1.2.2.2.2.2.2.2.2.1.1.2.2.2.2.2.2.2, bX4 G q ((o + 43) + 9) r1.2.2.2.2.2.2.2.2.1.2.1.1 r1.2.2.2.2.2.2.2.2.1.2.1.2, bX7 G q (o + 54) r1.2.2.2.2.2.2.2.2.2.1 r1.2.2.2.2.2.2.2.2.2.2.1 r1.2.2.2.2.2.2.2.2.2.2.2]) hS0 (c_J6_bitCount_0f7a4 l G r3 r5 e6) zc_J6_bitCount_0f7a4 gX10_reached_J6_bitCount_0f7a4 ⟨Nat.le_of_ble_eq_true rfl, Nat.le_of_ble_eq_true rfl⟩ hK hA hT hw (is := []) rfl rfl rfl rfl rfl hl.1 rfl (Nat.le_of_ble_eq_true rfl) dX10_reached_15 (fun H locs hw => ?_)
  obtain ⟨r7, e8, hf⟩ := z_bd hf
  refine z_callV0 (As := [.int r5]) (rest := []) (bs' := [bX10 G q o, bX9 G q (o + 1) r7.1 r7.2.1 r7.2.2.1 r7.2.2.2.1 r7.2.2.2.2, bX6 G q (o + 3) r1.2.1.1 r1.2.1.2, bX8 G q (o + 12) r1.2.2.1.1 r1.2.2.1.2, bX5 G q (o + 19) r1.2.2.2.1.2.1 r1.2.2.2.1.2.2.1 r1.2.2.2.1.2.2.2.1 r1.2.2.2.1.2.2.2.2, bX2 G q ((o + 19) + 2) r1.2.2.2.1.1.1 r1.2.2.2.1.1.2.1 r1.2.2.2.1.1.2.2.1 r1.2.2.2.1.1.2.2.2.1 r1.2.2.2.1.1.2.2.2.2.1 r1.2.2.2.1.1.2.2.2.2.2.1 r1.2.2.2.1.1.2.2.2.2.2.2.1 r1.2.2.2.1.1.2.2.2.2.2.2.2, bX2 G q (o + 27) r1.2.2.2.2.1.1 r1.2.2.2.2.1.2.1 r1.2.2.2.2.1.2.2.1 r1.2.2.2.2.1.2.2.2.1 r1.2.2.2.2.1.2.2.2.2.1 r1.2.2.2.2.1.2.2.2.2.2.1 r1.2.2.2.2.1.2.2.2.2.2.2.1 r1.2.2.2.2.1.2.2.2.2.2.2.2, bX1 G q (o + 33) r1.2.2.2.2.2.1.1 r1.2.2.2.2.2.1.2.1 r1.2.2.2.2.2.1.2.2.1 r1.2.2.2.2.2.1.2.2.2, bX4 G q (o + 36) r1.2.2.2.2.2.2.1.1 r1.2.2.2.2.2.2.1.2, bX3 G q (o + 38) r1.2.2.2.2.2.2.2.1.1 r1.2.2.2.2.2.2.2.1.2.1 r1.2.2.2.2.2.2.2.1.2.2.1 r1.2.2.2.2.2.2.2.1.2.2.2, bX0 G q (o + 43) r1.2.2.2.2.2.2.2.2.1.2.2.1 r1.2.2.2.2.2.2.2.2.1.2.2.2, bX2 G q ((o + 43) + 3) r1.2.2.2.2.2.2.2.2.1.1.1 r1.2.2.2.2.2.2.2.2.1.1.2.1 r1.2.2.2.2.2.2.2.2.1.1.2.2.1 r1.2.2.2.2.2.2.2.2.1.1.2.2.2.1 r1.2.2.2.2.2.2.2.2.1.1.2.2.2.2.1 r1.2.2.2.2.2.2.2.2.1.1.2.2.2.2.2.1 r1.2.2.2.2.2.2.2.2.1.1.2.2.2.2.2.2.1 r1.2.2.2.2.2.2.2.2.1.1.2.2.2.2.2.2.2, bX4 G q ((o + 43) + 9) r1.2.2.2.2.2.2.2.2.1.2.1.1 r1.2.2.2.2.2.2.2.2.1.2.1.2, bX7 G q (o + 54) r1.2.2.2.2.2.2.2.2.2.1 r1.2.2.2.2.2.2.2.2.2.2.1 r1.2.2.2.2.2.2.2.2.2.2.2]) hS0 (c_X9_tell l G q (o + 1) r1.1 r5 r7 e8) zc_X9_tell rfl gX10_reached_X9_tell ⟨Nat.le_of_ble_eq_true rfl, Nat.le_of_ble_eq_true rfl⟩ hK hA hT hw (is := [1]) rfl rfl rfl rfl rfl rfl rfl hl.1 rfl (Nat.le_of_ble_eq_true rfl) dX10_reached_18 (fun H locs hw => ?_)
  refine lv_aload_n hx hb dX10_reached_21 rfl (lv_at hl 0 rfl) ?_
  refine z_get hS0 in_X10_reached_X10 hK hw 0 6 rfl rfl rfl (by decide) (hts _ m_X10_reached_1) (v := .ref (q ((o + 36) + 0))) rfl dX10_reached_22 ?_
  obtain ⟨r9, e10, hf⟩ := z_bd hf
  refine z_callV1 (As := []) (rest := []) (bs' := [bX10 G q o, bX9 G q (o + 1) r7.1 r7.2.1 r7.2.2.1 r7.2.2.2.1 r7.2.2.2.2, bX6 G q (o + 3) r1.2.1.1 r1.2.1.2, bX8 G q (o + 12) r1.2.2.1.1 r1.2.2.1.2, bX5 G q (o + 19) r1.2.2.2.1.2.1 r1.2.2.2.1.2.2.1 r1.2.2.2.1.2.2.2.1 r1.2.2.2.1.2.2.2.2, bX2 G q ((o + 19) + 2) r1.2.2.2.1.1.1 r1.2.2.2.1.1.2.1 r1.2.2.2.1.1.2.2.1 r1.2.2.2.1.1.2.2.2.1 r1.2.2.2.1.1.2.2.2.2.1 r1.2.2.2.1.1.2.2.2.2.2.1 r1.2.2.2.1.1.2.2.2.2.2.2.1 r1.2.2.2.1.1.2.2.2.2.2.2.2, bX2 G q (o + 27) r1.2.2.2.2.1.1 r1.2.2.2.2.1.2.1 r1.2.2.2.2.1.2.2.1 r1.2.2.2.2.1.2.2.2.1 r1.2.2.2.2.1.2.2.2.2.1 r1.2.2.2.2.1.2.2.2.2.2.1 r1.2.2.2.2.1.2.2.2.2.2.2.1 r1.2.2.2.2.1.2.2.2.2.2.2.2, bX1 G q (o + 33) r1.2.2.2.2.2.1.1 r1.2.2.2.2.2.1.2.1 r1.2.2.2.2.2.1.2.2.1 r1.2.2.2.2.2.1.2.2.2, bX4 G q (o + 36) r1.2.2.2.2.2.2.1.1 r1.2.2.2.2.2.2.1.2, bX3 G q (o + 38) r1.2.2.2.2.2.2.2.1.1 r1.2.2.2.2.2.2.2.1.2.1 r1.2.2.2.2.2.2.2.1.2.2.1 r1.2.2.2.2.2.2.2.1.2.2.2, bX0 G q (o + 43) r1.2.2.2.2.2.2.2.2.1.2.2.1 r1.2.2.2.2.2.2.2.2.1.2.2.2, bX2 G q ((o + 43) + 3) r1.2.2.2.2.2.2.2.2.1.1.1 r1.2.2.2.2.2.2.2.2.1.1.2.1 r1.2.2.2.2.2.2.2.2.1.1.2.2.1 r1.2.2.2.2.2.2.2.2.1.1.2.2.2.1 r1.2.2.2.2.2.2.2.2.1.1.2.2.2.2.1 r1.2.2.2.2.2.2.2.2.1.1.2.2.2.2.2.1 r1.2.2.2.2.2.2.2.2.1.1.2.2.2.2.2.2.1 r1.2.2.2.2.2.2.2.2.1.1.2.2.2.2.2.2.2, bX4 G q ((o + 43) + 9) r1.2.2.2.2.2.2.2.2.1.2.1.1 r1.2.2.2.2.2.2.2.2.1.2.1.2, bX7 G q (o + 54) r1.2.2.2.2.2.2.2.2.2.1 r1.2.2.2.2.2.2.2.2.2.2.1 r1.2.2.2.2.2.2.2.2.2.2.2]) hS0 (c_X4_howMany l G q (o + 36) r1.2.2.2.2.2.2.1 r9 e10) zc_X4_howMany rfl gX10_reached_X4_howMany ⟨Nat.le_of_ble_eq_true rfl, Nat.le_of_ble_eq_true rfl⟩ hK hA hT hw (is := [8]) rfl rfl rfl rfl rfl rfl rfl hl.1 rfl (Nat.le_of_ble_eq_true rfl) dX10_reached_25 (fun H locs hw => ?_)
  cases hf
  exact z_iret hx hb hr hlk hw dX10_reached_28
theorem zc_X10_ring : zC yX10_ring wsX10_ring cX10_ring 2 (some .int) 1 := ⟨⟨_, rfl⟩, by decide +kernel, by decide +kernel, by decide +kernel, by decide +kernel⟩
theorem m_X10_ring_0 : (.fieldLink RX10 40 "CellKeys" "jail" "LCellKeys$Jail;" : Cond) ∈ wsX10_ring := by decide +kernel
theorem in_X10_ring_X10 : ∀ w ∈ u_ws RX10 TX10 10, w ∈ wsX10_ring := by decide +kernel
theorem m_X10_ring_1 : (.fieldLink RX10 10 "CellKeys" "told" "LCellKeys$Told;" : Cond) ∈ wsX10_ring := by decide +kernel
set_option maxHeartbeats 4000000 in
set_option maxRecDepth 100000 in
theorem c_X10_ring (l : Launch) (G : zG) (q : Nat → Nat) (o : Nat) (S : VX10) (v1 : Int32) (y : Int32 × VX10) (hf : f_X10_ring S v1 = some y) : zMet l yX10_ring wsX10_ring 2 45 G [.ref (q (o + 0)), .int v1] [bX10 G q o, bX9 G q (o + 1) S.1.1 S.1.2.1 S.1.2.2.1 S.1.2.2.2.1 S.1.2.2.2.2, bX6 G q (o + 3) S.2.1.1 S.2.1.2, bX8 G q (o + 12) S.2.2.1.1 S.2.2.1.2, bX5 G q (o + 19) S.2.2.2.1.2.1 S.2.2.2.1.2.2.1 S.2.2.2.1.2.2.2.1 S.2.2.2.1.2.2.2.2, bX2 G q ((o + 19) + 2) S.2.2.2.1.1.1 S.2.2.2.1.1.2.1 S.2.2.2.1.1.2.2.1 S.2.2.2.1.1.2.2.2.1 S.2.2.2.1.1.2.2.2.2.1 S.2.2.2.1.1.2.2.2.2.2.1 S.2.2.2.1.1.2.2.2.2.2.2.1 S.2.2.2.1.1.2.2.2.2.2.2.2, bX2 G q (o + 27) S.2.2.2.2.1.1 S.2.2.2.2.1.2.1 S.2.2.2.2.1.2.2.1 S.2.2.2.2.1.2.2.2.1 S.2.2.2.2.1.2.2.2.2.1 S.2.2.2.2.1.2.2.2.2.2.1 S.2.2.2.2.1.2.2.2.2.2.2.1 S.2.2.2.2.1.2.2.2.2.2.2.2, bX1 G q (o + 33) S.2.2.2.2.2.1.1 S.2.2.2.2.2.1.2.1 S.2.2.2.2.2.1.2.2.1 S.2.2.2.2.2.1.2.2.2, bX4 G q (o + 36) S.2.2.2.2.2.2.1.1 S.2.2.2.2.2.2.1.2, bX3 G q (o + 38) S.2.2.2.2.2.2.2.1.1 S.2.2.2.2.2.2.2.1.2.1 S.2.2.2.2.2.2.2.1.2.2.1 S.2.2.2.2.2.2.2.1.2.2.2, bX0 G q (o + 43) S.2.2.2.2.2.2.2.2.1.2.2.1 S.2.2.2.2.2.2.2.2.1.2.2.2, bX2 G q ((o + 43) + 3) S.2.2.2.2.2.2.2.2.1.1.1 S.2.2.2.2.2.2.2.2.1.1.2.1 S.2.2.2.2.2.2.2.2.1.1.2.2.1 S.2.2.2.2.2.2.2.2.1.1.2.2.2.1 S.2.2.2.2.2.2.2.2.1.1.2.2.2.2.1 S.2.2.2.2.2.2.2.2.1.1.2.2.2.2.2.1 S.2.2.2.2.2.2.2.2.1.1.2.2.2.2.2.2.1 S.2.2.2.2.2.2.2.2.1.1.2.2.2.2.2.2.2, bX4 G q ((o + 43) + 9) S.2.2.2.2.2.2.2.2.1.2.1.1 S.2.2.2.2.2.2.2.2.1.2.1.2, bX7 G q (o + 54) S.2.2.2.2.2.2.2.2.2.1 S.2.2.2.2.2.2.2.2.2.2.1 S.2.2.2.2.2.2.2.2.2.2.2] (some (.int y.1)) [bX10 G q o, bX9 G q (o + 1) y.2.1.1 y.2.1.2.1 y.2.1.2.2.1 y.2.1.2.2.2.1 y.2.1.2.2.2.2, bX6 G q (o + 3) y.2.2.1.1 y.2.2.1.2, bX8 G q (o + 12) y.2.2.2.1.1 y.2.2.2.1.2, bX5 G q (o + 19) y.2.2.2.2.1.2.1 y.2.2.2.2.1.2.2.1 y.2.2.2.2.1.2.2.2.1 y.2.2.2.2.1.2.2.2.2, bX2 G q ((o + 19) + 2) y.2.2.2.2.1.1.1 y.2.2.2.2.1.1.2.1 y.2.2.2.2.1.1.2.2.1 y.2.2.2.2.1.1.2.2.2.1 y.2.2.2.2.1.1.2.2.2.2.1 y.2.2.2.2.1.1.2.2.2.2.2.1 y.2.2.2.2.1.1.2.2.2.2.2.2.1 y.2.2.2.2.1.1.2.2.2.2.2.2.2, bX2 G q (o + 27) y.2.2.2.2.2.1.1 y.2.2.2.2.2.1.2.1 y.2.2.2.2.2.1.2.2.1 y.2.2.2.2.2.1.2.2.2.1 y.2.2.2.2.2.1.2.2.2.2.1 y.2.2.2.2.2.1.2.2.2.2.2.1 y.2.2.2.2.2.1.2.2.2.2.2.2.1 y.2.2.2.2.2.1.2.2.2.2.2.2.2, bX1 G q (o + 33) y.2.2.2.2.2.2.1.1 y.2.2.2.2.2.2.1.2.1 y.2.2.2.2.2.2.1.2.2.1 y.2.2.2.2.2.2.1.2.2.2, bX4 G q (o + 36) y.2.2.2.2.2.2.2.1.1 y.2.2.2.2.2.2.2.1.2, bX3 G q (o + 38) y.2.2.2.2.2.2.2.2.1.1 y.2.2.2.2.2.2.2.2.1.2.1 y.2.2.2.2.2.2.2.2.1.2.2.1 y.2.2.2.2.2.2.2.2.1.2.2.2, bX0 G q (o + 43) y.2.2.2.2.2.2.2.2.2.1.2.2.1 y.2.2.2.2.2.2.2.2.2.1.2.2.2, bX2 G q ((o + 43) + 3) y.2.2.2.2.2.2.2.2.2.1.1.1 y.2.2.2.2.2.2.2.2.2.1.1.2.1 y.2.2.2.2.2.2.2.2.2.1.1.2.2.1 y.2.2.2.2.2.2.2.2.2.1.1.2.2.2.1 y.2.2.2.2.2.2.2.2.2.1.1.2.2.2.2.1 y.2.2.2.2.2.2.2.2.2.1.1.2.2.2.2.2.1 y.2.2.2.2.2.2.2.2.2.1.1.2.2.2.2.2.2.1 y.2.2.2.2.2.2.2.2.2.1.1.2.2.2.2.2.2.2, bX4 G q ((o + 43) + 9) y.2.2.2.2.2.2.2.2.2.1.2.1.1 y.2.2.2.2.2.2.2.2.2.1.2.1.2, bX7 G q (o + 54) y.2.2.2.2.2.2.2.2.2.2.1 y.2.2.2.2.2.2.2.2.2.2.2.1 y.2.2.2.2.2.2.2.2.2.2.2.2] := by
  refine z_met zc_X10_ring (Nat.le_of_ble_eq_true rfl) ?_
  intro p e s m below meth c A ls hZ hl hw
  have hl : lv_has ls 2 [(0, .ref (q (o + 0))), (1, .int v1)] := hl
  obtain ⟨hS0, hr, hlk, hK, hA, hT⟩ := id hZ
  have hx := hS0.1
  have hb := hS0.2.1
  have hml := hS0.2.2.1
  have hown : s.vm.findClass RX10 = some m.cls := hS0.2.2.2.1
  have hts := hS0.2.2.2.2
  unfold f_X10_ring at hf
  refine lv_aload_n hx hb dX10_ring_0 rfl (lv_at hl 0 rfl) ?_
  refine z_get hS0 in_X10_ring_X10 hK hw 0 4 rfl rfl rfl (by decide) (hts _ m_X10_ring_0) (v := .ref (q ((o + 27) + 0))) rfl dX10_ring_1 ?_
  refine lv_iload_n hx hb dX10_ring_4 rfl (lv_at hl 1 rfl) ?_
  obtain ⟨r1, e2, hf⟩ := z_bd hf
  refine z_callV1 (As := [.int v1]) (rest := []) (bs' := [bX10 G q o, bX9 G q (o + 1) S.1.1 S.1.2.1 S.1.2.2.1 S.1.2.2.2.1 S.1.2.2.2.2, bX6 G q (o + 3) S.2.1.1 S.2.1.2, bX8 G q (o + 12) S.2.2.1.1 S.2.2.1.2, bX5 G q (o + 19) S.2.2.2.1.2.1 S.2.2.2.1.2.2.1 S.2.2.2.1.2.2.2.1 S.2.2.2.1.2.2.2.2, bX2 G q ((o + 19) + 2) S.2.2.2.1.1.1 S.2.2.2.1.1.2.1 S.2.2.2.1.1.2.2.1 S.2.2.2.1.1.2.2.2.1 S.2.2.2.1.1.2.2.2.2.1 S.2.2.2.1.1.2.2.2.2.2.1 S.2.2.2.1.1.2.2.2.2.2.2.1 S.2.2.2.1.1.2.2.2.2.2.2.2, bX2 G q (o + 27) S.2.2.2.2.1.1 S.2.2.2.2.1.2.1 S.2.2.2.2.1.2.2.1 S.2.2.2.2.1.2.2.2.1 S.2.2.2.2.1.2.2.2.2.1 S.2.2.2.2.1.2.2.2.2.2.1 S.2.2.2.2.1.2.2.2.2.2.2.1 S.2.2.2.2.1.2.2.2.2.2.2.2, bX1 G q (o + 33) S.2.2.2.2.2.1.1 S.2.2.2.2.2.1.2.1 S.2.2.2.2.2.1.2.2.1 S.2.2.2.2.2.1.2.2.2, bX4 G q (o + 36) S.2.2.2.2.2.2.1.1 S.2.2.2.2.2.2.1.2, bX3 G q (o + 38) S.2.2.2.2.2.2.2.1.1 S.2.2.2.2.2.2.2.1.2.1 S.2.2.2.2.2.2.2.1.2.2.1 S.2.2.2.2.2.2.2.1.2.2.2, bX0 G q (o + 43) S.2.2.2.2.2.2.2.2.1.2.2.1 S.2.2.2.2.2.2.2.2.1.2.2.2, bX2 G q ((o + 43) + 3) S.2.2.2.2.2.2.2.2.1.1.1 S.2.2.2.2.2.2.2.2.1.1.2.1 S.2.2.2.2.2.2.2.2.1.1.2.2.1 S.2.2.2.2.2.2.2.2.1.1.2.2.2.1 S.2.2.2.2.2.2.2.2.1.1.2.2.2.2.1 S.2.2.2.2.2.2.2.2.1.1.2.2.2.2.2.1 S.2.2.2.2.2.2.2.2.1.1.2.2.2.2.2.2.1 S.2.2.2.2.2.2.2.2.1.1.2.2.2.2.2.2.2, bX4 G q ((o + 43) + 9) S.2.2.2.2.2.2.2.2.1.2.1.1 S.2.2.2.2.2.2.2.2.1.2.1.2, bX7 G q (o + 54) S.2.2.2.2.2.2.2.2.2.1 S.2.2.2.2.2.2.2.2.2.2.1 S.2.2.2.2.2.2.2.2.2.2.2]) hS0 (c_X2_isCell l G q (o + 27) S.2.2.2.2.1 v1 r1 e2) zc_X2_isCell rfl gX10_ring_X2_isCell ⟨Nat.le_of_ble_eq_true rfl, Nat.le_of_ble_eq_true rfl⟩ hK hA hT hw (is := [6]) rfl rfl rfl rfl rfl rfl rfl hl.1 rfl (Nat.le_of_ble_eq_true rfl) dX10_ring_5 (fun H locs hw => ?_)
  refine lv_if_ne (tgt := 13) hx hb dX10_ring_8 rfl (fun hc => ?_) (fun hc => ?_)
  · have hf := z_f hc hf
    refine lv_aload_n hx hb dX10_ring_13 rfl (lv_at hl 0 rfl) ?_
    refine z_get hS0 in_X10_ring_X10 hK hw 0 0 rfl rfl rfl (by decide) (hts _ m_X10_ring_1) (v := .ref (q ((o + 1) + 0))) rfl dX10_ring_14 ?_
    refine lv_aload_n hx hb dX10_ring_17 rfl (lv_at hl 0 rfl) ?_
    refine z_get hS0 in_X10_ring_X10 hK hw 0 4 rfl rfl rfl (by decide) (hts _ m_X10_ring_0) (v := .ref (q ((o + 27) + 0))) rfl dX10_ring_18 ?_
    refine lv_aload_n hx hb dX10_ring_21 rfl (lv_at hl 0 rfl) ?_
    refine z_get hS0 in_X10_ring_X10 hK hw 0 4 rfl rfl rfl (by decide) (hts _ m_X10_ring_0) (v := .ref (q ((o + 27) + 0))) rfl dX10_ring_22 ?_
    refine lv_iload_n hx hb dX10_ring_25 rfl (lv_at hl 1 rfl) ?_
    obtain ⟨r3, e4, hf⟩ := z_bd hf
    refine z_callV1 (As := [.int v1]) (rest := [.ref (q ((o + 27) + 0)), .ref (q ((o + 1) + 0))]) (bs' := [bX10 G q o, bX9 G q (o + 1) S.1.1 S.1.2.1 S.1.2.2.1 S.1.2.2.2.1 S.1.2.2.2.2, bX6 G q (o + 3) S.2.1.1 S.2.1.2, bX8 G q (o + 12) S.2.2.1.1 S.2.2.1.2, bX5 G q (o + 19) S.2.2.2.1.2.1 S.2.2.2.1.2.2.1 S.2.2.2.1.2.2.2.1 S.2.2.2.1.2.2.2.2, bX2 G q ((o + 19) + 2) S.2.2.2.1.1.1 S.2.2.2.1.1.2.1 S.2.2.2.1.1.2.2.1 S.2.2.2.1.1.2.2.2.1 S.2.2.2.1.1.2.2.2.2.1 S.2.2.2.1.1.2.2.2.2.2.1 S.2.2.2.1.1.2.2.2.2.2.2.1 S.2.2.2.1.1.2.2.2.2.2.2.2, bX2 G q (o + 27) S.2.2.2.2.1.1 S.2.2.2.2.1.2.1 S.2.2.2.2.1.2.2.1 S.2.2.2.2.1.2.2.2.1 S.2.2.2.2.1.2.2.2.2.1 S.2.2.2.2.1.2.2.2.2.2.1 S.2.2.2.2.1.2.2.2.2.2.2.1 S.2.2.2.2.1.2.2.2.2.2.2.2, bX1 G q (o + 33) S.2.2.2.2.2.1.1 S.2.2.2.2.2.1.2.1 S.2.2.2.2.2.1.2.2.1 S.2.2.2.2.2.1.2.2.2, bX4 G q (o + 36) S.2.2.2.2.2.2.1.1 S.2.2.2.2.2.2.1.2, bX3 G q (o + 38) S.2.2.2.2.2.2.2.1.1 S.2.2.2.2.2.2.2.1.2.1 S.2.2.2.2.2.2.2.1.2.2.1 S.2.2.2.2.2.2.2.1.2.2.2, bX0 G q (o + 43) S.2.2.2.2.2.2.2.2.1.2.2.1 S.2.2.2.2.2.2.2.2.1.2.2.2, bX2 G q ((o + 43) + 3) S.2.2.2.2.2.2.2.2.1.1.1 S.2.2.2.2.2.2.2.2.1.1.2.1 S.2.2.2.2.2.2.2.2.1.1.2.2.1 S.2.2.2.2.2.2.2.2.1.1.2.2.2.1 S.2.2.2.2.2.2.2.2.1.1.2.2.2.2.1 S.2.2.2.2.2.2.2.2.1.1.2.2.2.2.2.1 S.2.2.2.2.2.2.2.2.1.1.2.2.2.2.2.2.1 S.2.2.2.2.2.2.2.2.1.1.2.2.2.2.2.2.2, bX4 G q ((o + 43) + 9) S.2.2.2.2.2.2.2.2.1.2.1.1 S.2.2.2.2.2.2.2.2.1.2.1.2, bX7 G q (o + 54) S.2.2.2.2.2.2.2.2.2.1 S.2.2.2.2.2.2.2.2.2.2.1 S.2.2.2.2.2.2.2.2.2.2.2]) hS0 (c_X2_farFrom l G q (o + 27) S.2.2.2.2.1 v1 r3 e4) zc_X2_farFrom rfl gX10_ring_X2_farFrom ⟨Nat.le_of_ble_eq_true rfl, Nat.le_of_ble_eq_true rfl⟩ hK hA hT hw (is := [6]) rfl rfl rfl rfl rfl rfl rfl hl.1 rfl (Nat.le_of_ble_eq_true rfl) dX10_ring_26 (fun H locs hw => ?_)
    obtain ⟨r5, e6, hf⟩ := z_bd hf
    refine z_callV1 (As := [.int r3]) (rest := [.ref (q ((o + 1) + 0))]) (bs' := [bX10 G q o, bX9 G q (o + 1) S.1.1 S.1.2.1 S.1.2.2.1 S.1.2.2.2.1 S.1.2.2.2.2, bX6 G q (o + 3) S.2.1.1 S.2.1.2, bX8 G q (o + 12) S.2.2.1.1 S.2.2.1.2, bX5 G q (o + 19) S.2.2.2.1.2.1 S.2.2.2.1.2.2.1 S.2.2.2.1.2.2.2.1 S.2.2.2.1.2.2.2.2, bX2 G q ((o + 19) + 2) S.2.2.2.1.1.1 S.2.2.2.1.1.2.1 S.2.2.2.1.1.2.2.1 S.2.2.2.1.1.2.2.2.1 S.2.2.2.1.1.2.2.2.2.1 S.2.2.2.1.1.2.2.2.2.2.1 S.2.2.2.1.1.2.2.2.2.2.2.1 S.2.2.2.1.1.2.2.2.2.2.2.2, bX2 G q (o + 27) S.2.2.2.2.1.1 S.2.2.2.2.1.2.1 S.2.2.2.2.1.2.2.1 S.2.2.2.2.1.2.2.2.1 S.2.2.2.2.1.2.2.2.2.1 S.2.2.2.2.1.2.2.2.2.2.1 S.2.2.2.2.1.2.2.2.2.2.2.1 S.2.2.2.2.1.2.2.2.2.2.2.2, bX1 G q (o + 33) S.2.2.2.2.2.1.1 S.2.2.2.2.2.1.2.1 S.2.2.2.2.2.1.2.2.1 S.2.2.2.2.2.1.2.2.2, bX4 G q (o + 36) S.2.2.2.2.2.2.1.1 S.2.2.2.2.2.2.1.2, bX3 G q (o + 38) S.2.2.2.2.2.2.2.1.1 S.2.2.2.2.2.2.2.1.2.1 S.2.2.2.2.2.2.2.1.2.2.1 S.2.2.2.2.2.2.2.1.2.2.2, bX0 G q (o + 43) S.2.2.2.2.2.2.2.2.1.2.2.1 S.2.2.2.2.2.2.2.2.1.2.2.2, bX2 G q ((o + 43) + 3) S.2.2.2.2.2.2.2.2.1.1.1 S.2.2.2.2.2.2.2.2.1.1.2.1 S.2.2.2.2.2.2.2.2.1.1.2.2.1 S.2.2.2.2.2.2.2.2.1.1.2.2.2.1 S.2.2.2.2.2.2.2.2.1.1.2.2.2.2.1 S.2.2.2.2.2.2.2.2.1.1.2.2.2.2.2.1 S.2.2.2.2.2.2.2.2.1.1.2.2.2.2.2.2.1 S.2.2.2.2.2.2.2.2.1.1.2.2.2.2.2.2.2, bX4 G q ((o + 43) + 9) S.2.2.2.2.2.2.2.2.1.2.1.1 S.2.2.2.2.2.2.2.2.1.2.1.2, bX7 G q (o + 54) S.2.2.2.2.2.2.2.2.2.1 S.2.2.2.2.2.2.2.2.2.2.1 S.2.2.2.2.2.2.2.2.2.2.2]) hS0 (c_X2_metFrom l G q (o + 27) S.2.2.2.2.1 r3 r5 e6) zc_X2_metFrom rfl gX10_ring_X2_metFrom ⟨Nat.le_of_ble_eq_true rfl, Nat.le_of_ble_eq_true rfl⟩ hK hA hT hw (is := [6]) rfl rfl rfl rfl rfl rfl rfl hl.1 rfl (Nat.le_of_ble_eq_true rfl) dX10_ring_29 (fun H locs hw => ?_)
    obtain ⟨r7, e8, hf⟩ := z_bd hf
    refine z_callV0 (As := [.int r5]) (rest := []) (bs' := [bX10 G q o, bX9 G q (o + 1) r7.1 r7.2.1 r7.2.2.1 r7.2.2.2.1 r7.2.2.2.2, bX6 G q (o + 3) S.2.1.1 S.2.1.2, bX8 G q (o + 12) S.2.2.1.1 S.2.2.1.2, bX5 G q (o + 19) S.2.2.2.1.2.1 S.2.2.2.1.2.2.1 S.2.2.2.1.2.2.2.1 S.2.2.2.1.2.2.2.2, bX2 G q ((o + 19) + 2) S.2.2.2.1.1.1 S.2.2.2.1.1.2.1 S.2.2.2.1.1.2.2.1 S.2.2.2.1.1.2.2.2.1 S.2.2.2.1.1.2.2.2.2.1 S.2.2.2.1.1.2.2.2.2.2.1 S.2.2.2.1.1.2.2.2.2.2.2.1 S.2.2.2.1.1.2.2.2.2.2.2.2, bX2 G q (o + 27) S.2.2.2.2.1.1 S.2.2.2.2.1.2.1 S.2.2.2.2.1.2.2.1 S.2.2.2.2.1.2.2.2.1 S.2.2.2.2.1.2.2.2.2.1 S.2.2.2.2.1.2.2.2.2.2.1 S.2.2.2.2.1.2.2.2.2.2.2.1 S.2.2.2.2.1.2.2.2.2.2.2.2, bX1 G q (o + 33) S.2.2.2.2.2.1.1 S.2.2.2.2.2.1.2.1 S.2.2.2.2.2.1.2.2.1 S.2.2.2.2.2.1.2.2.2, bX4 G q (o + 36) S.2.2.2.2.2.2.1.1 S.2.2.2.2.2.2.1.2, bX3 G q (o + 38) S.2.2.2.2.2.2.2.1.1 S.2.2.2.2.2.2.2.1.2.1 S.2.2.2.2.2.2.2.1.2.2.1 S.2.2.2.2.2.2.2.1.2.2.2, bX0 G q (o + 43) S.2.2.2.2.2.2.2.2.1.2.2.1 S.2.2.2.2.2.2.2.2.1.2.2.2, bX2 G q ((o + 43) + 3) S.2.2.2.2.2.2.2.2.1.1.1 S.2.2.2.2.2.2.2.2.1.1.2.1 S.2.2.2.2.2.2.2.2.1.1.2.2.1 S.2.2.2.2.2.2.2.2.1.1.2.2.2.1 S.2.2.2.2.2.2.2.2.1.1.2.2.2.2.1 S.2.2.2.2.2.2.2.2.1.1.2.2.2.2.2.1 S.2.2.2.2.2.2.2.2.1.1.2.2.2.2.2.2.1 S.2.2.2.2.2.2.2.2.1.1.2.2.2.2.2.2.2, bX4 G q ((o + 43) + 9) S.2.2.2.2.2.2.2.2.1.2.1.1 S.2.2.2.2.2.2.2.2.1.2.1.2, bX7 G q (o + 54) S.2.2.2.2.2.2.2.2.2.1 S.2.2.2.2.2.2.2.2.2.2.1 S.2.2.2.2.2.2.2.2.2.2.2]) hS0 (c_X9_tell l G q (o + 1) S.1 r5 r7 e8) zc_X9_tell rfl gX10_ring_X9_tell ⟨Nat.le_of_ble_eq_true rfl, Nat.le_of_ble_eq_true rfl⟩ hK hA hT hw (is := [1]) rfl rfl rfl rfl rfl rfl rfl hl.1 rfl (Nat.le_of_ble_eq_true rfl) dX10_ring_32 (fun H locs hw => ?_)
    refine lv_aload_n hx hb dX10_ring_35 rfl (lv_at hl 0 rfl) ?_
    refine z_get hS0 in_X10_ring_X10 hK hw 0 4 rfl rfl rfl (by decide) (hts _ m_X10_ring_0) (v := .ref (q ((o + 27) + 0))) rfl dX10_ring_36 ?_
    refine lv_iload_n hx hb dX10_ring_39 rfl (lv_at hl 1 rfl) ?_
    obtain ⟨r9, e10, hf⟩ := z_bd hf
    refine z_callV1 (As := [.int v1]) (rest := []) (bs' := [bX10 G q o, bX9 G q (o + 1) r7.1 r7.2.1 r7.2.2.1 r7.2.2.2.1 r7.2.2.2.2, bX6 G q (o + 3) S.2.1.1 S.2.1.2, bX8 G q (o + 12) S.2.2.1.1 S.2.2.1.2, bX5 G q (o + 19) S.2.2.2.1.2.1 S.2.2.2.1.2.2.1 S.2.2.2.1.2.2.2.1 S.2.2.2.1.2.2.2.2, bX2 G q ((o + 19) + 2) S.2.2.2.1.1.1 S.2.2.2.1.1.2.1 S.2.2.2.1.1.2.2.1 S.2.2.2.1.1.2.2.2.1 S.2.2.2.1.1.2.2.2.2.1 S.2.2.2.1.1.2.2.2.2.2.1 S.2.2.2.1.1.2.2.2.2.2.2.1 S.2.2.2.1.1.2.2.2.2.2.2.2, bX2 G q (o + 27) S.2.2.2.2.1.1 S.2.2.2.2.1.2.1 S.2.2.2.2.1.2.2.1 S.2.2.2.2.1.2.2.2.1 S.2.2.2.2.1.2.2.2.2.1 S.2.2.2.2.1.2.2.2.2.2.1 S.2.2.2.2.1.2.2.2.2.2.2.1 S.2.2.2.2.1.2.2.2.2.2.2.2, bX1 G q (o + 33) S.2.2.2.2.2.1.1 S.2.2.2.2.2.1.2.1 S.2.2.2.2.2.1.2.2.1 S.2.2.2.2.2.1.2.2.2, bX4 G q (o + 36) S.2.2.2.2.2.2.1.1 S.2.2.2.2.2.2.1.2, bX3 G q (o + 38) S.2.2.2.2.2.2.2.1.1 S.2.2.2.2.2.2.2.1.2.1 S.2.2.2.2.2.2.2.1.2.2.1 S.2.2.2.2.2.2.2.1.2.2.2, bX0 G q (o + 43) S.2.2.2.2.2.2.2.2.1.2.2.1 S.2.2.2.2.2.2.2.2.1.2.2.2, bX2 G q ((o + 43) + 3) S.2.2.2.2.2.2.2.2.1.1.1 S.2.2.2.2.2.2.2.2.1.1.2.1 S.2.2.2.2.2.2.2.2.1.1.2.2.1 S.2.2.2.2.2.2.2.2.1.1.2.2.2.1 S.2.2.2.2.2.2.2.2.1.1.2.2.2.2.1 S.2.2.2.2.2.2.2.2.1.1.2.2.2.2.2.1 S.2.2.2.2.2.2.2.2.1.1.2.2.2.2.2.2.1 S.2.2.2.2.2.2.2.2.1.1.2.2.2.2.2.2.2, bX4 G q ((o + 43) + 9) S.2.2.2.2.2.2.2.2.1.2.1.1 S.2.2.2.2.2.2.2.2.1.2.1.2, bX7 G q (o + 54) S.2.2.2.2.2.2.2.2.2.1 S.2.2.2.2.2.2.2.2.2.2.1 S.2.2.2.2.2.2.2.2.2.2.2]) hS0 (c_X2_metFrom l G q (o + 27) S.2.2.2.2.1 v1 r9 e10) zc_X2_metFrom rfl gX10_ring_X2_metFrom ⟨Nat.le_of_ble_eq_true rfl, Nat.le_of_ble_eq_true rfl⟩ hK hA hT hw (is := [6]) rfl rfl rfl rfl rfl rfl rfl hl.1 rfl (Nat.le_of_ble_eq_true rfl) dX10_ring_40 (fun H locs hw => ?_)
    cases hf
    exact z_iret hx hb hr hlk hw dX10_ring_43
  · have hf := z_t hc hf
    refine lv_iconst (v := (-1)) hx hb dX10_ring_11 rfl ?_
    cases hf
    exact z_iret hx hb hr hlk hw dX10_ring_12
theorem zc_X10_row : zC yX10_row wsX10_row cX10_row 3 (some .int) 2 := ⟨⟨_, rfl⟩, by decide +kernel, by decide +kernel, by decide +kernel, by decide +kernel⟩
theorem m_X10_row_0 : (.fieldLink RX10 19 "CellKeys" "rows" "LCellKeys$Rows;" : Cond) ∈ wsX10_row := by decide +kernel
theorem in_X10_row_X10 : ∀ w ∈ u_ws RX10 TX10 10, w ∈ wsX10_row := by decide +kernel
theorem m_X10_row_1 : (.fieldLink RX10 10 "CellKeys" "told" "LCellKeys$Told;" : Cond) ∈ wsX10_row := by decide +kernel
set_option maxHeartbeats 4000000 in
set_option maxRecDepth 100000 in
theorem c_X10_row (l : Launch) (G : zG) (q : Nat → Nat) (o : Nat) (S : VX10) (v1 : Int32) (v2 : Int32) (y : Int32 × VX10) (hf : f_X10_row S v1 v2 = some y) : zMet l yX10_row wsX10_row 2 44 G [.ref (q (o + 0)), .int v1, .int v2] [bX10 G q o, bX9 G q (o + 1) S.1.1 S.1.2.1 S.1.2.2.1 S.1.2.2.2.1 S.1.2.2.2.2, bX6 G q (o + 3) S.2.1.1 S.2.1.2, bX8 G q (o + 12) S.2.2.1.1 S.2.2.1.2, bX5 G q (o + 19) S.2.2.2.1.2.1 S.2.2.2.1.2.2.1 S.2.2.2.1.2.2.2.1 S.2.2.2.1.2.2.2.2, bX2 G q ((o + 19) + 2) S.2.2.2.1.1.1 S.2.2.2.1.1.2.1 S.2.2.2.1.1.2.2.1 S.2.2.2.1.1.2.2.2.1 S.2.2.2.1.1.2.2.2.2.1 S.2.2.2.1.1.2.2.2.2.2.1 S.2.2.2.1.1.2.2.2.2.2.2.1 S.2.2.2.1.1.2.2.2.2.2.2.2, bX2 G q (o + 27) S.2.2.2.2.1.1 S.2.2.2.2.1.2.1 S.2.2.2.2.1.2.2.1 S.2.2.2.2.1.2.2.2.1 S.2.2.2.2.1.2.2.2.2.1 S.2.2.2.2.1.2.2.2.2.2.1 S.2.2.2.2.1.2.2.2.2.2.2.1 S.2.2.2.2.1.2.2.2.2.2.2.2, bX1 G q (o + 33) S.2.2.2.2.2.1.1 S.2.2.2.2.2.1.2.1 S.2.2.2.2.2.1.2.2.1 S.2.2.2.2.2.1.2.2.2, bX4 G q (o + 36) S.2.2.2.2.2.2.1.1 S.2.2.2.2.2.2.1.2, bX3 G q (o + 38) S.2.2.2.2.2.2.2.1.1 S.2.2.2.2.2.2.2.1.2.1 S.2.2.2.2.2.2.2.1.2.2.1 S.2.2.2.2.2.2.2.1.2.2.2, bX0 G q (o + 43) S.2.2.2.2.2.2.2.2.1.2.2.1 S.2.2.2.2.2.2.2.2.1.2.2.2, bX2 G q ((o + 43) + 3) S.2.2.2.2.2.2.2.2.1.1.1 S.2.2.2.2.2.2.2.2.1.1.2.1 S.2.2.2.2.2.2.2.2.1.1.2.2.1 S.2.2.2.2.2.2.2.2.1.1.2.2.2.1 S.2.2.2.2.2.2.2.2.1.1.2.2.2.2.1 S.2.2.2.2.2.2.2.2.1.1.2.2.2.2.2.1 S.2.2.2.2.2.2.2.2.1.1.2.2.2.2.2.2.1 S.2.2.2.2.2.2.2.2.1.1.2.2.2.2.2.2.2, bX4 G q ((o + 43) + 9) S.2.2.2.2.2.2.2.2.1.2.1.1 S.2.2.2.2.2.2.2.2.1.2.1.2, bX7 G q (o + 54) S.2.2.2.2.2.2.2.2.2.1 S.2.2.2.2.2.2.2.2.2.2.1 S.2.2.2.2.2.2.2.2.2.2.2] (some (.int y.1)) [bX10 G q o, bX9 G q (o + 1) y.2.1.1 y.2.1.2.1 y.2.1.2.2.1 y.2.1.2.2.2.1 y.2.1.2.2.2.2, bX6 G q (o + 3) y.2.2.1.1 y.2.2.1.2, bX8 G q (o + 12) y.2.2.2.1.1 y.2.2.2.1.2, bX5 G q (o + 19) y.2.2.2.2.1.2.1 y.2.2.2.2.1.2.2.1 y.2.2.2.2.1.2.2.2.1 y.2.2.2.2.1.2.2.2.2, bX2 G q ((o + 19) + 2) y.2.2.2.2.1.1.1 y.2.2.2.2.1.1.2.1 y.2.2.2.2.1.1.2.2.1 y.2.2.2.2.1.1.2.2.2.1 y.2.2.2.2.1.1.2.2.2.2.1 y.2.2.2.2.1.1.2.2.2.2.2.1 y.2.2.2.2.1.1.2.2.2.2.2.2.1 y.2.2.2.2.1.1.2.2.2.2.2.2.2, bX2 G q (o + 27) y.2.2.2.2.2.1.1 y.2.2.2.2.2.1.2.1 y.2.2.2.2.2.1.2.2.1 y.2.2.2.2.2.1.2.2.2.1 y.2.2.2.2.2.1.2.2.2.2.1 y.2.2.2.2.2.1.2.2.2.2.2.1 y.2.2.2.2.2.1.2.2.2.2.2.2.1 y.2.2.2.2.2.1.2.2.2.2.2.2.2, bX1 G q (o + 33) y.2.2.2.2.2.2.1.1 y.2.2.2.2.2.2.1.2.1 y.2.2.2.2.2.2.1.2.2.1 y.2.2.2.2.2.2.1.2.2.2, bX4 G q (o + 36) y.2.2.2.2.2.2.2.1.1 y.2.2.2.2.2.2.2.1.2, bX3 G q (o + 38) y.2.2.2.2.2.2.2.2.1.1 y.2.2.2.2.2.2.2.2.1.2.1 y.2.2.2.2.2.2.2.2.1.2.2.1 y.2.2.2.2.2.2.2.2.1.2.2.2, bX0 G q (o + 43) y.2.2.2.2.2.2.2.2.2.1.2.2.1 y.2.2.2.2.2.2.2.2.2.1.2.2.2, bX2 G q ((o + 43) + 3) y.2.2.2.2.2.2.2.2.2.1.1.1 y.2.2.2.2.2.2.2.2.2.1.1.2.1 y.2.2.2.2.2.2.2.2.2.1.1.2.2.1 y.2.2.2.2.2.2.2.2.2.1.1.2.2.2.1 y.2.2.2.2.2.2.2.2.2.1.1.2.2.2.2.1 y.2.2.2.2.2.2.2.2.2.1.1.2.2.2.2.2.1 y.2.2.2.2.2.2.2.2.2.1.1.2.2.2.2.2.2.1 y.2.2.2.2.2.2.2.2.2.1.1.2.2.2.2.2.2.2, bX4 G q ((o + 43) + 9) y.2.2.2.2.2.2.2.2.2.1.2.1.1 y.2.2.2.2.2.2.2.2.2.1.2.1.2, bX7 G q (o + 54) y.2.2.2.2.2.2.2.2.2.2.1 y.2.2.2.2.2.2.2.2.2.2.2.1 y.2.2.2.2.2.2.2.2.2.2.2.2] := by
  refine z_met zc_X10_row (Nat.le_of_ble_eq_true rfl) ?_
  intro p e s m below meth c A ls hZ hl hw
  have hl : lv_has ls 3 [(0, .ref (q (o + 0))), (1, .int v1), (2, .int v2)] := hl
  obtain ⟨hS0, hr, hlk, hK, hA, hT⟩ := id hZ
  have hx := hS0.1
  have hb := hS0.2.1
  have hml := hS0.2.2.1
  have hown : s.vm.findClass RX10 = some m.cls := hS0.2.2.2.1
  have hts := hS0.2.2.2.2
  unfold f_X10_row at hf
  refine lv_aload_n hx hb dX10_row_0 rfl (lv_at hl 0 rfl) ?_
  refine z_get hS0 in_X10_row_X10 hK hw 0 1 rfl rfl rfl (by decide) (hts _ m_X10_row_0) (v := .ref (q ((o + 3) + 0))) rfl dX10_row_1 ?_
  refine lv_iload_n hx hb dX10_row_4 rfl (lv_at hl 1 rfl) ?_
  obtain ⟨r1, e2, hf⟩ := z_bd hf
  refine z_callV1 (As := [.int v1]) (rest := []) (bs' := [bX10 G q o, bX9 G q (o + 1) S.1.1 S.1.2.1 S.1.2.2.1 S.1.2.2.2.1 S.1.2.2.2.2, bX6 G q (o + 3) S.2.1.1 S.2.1.2, bX8 G q (o + 12) S.2.2.1.1 S.2.2.1.2, bX5 G q (o + 19) S.2.2.2.1.2.1 S.2.2.2.1.2.2.1 S.2.2.2.1.2.2.2.1 S.2.2.2.1.2.2.2.2, bX2 G q ((o + 19) + 2) S.2.2.2.1.1.1 S.2.2.2.1.1.2.1 S.2.2.2.1.1.2.2.1 S.2.2.2.1.1.2.2.2.1 S.2.2.2.1.1.2.2.2.2.1 S.2.2.2.1.1.2.2.2.2.2.1 S.2.2.2.1.1.2.2.2.2.2.2.1 S.2.2.2.1.1.2.2.2.2.2.2.2, bX2 G q (o + 27) S.2.2.2.2.1.1 S.2.2.2.2.1.2.1 S.2.2.2.2.1.2.2.1 S.2.2.2.2.1.2.2.2.1 S.2.2.2.2.1.2.2.2.2.1 S.2.2.2.2.1.2.2.2.2.2.1 S.2.2.2.2.1.2.2.2.2.2.2.1 S.2.2.2.2.1.2.2.2.2.2.2.2, bX1 G q (o + 33) S.2.2.2.2.2.1.1 S.2.2.2.2.2.1.2.1 S.2.2.2.2.2.1.2.2.1 S.2.2.2.2.2.1.2.2.2, bX4 G q (o + 36) S.2.2.2.2.2.2.1.1 S.2.2.2.2.2.2.1.2, bX3 G q (o + 38) S.2.2.2.2.2.2.2.1.1 S.2.2.2.2.2.2.2.1.2.1 S.2.2.2.2.2.2.2.1.2.2.1 S.2.2.2.2.2.2.2.1.2.2.2, bX0 G q (o + 43) S.2.2.2.2.2.2.2.2.1.2.2.1 S.2.2.2.2.2.2.2.2.1.2.2.2, bX2 G q ((o + 43) + 3) S.2.2.2.2.2.2.2.2.1.1.1 S.2.2.2.2.2.2.2.2.1.1.2.1 S.2.2.2.2.2.2.2.2.1.1.2.2.1 S.2.2.2.2.2.2.2.2.1.1.2.2.2.1 S.2.2.2.2.2.2.2.2.1.1.2.2.2.2.1 S.2.2.2.2.2.2.2.2.1.1.2.2.2.2.2.1 S.2.2.2.2.2.2.2.2.1.1.2.2.2.2.2.2.1 S.2.2.2.2.2.2.2.2.1.1.2.2.2.2.2.2.2, bX4 G q ((o + 43) + 9) S.2.2.2.2.2.2.2.2.1.2.1.1 S.2.2.2.2.2.2.2.2.1.2.1.2, bX7 G q (o + 54) S.2.2.2.2.2.2.2.2.2.1 S.2.2.2.2.2.2.2.2.2.2.1 S.2.2.2.2.2.2.2.2.2.2.2]) hS0 (c_X6_isNumber l G q (o + 3) S.2.1 v1 r1 e2) zc_X6_isNumber rfl gX10_row_X6_isNumber ⟨Nat.le_of_ble_eq_true rfl, Nat.le_of_ble_eq_true rfl⟩ hK hA hT hw (is := [2]) rfl rfl rfl rfl rfl rfl rfl hl.1 rfl (Nat.le_of_ble_eq_true rfl) dX10_row_5 (fun H locs hw => ?_)
  refine lv_if_eq (tgt := 17) hx hb dX10_row_8 rfl (fun hc => ?_) (fun hc => ?_)
  · have hf := z_t hc hf
    refine lv_iconst (v := (-1)) hx hb dX10_row_17 rfl ?_
    cases hf
    exact z_iret hx hb hr hlk hw dX10_row_18
  · have hf := z_f hc hf
    refine lv_iload_n hx hb dX10_row_11 rfl (lv_at hl 2 rfl) ?_
    refine lv_bipush (v := 60) hx hb dX10_row_12 rfl ?_
    refine lv_icmp_le (tgt := 19) hx hb dX10_row_14 rfl (fun hc => ?_) (fun hc => ?_)
    · have hf := z_t hc hf
      refine lv_iload_n hx hb dX10_row_19 rfl (lv_at hl 2 rfl) ?_
      refine lv_if_ge (tgt := 32) hx hb dX10_row_20 rfl (fun hc => ?_) (fun hc => ?_)
      · have hf := z_t hc hf
        refine lv_aload_n hx hb dX10_row_32 rfl (lv_at hl 0 rfl) ?_
        refine z_get hS0 in_X10_row_X10 hK hw 0 1 rfl rfl rfl (by decide) (hts _ m_X10_row_0) (v := .ref (q ((o + 3) + 0))) rfl dX10_row_33 ?_
        refine lv_iload_n hx hb dX10_row_36 rfl (lv_at hl 1 rfl) ?_
        refine lv_iload_n hx hb dX10_row_37 rfl (lv_at hl 2 rfl) ?_
        obtain ⟨r3, e4, hf⟩ := z_bd hf
        refine z_callV0 (As := [.int v1, .int v2]) (rest := []) (bs' := [bX10 G q o, bX9 G q (o + 1) S.1.1 S.1.2.1 S.1.2.2.1 S.1.2.2.2.1 S.1.2.2.2.2, bX6 G q (o + 3) r3.1 r3.2, bX8 G q (o + 12) S.2.2.1.1 S.2.2.1.2, bX5 G q (o + 19) S.2.2.2.1.2.1 S.2.2.2.1.2.2.1 S.2.2.2.1.2.2.2.1 S.2.2.2.1.2.2.2.2, bX2 G q ((o + 19) + 2) S.2.2.2.1.1.1 S.2.2.2.1.1.2.1 S.2.2.2.1.1.2.2.1 S.2.2.2.1.1.2.2.2.1 S.2.2.2.1.1.2.2.2.2.1 S.2.2.2.1.1.2.2.2.2.2.1 S.2.2.2.1.1.2.2.2.2.2.2.1 S.2.2.2.1.1.2.2.2.2.2.2.2, bX2 G q (o + 27) S.2.2.2.2.1.1 S.2.2.2.2.1.2.1 S.2.2.2.2.1.2.2.1 S.2.2.2.2.1.2.2.2.1 S.2.2.2.2.1.2.2.2.2.1 S.2.2.2.2.1.2.2.2.2.2.1 S.2.2.2.2.1.2.2.2.2.2.2.1 S.2.2.2.2.1.2.2.2.2.2.2.2, bX1 G q (o + 33) S.2.2.2.2.2.1.1 S.2.2.2.2.2.1.2.1 S.2.2.2.2.2.1.2.2.1 S.2.2.2.2.2.1.2.2.2, bX4 G q (o + 36) S.2.2.2.2.2.2.1.1 S.2.2.2.2.2.2.1.2, bX3 G q (o + 38) S.2.2.2.2.2.2.2.1.1 S.2.2.2.2.2.2.2.1.2.1 S.2.2.2.2.2.2.2.1.2.2.1 S.2.2.2.2.2.2.2.1.2.2.2, bX0 G q (o + 43) S.2.2.2.2.2.2.2.2.1.2.2.1 S.2.2.2.2.2.2.2.2.1.2.2.2, bX2 G q ((o + 43) + 3) S.2.2.2.2.2.2.2.2.1.1.1 S.2.2.2.2.2.2.2.2.1.1.2.1 S.2.2.2.2.2.2.2.2.1.1.2.2.1 S.2.2.2.2.2.2.2.2.1.1.2.2.2.1 S.2.2.2.2.2.2.2.2.1.1.2.2.2.2.1 S.2.2.2.2.2.2.2.2.1.1.2.2.2.2.2.1 S.2.2.2.2.2.2.2.2.1.1.2.2.2.2.2.2.1 S.2.2.2.2.2.2.2.2.1.1.2.2.2.2.2.2.2, bX4 G q ((o + 43) + 9) S.2.2.2.2.2.2.2.2.1.2.1.1 S.2.2.2.2.2.2.2.2.1.2.1.2, bX7 G q (o + 54) S.2.2.2.2.2.2.2.2.2.1 S.2.2.2.2.2.2.2.2.2.2.1 S.2.2.2.2.2.2.2.2.2.2.2]) hS0 (c_X6_make l G q (o + 3) S.2.1 v1 v2 r3 e4) zc_X6_make rfl gX10_row_X6_make ⟨Nat.le_of_ble_eq_true rfl, Nat.le_of_ble_eq_true rfl⟩ hK hA hT hw (is := [2]) rfl rfl rfl rfl rfl rfl rfl hl.1 rfl (Nat.le_of_ble_eq_true rfl) dX10_row_38 (fun H locs hw => ?_)
        refine lv_iload_n hx hb dX10_row_41 rfl (lv_at hl 2 rfl) ?_
        cases hf
        exact z_iret hx hb hr hlk hw dX10_row_42
      · have hf := z_f hc hf
        refine lv_aload_n hx hb dX10_row_23 rfl (lv_at hl 0 rfl) ?_
        refine z_get hS0 in_X10_row_X10 hK hw 0 0 rfl rfl rfl (by decide) (hts _ m_X10_row_1) (v := .ref (q ((o + 1) + 0))) rfl dX10_row_24 ?_
        refine lv_iconst (v := 5) hx hb dX10_row_27 rfl ?_
        obtain ⟨r5, e6, hf⟩ := z_bd hf
        refine z_callV1 (As := [.int 5]) (rest := []) (bs' := [bX10 G q o, bX9 G q (o + 1) r5.2.1 r5.2.2.1 r5.2.2.2.1 r5.2.2.2.2.1 r5.2.2.2.2.2, bX6 G q (o + 3) S.2.1.1 S.2.1.2, bX8 G q (o + 12) S.2.2.1.1 S.2.2.1.2, bX5 G q (o + 19) S.2.2.2.1.2.1 S.2.2.2.1.2.2.1 S.2.2.2.1.2.2.2.1 S.2.2.2.1.2.2.2.2, bX2 G q ((o + 19) + 2) S.2.2.2.1.1.1 S.2.2.2.1.1.2.1 S.2.2.2.1.1.2.2.1 S.2.2.2.1.1.2.2.2.1 S.2.2.2.1.1.2.2.2.2.1 S.2.2.2.1.1.2.2.2.2.2.1 S.2.2.2.1.1.2.2.2.2.2.2.1 S.2.2.2.1.1.2.2.2.2.2.2.2, bX2 G q (o + 27) S.2.2.2.2.1.1 S.2.2.2.2.1.2.1 S.2.2.2.2.1.2.2.1 S.2.2.2.2.1.2.2.2.1 S.2.2.2.2.1.2.2.2.2.1 S.2.2.2.2.1.2.2.2.2.2.1 S.2.2.2.2.1.2.2.2.2.2.2.1 S.2.2.2.2.1.2.2.2.2.2.2.2, bX1 G q (o + 33) S.2.2.2.2.2.1.1 S.2.2.2.2.2.1.2.1 S.2.2.2.2.2.1.2.2.1 S.2.2.2.2.2.1.2.2.2, bX4 G q (o + 36) S.2.2.2.2.2.2.1.1 S.2.2.2.2.2.2.1.2, bX3 G q (o + 38) S.2.2.2.2.2.2.2.1.1 S.2.2.2.2.2.2.2.1.2.1 S.2.2.2.2.2.2.2.1.2.2.1 S.2.2.2.2.2.2.2.1.2.2.2, bX0 G q (o + 43) S.2.2.2.2.2.2.2.2.1.2.2.1 S.2.2.2.2.2.2.2.2.1.2.2.2, bX2 G q ((o + 43) + 3) S.2.2.2.2.2.2.2.2.1.1.1 S.2.2.2.2.2.2.2.2.1.1.2.1 S.2.2.2.2.2.2.2.2.1.1.2.2.1 S.2.2.2.2.2.2.2.2.1.1.2.2.2.1 S.2.2.2.2.2.2.2.2.1.1.2.2.2.2.1 S.2.2.2.2.2.2.2.2.1.1.2.2.2.2.2.1 S.2.2.2.2.2.2.2.2.1.1.2.2.2.2.2.2.1 S.2.2.2.2.2.2.2.2.1.1.2.2.2.2.2.2.2, bX4 G q ((o + 43) + 9) S.2.2.2.2.2.2.2.2.1.2.1.1 S.2.2.2.2.2.2.2.2.1.2.1.2, bX7 G q (o + 54) S.2.2.2.2.2.2.2.2.2.1 S.2.2.2.2.2.2.2.2.2.2.1 S.2.2.2.2.2.2.2.2.2.2.2]) hS0 (c_X9_found l G q (o + 1) S.1 5 r5 e6) zc_X9_found rfl gX10_row_X9_found ⟨Nat.le_of_ble_eq_true rfl, Nat.le_of_ble_eq_true rfl⟩ hK hA hT hw (is := [1]) rfl rfl rfl rfl rfl rfl rfl hl.1 rfl (Nat.le_of_ble_eq_true rfl) dX10_row_28 (fun H locs hw => ?_)
        cases hf
        exact z_iret hx hb hr hlk hw dX10_row_31
    · have hf := z_f hc hf
      refine lv_iconst (v := (-1)) hx hb dX10_row_17 rfl ?_
      cases hf
      exact z_iret hx hb hr hlk hw dX10_row_18
theorem zc_X10_saw : zC yX10_saw wsX10_saw cX10_saw 3 (some .int) 2 := ⟨⟨_, rfl⟩, by decide +kernel, by decide +kernel, by decide +kernel, by decide +kernel⟩
theorem m_X10_saw_0 : (.fieldLink RX10 40 "CellKeys" "jail" "LCellKeys$Jail;" : Cond) ∈ wsX10_saw := by decide +kernel
theorem in_X10_saw_X10 : ∀ w ∈ u_ws RX10 TX10 10, w ∈ wsX10_saw := by decide +kernel
theorem m_X10_saw_1 : (.fieldLink RX10 75 "CellKeys" "sightings" "LCellKeys$Sightings;" : Cond) ∈ wsX10_saw := by decide +kernel
set_option maxHeartbeats 4000000 in
set_option maxRecDepth 100000 in
theorem c_X10_saw (l : Launch) (G : zG) (q : Nat → Nat) (o : Nat) (S : VX10) (v1 : Int32) (v2 : Int32) (y : Int32 × VX10) (hf : f_X10_saw S v1 v2 = some y) : zMet l yX10_saw wsX10_saw 2 42 G [.ref (q (o + 0)), .int v1, .int v2] [bX10 G q o, bX9 G q (o + 1) S.1.1 S.1.2.1 S.1.2.2.1 S.1.2.2.2.1 S.1.2.2.2.2, bX6 G q (o + 3) S.2.1.1 S.2.1.2, bX8 G q (o + 12) S.2.2.1.1 S.2.2.1.2, bX5 G q (o + 19) S.2.2.2.1.2.1 S.2.2.2.1.2.2.1 S.2.2.2.1.2.2.2.1 S.2.2.2.1.2.2.2.2, bX2 G q ((o + 19) + 2) S.2.2.2.1.1.1 S.2.2.2.1.1.2.1 S.2.2.2.1.1.2.2.1 S.2.2.2.1.1.2.2.2.1 S.2.2.2.1.1.2.2.2.2.1 S.2.2.2.1.1.2.2.2.2.2.1 S.2.2.2.1.1.2.2.2.2.2.2.1 S.2.2.2.1.1.2.2.2.2.2.2.2, bX2 G q (o + 27) S.2.2.2.2.1.1 S.2.2.2.2.1.2.1 S.2.2.2.2.1.2.2.1 S.2.2.2.2.1.2.2.2.1 S.2.2.2.2.1.2.2.2.2.1 S.2.2.2.2.1.2.2.2.2.2.1 S.2.2.2.2.1.2.2.2.2.2.2.1 S.2.2.2.2.1.2.2.2.2.2.2.2, bX1 G q (o + 33) S.2.2.2.2.2.1.1 S.2.2.2.2.2.1.2.1 S.2.2.2.2.2.1.2.2.1 S.2.2.2.2.2.1.2.2.2, bX4 G q (o + 36) S.2.2.2.2.2.2.1.1 S.2.2.2.2.2.2.1.2, bX3 G q (o + 38) S.2.2.2.2.2.2.2.1.1 S.2.2.2.2.2.2.2.1.2.1 S.2.2.2.2.2.2.2.1.2.2.1 S.2.2.2.2.2.2.2.1.2.2.2, bX0 G q (o + 43) S.2.2.2.2.2.2.2.2.1.2.2.1 S.2.2.2.2.2.2.2.2.1.2.2.2, bX2 G q ((o + 43) + 3) S.2.2.2.2.2.2.2.2.1.1.1 S.2.2.2.2.2.2.2.2.1.1.2.1 S.2.2.2.2.2.2.2.2.1.1.2.2.1 S.2.2.2.2.2.2.2.2.1.1.2.2.2.1 S.2.2.2.2.2.2.2.2.1.1.2.2.2.2.1 S.2.2.2.2.2.2.2.2.1.1.2.2.2.2.2.1 S.2.2.2.2.2.2.2.2.1.1.2.2.2.2.2.2.1 S.2.2.2.2.2.2.2.2.1.1.2.2.2.2.2.2.2, bX4 G q ((o + 43) + 9) S.2.2.2.2.2.2.2.2.1.2.1.1 S.2.2.2.2.2.2.2.2.1.2.1.2, bX7 G q (o + 54) S.2.2.2.2.2.2.2.2.2.1 S.2.2.2.2.2.2.2.2.2.2.1 S.2.2.2.2.2.2.2.2.2.2.2] (some (.int y.1)) [bX10 G q o, bX9 G q (o + 1) y.2.1.1 y.2.1.2.1 y.2.1.2.2.1 y.2.1.2.2.2.1 y.2.1.2.2.2.2, bX6 G q (o + 3) y.2.2.1.1 y.2.2.1.2, bX8 G q (o + 12) y.2.2.2.1.1 y.2.2.2.1.2, bX5 G q (o + 19) y.2.2.2.2.1.2.1 y.2.2.2.2.1.2.2.1 y.2.2.2.2.1.2.2.2.1 y.2.2.2.2.1.2.2.2.2, bX2 G q ((o + 19) + 2) y.2.2.2.2.1.1.1 y.2.2.2.2.1.1.2.1 y.2.2.2.2.1.1.2.2.1 y.2.2.2.2.1.1.2.2.2.1 y.2.2.2.2.1.1.2.2.2.2.1 y.2.2.2.2.1.1.2.2.2.2.2.1 y.2.2.2.2.1.1.2.2.2.2.2.2.1 y.2.2.2.2.1.1.2.2.2.2.2.2.2, bX2 G q (o + 27) y.2.2.2.2.2.1.1 y.2.2.2.2.2.1.2.1 y.2.2.2.2.2.1.2.2.1 y.2.2.2.2.2.1.2.2.2.1 y.2.2.2.2.2.1.2.2.2.2.1 y.2.2.2.2.2.1.2.2.2.2.2.1 y.2.2.2.2.2.1.2.2.2.2.2.2.1 y.2.2.2.2.2.1.2.2.2.2.2.2.2, bX1 G q (o + 33) y.2.2.2.2.2.2.1.1 y.2.2.2.2.2.2.1.2.1 y.2.2.2.2.2.2.1.2.2.1 y.2.2.2.2.2.2.1.2.2.2, bX4 G q (o + 36) y.2.2.2.2.2.2.2.1.1 y.2.2.2.2.2.2.2.1.2, bX3 G q (o + 38) y.2.2.2.2.2.2.2.2.1.1 y.2.2.2.2.2.2.2.2.1.2.1 y.2.2.2.2.2.2.2.2.1.2.2.1 y.2.2.2.2.2.2.2.2.1.2.2.2, bX0 G q (o + 43) y.2.2.2.2.2.2.2.2.2.1.2.2.1 y.2.2.2.2.2.2.2.2.2.1.2.2.2, bX2 G q ((o + 43) + 3) y.2.2.2.2.2.2.2.2.2.1.1.1 y.2.2.2.2.2.2.2.2.2.1.1.2.1 y.2.2.2.2.2.2.2.2.2.1.1.2.2.1 y.2.2.2.2.2.2.2.2.2.1.1.2.2.2.1 y.2.2.2.2.2.2.2.2.2.1.1.2.2.2.2.1 y.2.2.2.2.2.2.2.2.2.1.1.2.2.2.2.2.1 y.2.2.2.2.2.2.2.2.2.1.1.2.2.2.2.2.2.1 y.2.2.2.2.2.2.2.2.2.1.1.2.2.2.2.2.2.2, bX4 G q ((o + 43) + 9) y.2.2.2.2.2.2.2.2.2.1.2.1.1 y.2.2.2.2.2.2.2.2.2.1.2.1.2, bX7 G q (o + 54) y.2.2.2.2.2.2.2.2.2.2.1 y.2.2.2.2.2.2.2.2.2.2.2.1 y.2.2.2.2.2.2.2.2.2.2.2.2] := by
  refine z_met zc_X10_saw (Nat.le_of_ble_eq_true rfl) ?_
  intro p e s m below meth c A ls hZ hl hw
  have hl : lv_has ls 3 [(0, .ref (q (o + 0))), (1, .int v1), (2, .int v2)] := hl
  obtain ⟨hS0, hr, hlk, hK, hA, hT⟩ := id hZ
  have hx := hS0.1
  have hb := hS0.2.1
  have hml := hS0.2.2.1
  have hown : s.vm.findClass RX10 = some m.cls := hS0.2.2.2.1
  have hts := hS0.2.2.2.2
  unfold f_X10_saw at hf
  refine lv_aload_n hx hb dX10_saw_0 rfl (lv_at hl 0 rfl) ?_
  refine z_get hS0 in_X10_saw_X10 hK hw 0 4 rfl rfl rfl (by decide) (hts _ m_X10_saw_0) (v := .ref (q ((o + 27) + 0))) rfl dX10_saw_1 ?_
  refine lv_iload_n hx hb dX10_saw_4 rfl (lv_at hl 1 rfl) ?_
  obtain ⟨r1, e2, hf⟩ := z_bd hf
  refine z_callV1 (As := [.int v1]) (rest := []) (bs' := [bX10 G q o, bX9 G q (o + 1) S.1.1 S.1.2.1 S.1.2.2.1 S.1.2.2.2.1 S.1.2.2.2.2, bX6 G q (o + 3) S.2.1.1 S.2.1.2, bX8 G q (o + 12) S.2.2.1.1 S.2.2.1.2, bX5 G q (o + 19) S.2.2.2.1.2.1 S.2.2.2.1.2.2.1 S.2.2.2.1.2.2.2.1 S.2.2.2.1.2.2.2.2, bX2 G q ((o + 19) + 2) S.2.2.2.1.1.1 S.2.2.2.1.1.2.1 S.2.2.2.1.1.2.2.1 S.2.2.2.1.1.2.2.2.1 S.2.2.2.1.1.2.2.2.2.1 S.2.2.2.1.1.2.2.2.2.2.1 S.2.2.2.1.1.2.2.2.2.2.2.1 S.2.2.2.1.1.2.2.2.2.2.2.2, bX2 G q (o + 27) S.2.2.2.2.1.1 S.2.2.2.2.1.2.1 S.2.2.2.2.1.2.2.1 S.2.2.2.2.1.2.2.2.1 S.2.2.2.2.1.2.2.2.2.1 S.2.2.2.2.1.2.2.2.2.2.1 S.2.2.2.2.1.2.2.2.2.2.2.1 S.2.2.2.2.1.2.2.2.2.2.2.2, bX1 G q (o + 33) S.2.2.2.2.2.1.1 S.2.2.2.2.2.1.2.1 S.2.2.2.2.2.1.2.2.1 S.2.2.2.2.2.1.2.2.2, bX4 G q (o + 36) S.2.2.2.2.2.2.1.1 S.2.2.2.2.2.2.1.2, bX3 G q (o + 38) S.2.2.2.2.2.2.2.1.1 S.2.2.2.2.2.2.2.1.2.1 S.2.2.2.2.2.2.2.1.2.2.1 S.2.2.2.2.2.2.2.1.2.2.2, bX0 G q (o + 43) S.2.2.2.2.2.2.2.2.1.2.2.1 S.2.2.2.2.2.2.2.2.1.2.2.2, bX2 G q ((o + 43) + 3) S.2.2.2.2.2.2.2.2.1.1.1 S.2.2.2.2.2.2.2.2.1.1.2.1 S.2.2.2.2.2.2.2.2.1.1.2.2.1 S.2.2.2.2.2.2.2.2.1.1.2.2.2.1 S.2.2.2.2.2.2.2.2.1.1.2.2.2.2.1 S.2.2.2.2.2.2.2.2.1.1.2.2.2.2.2.1 S.2.2.2.2.2.2.2.2.1.1.2.2.2.2.2.2.1 S.2.2.2.2.2.2.2.2.1.1.2.2.2.2.2.2.2, bX4 G q ((o + 43) + 9) S.2.2.2.2.2.2.2.2.1.2.1.1 S.2.2.2.2.2.2.2.2.1.2.1.2, bX7 G q (o + 54) S.2.2.2.2.2.2.2.2.2.1 S.2.2.2.2.2.2.2.2.2.2.1 S.2.2.2.2.2.2.2.2.2.2.2]) hS0 (c_X2_isCell l G q (o + 27) S.2.2.2.2.1 v1 r1 e2) zc_X2_isCell rfl gX10_saw_X2_isCell ⟨Nat.le_of_ble_eq_true rfl, Nat.le_of_ble_eq_true rfl⟩ hK hA hT hw (is := [6]) rfl rfl rfl rfl rfl rfl rfl hl.1 rfl (Nat.le_of_ble_eq_true rfl) dX10_saw_5 (fun H locs hw => ?_)
  refine lv_if_eq (tgt := 18) hx hb dX10_saw_8 rfl (fun hc => ?_) (fun hc => ?_)
  · have hf := z_t hc hf
    refine lv_iconst (v := (-1)) hx hb dX10_saw_18 rfl ?_
    cases hf
    exact z_iret hx hb hr hlk hw dX10_saw_19
  · have hf := z_f hc hf
    refine lv_iload_n hx hb dX10_saw_11 rfl (lv_at hl 2 rfl) ?_
    obtain ⟨r3, e4, hf⟩ := z_bd hf
    refine z_callS1 (As := [.int v2]) (rest := []) (bs' := [bX10 G q o, bX9 G q (o + 1) S.1.1 S.1.2.1 S.1.2.2.1 S.1.2.2.2.1 S.1.2.2.2.2, bX6 G q (o + 3) S.2.1.1 S.2.1.2, bX8 G q (o + 12) S.2.2.1.1 S.2.2.1.2, bX5 G q (o + 19) S.2.2.2.1.2.1 S.2.2.2.1.2.2.1 S.2.2.2.1.2.2.2.1 S.2.2.2.1.2.2.2.2, bX2 G q ((o + 19) + 2) S.2.2.2.1.1.1 S.2.2.2.1.1.2.1 S.2.2.2.1.1.2.2.1 S.2.2.2.1.1.2.2.2.1 S.2.2.2.1.1.2.2.2.2.1 S.2.2.2.1.1.2.2.2.2.2.1 S.2.2.2.1.1.2.2.2.2.2.2.1 S.2.2.2.1.1.2.2.2.2.2.2.2, bX2 G q (o + 27) S.2.2.2.2.1.1 S.2.2.2.2.1.2.1 S.2.2.2.2.1.2.2.1 S.2.2.2.2.1.2.2.2.1 S.2.2.2.2.1.2.2.2.2.1 S.2.2.2.2.1.2.2.2.2.2.1 S.2.2.2.2.1.2.2.2.2.2.2.1 S.2.2.2.2.1.2.2.2.2.2.2.2, bX1 G q (o + 33) S.2.2.2.2.2.1.1 S.2.2.2.2.2.1.2.1 S.2.2.2.2.2.1.2.2.1 S.2.2.2.2.2.1.2.2.2, bX4 G q (o + 36) S.2.2.2.2.2.2.1.1 S.2.2.2.2.2.2.1.2, bX3 G q (o + 38) S.2.2.2.2.2.2.2.1.1 S.2.2.2.2.2.2.2.1.2.1 S.2.2.2.2.2.2.2.1.2.2.1 S.2.2.2.2.2.2.2.1.2.2.2, bX0 G q (o + 43) S.2.2.2.2.2.2.2.2.1.2.2.1 S.2.2.2.2.2.2.2.2.1.2.2.2, bX2 G q ((o + 43) + 3) S.2.2.2.2.2.2.2.2.1.1.1 S.2.2.2.2.2.2.2.2.1.1.2.1 S.2.2.2.2.2.2.2.2.1.1.2.2.1 S.2.2.2.2.2.2.2.2.1.1.2.2.2.1 S.2.2.2.2.2.2.2.2.1.1.2.2.2.2.1 S.2.2.2.2.2.2.2.2.1.1.2.2.2.2.2.1 S.2.2.2.2.2.2.2.2.1.1.2.2.2.2.2.2.1 S.2.2.2.2.2.2.2.2.1.1.2.2.2.2.2.2.2, bX4 G q ((o + 43) + 9) S.2.2.2.2.2.2.2.2.1.2.1.1 S.2.2.2.2.2.2.2.2.1.2.1.2, bX7 G q (o + 54) S.2.2.2.2.2.2.2.2.2.1 S.2.2.2.2.2.2.2.2.2.2.1 S.2.2.2.2.2.2.2.2.2.2.2]) hS0 (c_X10_isYesOrNo l G v2 r3 e4) zc_X10_isYesOrNo gX10_saw_X10_isYesOrNo ⟨Nat.le_of_ble_eq_true rfl, Nat.le_of_ble_eq_true rfl⟩ hK hA hT hw (is := []) rfl rfl rfl rfl rfl hl.1 rfl (Nat.le_of_ble_eq_true rfl) dX10_saw_12 (fun H locs hw => ?_)
    refine lv_if_ne (tgt := 20) hx hb dX10_saw_15 rfl (fun hc => ?_) (fun hc => ?_)
    · have hf := z_f hc hf
      refine lv_aload_n hx hb dX10_saw_20 rfl (lv_at hl 0 rfl) ?_
      refine z_get hS0 in_X10_saw_X10 hK hw 0 9 rfl rfl rfl (by decide) (hts _ m_X10_saw_1) (v := .ref (q ((o + 54) + 0))) rfl dX10_saw_21 ?_
      obtain ⟨r5, e6, hf⟩ := z_bd hf
      refine z_callV1 (As := []) (rest := []) (bs' := [bX10 G q o, bX9 G q (o + 1) S.1.1 S.1.2.1 S.1.2.2.1 S.1.2.2.2.1 S.1.2.2.2.2, bX6 G q (o + 3) S.2.1.1 S.2.1.2, bX8 G q (o + 12) S.2.2.1.1 S.2.2.1.2, bX5 G q (o + 19) S.2.2.2.1.2.1 S.2.2.2.1.2.2.1 S.2.2.2.1.2.2.2.1 S.2.2.2.1.2.2.2.2, bX2 G q ((o + 19) + 2) S.2.2.2.1.1.1 S.2.2.2.1.1.2.1 S.2.2.2.1.1.2.2.1 S.2.2.2.1.1.2.2.2.1 S.2.2.2.1.1.2.2.2.2.1 S.2.2.2.1.1.2.2.2.2.2.1 S.2.2.2.1.1.2.2.2.2.2.2.1 S.2.2.2.1.1.2.2.2.2.2.2.2, bX2 G q (o + 27) S.2.2.2.2.1.1 S.2.2.2.2.1.2.1 S.2.2.2.2.1.2.2.1 S.2.2.2.2.1.2.2.2.1 S.2.2.2.2.1.2.2.2.2.1 S.2.2.2.2.1.2.2.2.2.2.1 S.2.2.2.2.1.2.2.2.2.2.2.1 S.2.2.2.2.1.2.2.2.2.2.2.2, bX1 G q (o + 33) S.2.2.2.2.2.1.1 S.2.2.2.2.2.1.2.1 S.2.2.2.2.2.1.2.2.1 S.2.2.2.2.2.1.2.2.2, bX4 G q (o + 36) S.2.2.2.2.2.2.1.1 S.2.2.2.2.2.2.1.2, bX3 G q (o + 38) S.2.2.2.2.2.2.2.1.1 S.2.2.2.2.2.2.2.1.2.1 S.2.2.2.2.2.2.2.1.2.2.1 S.2.2.2.2.2.2.2.1.2.2.2, bX0 G q (o + 43) S.2.2.2.2.2.2.2.2.1.2.2.1 S.2.2.2.2.2.2.2.2.1.2.2.2, bX2 G q ((o + 43) + 3) S.2.2.2.2.2.2.2.2.1.1.1 S.2.2.2.2.2.2.2.2.1.1.2.1 S.2.2.2.2.2.2.2.2.1.1.2.2.1 S.2.2.2.2.2.2.2.2.1.1.2.2.2.1 S.2.2.2.2.2.2.2.2.1.1.2.2.2.2.1 S.2.2.2.2.2.2.2.2.1.1.2.2.2.2.2.1 S.2.2.2.2.2.2.2.2.1.1.2.2.2.2.2.2.1 S.2.2.2.2.2.2.2.2.1.1.2.2.2.2.2.2.2, bX4 G q ((o + 43) + 9) S.2.2.2.2.2.2.2.2.1.2.1.1 S.2.2.2.2.2.2.2.2.1.2.1.2, bX7 G q (o + 54) S.2.2.2.2.2.2.2.2.2.1 S.2.2.2.2.2.2.2.2.2.2.1 S.2.2.2.2.2.2.2.2.2.2.2]) hS0 (c_X7_isFull l G q (o + 54) S.2.2.2.2.2.2.2.2.2 r5 e6) zc_X7_isFull rfl gX10_saw_X7_isFull ⟨Nat.le_of_ble_eq_true rfl, Nat.le_of_ble_eq_true rfl⟩ hK hA hT hw (is := [13]) rfl rfl rfl rfl rfl rfl rfl hl.1 rfl (Nat.le_of_ble_eq_true rfl) dX10_saw_24 (fun H locs hw => ?_)
      refine lv_if_eq (tgt := 33) hx hb dX10_saw_27 rfl (fun hc => ?_) (fun hc => ?_)
      · have hf := z_t hc hf
        refine lv_aload_n hx hb dX10_saw_33 rfl (lv_at hl 0 rfl) ?_
        refine z_get hS0 in_X10_saw_X10 hK hw 0 9 rfl rfl rfl (by decide) (hts _ m_X10_saw_1) (v := .ref (q ((o + 54) + 0))) rfl dX10_saw_34 ?_
        refine lv_iload_n hx hb dX10_saw_37 rfl (lv_at hl 1 rfl) ?_
        refine lv_iload_n hx hb dX10_saw_38 rfl (lv_at hl 2 rfl) ?_
        obtain ⟨r7, e8, hf⟩ := z_bd hf
        refine z_callV1 (As := [.int v1, .int v2]) (rest := []) (bs' := [bX10 G q o, bX9 G q (o + 1) S.1.1 S.1.2.1 S.1.2.2.1 S.1.2.2.2.1 S.1.2.2.2.2, bX6 G q (o + 3) S.2.1.1 S.2.1.2, bX8 G q (o + 12) S.2.2.1.1 S.2.2.1.2, bX5 G q (o + 19) S.2.2.2.1.2.1 S.2.2.2.1.2.2.1 S.2.2.2.1.2.2.2.1 S.2.2.2.1.2.2.2.2, bX2 G q ((o + 19) + 2) S.2.2.2.1.1.1 S.2.2.2.1.1.2.1 S.2.2.2.1.1.2.2.1 S.2.2.2.1.1.2.2.2.1 S.2.2.2.1.1.2.2.2.2.1 S.2.2.2.1.1.2.2.2.2.2.1 S.2.2.2.1.1.2.2.2.2.2.2.1 S.2.2.2.1.1.2.2.2.2.2.2.2, bX2 G q (o + 27) S.2.2.2.2.1.1 S.2.2.2.2.1.2.1 S.2.2.2.2.1.2.2.1 S.2.2.2.2.1.2.2.2.1 S.2.2.2.2.1.2.2.2.2.1 S.2.2.2.2.1.2.2.2.2.2.1 S.2.2.2.2.1.2.2.2.2.2.2.1 S.2.2.2.2.1.2.2.2.2.2.2.2, bX1 G q (o + 33) S.2.2.2.2.2.1.1 S.2.2.2.2.2.1.2.1 S.2.2.2.2.2.1.2.2.1 S.2.2.2.2.2.1.2.2.2, bX4 G q (o + 36) S.2.2.2.2.2.2.1.1 S.2.2.2.2.2.2.1.2, bX3 G q (o + 38) S.2.2.2.2.2.2.2.1.1 S.2.2.2.2.2.2.2.1.2.1 S.2.2.2.2.2.2.2.1.2.2.1 S.2.2.2.2.2.2.2.1.2.2.2, bX0 G q (o + 43) S.2.2.2.2.2.2.2.2.1.2.2.1 S.2.2.2.2.2.2.2.2.1.2.2.2, bX2 G q ((o + 43) + 3) S.2.2.2.2.2.2.2.2.1.1.1 S.2.2.2.2.2.2.2.2.1.1.2.1 S.2.2.2.2.2.2.2.2.1.1.2.2.1 S.2.2.2.2.2.2.2.2.1.1.2.2.2.1 S.2.2.2.2.2.2.2.2.1.1.2.2.2.2.1 S.2.2.2.2.2.2.2.2.1.1.2.2.2.2.2.1 S.2.2.2.2.2.2.2.2.1.1.2.2.2.2.2.2.1 S.2.2.2.2.2.2.2.2.1.1.2.2.2.2.2.2.2, bX4 G q ((o + 43) + 9) S.2.2.2.2.2.2.2.2.1.2.1.1 S.2.2.2.2.2.2.2.2.1.2.1.2, bX7 G q (o + 54) r7.2.1 r7.2.2.1 r7.2.2.2]) hS0 (c_X7_add l G q (o + 54) S.2.2.2.2.2.2.2.2.2 v1 v2 r7 e8) zc_X7_add rfl gX10_saw_X7_add ⟨Nat.le_of_ble_eq_true rfl, Nat.le_of_ble_eq_true rfl⟩ hK hA hT hw (is := [13]) rfl rfl rfl rfl rfl rfl rfl hl.1 rfl (Nat.le_of_ble_eq_true rfl) dX10_saw_39 (fun H locs hw => ?_)
        cases hf
        exact z_iret hx hb hr hlk hw dX10_saw_42
      · have hf := z_f hc hf
        refine lv_bipush (v := (-2)) hx hb dX10_saw_30 rfl ?_
        cases hf
        exact z_iret hx hb hr hlk hw dX10_saw_32
    · have hf := z_t hc hf
      refine lv_iconst (v := (-1)) hx hb dX10_saw_18 rfl ?_
      cases hf
      exact z_iret hx hb hr hlk hw dX10_saw_19
theorem zc_X10_tear : zC yX10_tear wsX10_tear cX10_tear 3 (some .int) 1 := ⟨⟨_, rfl⟩, by decide +kernel, by decide +kernel, by decide +kernel, by decide +kernel⟩
theorem m_X10_tear_0 : (.fieldLink RX10 19 "CellKeys" "rows" "LCellKeys$Rows;" : Cond) ∈ wsX10_tear := by decide +kernel
theorem in_X10_tear_X10 : ∀ w ∈ u_ws RX10 TX10 10, w ∈ wsX10_tear := by decide +kernel
set_option maxHeartbeats 4000000 in
set_option maxRecDepth 100000 in
theorem c_X10_tear (l : Launch) (G : zG) (q : Nat → Nat) (o : Nat) (S : VX10) (v1 : Int32) (y : Int32 × VX10) (hf : f_X10_tear S v1 = some y) : zMet l yX10_tear wsX10_tear 4 84 G [.ref (q (o + 0)), .int v1] [bX10 G q o, bX9 G q (o + 1) S.1.1 S.1.2.1 S.1.2.2.1 S.1.2.2.2.1 S.1.2.2.2.2, bX6 G q (o + 3) S.2.1.1 S.2.1.2, bX8 G q (o + 12) S.2.2.1.1 S.2.2.1.2, bX5 G q (o + 19) S.2.2.2.1.2.1 S.2.2.2.1.2.2.1 S.2.2.2.1.2.2.2.1 S.2.2.2.1.2.2.2.2, bX2 G q ((o + 19) + 2) S.2.2.2.1.1.1 S.2.2.2.1.1.2.1 S.2.2.2.1.1.2.2.1 S.2.2.2.1.1.2.2.2.1 S.2.2.2.1.1.2.2.2.2.1 S.2.2.2.1.1.2.2.2.2.2.1 S.2.2.2.1.1.2.2.2.2.2.2.1 S.2.2.2.1.1.2.2.2.2.2.2.2, bX2 G q (o + 27) S.2.2.2.2.1.1 S.2.2.2.2.1.2.1 S.2.2.2.2.1.2.2.1 S.2.2.2.2.1.2.2.2.1 S.2.2.2.2.1.2.2.2.2.1 S.2.2.2.2.1.2.2.2.2.2.1 S.2.2.2.2.1.2.2.2.2.2.2.1 S.2.2.2.2.1.2.2.2.2.2.2.2, bX1 G q (o + 33) S.2.2.2.2.2.1.1 S.2.2.2.2.2.1.2.1 S.2.2.2.2.2.1.2.2.1 S.2.2.2.2.2.1.2.2.2, bX4 G q (o + 36) S.2.2.2.2.2.2.1.1 S.2.2.2.2.2.2.1.2, bX3 G q (o + 38) S.2.2.2.2.2.2.2.1.1 S.2.2.2.2.2.2.2.1.2.1 S.2.2.2.2.2.2.2.1.2.2.1 S.2.2.2.2.2.2.2.1.2.2.2, bX0 G q (o + 43) S.2.2.2.2.2.2.2.2.1.2.2.1 S.2.2.2.2.2.2.2.2.1.2.2.2, bX2 G q ((o + 43) + 3) S.2.2.2.2.2.2.2.2.1.1.1 S.2.2.2.2.2.2.2.2.1.1.2.1 S.2.2.2.2.2.2.2.2.1.1.2.2.1 S.2.2.2.2.2.2.2.2.1.1.2.2.2.1 S.2.2.2.2.2.2.2.2.1.1.2.2.2.2.1 S.2.2.2.2.2.2.2.2.1.1.2.2.2.2.2.1 S.2.2.2.2.2.2.2.2.1.1.2.2.2.2.2.2.1 S.2.2.2.2.2.2.2.2.1.1.2.2.2.2.2.2.2, bX4 G q ((o + 43) + 9) S.2.2.2.2.2.2.2.2.1.2.1.1 S.2.2.2.2.2.2.2.2.1.2.1.2, bX7 G q (o + 54) S.2.2.2.2.2.2.2.2.2.1 S.2.2.2.2.2.2.2.2.2.2.1 S.2.2.2.2.2.2.2.2.2.2.2] (some (.int y.1)) [bX10 G q o, bX9 G q (o + 1) y.2.1.1 y.2.1.2.1 y.2.1.2.2.1 y.2.1.2.2.2.1 y.2.1.2.2.2.2, bX6 G q (o + 3) y.2.2.1.1 y.2.2.1.2, bX8 G q (o + 12) y.2.2.2.1.1 y.2.2.2.1.2, bX5 G q (o + 19) y.2.2.2.2.1.2.1 y.2.2.2.2.1.2.2.1 y.2.2.2.2.1.2.2.2.1 y.2.2.2.2.1.2.2.2.2, bX2 G q ((o + 19) + 2) y.2.2.2.2.1.1.1 y.2.2.2.2.1.1.2.1 y.2.2.2.2.1.1.2.2.1 y.2.2.2.2.1.1.2.2.2.1 y.2.2.2.2.1.1.2.2.2.2.1 y.2.2.2.2.1.1.2.2.2.2.2.1 y.2.2.2.2.1.1.2.2.2.2.2.2.1 y.2.2.2.2.1.1.2.2.2.2.2.2.2, bX2 G q (o + 27) y.2.2.2.2.2.1.1 y.2.2.2.2.2.1.2.1 y.2.2.2.2.2.1.2.2.1 y.2.2.2.2.2.1.2.2.2.1 y.2.2.2.2.2.1.2.2.2.2.1 y.2.2.2.2.2.1.2.2.2.2.2.1 y.2.2.2.2.2.1.2.2.2.2.2.2.1 y.2.2.2.2.2.1.2.2.2.2.2.2.2, bX1 G q (o + 33) y.2.2.2.2.2.2.1.1 y.2.2.2.2.2.2.1.2.1 y.2.2.2.2.2.2.1.2.2.1 y.2.2.2.2.2.2.1.2.2.2, bX4 G q (o + 36) y.2.2.2.2.2.2.2.1.1 y.2.2.2.2.2.2.2.1.2, bX3 G q (o + 38) y.2.2.2.2.2.2.2.2.1.1 y.2.2.2.2.2.2.2.2.1.2.1 y.2.2.2.2.2.2.2.2.1.2.2.1 y.2.2.2.2.2.2.2.2.1.2.2.2, bX0 G q (o + 43) y.2.2.2.2.2.2.2.2.2.1.2.2.1 y.2.2.2.2.2.2.2.2.2.1.2.2.2, bX2 G q ((o + 43) + 3) y.2.2.2.2.2.2.2.2.2.1.1.1 y.2.2.2.2.2.2.2.2.2.1.1.2.1 y.2.2.2.2.2.2.2.2.2.1.1.2.2.1 y.2.2.2.2.2.2.2.2.2.1.1.2.2.2.1 y.2.2.2.2.2.2.2.2.2.1.1.2.2.2.2.1 y.2.2.2.2.2.2.2.2.2.1.1.2.2.2.2.2.1 y.2.2.2.2.2.2.2.2.2.1.1.2.2.2.2.2.2.1 y.2.2.2.2.2.2.2.2.2.1.1.2.2.2.2.2.2.2, bX4 G q ((o + 43) + 9) y.2.2.2.2.2.2.2.2.2.1.2.1.1 y.2.2.2.2.2.2.2.2.2.1.2.1.2, bX7 G q (o + 54) y.2.2.2.2.2.2.2.2.2.2.1 y.2.2.2.2.2.2.2.2.2.2.2.1 y.2.2.2.2.2.2.2.2.2.2.2.2] := by
  refine z_met zc_X10_tear (Nat.le_of_ble_eq_true rfl) ?_
  intro p e s m below meth c A ls hZ hl hw
  have hl : lv_has ls 3 [(0, .ref (q (o + 0))), (1, .int v1)] := hl
  obtain ⟨hS0, hr, hlk, hK, hA, hT⟩ := id hZ
  have hx := hS0.1
  have hb := hS0.2.1
  have hml := hS0.2.2.1
  have hown : s.vm.findClass RX10 = some m.cls := hS0.2.2.2.1
  have hts := hS0.2.2.2.2
  unfold f_X10_tear at hf
  refine lv_aload_n hx hb dX10_tear_0 rfl (lv_at hl 0 rfl) ?_
  refine lv_iload_n hx hb dX10_tear_1 rfl (lv_at hl 1 rfl) ?_
  obtain ⟨r1, e2, hf⟩ := z_bd hf
  refine z_callV1 (As := [.int v1]) (rest := []) (bs' := [bX10 G q o, bX9 G q (o + 1) r1.2.1.1 r1.2.1.2.1 r1.2.1.2.2.1 r1.2.1.2.2.2.1 r1.2.1.2.2.2.2, bX6 G q (o + 3) r1.2.2.1.1 r1.2.2.1.2, bX8 G q (o + 12) r1.2.2.2.1.1 r1.2.2.2.1.2, bX5 G q (o + 19) r1.2.2.2.2.1.2.1 r1.2.2.2.2.1.2.2.1 r1.2.2.2.2.1.2.2.2.1 r1.2.2.2.2.1.2.2.2.2, bX2 G q ((o + 19) + 2) r1.2.2.2.2.1.1.1 r1.2.2.2.2.1.1.2.1 r1.2.2.2.2.1.1.2.2.1 r1.2.2.2.2.1.1.2.2.2.1 r1.2.2.2.2.1.1.2.2.2.2.1 r1.2.2.2.2.1.1.2.2.2.2.2.1 r1.2.2.2.2.1.1.2.2.2.2.2.2.1 r1.2.2.2.2.1.1.2.2.2.2.2.2.2, bX2 G q (o + 27) r1.2.2.2.2.2.1.1 r1.2.2.2.2.2.1.2.1 r1.2.2.2.2.2.1.2.2.1 r1.2.2.2.2.2.1.2.2.2.1 r1.2.2.2.2.2.1.2.2.2.2.1 r1.2.2.2.2.2.1.2.2.2.2.2.1 r1.2.2.2.2.2.1.2.2.2.2.2.2.1 r1.2.2.2.2.2.1.2.2.2.2.2.2.2, bX1 G q (o + 33) r1.2.2.2.2.2.2.1.1 r1.2.2.2.2.2.2.1.2.1 r1.2.2.2.2.2.2.1.2.2.1 r1.2.2.2.2.2.2.1.2.2.2, bX4 G q (o + 36) r1.2.2.2.2.2.2.2.1.1 r1.2.2.2.2.2.2.2.1.2, bX3 G q (o + 38) r1.2.2.2.2.2.2.2.2.1.1 r1.2.2.2.2.2.2.2.2.1.2.1 r1.2.2.2.2.2.2.2.2.1.2.2.1 r1.2.2.2.2.2.2.2.2.1.2.2.2, bX0 G q (o + 43) r1.2.2.2.2.2.2.2.2.2.1.2.2.1 r1.2.2.2.2.2.2.2.2.2.1.2.2.2, bX2 G q ((o + 43) + 3) r1.2.2.2.2.2.2.2.2.2.1.1.1 r1.2.2.2.2.2.2.2.2.2.1.1.2.1 r1.2.2.2.2.2.2.2.2.2.1.1.2.2.1 r1.2.2.2.2.2.2.2.2.2.1.1.2.2.2.1 r1.2.2.2.2.2.2.2.2.2.1.1.2.2.2.2.1 r1.2.2.2.2.2.2.2.2.2.1.1.2.2.2.2.2.1 r1.2.2.2.2.2.2.2.2.2.1.1.2.2.2.2.2.2.1 r1.2.2.2.2.2.2.2.2.2.1.1.2.2.2.2.2.2.2, bX4 G q ((o + 43) + 9) r1.2.2.2.2.2.2.2.2.2.1.2.1.1 r1.2.2.2.2.2.2.2.2.2.1.2.1.2, bX7 G q (o + 54) r1.2.2.2.2.2.2.2.2.2.2.1 r1.2.2.2.2.2.2.2.2.2.2.2.1 r1.2.2.2.2.2.2.2.2.2.2.2.2]) hS0 (c_X10_rowRefusal l G q o S v1 r1 e2) zc_X10_rowRefusal rfl gX10_tear_X10_rowRefusal ⟨Nat.le_of_ble_eq_true rfl, Nat.le_of_ble_eq_true rfl⟩ hK hA hT hw (is := [0, 1, 2, 3, 4, 5, 6, 7, 8, 9, 10, 11, 12, 13]) rfl rfl rfl rfl rfl rfl rfl hl.1 rfl (Nat.le_of_ble_eq_true rfl) dX10_tear_2 (fun H locs hw => ?_)
  refine lv_istore_n (lv' := [(2, .int r1.1), (0, .ref (q (o + 0))), (1, .int v1)]) hx hb dX10_tear_5 rfl hl (by decide) rfl (fun ls hl => ?_)
  refine lv_iload_n hx hb dX10_tear_6 rfl (lv_at hl 0 rfl) ?_
  refine lv_if_eq (tgt := 12) hx hb dX10_tear_7 rfl (fun hc => ?_) (fun hc => ?_)
  · have hf := z_t hc hf
    refine lv_aload_n hx hb dX10_tear_12 rfl (lv_at hl 1 rfl) ?_
    refine z_get hS0 in_X10_tear_X10 hK hw 0 1 rfl rfl rfl (by decide) (hts _ m_X10_tear_0) (v := .ref (q ((o + 3) + 0))) rfl dX10_tear_13 ?_
    refine lv_iload_n hx hb dX10_tear_16 rfl (lv_at hl 2 rfl) ?_
    obtain ⟨r3, e4, hf⟩ := z_bd hf
    refine z_callV0 (As := [.int v1]) (rest := []) (bs' := [bX10 G q o, bX9 G q (o + 1) r1.2.1.1 r1.2.1.2.1 r1.2.1.2.2.1 r1.2.1.2.2.2.1 r1.2.1.2.2.2.2, bX6 G q (o + 3) r3.1 r3.2, bX8 G q (o + 12) r1.2.2.2.1.1 r1.2.2.2.1.2, bX5 G q (o + 19) r1.2.2.2.2.1.2.1 r1.2.2.2.2.1.2.2.1 r1.2.2.2.2.1.2.2.2.1 r1.2.2.2.2.1.2.2.2.2, bX2 G q ((o + 19) + 2) r1.2.2.2.2.1.1.1 r1.2.2.2.2.1.1.2.1 r1.2.2.2.2.1.1.2.2.1 r1.2.2.2.2.1.1.2.2.2.1 r1.2.2.2.2.1.1.2.2.2.2.1 r1.2.2.2.2.1.1.2.2.2.2.2.1 r1.2.2.2.2.1.1.2.2.2.2.2.2.1 r1.2.2.2.2.1.1.2.2.2.2.2.2.2, bX2 G q (o + 27) r1.2.2.2.2.2.1.1 r1.2.2.2.2.2.1.2.1 r1.2.2.2.2.2.1.2.2.1 r1.2.2.2.2.2.1.2.2.2.1 r1.2.2.2.2.2.1.2.2.2.2.1 r1.2.2.2.2.2.1.2.2.2.2.2.1 r1.2.2.2.2.2.1.2.2.2.2.2.2.1 r1.2.2.2.2.2.1.2.2.2.2.2.2.2, bX1 G q (o + 33) r1.2.2.2.2.2.2.1.1 r1.2.2.2.2.2.2.1.2.1 r1.2.2.2.2.2.2.1.2.2.1 r1.2.2.2.2.2.2.1.2.2.2, bX4 G q (o + 36) r1.2.2.2.2.2.2.2.1.1 r1.2.2.2.2.2.2.2.1.2, bX3 G q (o + 38) r1.2.2.2.2.2.2.2.2.1.1 r1.2.2.2.2.2.2.2.2.1.2.1 r1.2.2.2.2.2.2.2.2.1.2.2.1 r1.2.2.2.2.2.2.2.2.1.2.2.2, bX0 G q (o + 43) r1.2.2.2.2.2.2.2.2.2.1.2.2.1 r1.2.2.2.2.2.2.2.2.2.1.2.2.2, bX2 G q ((o + 43) + 3) r1.2.2.2.2.2.2.2.2.2.1.1.1 r1.2.2.2.2.2.2.2.2.2.1.1.2.1 r1.2.2.2.2.2.2.2.2.2.1.1.2.2.1 r1.2.2.2.2.2.2.2.2.2.1.1.2.2.2.1 r1.2.2.2.2.2.2.2.2.2.1.1.2.2.2.2.1 r1.2.2.2.2.2.2.2.2.2.1.1.2.2.2.2.2.1 r1.2.2.2.2.2.2.2.2.2.1.1.2.2.2.2.2.2.1 r1.2.2.2.2.2.2.2.2.2.1.1.2.2.2.2.2.2.2, bX4 G q ((o + 43) + 9) r1.2.2.2.2.2.2.2.2.2.1.2.1.1 r1.2.2.2.2.2.2.2.2.2.1.2.1.2, bX7 G q (o + 54) r1.2.2.2.2.2.2.2.2.2.2.1 r1.2.2.2.2.2.2.2.2.2.2.2.1 r1.2.2.2.2.2.2.2.2.2.2.2.2]) hS0 (c_X6_remove l G q (o + 3) r1.2.2.1 v1 r3 e4) zc_X6_remove rfl gX10_tear_X6_remove ⟨Nat.le_of_ble_eq_true rfl, Nat.le_of_ble_eq_true rfl⟩ hK hA hT hw (is := [2]) rfl rfl rfl rfl rfl rfl rfl hl.1 rfl (Nat.le_of_ble_eq_true rfl) dX10_tear_17 (fun H locs hw => ?_)
    refine lv_iconst (v := 1) hx hb dX10_tear_20 rfl ?_
    cases hf
    exact z_iret hx hb hr hlk hw dX10_tear_21
  · have hf := z_f hc hf
    refine lv_iload_n hx hb dX10_tear_10 rfl (lv_at hl 0 rfl) ?_
    cases hf
    exact z_iret hx hb hr hlk hw dX10_tear_11
theorem zc_X10_text : zC yX10_text wsX10_text cX10_text 3 (some .int) 2 := ⟨⟨_, rfl⟩, by decide +kernel, by decide +kernel, by decide +kernel, by decide +kernel⟩
theorem m_X10_text_0 : (.fieldLink RX10 26 "CellKeys" "texts" "LCellKeys$Texts;" : Cond) ∈ wsX10_text := by decide +kernel
theorem in_X10_text_X10 : ∀ w ∈ u_ws RX10 TX10 10, w ∈ wsX10_text := by decide +kernel
theorem m_X10_text_1 : (.fieldLink RX10 10 "CellKeys" "told" "LCellKeys$Told;" : Cond) ∈ wsX10_text := by decide +kernel
set_option maxHeartbeats 4000000 in
set_option maxRecDepth 100000 in
theorem c_X10_text (l : Launch) (G : zG) (q : Nat → Nat) (o : Nat) (S : VX10) (v1 : Int32) (v2 : Int32) (y : Int32 × VX10) (hf : f_X10_text S v1 v2 = some y) : zMet l yX10_text wsX10_text 2 44 G [.ref (q (o + 0)), .int v1, .int v2] [bX10 G q o, bX9 G q (o + 1) S.1.1 S.1.2.1 S.1.2.2.1 S.1.2.2.2.1 S.1.2.2.2.2, bX6 G q (o + 3) S.2.1.1 S.2.1.2, bX8 G q (o + 12) S.2.2.1.1 S.2.2.1.2, bX5 G q (o + 19) S.2.2.2.1.2.1 S.2.2.2.1.2.2.1 S.2.2.2.1.2.2.2.1 S.2.2.2.1.2.2.2.2, bX2 G q ((o + 19) + 2) S.2.2.2.1.1.1 S.2.2.2.1.1.2.1 S.2.2.2.1.1.2.2.1 S.2.2.2.1.1.2.2.2.1 S.2.2.2.1.1.2.2.2.2.1 S.2.2.2.1.1.2.2.2.2.2.1 S.2.2.2.1.1.2.2.2.2.2.2.1 S.2.2.2.1.1.2.2.2.2.2.2.2, bX2 G q (o + 27) S.2.2.2.2.1.1 S.2.2.2.2.1.2.1 S.2.2.2.2.1.2.2.1 S.2.2.2.2.1.2.2.2.1 S.2.2.2.2.1.2.2.2.2.1 S.2.2.2.2.1.2.2.2.2.2.1 S.2.2.2.2.1.2.2.2.2.2.2.1 S.2.2.2.2.1.2.2.2.2.2.2.2, bX1 G q (o + 33) S.2.2.2.2.2.1.1 S.2.2.2.2.2.1.2.1 S.2.2.2.2.2.1.2.2.1 S.2.2.2.2.2.1.2.2.2, bX4 G q (o + 36) S.2.2.2.2.2.2.1.1 S.2.2.2.2.2.2.1.2, bX3 G q (o + 38) S.2.2.2.2.2.2.2.1.1 S.2.2.2.2.2.2.2.1.2.1 S.2.2.2.2.2.2.2.1.2.2.1 S.2.2.2.2.2.2.2.1.2.2.2, bX0 G q (o + 43) S.2.2.2.2.2.2.2.2.1.2.2.1 S.2.2.2.2.2.2.2.2.1.2.2.2, bX2 G q ((o + 43) + 3) S.2.2.2.2.2.2.2.2.1.1.1 S.2.2.2.2.2.2.2.2.1.1.2.1 S.2.2.2.2.2.2.2.2.1.1.2.2.1 S.2.2.2.2.2.2.2.2.1.1.2.2.2.1 S.2.2.2.2.2.2.2.2.1.1.2.2.2.2.1 S.2.2.2.2.2.2.2.2.1.1.2.2.2.2.2.1 S.2.2.2.2.2.2.2.2.1.1.2.2.2.2.2.2.1 S.2.2.2.2.2.2.2.2.1.1.2.2.2.2.2.2.2, bX4 G q ((o + 43) + 9) S.2.2.2.2.2.2.2.2.1.2.1.1 S.2.2.2.2.2.2.2.2.1.2.1.2, bX7 G q (o + 54) S.2.2.2.2.2.2.2.2.2.1 S.2.2.2.2.2.2.2.2.2.2.1 S.2.2.2.2.2.2.2.2.2.2.2] (some (.int y.1)) [bX10 G q o, bX9 G q (o + 1) y.2.1.1 y.2.1.2.1 y.2.1.2.2.1 y.2.1.2.2.2.1 y.2.1.2.2.2.2, bX6 G q (o + 3) y.2.2.1.1 y.2.2.1.2, bX8 G q (o + 12) y.2.2.2.1.1 y.2.2.2.1.2, bX5 G q (o + 19) y.2.2.2.2.1.2.1 y.2.2.2.2.1.2.2.1 y.2.2.2.2.1.2.2.2.1 y.2.2.2.2.1.2.2.2.2, bX2 G q ((o + 19) + 2) y.2.2.2.2.1.1.1 y.2.2.2.2.1.1.2.1 y.2.2.2.2.1.1.2.2.1 y.2.2.2.2.1.1.2.2.2.1 y.2.2.2.2.1.1.2.2.2.2.1 y.2.2.2.2.1.1.2.2.2.2.2.1 y.2.2.2.2.1.1.2.2.2.2.2.2.1 y.2.2.2.2.1.1.2.2.2.2.2.2.2, bX2 G q (o + 27) y.2.2.2.2.2.1.1 y.2.2.2.2.2.1.2.1 y.2.2.2.2.2.1.2.2.1 y.2.2.2.2.2.1.2.2.2.1 y.2.2.2.2.2.1.2.2.2.2.1 y.2.2.2.2.2.1.2.2.2.2.2.1 y.2.2.2.2.2.1.2.2.2.2.2.2.1 y.2.2.2.2.2.1.2.2.2.2.2.2.2, bX1 G q (o + 33) y.2.2.2.2.2.2.1.1 y.2.2.2.2.2.2.1.2.1 y.2.2.2.2.2.2.1.2.2.1 y.2.2.2.2.2.2.1.2.2.2, bX4 G q (o + 36) y.2.2.2.2.2.2.2.1.1 y.2.2.2.2.2.2.2.1.2, bX3 G q (o + 38) y.2.2.2.2.2.2.2.2.1.1 y.2.2.2.2.2.2.2.2.1.2.1 y.2.2.2.2.2.2.2.2.1.2.2.1 y.2.2.2.2.2.2.2.2.1.2.2.2, bX0 G q (o + 43) y.2.2.2.2.2.2.2.2.2.1.2.2.1 y.2.2.2.2.2.2.2.2.2.1.2.2.2, bX2 G q ((o + 43) + 3) y.2.2.2.2.2.2.2.2.2.1.1.1 y.2.2.2.2.2.2.2.2.2.1.1.2.1 y.2.2.2.2.2.2.2.2.2.1.1.2.2.1 y.2.2.2.2.2.2.2.2.2.1.1.2.2.2.1 y.2.2.2.2.2.2.2.2.2.1.1.2.2.2.2.1 y.2.2.2.2.2.2.2.2.2.1.1.2.2.2.2.2.1 y.2.2.2.2.2.2.2.2.2.1.1.2.2.2.2.2.2.1 y.2.2.2.2.2.2.2.2.2.1.1.2.2.2.2.2.2.2, bX4 G q ((o + 43) + 9) y.2.2.2.2.2.2.2.2.2.1.2.1.1 y.2.2.2.2.2.2.2.2.2.1.2.1.2, bX7 G q (o + 54) y.2.2.2.2.2.2.2.2.2.2.1 y.2.2.2.2.2.2.2.2.2.2.2.1 y.2.2.2.2.2.2.2.2.2.2.2.2] := by
  refine z_met zc_X10_text (Nat.le_of_ble_eq_true rfl) ?_
  intro p e s m below meth c A ls hZ hl hw
  have hl : lv_has ls 3 [(0, .ref (q (o + 0))), (1, .int v1), (2, .int v2)] := hl
  obtain ⟨hS0, hr, hlk, hK, hA, hT⟩ := id hZ
  have hx := hS0.1
  have hb := hS0.2.1
  have hml := hS0.2.2.1
  have hown : s.vm.findClass RX10 = some m.cls := hS0.2.2.2.1
  have hts := hS0.2.2.2.2
  unfold f_X10_text at hf
  refine lv_aload_n hx hb dX10_text_0 rfl (lv_at hl 0 rfl) ?_
  refine z_get hS0 in_X10_text_X10 hK hw 0 2 rfl rfl rfl (by decide) (hts _ m_X10_text_0) (v := .ref (q ((o + 12) + 0))) rfl dX10_text_1 ?_
  refine lv_iload_n hx hb dX10_text_4 rfl (lv_at hl 1 rfl) ?_
  obtain ⟨r1, e2, hf⟩ := z_bd hf
  refine z_callV1 (As := [.int v1]) (rest := []) (bs' := [bX10 G q o, bX9 G q (o + 1) S.1.1 S.1.2.1 S.1.2.2.1 S.1.2.2.2.1 S.1.2.2.2.2, bX6 G q (o + 3) S.2.1.1 S.2.1.2, bX8 G q (o + 12) S.2.2.1.1 S.2.2.1.2, bX5 G q (o + 19) S.2.2.2.1.2.1 S.2.2.2.1.2.2.1 S.2.2.2.1.2.2.2.1 S.2.2.2.1.2.2.2.2, bX2 G q ((o + 19) + 2) S.2.2.2.1.1.1 S.2.2.2.1.1.2.1 S.2.2.2.1.1.2.2.1 S.2.2.2.1.1.2.2.2.1 S.2.2.2.1.1.2.2.2.2.1 S.2.2.2.1.1.2.2.2.2.2.1 S.2.2.2.1.1.2.2.2.2.2.2.1 S.2.2.2.1.1.2.2.2.2.2.2.2, bX2 G q (o + 27) S.2.2.2.2.1.1 S.2.2.2.2.1.2.1 S.2.2.2.2.1.2.2.1 S.2.2.2.2.1.2.2.2.1 S.2.2.2.2.1.2.2.2.2.1 S.2.2.2.2.1.2.2.2.2.2.1 S.2.2.2.2.1.2.2.2.2.2.2.1 S.2.2.2.2.1.2.2.2.2.2.2.2, bX1 G q (o + 33) S.2.2.2.2.2.1.1 S.2.2.2.2.2.1.2.1 S.2.2.2.2.2.1.2.2.1 S.2.2.2.2.2.1.2.2.2, bX4 G q (o + 36) S.2.2.2.2.2.2.1.1 S.2.2.2.2.2.2.1.2, bX3 G q (o + 38) S.2.2.2.2.2.2.2.1.1 S.2.2.2.2.2.2.2.1.2.1 S.2.2.2.2.2.2.2.1.2.2.1 S.2.2.2.2.2.2.2.1.2.2.2, bX0 G q (o + 43) S.2.2.2.2.2.2.2.2.1.2.2.1 S.2.2.2.2.2.2.2.2.1.2.2.2, bX2 G q ((o + 43) + 3) S.2.2.2.2.2.2.2.2.1.1.1 S.2.2.2.2.2.2.2.2.1.1.2.1 S.2.2.2.2.2.2.2.2.1.1.2.2.1 S.2.2.2.2.2.2.2.2.1.1.2.2.2.1 S.2.2.2.2.2.2.2.2.1.1.2.2.2.2.1 S.2.2.2.2.2.2.2.2.1.1.2.2.2.2.2.1 S.2.2.2.2.2.2.2.2.1.1.2.2.2.2.2.2.1 S.2.2.2.2.2.2.2.2.1.1.2.2.2.2.2.2.2, bX4 G q ((o + 43) + 9) S.2.2.2.2.2.2.2.2.1.2.1.1 S.2.2.2.2.2.2.2.2.1.2.1.2, bX7 G q (o + 54) S.2.2.2.2.2.2.2.2.2.1 S.2.2.2.2.2.2.2.2.2.2.1 S.2.2.2.2.2.2.2.2.2.2.2]) hS0 (c_X8_isNumber l G q (o + 12) S.2.2.1 v1 r1 e2) zc_X8_isNumber rfl gX10_text_X8_isNumber ⟨Nat.le_of_ble_eq_true rfl, Nat.le_of_ble_eq_true rfl⟩ hK hA hT hw (is := [3]) rfl rfl rfl rfl rfl rfl rfl hl.1 rfl (Nat.le_of_ble_eq_true rfl) dX10_text_5 (fun H locs hw => ?_)
  refine lv_if_eq (tgt := 17) hx hb dX10_text_8 rfl (fun hc => ?_) (fun hc => ?_)
  · have hf := z_t hc hf
    refine lv_iconst (v := (-1)) hx hb dX10_text_17 rfl ?_
    cases hf
    exact z_iret hx hb hr hlk hw dX10_text_18
  · have hf := z_f hc hf
    refine lv_iload_n hx hb dX10_text_11 rfl (lv_at hl 2 rfl) ?_
    refine lv_bipush (v := 100) hx hb dX10_text_12 rfl ?_
    refine lv_icmp_le (tgt := 19) hx hb dX10_text_14 rfl (fun hc => ?_) (fun hc => ?_)
    · have hf := z_t hc hf
      refine lv_iload_n hx hb dX10_text_19 rfl (lv_at hl 2 rfl) ?_
      refine lv_if_ge (tgt := 32) hx hb dX10_text_20 rfl (fun hc => ?_) (fun hc => ?_)
      · have hf := z_t hc hf
        refine lv_aload_n hx hb dX10_text_32 rfl (lv_at hl 0 rfl) ?_
        refine z_get hS0 in_X10_text_X10 hK hw 0 2 rfl rfl rfl (by decide) (hts _ m_X10_text_0) (v := .ref (q ((o + 12) + 0))) rfl dX10_text_33 ?_
        refine lv_iload_n hx hb dX10_text_36 rfl (lv_at hl 1 rfl) ?_
        refine lv_iload_n hx hb dX10_text_37 rfl (lv_at hl 2 rfl) ?_
        obtain ⟨r3, e4, hf⟩ := z_bd hf
        refine z_callV0 (As := [.int v1, .int v2]) (rest := []) (bs' := [bX10 G q o, bX9 G q (o + 1) S.1.1 S.1.2.1 S.1.2.2.1 S.1.2.2.2.1 S.1.2.2.2.2, bX6 G q (o + 3) S.2.1.1 S.2.1.2, bX8 G q (o + 12) r3.1 r3.2, bX5 G q (o + 19) S.2.2.2.1.2.1 S.2.2.2.1.2.2.1 S.2.2.2.1.2.2.2.1 S.2.2.2.1.2.2.2.2, bX2 G q ((o + 19) + 2) S.2.2.2.1.1.1 S.2.2.2.1.1.2.1 S.2.2.2.1.1.2.2.1 S.2.2.2.1.1.2.2.2.1 S.2.2.2.1.1.2.2.2.2.1 S.2.2.2.1.1.2.2.2.2.2.1 S.2.2.2.1.1.2.2.2.2.2.2.1 S.2.2.2.1.1.2.2.2.2.2.2.2, bX2 G q (o + 27) S.2.2.2.2.1.1 S.2.2.2.2.1.2.1 S.2.2.2.2.1.2.2.1 S.2.2.2.2.1.2.2.2.1 S.2.2.2.2.1.2.2.2.2.1 S.2.2.2.2.1.2.2.2.2.2.1 S.2.2.2.2.1.2.2.2.2.2.2.1 S.2.2.2.2.1.2.2.2.2.2.2.2, bX1 G q (o + 33) S.2.2.2.2.2.1.1 S.2.2.2.2.2.1.2.1 S.2.2.2.2.2.1.2.2.1 S.2.2.2.2.2.1.2.2.2, bX4 G q (o + 36) S.2.2.2.2.2.2.1.1 S.2.2.2.2.2.2.1.2, bX3 G q (o + 38) S.2.2.2.2.2.2.2.1.1 S.2.2.2.2.2.2.2.1.2.1 S.2.2.2.2.2.2.2.1.2.2.1 S.2.2.2.2.2.2.2.1.2.2.2, bX0 G q (o + 43) S.2.2.2.2.2.2.2.2.1.2.2.1 S.2.2.2.2.2.2.2.2.1.2.2.2, bX2 G q ((o + 43) + 3) S.2.2.2.2.2.2.2.2.1.1.1 S.2.2.2.2.2.2.2.2.1.1.2.1 S.2.2.2.2.2.2.2.2.1.1.2.2.1 S.2.2.2.2.2.2.2.2.1.1.2.2.2.1 S.2.2.2.2.2.2.2.2.1.1.2.2.2.2.1 S.2.2.2.2.2.2.2.2.1.1.2.2.2.2.2.1 S.2.2.2.2.2.2.2.2.1.1.2.2.2.2.2.2.1 S.2.2.2.2.2.2.2.2.1.1.2.2.2.2.2.2.2, bX4 G q ((o + 43) + 9) S.2.2.2.2.2.2.2.2.1.2.1.1 S.2.2.2.2.2.2.2.2.1.2.1.2, bX7 G q (o + 54) S.2.2.2.2.2.2.2.2.2.1 S.2.2.2.2.2.2.2.2.2.2.1 S.2.2.2.2.2.2.2.2.2.2.2]) hS0 (c_X8_make l G q (o + 12) S.2.2.1 v1 v2 r3 e4) zc_X8_make rfl gX10_text_X8_make ⟨Nat.le_of_ble_eq_true rfl, Nat.le_of_ble_eq_true rfl⟩ hK hA hT hw (is := [3]) rfl rfl rfl rfl rfl rfl rfl hl.1 rfl (Nat.le_of_ble_eq_true rfl) dX10_text_38 (fun H locs hw => ?_)
        refine lv_iload_n hx hb dX10_text_41 rfl (lv_at hl 2 rfl) ?_
        cases hf
        exact z_iret hx hb hr hlk hw dX10_text_42
      · have hf := z_f hc hf
        refine lv_aload_n hx hb dX10_text_23 rfl (lv_at hl 0 rfl) ?_
        refine z_get hS0 in_X10_text_X10 hK hw 0 0 rfl rfl rfl (by decide) (hts _ m_X10_text_1) (v := .ref (q ((o + 1) + 0))) rfl dX10_text_24 ?_
        refine lv_iconst (v := 5) hx hb dX10_text_27 rfl ?_
        obtain ⟨r5, e6, hf⟩ := z_bd hf
        refine z_callV1 (As := [.int 5]) (rest := []) (bs' := [bX10 G q o, bX9 G q (o + 1) r5.2.1 r5.2.2.1 r5.2.2.2.1 r5.2.2.2.2.1 r5.2.2.2.2.2, bX6 G q (o + 3) S.2.1.1 S.2.1.2, bX8 G q (o + 12) S.2.2.1.1 S.2.2.1.2, bX5 G q (o + 19) S.2.2.2.1.2.1 S.2.2.2.1.2.2.1 S.2.2.2.1.2.2.2.1 S.2.2.2.1.2.2.2.2, bX2 G q ((o + 19) + 2) S.2.2.2.1.1.1 S.2.2.2.1.1.2.1 S.2.2.2.1.1.2.2.1 S.2.2.2.1.1.2.2.2.1 S.2.2.2.1.1.2.2.2.2.1 S.2.2.2.1.1.2.2.2.2.2.1 S.2.2.2.1.1.2.2.2.2.2.2.1 S.2.2.2.1.1.2.2.2.2.2.2.2, bX2 G q (o + 27) S.2.2.2.2.1.1 S.2.2.2.2.1.2.1 S.2.2.2.2.1.2.2.1 S.2.2.2.2.1.2.2.2.1 S.2.2.2.2.1.2.2.2.2.1 S.2.2.2.2.1.2.2.2.2.2.1 S.2.2.2.2.1.2.2.2.2.2.2.1 S.2.2.2.2.1.2.2.2.2.2.2.2, bX1 G q (o + 33) S.2.2.2.2.2.1.1 S.2.2.2.2.2.1.2.1 S.2.2.2.2.2.1.2.2.1 S.2.2.2.2.2.1.2.2.2, bX4 G q (o + 36) S.2.2.2.2.2.2.1.1 S.2.2.2.2.2.2.1.2, bX3 G q (o + 38) S.2.2.2.2.2.2.2.1.1 S.2.2.2.2.2.2.2.1.2.1 S.2.2.2.2.2.2.2.1.2.2.1 S.2.2.2.2.2.2.2.1.2.2.2, bX0 G q (o + 43) S.2.2.2.2.2.2.2.2.1.2.2.1 S.2.2.2.2.2.2.2.2.1.2.2.2, bX2 G q ((o + 43) + 3) S.2.2.2.2.2.2.2.2.1.1.1 S.2.2.2.2.2.2.2.2.1.1.2.1 S.2.2.2.2.2.2.2.2.1.1.2.2.1 S.2.2.2.2.2.2.2.2.1.1.2.2.2.1 S.2.2.2.2.2.2.2.2.1.1.2.2.2.2.1 S.2.2.2.2.2.2.2.2.1.1.2.2.2.2.2.1 S.2.2.2.2.2.2.2.2.1.1.2.2.2.2.2.2.1 S.2.2.2.2.2.2.2.2.1.1.2.2.2.2.2.2.2, bX4 G q ((o + 43) + 9) S.2.2.2.2.2.2.2.2.1.2.1.1 S.2.2.2.2.2.2.2.2.1.2.1.2, bX7 G q (o + 54) S.2.2.2.2.2.2.2.2.2.1 S.2.2.2.2.2.2.2.2.2.2.1 S.2.2.2.2.2.2.2.2.2.2.2]) hS0 (c_X9_found l G q (o + 1) S.1 5 r5 e6) zc_X9_found rfl gX10_text_X9_found ⟨Nat.le_of_ble_eq_true rfl, Nat.le_of_ble_eq_true rfl⟩ hK hA hT hw (is := [1]) rfl rfl rfl rfl rfl rfl rfl hl.1 rfl (Nat.le_of_ble_eq_true rfl) dX10_text_28 (fun H locs hw => ?_)
        cases hf
        exact z_iret hx hb hr hlk hw dX10_text_31
    · have hf := z_f hc hf
      refine lv_iconst (v := (-1)) hx hb dX10_text_17 rfl ?_
      cases hf
      exact z_iret hx hb hr hlk hw dX10_text_18
theorem zc_X10_trades : zC yX10_trades wsX10_trades cX10_trades 2 (some .int) 0 := ⟨⟨_, rfl⟩, by decide +kernel, by decide +kernel, by decide +kernel, by decide +kernel⟩
theorem m_X10_trades_0 : (.fieldLink RX10 68 "CellKeys" "dealer" "LCellKeys$Dealer;" : Cond) ∈ wsX10_trades := by decide +kernel
theorem in_X10_trades_X10 : ∀ w ∈ u_ws RX10 TX10 10, w ∈ wsX10_trades := by decide +kernel
theorem m_X10_trades_1 : (.fieldLink RX10 40 "CellKeys" "jail" "LCellKeys$Jail;" : Cond) ∈ wsX10_trades := by decide +kernel
set_option maxHeartbeats 4000000 in
set_option maxRecDepth 100000 in
theorem k_X10_trades_2 {p : Program} {l : Launch} {e : Env} {s : State} {m : MethodId} {args : Array Value} {below : List Frame} {meth : Method} {c : Code} {A : Nat → Prop} {G : zG} {q : Nat → Nat} {o : Nat}  (hZ : zZ p s m args meth c A G cX10_trades 2 RX10 wsX10_trades (some .int)) (y : Int32 × VX10)  (n : Nat) : ∀ (S : VX10) (v1 : Int32) (H : Heap) (locs : List Loc) (ls : Array Slot), f_X10_trades_2 n S v1 = some y → zH G A s.heap [bX10 G q o, bX9 G q (o + 1) S.1.1 S.1.2.1 S.1.2.2.1 S.1.2.2.2.1 S.1.2.2.2.2, bX6 G q (o + 3) S.2.1.1 S.2.1.2, bX8 G q (o + 12) S.2.2.1.1 S.2.2.1.2, bX5 G q (o + 19) S.2.2.2.1.2.1 S.2.2.2.1.2.2.1 S.2.2.2.1.2.2.2.1 S.2.2.2.1.2.2.2.2, bX2 G q ((o + 19) + 2) S.2.2.2.1.1.1 S.2.2.2.1.1.2.1 S.2.2.2.1.1.2.2.1 S.2.2.2.1.1.2.2.2.1 S.2.2.2.1.1.2.2.2.2.1 S.2.2.2.1.1.2.2.2.2.2.1 S.2.2.2.1.1.2.2.2.2.2.2.1 S.2.2.2.1.1.2.2.2.2.2.2.2, bX2 G q (o + 27) S.2.2.2.2.1.1 S.2.2.2.2.1.2.1 S.2.2.2.2.1.2.2.1 S.2.2.2.2.1.2.2.2.1 S.2.2.2.2.1.2.2.2.2.1 S.2.2.2.2.1.2.2.2.2.2.1 S.2.2.2.2.1.2.2.2.2.2.2.1 S.2.2.2.2.1.2.2.2.2.2.2.2, bX1 G q (o + 33) S.2.2.2.2.2.1.1 S.2.2.2.2.2.1.2.1 S.2.2.2.2.2.1.2.2.1 S.2.2.2.2.2.1.2.2.2, bX4 G q (o + 36) S.2.2.2.2.2.2.1.1 S.2.2.2.2.2.2.1.2, bX3 G q (o + 38) S.2.2.2.2.2.2.2.1.1 S.2.2.2.2.2.2.2.1.2.1 S.2.2.2.2.2.2.2.1.2.2.1 S.2.2.2.2.2.2.2.1.2.2.2, bX0 G q (o + 43) S.2.2.2.2.2.2.2.2.1.2.2.1 S.2.2.2.2.2.2.2.2.1.2.2.2, bX2 G q ((o + 43) + 3) S.2.2.2.2.2.2.2.2.1.1.1 S.2.2.2.2.2.2.2.2.1.1.2.1 S.2.2.2.2.2.2.2.2.1.1.2.2.1 S.2.2.2.2.2.2.2.2.1.1.2.2.2.1 S.2.2.2.2.2.2.2.2.1.1.2.2.2.2.1 S.2.2.2.2.2.2.2.2.1.1.2.2.2.2.2.1 S.2.2.2.2.2.2.2.2.1.1.2.2.2.2.2.2.1 S.2.2.2.2.2.2.2.2.1.1.2.2.2.2.2.2.2, bX4 G q ((o + 43) + 9) S.2.2.2.2.2.2.2.2.1.2.1.1 S.2.2.2.2.2.2.2.2.1.2.1.2, bX7 G q (o + 54) S.2.2.2.2.2.2.2.2.2.1 S.2.2.2.2.2.2.2.2.2.2.1 S.2.2.2.2.2.2.2.2.2.2.2] H locs → lv_has ls 2 [(0, .ref (q (o + 0))), (1, .int v1)] → W p l e { frames := 6, cells := 0, slots := 0, locals := 155 } s m args below meth c H locs 0 0 (MQ below (zQ (some (.int y.1)) (zPost G [bX10 G q o, bX9 G q (o + 1) y.2.1.1 y.2.1.2.1 y.2.1.2.2.1 y.2.1.2.2.2.1 y.2.1.2.2.2.2, bX6 G q (o + 3) y.2.2.1.1 y.2.2.1.2, bX8 G q (o + 12) y.2.2.2.1.1 y.2.2.2.1.2, bX5 G q (o + 19) y.2.2.2.2.1.2.1 y.2.2.2.2.1.2.2.1 y.2.2.2.2.1.2.2.2.1 y.2.2.2.2.1.2.2.2.2, bX2 G q ((o + 19) + 2) y.2.2.2.2.1.1.1 y.2.2.2.2.1.1.2.1 y.2.2.2.2.1.1.2.2.1 y.2.2.2.2.1.1.2.2.2.1 y.2.2.2.2.1.1.2.2.2.2.1 y.2.2.2.2.1.1.2.2.2.2.2.1 y.2.2.2.2.1.1.2.2.2.2.2.2.1 y.2.2.2.2.1.1.2.2.2.2.2.2.2, bX2 G q (o + 27) y.2.2.2.2.2.1.1 y.2.2.2.2.2.1.2.1 y.2.2.2.2.2.1.2.2.1 y.2.2.2.2.2.1.2.2.2.1 y.2.2.2.2.2.1.2.2.2.2.1 y.2.2.2.2.2.1.2.2.2.2.2.1 y.2.2.2.2.2.1.2.2.2.2.2.2.1 y.2.2.2.2.2.1.2.2.2.2.2.2.2, bX1 G q (o + 33) y.2.2.2.2.2.2.1.1 y.2.2.2.2.2.2.1.2.1 y.2.2.2.2.2.2.1.2.2.1 y.2.2.2.2.2.2.1.2.2.2, bX4 G q (o + 36) y.2.2.2.2.2.2.2.1.1 y.2.2.2.2.2.2.2.1.2, bX3 G q (o + 38) y.2.2.2.2.2.2.2.2.1.1 y.2.2.2.2.2.2.2.2.1.2.1 y.2.2.2.2.2.2.2.2.1.2.2.1 y.2.2.2.2.2.2.2.2.1.2.2.2, bX0 G q (o + 43) y.2.2.2.2.2.2.2.2.2.1.2.2.1 y.2.2.2.2.2.2.2.2.2.1.2.2.2, bX2 G q ((o + 43) + 3) y.2.2.2.2.2.2.2.2.2.1.1.1 y.2.2.2.2.2.2.2.2.2.1.1.2.1 y.2.2.2.2.2.2.2.2.2.1.1.2.2.1 y.2.2.2.2.2.2.2.2.2.1.1.2.2.2.1 y.2.2.2.2.2.2.2.2.2.1.1.2.2.2.2.1 y.2.2.2.2.2.2.2.2.2.1.1.2.2.2.2.2.1 y.2.2.2.2.2.2.2.2.2.1.1.2.2.2.2.2.2.1 y.2.2.2.2.2.2.2.2.2.1.1.2.2.2.2.2.2.2, bX4 G q ((o + 43) + 9) y.2.2.2.2.2.2.2.2.2.1.2.1.1 y.2.2.2.2.2.2.2.2.2.1.2.1.2, bX7 G q (o + 54) y.2.2.2.2.2.2.2.2.2.2.1 y.2.2.2.2.2.2.2.2.2.2.2.1 y.2.2.2.2.2.2.2.2.2.2.2.2]) A) args s 0 0 A) (F0 m 2 ls []) := by
  obtain ⟨hS0, hr, hlk, hK, hA, hT⟩ := id hZ
  have hx := hS0.1
  have hb := hS0.2.1
  have hml := hS0.2.2.1
  have hown : s.vm.findClass RX10 = some m.cls := hS0.2.2.2.1
  have hts := hS0.2.2.2.2
  induction n with
  | zero =>
    intro S v1 H locs ls hf hw hl
    unfold f_X10_trades_2 at hf
    cases hf
  | succ n ih =>
    intro S v1 H locs ls hf hw hl
    unfold f_X10_trades_2 at hf
    refine lv_iload_n hx hb dX10_trades_2 rfl (lv_at hl 1 rfl) ?_
    refine lv_bipush (v := 20) hx hb dX10_trades_3 rfl ?_
    refine lv_icmp_ge (tgt := 28) hx hb dX10_trades_5 rfl (fun hc => ?_) (fun hc => ?_)
    · have hf := z_t hc hf
      refine lv_iload_n hx hb dX10_trades_28 rfl (lv_at hl 1 rfl) ?_
      cases hf
      exact z_iret hx hb hr hlk hw dX10_trades_29
    · have hf := z_f hc hf
      refine lv_aload_n hx hb dX10_trades_8 rfl (lv_at hl 0 rfl) ?_
      refine z_get hS0 in_X10_trades_X10 hK hw 0 8 rfl rfl rfl (by decide) (hts _ m_X10_trades_0) (v := .ref (q ((o + 43) + 0))) rfl dX10_trades_9 ?_
      refine lv_aload_n hx hb dX10_trades_12 rfl (lv_at hl 0 rfl) ?_
      refine z_get hS0 in_X10_trades_X10 hK hw 0 4 rfl rfl rfl (by decide) (hts _ m_X10_trades_1) (v := .ref (q ((o + 27) + 0))) rfl dX10_trades_13 ?_
      obtain ⟨r1, e2, hf⟩ := z_bd hf
      refine z_callV1 (As := [.ref (q ((o + 27) + 0))]) (rest := []) (bs' := [bX10 G q o, bX9 G q (o + 1) S.1.1 S.1.2.1 S.1.2.2.1 S.1.2.2.2.1 S.1.2.2.2.2, bX6 G q (o + 3) S.2.1.1 S.2.1.2, bX8 G q (o + 12) S.2.2.1.1 S.2.2.1.2, bX5 G q (o + 19) S.2.2.2.1.2.1 S.2.2.2.1.2.2.1 S.2.2.2.1.2.2.2.1 S.2.2.2.1.2.2.2.2, bX2 G q ((o + 19) + 2) S.2.2.2.1.1.1 S.2.2.2.1.1.2.1 S.2.2.2.1.1.2.2.1 S.2.2.2.1.1.2.2.2.1 S.2.2.2.1.1.2.2.2.2.1 S.2.2.2.1.1.2.2.2.2.2.1 S.2.2.2.1.1.2.2.2.2.2.2.1 S.2.2.2.1.1.2.2.2.2.2.2.2, bX2 G q (o + 27) r1.2.2.1 r1.2.2.2.1 r1.2.2.2.2.1 r1.2.2.2.2.2.1 r1.2.2.2.2.2.2.1 r1.2.2.2.2.2.2.2.1 r1.2.2.2.2.2.2.2.2.1 r1.2.2.2.2.2.2.2.2.2, bX1 G q (o + 33) S.2.2.2.2.2.1.1 S.2.2.2.2.2.1.2.1 S.2.2.2.2.2.1.2.2.1 S.2.2.2.2.2.1.2.2.2, bX4 G q (o + 36) S.2.2.2.2.2.2.1.1 S.2.2.2.2.2.2.1.2, bX3 G q (o + 38) S.2.2.2.2.2.2.2.1.1 S.2.2.2.2.2.2.2.1.2.1 S.2.2.2.2.2.2.2.1.2.2.1 S.2.2.2.2.2.2.2.1.2.2.2, bX0 G q (o + 43) r1.2.1.2.2.1 r1.2.1.2.2.2, bX2 G q ((o + 43) + 3) r1.2.1.1.1 r1.2.1.1.2.1 r1.2.1.1.2.2.1 r1.2.1.1.2.2.2.1 r1.2.1.1.2.2.2.2.1 r1.2.1.1.2.2.2.2.2.1 r1.2.1.1.2.2.2.2.2.2.1 r1.2.1.1.2.2.2.2.2.2.2, bX4 G q ((o + 43) + 9) r1.2.1.2.1.1 r1.2.1.2.1.2, bX7 G q (o + 54) S.2.2.2.2.2.2.2.2.2.1 S.2.2.2.2.2.2.2.2.2.2.1 S.2.2.2.2.2.2.2.2.2.2.2]) hS0 (c_X0_tradeOnce l G q (o + 43) q (o + 27) S.2.2.2.2.2.2.2.2.1 S.2.2.2.2.1 r1 e2) zc_X0_tradeOnce rfl gX10_trades_X0_tradeOnce ⟨Nat.le_of_ble_eq_true rfl, Nat.le_of_ble_eq_true rfl⟩ hK hA hT hw (is := [10, 11, 12, 6]) rfl rfl rfl rfl rfl rfl rfl hl.1 rfl (Nat.le_of_ble_eq_true rfl) dX10_trades_16 (fun H locs hw => ?_)
      refine lv_if_eq (tgt := 28) hx hb dX10_trades_19 rfl (fun hc => ?_) (fun hc => ?_)
      · have hf := z_t hc hf
        refine lv_iload_n hx hb dX10_trades_28 rfl (lv_at hl 1 rfl) ?_
        cases hf
        exact z_iret hx hb hr hlk hw dX10_trades_29
      · have hf := z_f hc hf
        refine lv_iinc (v := (v1 + 1)) (lv' := [(1, .int (v1 + 1)), (0, .ref (q (o + 0)))]) hx hb dX10_trades_22 hl (k := 1) rfl rfl (by decide) rfl (fun ls hl => ?_)
        refine lv_goto (tgt := 2) hx hb dX10_trades_25 rfl ?_
        exact ih _ _ _ _ _ hf hw (lv_sub hl [1, 0] rfl)
set_option maxHeartbeats 4000000 in
set_option maxRecDepth 100000 in
theorem c_X10_trades (l : Launch) (G : zG) (q : Nat → Nat) (o : Nat) (S : VX10)  (y : Int32 × VX10) (hf : f_X10_trades S = some y) : zMet l yX10_trades wsX10_trades 6 155 G [.ref (q (o + 0))] [bX10 G q o, bX9 G q (o + 1) S.1.1 S.1.2.1 S.1.2.2.1 S.1.2.2.2.1 S.1.2.2.2.2, bX6 G q (o + 3) S.2.1.1 S.2.1.2, bX8 G q (o + 12) S.2.2.1.1 S.2.2.1.2, bX5 G q (o + 19) S.2.2.2.1.2.1 S.2.2.2.1.2.2.1 S.2.2.2.1.2.2.2.1 S.2.2.2.1.2.2.2.2, bX2 G q ((o + 19) + 2) S.2.2.2.1.1.1 S.2.2.2.1.1.2.1 S.2.2.2.1.1.2.2.1 S.2.2.2.1.1.2.2.2.1 S.2.2.2.1.1.2.2.2.2.1 S.2.2.2.1.1.2.2.2.2.2.1 S.2.2.2.1.1.2.2.2.2.2.2.1 S.2.2.2.1.1.2.2.2.2.2.2.2, bX2 G q (o + 27) S.2.2.2.2.1.1 S.2.2.2.2.1.2.1 S.2.2.2.2.1.2.2.1 S.2.2.2.2.1.2.2.2.1 S.2.2.2.2.1.2.2.2.2.1 S.2.2.2.2.1.2.2.2.2.2.1 S.2.2.2.2.1.2.2.2.2.2.2.1 S.2.2.2.2.1.2.2.2.2.2.2.2, bX1 G q (o + 33) S.2.2.2.2.2.1.1 S.2.2.2.2.2.1.2.1 S.2.2.2.2.2.1.2.2.1 S.2.2.2.2.2.1.2.2.2, bX4 G q (o + 36) S.2.2.2.2.2.2.1.1 S.2.2.2.2.2.2.1.2, bX3 G q (o + 38) S.2.2.2.2.2.2.2.1.1 S.2.2.2.2.2.2.2.1.2.1 S.2.2.2.2.2.2.2.1.2.2.1 S.2.2.2.2.2.2.2.1.2.2.2, bX0 G q (o + 43) S.2.2.2.2.2.2.2.2.1.2.2.1 S.2.2.2.2.2.2.2.2.1.2.2.2, bX2 G q ((o + 43) + 3) S.2.2.2.2.2.2.2.2.1.1.1 S.2.2.2.2.2.2.2.2.1.1.2.1 S.2.2.2.2.2.2.2.2.1.1.2.2.1 S.2.2.2.2.2.2.2.2.1.1.2.2.2.1 S.2.2.2.2.2.2.2.2.1.1.2.2.2.2.1 S.2.2.2.2.2.2.2.2.1.1.2.2.2.2.2.1 S.2.2.2.2.2.2.2.2.1.1.2.2.2.2.2.2.1 S.2.2.2.2.2.2.2.2.1.1.2.2.2.2.2.2.2, bX4 G q ((o + 43) + 9) S.2.2.2.2.2.2.2.2.1.2.1.1 S.2.2.2.2.2.2.2.2.1.2.1.2, bX7 G q (o + 54) S.2.2.2.2.2.2.2.2.2.1 S.2.2.2.2.2.2.2.2.2.2.1 S.2.2.2.2.2.2.2.2.2.2.2] (some (.int y.1)) [bX10 G q o, bX9 G q (o + 1) y.2.1.1 y.2.1.2.1 y.2.1.2.2.1 y.2.1.2.2.2.1 y.2.1.2.2.2.2, bX6 G q (o + 3) y.2.2.1.1 y.2.2.1.2, bX8 G q (o + 12) y.2.2.2.1.1 y.2.2.2.1.2, bX5 G q (o + 19) y.2.2.2.2.1.2.1 y.2.2.2.2.1.2.2.1 y.2.2.2.2.1.2.2.2.1 y.2.2.2.2.1.2.2.2.2, bX2 G q ((o + 19) + 2) y.2.2.2.2.1.1.1 y.2.2.2.2.1.1.2.1 y.2.2.2.2.1.1.2.2.1 y.2.2.2.2.1.1.2.2.2.1 y.2.2.2.2.1.1.2.2.2.2.1 y.2.2.2.2.1.1.2.2.2.2.2.1 y.2.2.2.2.1.1.2.2.2.2.2.2.1 y.2.2.2.2.1.1.2.2.2.2.2.2.2, bX2 G q (o + 27) y.2.2.2.2.2.1.1 y.2.2.2.2.2.1.2.1 y.2.2.2.2.2.1.2.2.1 y.2.2.2.2.2.1.2.2.2.1 y.2.2.2.2.2.1.2.2.2.2.1 y.2.2.2.2.2.1.2.2.2.2.2.1 y.2.2.2.2.2.1.2.2.2.2.2.2.1 y.2.2.2.2.2.1.2.2.2.2.2.2.2, bX1 G q (o + 33) y.2.2.2.2.2.2.1.1 y.2.2.2.2.2.2.1.2.1 y.2.2.2.2.2.2.1.2.2.1 y.2.2.2.2.2.2.1.2.2.2, bX4 G q (o + 36) y.2.2.2.2.2.2.2.1.1 y.2.2.2.2.2.2.2.1.2, bX3 G q (o + 38) y.2.2.2.2.2.2.2.2.1.1 y.2.2.2.2.2.2.2.2.1.2.1 y.2.2.2.2.2.2.2.2.1.2.2.1 y.2.2.2.2.2.2.2.2.1.2.2.2, bX0 G q (o + 43) y.2.2.2.2.2.2.2.2.2.1.2.2.1 y.2.2.2.2.2.2.2.2.2.1.2.2.2, bX2 G q ((o + 43) + 3) y.2.2.2.2.2.2.2.2.2.1.1.1 y.2.2.2.2.2.2.2.2.2.1.1.2.1 y.2.2.2.2.2.2.2.2.2.1.1.2.2.1 y.2.2.2.2.2.2.2.2.2.1.1.2.2.2.1 y.2.2.2.2.2.2.2.2.2.1.1.2.2.2.2.1 y.2.2.2.2.2.2.2.2.2.1.1.2.2.2.2.2.1 y.2.2.2.2.2.2.2.2.2.1.1.2.2.2.2.2.2.1 y.2.2.2.2.2.2.2.2.2.1.1.2.2.2.2.2.2.2, bX4 G q ((o + 43) + 9) y.2.2.2.2.2.2.2.2.2.1.2.1.1 y.2.2.2.2.2.2.2.2.2.1.2.1.2, bX7 G q (o + 54) y.2.2.2.2.2.2.2.2.2.2.1 y.2.2.2.2.2.2.2.2.2.2.2.1 y.2.2.2.2.2.2.2.2.2.2.2.2] := by
  refine z_met zc_X10_trades (Nat.le_of_ble_eq_true rfl) ?_
  intro p e s m below meth c A ls hZ hl hw
  have hl : lv_has ls 2 [(0, .ref (q (o + 0)))] := hl
  obtain ⟨hS0, hr, hlk, hK, hA, hT⟩ := id hZ
  have hx := hS0.1
  have hb := hS0.2.1
  have hml := hS0.2.2.1
  have hown : s.vm.findClass RX10 = some m.cls := hS0.2.2.2.1
  have hts := hS0.2.2.2.2
  unfold f_X10_trades at hf
  refine lv_iconst (v := 0) hx hb dX10_trades_0 rfl ?_
  refine lv_istore_n (lv' := [(1, .int 0), (0, .ref (q (o + 0)))]) hx hb dX10_trades_1 rfl hl (by decide) rfl (fun ls hl => ?_)
  exact k_X10_trades_2 hZ _ 4096 _ _ _ _ _ hf hw (lv_sub hl [1, 0] rfl)
theorem zc_X10_upper : zC yX10_upper wsX10_upper cX10_upper 1 (some .long) 0 := ⟨⟨_, rfl⟩, by decide +kernel, by decide +kernel, by decide +kernel, by decide +kernel⟩
theorem m_X10_upper_0 : (.fieldLink RX10 10 "CellKeys" "told" "LCellKeys$Told;" : Cond) ∈ wsX10_upper := by decide +kernel
theorem in_X10_upper_X10 : ∀ w ∈ u_ws RX10 TX10 10, w ∈ wsX10_upper := by decide +kernel
set_option maxHeartbeats 4000000 in
set_option maxRecDepth 100000 in
theorem c_X10_upper (l : Launch) (G : zG) (q : Nat → Nat) (o : Nat) (S : VX10)  (y : Int64) (hf : f_X10_upper S = some y) : zMet l yX10_upper wsX10_upper 1 20 G [.ref (q (o + 0))] [bX10 G q o, bX9 G q (o + 1) S.1.1 S.1.2.1 S.1.2.2.1 S.1.2.2.2.1 S.1.2.2.2.2, bX6 G q (o + 3) S.2.1.1 S.2.1.2, bX8 G q (o + 12) S.2.2.1.1 S.2.2.1.2, bX5 G q (o + 19) S.2.2.2.1.2.1 S.2.2.2.1.2.2.1 S.2.2.2.1.2.2.2.1 S.2.2.2.1.2.2.2.2, bX2 G q ((o + 19) + 2) S.2.2.2.1.1.1 S.2.2.2.1.1.2.1 S.2.2.2.1.1.2.2.1 S.2.2.2.1.1.2.2.2.1 S.2.2.2.1.1.2.2.2.2.1 S.2.2.2.1.1.2.2.2.2.2.1 S.2.2.2.1.1.2.2.2.2.2.2.1 S.2.2.2.1.1.2.2.2.2.2.2.2, bX2 G q (o + 27) S.2.2.2.2.1.1 S.2.2.2.2.1.2.1 S.2.2.2.2.1.2.2.1 S.2.2.2.2.1.2.2.2.1 S.2.2.2.2.1.2.2.2.2.1 S.2.2.2.2.1.2.2.2.2.2.1 S.2.2.2.2.1.2.2.2.2.2.2.1 S.2.2.2.2.1.2.2.2.2.2.2.2, bX1 G q (o + 33) S.2.2.2.2.2.1.1 S.2.2.2.2.2.1.2.1 S.2.2.2.2.2.1.2.2.1 S.2.2.2.2.2.1.2.2.2, bX4 G q (o + 36) S.2.2.2.2.2.2.1.1 S.2.2.2.2.2.2.1.2, bX3 G q (o + 38) S.2.2.2.2.2.2.2.1.1 S.2.2.2.2.2.2.2.1.2.1 S.2.2.2.2.2.2.2.1.2.2.1 S.2.2.2.2.2.2.2.1.2.2.2, bX0 G q (o + 43) S.2.2.2.2.2.2.2.2.1.2.2.1 S.2.2.2.2.2.2.2.2.1.2.2.2, bX2 G q ((o + 43) + 3) S.2.2.2.2.2.2.2.2.1.1.1 S.2.2.2.2.2.2.2.2.1.1.2.1 S.2.2.2.2.2.2.2.2.1.1.2.2.1 S.2.2.2.2.2.2.2.2.1.1.2.2.2.1 S.2.2.2.2.2.2.2.2.1.1.2.2.2.2.1 S.2.2.2.2.2.2.2.2.1.1.2.2.2.2.2.1 S.2.2.2.2.2.2.2.2.1.1.2.2.2.2.2.2.1 S.2.2.2.2.2.2.2.2.1.1.2.2.2.2.2.2.2, bX4 G q ((o + 43) + 9) S.2.2.2.2.2.2.2.2.1.2.1.1 S.2.2.2.2.2.2.2.2.1.2.1.2, bX7 G q (o + 54) S.2.2.2.2.2.2.2.2.2.1 S.2.2.2.2.2.2.2.2.2.2.1 S.2.2.2.2.2.2.2.2.2.2.2] (some (.long y)) [bX10 G q o, bX9 G q (o + 1) S.1.1 S.1.2.1 S.1.2.2.1 S.1.2.2.2.1 S.1.2.2.2.2, bX6 G q (o + 3) S.2.1.1 S.2.1.2, bX8 G q (o + 12) S.2.2.1.1 S.2.2.1.2, bX5 G q (o + 19) S.2.2.2.1.2.1 S.2.2.2.1.2.2.1 S.2.2.2.1.2.2.2.1 S.2.2.2.1.2.2.2.2, bX2 G q ((o + 19) + 2) S.2.2.2.1.1.1 S.2.2.2.1.1.2.1 S.2.2.2.1.1.2.2.1 S.2.2.2.1.1.2.2.2.1 S.2.2.2.1.1.2.2.2.2.1 S.2.2.2.1.1.2.2.2.2.2.1 S.2.2.2.1.1.2.2.2.2.2.2.1 S.2.2.2.1.1.2.2.2.2.2.2.2, bX2 G q (o + 27) S.2.2.2.2.1.1 S.2.2.2.2.1.2.1 S.2.2.2.2.1.2.2.1 S.2.2.2.2.1.2.2.2.1 S.2.2.2.2.1.2.2.2.2.1 S.2.2.2.2.1.2.2.2.2.2.1 S.2.2.2.2.1.2.2.2.2.2.2.1 S.2.2.2.2.1.2.2.2.2.2.2.2, bX1 G q (o + 33) S.2.2.2.2.2.1.1 S.2.2.2.2.2.1.2.1 S.2.2.2.2.2.1.2.2.1 S.2.2.2.2.2.1.2.2.2, bX4 G q (o + 36) S.2.2.2.2.2.2.1.1 S.2.2.2.2.2.2.1.2, bX3 G q (o + 38) S.2.2.2.2.2.2.2.1.1 S.2.2.2.2.2.2.2.1.2.1 S.2.2.2.2.2.2.2.1.2.2.1 S.2.2.2.2.2.2.2.1.2.2.2, bX0 G q (o + 43) S.2.2.2.2.2.2.2.2.1.2.2.1 S.2.2.2.2.2.2.2.2.1.2.2.2, bX2 G q ((o + 43) + 3) S.2.2.2.2.2.2.2.2.1.1.1 S.2.2.2.2.2.2.2.2.1.1.2.1 S.2.2.2.2.2.2.2.2.1.1.2.2.1 S.2.2.2.2.2.2.2.2.1.1.2.2.2.1 S.2.2.2.2.2.2.2.2.1.1.2.2.2.2.1 S.2.2.2.2.2.2.2.2.1.1.2.2.2.2.2.1 S.2.2.2.2.2.2.2.2.1.1.2.2.2.2.2.2.1 S.2.2.2.2.2.2.2.2.1.1.2.2.2.2.2.2.2, bX4 G q ((o + 43) + 9) S.2.2.2.2.2.2.2.2.1.2.1.1 S.2.2.2.2.2.2.2.2.1.2.1.2, bX7 G q (o + 54) S.2.2.2.2.2.2.2.2.2.1 S.2.2.2.2.2.2.2.2.2.2.1 S.2.2.2.2.2.2.2.2.2.2.2] := by
  refine z_met zc_X10_upper (Nat.le_of_ble_eq_true rfl) ?_
  intro p e s m below meth c A ls hZ hl hw
  have hl : lv_has ls 1 [(0, .ref (q (o + 0)))] := hl
  obtain ⟨hS0, hr, hlk, hK, hA, hT⟩ := id hZ
  have hx := hS0.1
  have hb := hS0.2.1
  have hml := hS0.2.2.1
  have hown : s.vm.findClass RX10 = some m.cls := hS0.2.2.2.1
  have hts := hS0.2.2.2.2
  unfold f_X10_upper at hf
  refine lv_aload_n hx hb dX10_upper_0 rfl (lv_at hl 0 rfl) ?_
  refine z_get hS0 in_X10_upper_X10 hK hw 0 0 rfl rfl rfl (by decide) (hts _ m_X10_upper_0) (v := .ref (q ((o + 1) + 0))) rfl dX10_upper_1 ?_
  obtain ⟨r1, e2, hf⟩ := z_bd hf
  refine z_callV1 (As := []) (rest := []) (bs' := [bX10 G q o, bX9 G q (o + 1) S.1.1 S.1.2.1 S.1.2.2.1 S.1.2.2.2.1 S.1.2.2.2.2, bX6 G q (o + 3) S.2.1.1 S.2.1.2, bX8 G q (o + 12) S.2.2.1.1 S.2.2.1.2, bX5 G q (o + 19) S.2.2.2.1.2.1 S.2.2.2.1.2.2.1 S.2.2.2.1.2.2.2.1 S.2.2.2.1.2.2.2.2, bX2 G q ((o + 19) + 2) S.2.2.2.1.1.1 S.2.2.2.1.1.2.1 S.2.2.2.1.1.2.2.1 S.2.2.2.1.1.2.2.2.1 S.2.2.2.1.1.2.2.2.2.1 S.2.2.2.1.1.2.2.2.2.2.1 S.2.2.2.1.1.2.2.2.2.2.2.1 S.2.2.2.1.1.2.2.2.2.2.2.2, bX2 G q (o + 27) S.2.2.2.2.1.1 S.2.2.2.2.1.2.1 S.2.2.2.2.1.2.2.1 S.2.2.2.2.1.2.2.2.1 S.2.2.2.2.1.2.2.2.2.1 S.2.2.2.2.1.2.2.2.2.2.1 S.2.2.2.2.1.2.2.2.2.2.2.1 S.2.2.2.2.1.2.2.2.2.2.2.2, bX1 G q (o + 33) S.2.2.2.2.2.1.1 S.2.2.2.2.2.1.2.1 S.2.2.2.2.2.1.2.2.1 S.2.2.2.2.2.1.2.2.2, bX4 G q (o + 36) S.2.2.2.2.2.2.1.1 S.2.2.2.2.2.2.1.2, bX3 G q (o + 38) S.2.2.2.2.2.2.2.1.1 S.2.2.2.2.2.2.2.1.2.1 S.2.2.2.2.2.2.2.1.2.2.1 S.2.2.2.2.2.2.2.1.2.2.2, bX0 G q (o + 43) S.2.2.2.2.2.2.2.2.1.2.2.1 S.2.2.2.2.2.2.2.2.1.2.2.2, bX2 G q ((o + 43) + 3) S.2.2.2.2.2.2.2.2.1.1.1 S.2.2.2.2.2.2.2.2.1.1.2.1 S.2.2.2.2.2.2.2.2.1.1.2.2.1 S.2.2.2.2.2.2.2.2.1.1.2.2.2.1 S.2.2.2.2.2.2.2.2.1.1.2.2.2.2.1 S.2.2.2.2.2.2.2.2.1.1.2.2.2.2.2.1 S.2.2.2.2.2.2.2.2.1.1.2.2.2.2.2.2.1 S.2.2.2.2.2.2.2.2.1.1.2.2.2.2.2.2.2, bX4 G q ((o + 43) + 9) S.2.2.2.2.2.2.2.2.1.2.1.1 S.2.2.2.2.2.2.2.2.1.2.1.2, bX7 G q (o + 54) S.2.2.2.2.2.2.2.2.2.1 S.2.2.2.2.2.2.2.2.2.2.1 S.2.2.2.2.2.2.2.2.2.2.2]) hS0 (c_X9_upperNumber l G q (o + 1) S.1 r1 e2) zc_X9_upperNumber rfl gX10_upper_X9_upperNumber ⟨Nat.le_of_ble_eq_true rfl, Nat.le_of_ble_eq_true rfl⟩ hK hA hT hw (is := [1]) rfl rfl rfl rfl rfl rfl rfl hl.1 rfl (Nat.le_of_ble_eq_true rfl) dX10_upper_4 (fun H locs hw => ?_)
  cases hf
  exact z_lret hx hb hr hlk hw dX10_upper_7
theorem zc_X10_ways : zC yX10_ways wsX10_ways cX10_ways 2 (some .int) 1 := ⟨⟨_, rfl⟩, by decide +kernel, by decide +kernel, by decide +kernel, by decide +kernel⟩
theorem m_X10_ways_0 : (.fieldLink RX10 40 "CellKeys" "jail" "LCellKeys$Jail;" : Cond) ∈ wsX10_ways := by decide +kernel
theorem in_X10_ways_X10 : ∀ w ∈ u_ws RX10 TX10 10, w ∈ wsX10_ways := by decide +kernel
theorem m_X10_ways_1 : (.fieldLink RX10 61 "CellKeys" "orders" "LCellKeys$Orders;" : Cond) ∈ wsX10_ways := by decide +kernel
set_option maxHeartbeats 4000000 in
set_option maxRecDepth 100000 in
theorem c_X10_ways (l : Launch) (G : zG) (q : Nat → Nat) (o : Nat) (S : VX10) (v1 : Int32) (y : Int32 × VX10) (hf : f_X10_ways S v1 = some y) : zMet l yX10_ways wsX10_ways 5 128 G [.ref (q (o + 0)), .int v1] [bX10 G q o, bX9 G q (o + 1) S.1.1 S.1.2.1 S.1.2.2.1 S.1.2.2.2.1 S.1.2.2.2.2, bX6 G q (o + 3) S.2.1.1 S.2.1.2, bX8 G q (o + 12) S.2.2.1.1 S.2.2.1.2, bX5 G q (o + 19) S.2.2.2.1.2.1 S.2.2.2.1.2.2.1 S.2.2.2.1.2.2.2.1 S.2.2.2.1.2.2.2.2, bX2 G q ((o + 19) + 2) S.2.2.2.1.1.1 S.2.2.2.1.1.2.1 S.2.2.2.1.1.2.2.1 S.2.2.2.1.1.2.2.2.1 S.2.2.2.1.1.2.2.2.2.1 S.2.2.2.1.1.2.2.2.2.2.1 S.2.2.2.1.1.2.2.2.2.2.2.1 S.2.2.2.1.1.2.2.2.2.2.2.2, bX2 G q (o + 27) S.2.2.2.2.1.1 S.2.2.2.2.1.2.1 S.2.2.2.2.1.2.2.1 S.2.2.2.2.1.2.2.2.1 S.2.2.2.2.1.2.2.2.2.1 S.2.2.2.2.1.2.2.2.2.2.1 S.2.2.2.2.1.2.2.2.2.2.2.1 S.2.2.2.2.1.2.2.2.2.2.2.2, bX1 G q (o + 33) S.2.2.2.2.2.1.1 S.2.2.2.2.2.1.2.1 S.2.2.2.2.2.1.2.2.1 S.2.2.2.2.2.1.2.2.2, bX4 G q (o + 36) S.2.2.2.2.2.2.1.1 S.2.2.2.2.2.2.1.2, bX3 G q (o + 38) S.2.2.2.2.2.2.2.1.1 S.2.2.2.2.2.2.2.1.2.1 S.2.2.2.2.2.2.2.1.2.2.1 S.2.2.2.2.2.2.2.1.2.2.2, bX0 G q (o + 43) S.2.2.2.2.2.2.2.2.1.2.2.1 S.2.2.2.2.2.2.2.2.1.2.2.2, bX2 G q ((o + 43) + 3) S.2.2.2.2.2.2.2.2.1.1.1 S.2.2.2.2.2.2.2.2.1.1.2.1 S.2.2.2.2.2.2.2.2.1.1.2.2.1 S.2.2.2.2.2.2.2.2.1.1.2.2.2.1 S.2.2.2.2.2.2.2.2.1.1.2.2.2.2.1 S.2.2.2.2.2.2.2.2.1.1.2.2.2.2.2.1 S.2.2.2.2.2.2.2.2.1.1.2.2.2.2.2.2.1 S.2.2.2.2.2.2.2.2.1.1.2.2.2.2.2.2.2, bX4 G q ((o + 43) + 9) S.2.2.2.2.2.2.2.2.1.2.1.1 S.2.2.2.2.2.2.2.2.1.2.1.2, bX7 G q (o + 54) S.2.2.2.2.2.2.2.2.2.1 S.2.2.2.2.2.2.2.2.2.2.1 S.2.2.2.2.2.2.2.2.2.2.2] (some (.int y.1)) [bX10 G q o, bX9 G q (o + 1) y.2.1.1 y.2.1.2.1 y.2.1.2.2.1 y.2.1.2.2.2.1 y.2.1.2.2.2.2, bX6 G q (o + 3) y.2.2.1.1 y.2.2.1.2, bX8 G q (o + 12) y.2.2.2.1.1 y.2.2.2.1.2, bX5 G q (o + 19) y.2.2.2.2.1.2.1 y.2.2.2.2.1.2.2.1 y.2.2.2.2.1.2.2.2.1 y.2.2.2.2.1.2.2.2.2, bX2 G q ((o + 19) + 2) y.2.2.2.2.1.1.1 y.2.2.2.2.1.1.2.1 y.2.2.2.2.1.1.2.2.1 y.2.2.2.2.1.1.2.2.2.1 y.2.2.2.2.1.1.2.2.2.2.1 y.2.2.2.2.1.1.2.2.2.2.2.1 y.2.2.2.2.1.1.2.2.2.2.2.2.1 y.2.2.2.2.1.1.2.2.2.2.2.2.2, bX2 G q (o + 27) y.2.2.2.2.2.1.1 y.2.2.2.2.2.1.2.1 y.2.2.2.2.2.1.2.2.1 y.2.2.2.2.2.1.2.2.2.1 y.2.2.2.2.2.1.2.2.2.2.1 y.2.2.2.2.2.1.2.2.2.2.2.1 y.2.2.2.2.2.1.2.2.2.2.2.2.1 y.2.2.2.2.2.1.2.2.2.2.2.2.2, bX1 G q (o + 33) y.2.2.2.2.2.2.1.1 y.2.2.2.2.2.2.1.2.1 y.2.2.2.2.2.2.1.2.2.1 y.2.2.2.2.2.2.1.2.2.2, bX4 G q (o + 36) y.2.2.2.2.2.2.2.1.1 y.2.2.2.2.2.2.2.1.2, bX3 G q (o + 38) y.2.2.2.2.2.2.2.2.1.1 y.2.2.2.2.2.2.2.2.1.2.1 y.2.2.2.2.2.2.2.2.1.2.2.1 y.2.2.2.2.2.2.2.2.1.2.2.2, bX0 G q (o + 43) y.2.2.2.2.2.2.2.2.2.1.2.2.1 y.2.2.2.2.2.2.2.2.2.1.2.2.2, bX2 G q ((o + 43) + 3) y.2.2.2.2.2.2.2.2.2.1.1.1 y.2.2.2.2.2.2.2.2.2.1.1.2.1 y.2.2.2.2.2.2.2.2.2.1.1.2.2.1 y.2.2.2.2.2.2.2.2.2.1.1.2.2.2.1 y.2.2.2.2.2.2.2.2.2.1.1.2.2.2.2.1 y.2.2.2.2.2.2.2.2.2.1.1.2.2.2.2.2.1 y.2.2.2.2.2.2.2.2.2.1.1.2.2.2.2.2.2.1 y.2.2.2.2.2.2.2.2.2.1.1.2.2.2.2.2.2.2, bX4 G q ((o + 43) + 9) y.2.2.2.2.2.2.2.2.2.1.2.1.1 y.2.2.2.2.2.2.2.2.2.1.2.1.2, bX7 G q (o + 54) y.2.2.2.2.2.2.2.2.2.2.1 y.2.2.2.2.2.2.2.2.2.2.2.1 y.2.2.2.2.2.2.2.2.2.2.2.2] := by
  refine z_met zc_X10_ways (Nat.le_of_ble_eq_true rfl) ?_
  intro p e s m below meth c A ls hZ hl hw
  have hl : lv_has ls 2 [(0, .ref (q (o + 0))), (1, .int v1)] := hl
  obtain ⟨hS0, hr, hlk, hK, hA, hT⟩ := id hZ
  have hx := hS0.1
  have hb := hS0.2.1
  have hml := hS0.2.2.1
  have hown : s.vm.findClass RX10 = some m.cls := hS0.2.2.2.1
  have hts := hS0.2.2.2.2
  unfold f_X10_ways at hf
  refine lv_aload_n hx hb dX10_ways_0 rfl (lv_at hl 0 rfl) ?_
  refine z_get hS0 in_X10_ways_X10 hK hw 0 4 rfl rfl rfl (by decide) (hts _ m_X10_ways_0) (v := .ref (q ((o + 27) + 0))) rfl dX10_ways_1 ?_
  refine lv_iload_n hx hb dX10_ways_4 rfl (lv_at hl 1 rfl) ?_
  obtain ⟨r1, e2, hf⟩ := z_bd hf
  refine z_callV1 (As := [.int v1]) (rest := []) (bs' := [bX10 G q o, bX9 G q (o + 1) S.1.1 S.1.2.1 S.1.2.2.1 S.1.2.2.2.1 S.1.2.2.2.2, bX6 G q (o + 3) S.2.1.1 S.2.1.2, bX8 G q (o + 12) S.2.2.1.1 S.2.2.1.2, bX5 G q (o + 19) S.2.2.2.1.2.1 S.2.2.2.1.2.2.1 S.2.2.2.1.2.2.2.1 S.2.2.2.1.2.2.2.2, bX2 G q ((o + 19) + 2) S.2.2.2.1.1.1 S.2.2.2.1.1.2.1 S.2.2.2.1.1.2.2.1 S.2.2.2.1.1.2.2.2.1 S.2.2.2.1.1.2.2.2.2.1 S.2.2.2.1.1.2.2.2.2.2.1 S.2.2.2.1.1.2.2.2.2.2.2.1 S.2.2.2.1.1.2.2.2.2.2.2.2, bX2 G q (o + 27) S.2.2.2.2.1.1 S.2.2.2.2.1.2.1 S.2.2.2.2.1.2.2.1 S.2.2.2.2.1.2.2.2.1 S.2.2.2.2.1.2.2.2.2.1 S.2.2.2.2.1.2.2.2.2.2.1 S.2.2.2.2.1.2.2.2.2.2.2.1 S.2.2.2.2.1.2.2.2.2.2.2.2, bX1 G q (o + 33) S.2.2.2.2.2.1.1 S.2.2.2.2.2.1.2.1 S.2.2.2.2.2.1.2.2.1 S.2.2.2.2.2.1.2.2.2, bX4 G q (o + 36) S.2.2.2.2.2.2.1.1 S.2.2.2.2.2.2.1.2, bX3 G q (o + 38) S.2.2.2.2.2.2.2.1.1 S.2.2.2.2.2.2.2.1.2.1 S.2.2.2.2.2.2.2.1.2.2.1 S.2.2.2.2.2.2.2.1.2.2.2, bX0 G q (o + 43) S.2.2.2.2.2.2.2.2.1.2.2.1 S.2.2.2.2.2.2.2.2.1.2.2.2, bX2 G q ((o + 43) + 3) S.2.2.2.2.2.2.2.2.1.1.1 S.2.2.2.2.2.2.2.2.1.1.2.1 S.2.2.2.2.2.2.2.2.1.1.2.2.1 S.2.2.2.2.2.2.2.2.1.1.2.2.2.1 S.2.2.2.2.2.2.2.2.1.1.2.2.2.2.1 S.2.2.2.2.2.2.2.2.1.1.2.2.2.2.2.1 S.2.2.2.2.2.2.2.2.1.1.2.2.2.2.2.2.1 S.2.2.2.2.2.2.2.2.1.1.2.2.2.2.2.2.2, bX4 G q ((o + 43) + 9) S.2.2.2.2.2.2.2.2.1.2.1.1 S.2.2.2.2.2.2.2.2.1.2.1.2, bX7 G q (o + 54) S.2.2.2.2.2.2.2.2.2.1 S.2.2.2.2.2.2.2.2.2.2.1 S.2.2.2.2.2.2.2.2.2.2.2]) hS0 (c_X2_isSet l G q (o + 27) S.2.2.2.2.1 v1 r1 e2) zc_X2_isSet rfl gX10_ways_X2_isSet ⟨Nat.le_of_ble_eq_true rfl, Nat.le_of_ble_eq_true rfl⟩ hK hA hT hw (is := [6]) rfl rfl rfl rfl rfl rfl rfl hl.1 rfl (Nat.le_of_ble_eq_true rfl) dX10_ways_5 (fun H locs hw => ?_)
  refine lv_if_eq (tgt := 26) hx hb dX10_ways_8 rfl (fun hc => ?_) (fun hc => ?_)
  · have hf := z_t hc hf
    refine lv_iconst (v := (-1)) hx hb dX10_ways_26 rfl ?_
    cases hf
    exact z_iret hx hb hr hlk hw dX10_ways_27
  · have hf := z_f hc hf
    refine lv_aload_n hx hb dX10_ways_11 rfl (lv_at hl 0 rfl) ?_
    refine z_get hS0 in_X10_ways_X10 hK hw 0 7 rfl rfl rfl (by decide) (hts _ m_X10_ways_1) (v := .ref (q ((o + 38) + 0))) rfl dX10_ways_12 ?_
    refine lv_aload_n hx hb dX10_ways_15 rfl (lv_at hl 0 rfl) ?_
    refine z_get hS0 in_X10_ways_X10 hK hw 0 4 rfl rfl rfl (by decide) (hts _ m_X10_ways_0) (v := .ref (q ((o + 27) + 0))) rfl dX10_ways_16 ?_
    refine lv_iload_n hx hb dX10_ways_19 rfl (lv_at hl 1 rfl) ?_
    obtain ⟨r3, e4, hf⟩ := z_bd hf
    refine z_callV1 (As := [.ref (q ((o + 27) + 0)), .int v1]) (rest := []) (bs' := [bX10 G q o, bX9 G q (o + 1) S.1.1 S.1.2.1 S.1.2.2.1 S.1.2.2.2.1 S.1.2.2.2.2, bX6 G q (o + 3) S.2.1.1 S.2.1.2, bX8 G q (o + 12) S.2.2.1.1 S.2.2.1.2, bX5 G q (o + 19) S.2.2.2.1.2.1 S.2.2.2.1.2.2.1 S.2.2.2.1.2.2.2.1 S.2.2.2.1.2.2.2.2, bX2 G q ((o + 19) + 2) S.2.2.2.1.1.1 S.2.2.2.1.1.2.1 S.2.2.2.1.1.2.2.1 S.2.2.2.1.1.2.2.2.1 S.2.2.2.1.1.2.2.2.2.1 S.2.2.2.1.1.2.2.2.2.2.1 S.2.2.2.1.1.2.2.2.2.2.2.1 S.2.2.2.1.1.2.2.2.2.2.2.2, bX2 G q (o + 27) S.2.2.2.2.1.1 S.2.2.2.2.1.2.1 S.2.2.2.2.1.2.2.1 S.2.2.2.2.1.2.2.2.1 S.2.2.2.2.1.2.2.2.2.1 S.2.2.2.2.1.2.2.2.2.2.1 S.2.2.2.2.1.2.2.2.2.2.2.1 S.2.2.2.2.1.2.2.2.2.2.2.2, bX1 G q (o + 33) S.2.2.2.2.2.1.1 S.2.2.2.2.2.1.2.1 S.2.2.2.2.2.1.2.2.1 S.2.2.2.2.2.1.2.2.2, bX4 G q (o + 36) S.2.2.2.2.2.2.1.1 S.2.2.2.2.2.2.1.2, bX3 G q (o + 38) r3.2.1 r3.2.2.1 r3.2.2.2.1 r3.2.2.2.2, bX0 G q (o + 43) S.2.2.2.2.2.2.2.2.1.2.2.1 S.2.2.2.2.2.2.2.2.1.2.2.2, bX2 G q ((o + 43) + 3) S.2.2.2.2.2.2.2.2.1.1.1 S.2.2.2.2.2.2.2.2.1.1.2.1 S.2.2.2.2.2.2.2.2.1.1.2.2.1 S.2.2.2.2.2.2.2.2.1.1.2.2.2.1 S.2.2.2.2.2.2.2.2.1.1.2.2.2.2.1 S.2.2.2.2.2.2.2.2.1.1.2.2.2.2.2.1 S.2.2.2.2.2.2.2.2.1.1.2.2.2.2.2.2.1 S.2.2.2.2.2.2.2.2.1.1.2.2.2.2.2.2.2, bX4 G q ((o + 43) + 9) S.2.2.2.2.2.2.2.2.1.2.1.1 S.2.2.2.2.2.2.2.2.1.2.1.2, bX7 G q (o + 54) S.2.2.2.2.2.2.2.2.2.1 S.2.2.2.2.2.2.2.2.2.2.1 S.2.2.2.2.2.2.2.2.2.2.2]) hS0 (c_X3_howMany l G q (o + 38) q (o + 27) S.2.2.2.2.2.2.2.1 S.2.2.2.2.1 v1 r3 e4) zc_X3_howMany rfl gX10_ways_X3_howMany ⟨Nat.le_of_ble_eq_true rfl, Nat.le_of_ble_eq_true rfl⟩ hK hA hT hw (is := [9, 6]) rfl rfl rfl rfl rfl rfl rfl hl.1 rfl (Nat.le_of_ble_eq_true rfl) dX10_ways_20 (fun H locs hw => ?_)
    refine lv_goto (tgt := 27) hx hb dX10_ways_23 rfl ?_
    cases hf
    exact z_iret hx hb hr hlk hw dX10_ways_27
theorem zc_X10_without : zC yX10_without wsX10_without cX10_without 5 (some .int) 1 := ⟨⟨_, rfl⟩, by decide +kernel, by decide +kernel, by decide +kernel, by decide +kernel⟩
theorem m_X10_without_0 : (.fieldLink RX10 40 "CellKeys" "jail" "LCellKeys$Jail;" : Cond) ∈ wsX10_without := by decide +kernel
theorem in_X10_without_X10 : ∀ w ∈ u_ws RX10 TX10 10, w ∈ wsX10_without := by decide +kernel
theorem m_X10_without_1 : (.fieldLink RX10 54 "CellKeys" "reach" "LCellKeys$Reach;" : Cond) ∈ wsX10_without := by decide +kernel
theorem m_X10_without_2 : (.fieldLink RX10 10 "CellKeys" "told" "LCellKeys$Told;" : Cond) ∈ wsX10_without := by decide +kernel
set_option maxHeartbeats 4000000 in
set_option maxRecDepth 100000 in
theorem c_X10_without (l : Launch) (G : zG) (q : Nat → Nat) (o : Nat) (S : VX10) (v1 : Int32) (y : Int32 × VX10) (hf : f_X10_without S v1 = some y) : zMet l yX10_without wsX10_without 5 127 G [.ref (q (o + 0)), .int v1] [bX10 G q o, bX9 G q (o + 1) S.1.1 S.1.2.1 S.1.2.2.1 S.1.2.2.2.1 S.1.2.2.2.2, bX6 G q (o + 3) S.2.1.1 S.2.1.2, bX8 G q (o + 12) S.2.2.1.1 S.2.2.1.2, bX5 G q (o + 19) S.2.2.2.1.2.1 S.2.2.2.1.2.2.1 S.2.2.2.1.2.2.2.1 S.2.2.2.1.2.2.2.2, bX2 G q ((o + 19) + 2) S.2.2.2.1.1.1 S.2.2.2.1.1.2.1 S.2.2.2.1.1.2.2.1 S.2.2.2.1.1.2.2.2.1 S.2.2.2.1.1.2.2.2.2.1 S.2.2.2.1.1.2.2.2.2.2.1 S.2.2.2.1.1.2.2.2.2.2.2.1 S.2.2.2.1.1.2.2.2.2.2.2.2, bX2 G q (o + 27) S.2.2.2.2.1.1 S.2.2.2.2.1.2.1 S.2.2.2.2.1.2.2.1 S.2.2.2.2.1.2.2.2.1 S.2.2.2.2.1.2.2.2.2.1 S.2.2.2.2.1.2.2.2.2.2.1 S.2.2.2.2.1.2.2.2.2.2.2.1 S.2.2.2.2.1.2.2.2.2.2.2.2, bX1 G q (o + 33) S.2.2.2.2.2.1.1 S.2.2.2.2.2.1.2.1 S.2.2.2.2.2.1.2.2.1 S.2.2.2.2.2.1.2.2.2, bX4 G q (o + 36) S.2.2.2.2.2.2.1.1 S.2.2.2.2.2.2.1.2, bX3 G q (o + 38) S.2.2.2.2.2.2.2.1.1 S.2.2.2.2.2.2.2.1.2.1 S.2.2.2.2.2.2.2.1.2.2.1 S.2.2.2.2.2.2.2.1.2.2.2, bX0 G q (o + 43) S.2.2.2.2.2.2.2.2.1.2.2.1 S.2.2.2.2.2.2.2.2.1.2.2.2, bX2 G q ((o + 43) + 3) S.2.2.2.2.2.2.2.2.1.1.1 S.2.2.2.2.2.2.2.2.1.1.2.1 S.2.2.2.2.2.2.2.2.1.1.2.2.1 S.2.2.2.2.2.2.2.2.1.1.2.2.2.1 S.2.2.2.2.2.2.2.2.1.1.2.2.2.2.1 S.2.2.2.2.2.2.2.2.1.1.2.2.2.2.2.1 S.2.2.2.2.2.2.2.2.1.1.2.2.2.2.2.2.1 S.2.2.2.2.2.2.2.2.1.1.2.2.2.2.2.2.2, bX4 G q ((o + 43) + 9) S.2.2.2.2.2.2.2.2.1.2.1.1 S.2.2.2.2.2.2.2.2.1.2.1.2, bX7 G q (o + 54) S.2.2.2.2.2.2.2.2.2.1 S.2.2.2.2.2.2.2.2.2.2.1 S.2.2.2.2.2.2.2.2.2.2.2] (some (.int y.1)) [bX10 G q o, bX9 G q (o + 1) y.2.1.1 y.2.1.2.1 y.2.1.2.2.1 y.2.1.2.2.2.1 y.2.1.2.2.2.2, bX6 G q (o + 3) y.2.2.1.1 y.2.2.1.2, bX8 G q (o + 12) y.2.2.2.1.1 y.2.2.2.1.2, bX5 G q (o + 19) y.2.2.2.2.1.2.1 y.2.2.2.2.1.2.2.1 y.2.2.2.2.1.2.2.2.1 y.2.2.2.2.1.2.2.2.2, bX2 G q ((o + 19) + 2) y.2.2.2.2.1.1.1 y.2.2.2.2.1.1.2.1 y.2.2.2.2.1.1.2.2.1 y.2.2.2.2.1.1.2.2.2.1 y.2.2.2.2.1.1.2.2.2.2.1 y.2.2.2.2.1.1.2.2.2.2.2.1 y.2.2.2.2.1.1.2.2.2.2.2.2.1 y.2.2.2.2.1.1.2.2.2.2.2.2.2, bX2 G q (o + 27) y.2.2.2.2.2.1.1 y.2.2.2.2.2.1.2.1 y.2.2.2.2.2.1.2.2.1 y.2.2.2.2.2.1.2.2.2.1 y.2.2.2.2.2.1.2.2.2.2.1 y.2.2.2.2.2.1.2.2.2.2.2.1 y.2.2.2.2.2.1.2.2.2.2.2.2.1 y.2.2.2.2.2.1.2.2.2.2.2.2.2, bX1 G q (o + 33) y.2.2.2.2.2.2.1.1 y.2.2.2.2.2.2.1.2.1 y.2.2.2.2.2.2.1.2.2.1 y.2.2.2.2.2.2.1.2.2.2, bX4 G q (o + 36) y.2.2.2.2.2.2.2.1.1 y.2.2.2.2.2.2.2.1.2, bX3 G q (o + 38) y.2.2.2.2.2.2.2.2.1.1 y.2.2.2.2.2.2.2.2.1.2.1 y.2.2.2.2.2.2.2.2.1.2.2.1 y.2.2.2.2.2.2.2.2.1.2.2.2, bX0 G q (o + 43) y.2.2.2.2.2.2.2.2.2.1.2.2.1 y.2.2.2.2.2.2.2.2.2.1.2.2.2, bX2 G q ((o + 43) + 3) y.2.2.2.2.2.2.2.2.2.1.1.1 y.2.2.2.2.2.2.2.2.2.1.1.2.1 y.2.2.2.2.2.2.2.2.2.1.1.2.2.1 y.2.2.2.2.2.2.2.2.2.1.1.2.2.2.1 y.2.2.2.2.2.2.2.2.2.1.1.2.2.2.2.1 y.2.2.2.2.2.2.2.2.2.1.1.2.2.2.2.2.1 y.2.2.2.2.2.2.2.2.2.1.1.2.2.2.2.2.2.1 y.2.2.2.2.2.2.2.2.2.1.1.2.2.2.2.2.2.2, bX4 G q ((o + 43) + 9) y.2.2.2.2.2.2.2.2.2.1.2.1.1 y.2.2.2.2.2.2.2.2.2.1.2.1.2, bX7 G q (o + 54) y.2.2.2.2.2.2.2.2.2.2.1 y.2.2.2.2.2.2.2.2.2.2.2.1 y.2.2.2.2.2.2.2.2.2.2.2.2] := by
  refine z_met zc_X10_without (Nat.le_of_ble_eq_true rfl) ?_
  intro p e s m below meth c A ls hZ hl hw
  have hl : lv_has ls 5 [(0, .ref (q (o + 0))), (1, .int v1)] := hl
  obtain ⟨hS0, hr, hlk, hK, hA, hT⟩ := id hZ
  have hx := hS0.1
  have hb := hS0.2.1
  have hml := hS0.2.2.1
  have hown : s.vm.findClass RX10 = some m.cls := hS0.2.2.2.1
  have hts := hS0.2.2.2.2
  unfold f_X10_without at hf
  refine lv_aload_n hx hb dX10_without_0 rfl (lv_at hl 0 rfl) ?_
  refine z_get hS0 in_X10_without_X10 hK hw 0 4 rfl rfl rfl (by decide) (hts _ m_X10_without_0) (v := .ref (q ((o + 27) + 0))) rfl dX10_without_1 ?_
  refine lv_iload_n hx hb dX10_without_4 rfl (lv_at hl 1 rfl) ?_
  obtain ⟨r1, e2, hf⟩ := z_bd hf
  refine z_callV1 (As := [.int v1]) (rest := []) (bs' := [bX10 G q o, bX9 G q (o + 1) S.1.1 S.1.2.1 S.1.2.2.1 S.1.2.2.2.1 S.1.2.2.2.2, bX6 G q (o + 3) S.2.1.1 S.2.1.2, bX8 G q (o + 12) S.2.2.1.1 S.2.2.1.2, bX5 G q (o + 19) S.2.2.2.1.2.1 S.2.2.2.1.2.2.1 S.2.2.2.1.2.2.2.1 S.2.2.2.1.2.2.2.2, bX2 G q ((o + 19) + 2) S.2.2.2.1.1.1 S.2.2.2.1.1.2.1 S.2.2.2.1.1.2.2.1 S.2.2.2.1.1.2.2.2.1 S.2.2.2.1.1.2.2.2.2.1 S.2.2.2.1.1.2.2.2.2.2.1 S.2.2.2.1.1.2.2.2.2.2.2.1 S.2.2.2.1.1.2.2.2.2.2.2.2, bX2 G q (o + 27) S.2.2.2.2.1.1 S.2.2.2.2.1.2.1 S.2.2.2.2.1.2.2.1 S.2.2.2.2.1.2.2.2.1 S.2.2.2.2.1.2.2.2.2.1 S.2.2.2.2.1.2.2.2.2.2.1 S.2.2.2.2.1.2.2.2.2.2.2.1 S.2.2.2.2.1.2.2.2.2.2.2.2, bX1 G q (o + 33) S.2.2.2.2.2.1.1 S.2.2.2.2.2.1.2.1 S.2.2.2.2.2.1.2.2.1 S.2.2.2.2.2.1.2.2.2, bX4 G q (o + 36) S.2.2.2.2.2.2.1.1 S.2.2.2.2.2.2.1.2, bX3 G q (o + 38) S.2.2.2.2.2.2.2.1.1 S.2.2.2.2.2.2.2.1.2.1 S.2.2.2.2.2.2.2.1.2.2.1 S.2.2.2.2.2.2.2.1.2.2.2, bX0 G q (o + 43) S.2.2.2.2.2.2.2.2.1.2.2.1 S.2.2.2.2.2.2.2.2.1.2.2.2, bX2 G q ((o + 43) + 3) S.2.2.2.2.2.2.2.2.1.1.1 S.2.2.2.2.2.2.2.2.1.1.2.1 S.2.2.2.2.2.2.2.2.1.1.2.2.1 S.2.2.2.2.2.2.2.2.1.1.2.2.2.1 S.2.2.2.2.2.2.2.2.1.1.2.2.2.2.1 S.2.2.2.2.2.2.2.2.1.1.2.2.2.2.2.1 S.2.2.2.2.2.2.2.2.1.1.2.2.2.2.2.2.1 S.2.2.2.2.2.2.2.2.1.1.2.2.2.2.2.2.2, bX4 G q ((o + 43) + 9) S.2.2.2.2.2.2.2.2.1.2.1.1 S.2.2.2.2.2.2.2.2.1.2.1.2, bX7 G q (o + 54) S.2.2.2.2.2.2.2.2.2.1 S.2.2.2.2.2.2.2.2.2.2.1 S.2.2.2.2.2.2.2.2.2.2.2]) hS0 (c_X2_isCell l G q (o + 27) S.2.2.2.2.1 v1 r1 e2) zc_X2_isCell rfl gX10_without_X2_isCell ⟨Nat.le_of_ble_eq_true rfl, Nat.le_of_ble_eq_true rfl⟩ hK hA hT hw (is := [6]) rfl rfl rfl rfl rfl rfl rfl hl.1 rfl (Nat.le_of_ble_eq_true rfl) dX10_without_5 (fun H locs hw => ?_)
  refine lv_if_ne (tgt := 13) hx hb dX10_without_8 rfl (fun hc => ?_) (fun hc => ?_)
  · have hf := z_f hc hf
    refine lv_aload_n hx hb dX10_without_13 rfl (lv_at hl 0 rfl) ?_
    obtain ⟨r3, e4, hf⟩ := z_bd hf
    refine z_callV0 (As := []) (rest := []) (bs' := [bX10 G q o, bX9 G q (o + 1) r3.1.1 r3.1.2.1 r3.1.2.2.1 r3.1.2.2.2.1 r3.1.2.2.2.2, bX6 G q (o + 3) r3.2.1.1 r3.2.1.2, bX8 G q (o + 12) r3.2.2.1.1 r3.2.2.1.2, bX5 G q (o + 19) r3.2.2.2.1.2.1 r3.2.2.2.1.2.2.1 r3.2.2.2.1.2.2.2.1 r3.2.2.2.1.2.2.2.2, bX2 G q ((o + 19) + 2) r3.2.2.2.1.1.1 r3.2.2.2.1.1.2.1 r3.2.2.2.1.1.2.2.1 r3.2.2.2.1.1.2.2.2.1 r3.2.2.2.1.1.2.2.2.2.1 r3.2.2.2.1.1.2.2.2.2.2.1 r3.2.2.2.1.1.2.2.2.2.2.2.1 r3.2.2.2.1.1.2.2.2.2.2.2.2, bX2 G q (o + 27) r3.2.2.2.2.1.1 r3.2.2.2.2.1.2.1 r3.2.2.2.2.1.2.2.1 r3.2.2.2.2.1.2.2.2.1 r3.2.2.2.2.1.2.2.2.2.1 r3.2.2.2.2.1.2.2.2.2.2.1 r3.2.2.2.2.1.2.2.2.2.2.2.1 r3.2.2.2.2.1.2.2.2.2.2.2.2, bX1 G q (o + 33) r3.2.2.2.2.2.1.1 r3.2.2.2.2.2.1.2.1 r3.2.2.2.2.2.1.2.2.1 r3.2.2.2.2.2.1.2.2.2, bX4 G q (o + 36) r3.2.2.2.2.2.2.1.1 r3.2.2.2.2.2.2.1.2, bX3 G q (o + 38) r3.2.2.2.2.2.2.2.1.1 r3.2.2.2.2.2.2.2.1.2.1 r3.2.2.2.2.2.2.2.1.2.2.1 r3.2.2.2.2.2.2.2.1.2.2.2, bX0 G q (o + 43) r3.2.2.2.2.2.2.2.2.1.2.2.1 r3.2.2.2.2.2.2.2.2.1.2.2.2, bX2 G q ((o + 43) + 3) r3.2.2.2.2.2.2.2.2.1.1.1 r3.2.2.2.2.2.2.2.2.1.1.2.1 r3.2.2.2.2.2.2.2.2.1.1.2.2.1 r3.2.2.2.2.2.2.2.2.1.1.2.2.2.1 r3.2.2.2.2.2.2.2.2.1.1.2.2.2.2.1 r3.2.2.2.2.2.2.2.2.1.1.2.2.2.2.2.1 r3.2.2.2.2.2.2.2.2.1.1.2.2.2.2.2.2.1 r3.2.2.2.2.2.2.2.2.1.1.2.2.2.2.2.2.2, bX4 G q ((o + 43) + 9) r3.2.2.2.2.2.2.2.2.1.2.1.1 r3.2.2.2.2.2.2.2.2.1.2.1.2, bX7 G q (o + 54) r3.2.2.2.2.2.2.2.2.2.1 r3.2.2.2.2.2.2.2.2.2.2.1 r3.2.2.2.2.2.2.2.2.2.2.2]) hS0 (c_X10_reachAll l G q o S r3 e4) zc_X10_reachAll rfl gX10_without_X10_reachAll ⟨Nat.le_of_ble_eq_true rfl, Nat.le_of_ble_eq_true rfl⟩ hK hA hT hw (is := [0, 1, 2, 3, 4, 5, 6, 7, 8, 9, 10, 11, 12, 13]) rfl rfl rfl rfl rfl rfl rfl hl.1 rfl (Nat.le_of_ble_eq_true rfl) dX10_without_14 (fun H locs hw => ?_)
    refine lv_aload_n hx hb dX10_without_17 rfl (lv_at hl 0 rfl) ?_
    refine z_get hS0 in_X10_without_X10 hK hw 0 6 rfl rfl rfl (by decide) (hts _ m_X10_without_1) (v := .ref (q ((o + 36) + 0))) rfl dX10_without_18 ?_
    obtain ⟨r5, e6, hf⟩ := z_bd hf
    refine z_callV1 (As := []) (rest := []) (bs' := [bX10 G q o, bX9 G q (o + 1) r3.1.1 r3.1.2.1 r3.1.2.2.1 r3.1.2.2.2.1 r3.1.2.2.2.2, bX6 G q (o + 3) r3.2.1.1 r3.2.1.2, bX8 G q (o + 12) r3.2.2.1.1 r3.2.2.1.2, bX5 G q (o + 19) r3.2.2.2.1.2.1 r3.2.2.2.1.2.2.1 r3.2.2.2.1.2.2.2.1 r3.2.2.2.1.2.2.2.2, bX2 G q ((o + 19) + 2) r3.2.2.2.1.1.1 r3.2.2.2.1.1.2.1 r3.2.2.2.1.1.2.2.1 r3.2.2.2.1.1.2.2.2.1 r3.2.2.2.1.1.2.2.2.2.1 r3.2.2.2.1.1.2.2.2.2.2.1 r3.2.2.2.1.1.2.2.2.2.2.2.1 r3.2.2.2.1.1.2.2.2.2.2.2.2, bX2 G q (o + 27) r3.2.2.2.2.1.1 r3.2.2.2.2.1.2.1 r3.2.2.2.2.1.2.2.1 r3.2.2.2.2.1.2.2.2.1 r3.2.2.2.2.1.2.2.2.2.1 r3.2.2.2.2.1.2.2.2.2.2.1 r3.2.2.2.2.1.2.2.2.2.2.2.1 r3.2.2.2.2.1.2.2.2.2.2.2.2, bX1 G q (o + 33) r3.2.2.2.2.2.1.1 r3.2.2.2.2.2.1.2.1 r3.2.2.2.2.2.1.2.2.1 r3.2.2.2.2.2.1.2.2.2, bX4 G q (o + 36) r3.2.2.2.2.2.2.1.1 r3.2.2.2.2.2.2.1.2, bX3 G q (o + 38) r3.2.2.2.2.2.2.2.1.1 r3.2.2.2.2.2.2.2.1.2.1 r3.2.2.2.2.2.2.2.1.2.2.1 r3.2.2.2.2.2.2.2.1.2.2.2, bX0 G q (o + 43) r3.2.2.2.2.2.2.2.2.1.2.2.1 r3.2.2.2.2.2.2.2.2.1.2.2.2, bX2 G q ((o + 43) + 3) r3.2.2.2.2.2.2.2.2.1.1.1 r3.2.2.2.2.2.2.2.2.1.1.2.1 r3.2.2.2.2.2.2.2.2.1.1.2.2.1 r3.2.2.2.2.2.2.2.2.1.1.2.2.2.1 r3.2.2.2.2.2.2.2.2.1.1.2.2.2.2.1 r3.2.2.2.2.2.2.2.2.1.1.2.2.2.2.2.1 r3.2.2.2.2.2.2.2.2.1.1.2.2.2.2.2.2.1 r3.2.2.2.2.2.2.2.2.1.1.2.2.2.2.2.2.2, bX4 G q ((o + 43) + 9) r3.2.2.2.2.2.2.2.2.1.2.1.1 r3.2.2.2.2.2.2.2.2.1.2.1.2, bX7 G q (o + 54) r3.2.2.2.2.2.2.2.2.2.1 r3.2.2.2.2.2.2.2.2.2.2.1 r3.2.2.2.2.2.2.2.2.2.2.2]) hS0 (c_X4_howMany l G q (o + 36) r3.2.2.2.2.2.2.1 r5 e6) zc_X4_howMany rfl gX10_without_X4_howMany ⟨Nat.le_of_ble_eq_true rfl, Nat.le_of_ble_eq_true rfl⟩ hK hA hT hw (is := [8]) rfl rfl rfl rfl rfl rfl rfl hl.1 rfl (Nat.le_of_ble_eq_true rfl) dX10_without_21 (fun H locs hw => ?_)
    refine lv_istore_n (lv' := [(2, .int r5), (0, .ref (q (o + 0))), (1, .int v1)]) hx hb dX10_without_24 rfl hl (by decide) rfl (fun ls hl => ?_)
    refine lv_aload_n hx hb dX10_without_25 rfl (lv_at hl 1 rfl) ?_
    refine z_get hS0 in_X10_without_X10 hK hw 0 6 rfl rfl rfl (by decide) (hts _ m_X10_without_1) (v := .ref (q ((o + 36) + 0))) rfl dX10_without_26 ?_
    obtain ⟨r7, e8, hf⟩ := z_bd hf
    refine z_callV1 (As := []) (rest := []) (bs' := [bX10 G q o, bX9 G q (o + 1) r3.1.1 r3.1.2.1 r3.1.2.2.1 r3.1.2.2.2.1 r3.1.2.2.2.2, bX6 G q (o + 3) r3.2.1.1 r3.2.1.2, bX8 G q (o + 12) r3.2.2.1.1 r3.2.2.1.2, bX5 G q (o + 19) r3.2.2.2.1.2.1 r3.2.2.2.1.2.2.1 r3.2.2.2.1.2.2.2.1 r3.2.2.2.1.2.2.2.2, bX2 G q ((o + 19) + 2) r3.2.2.2.1.1.1 r3.2.2.2.1.1.2.1 r3.2.2.2.1.1.2.2.1 r3.2.2.2.1.1.2.2.2.1 r3.2.2.2.1.1.2.2.2.2.1 r3.2.2.2.1.1.2.2.2.2.2.1 r3.2.2.2.1.1.2.2.2.2.2.2.1 r3.2.2.2.1.1.2.2.2.2.2.2.2, bX2 G q (o + 27) r3.2.2.2.2.1.1 r3.2.2.2.2.1.2.1 r3.2.2.2.2.1.2.2.1 r3.2.2.2.2.1.2.2.2.1 r3.2.2.2.2.1.2.2.2.2.1 r3.2.2.2.2.1.2.2.2.2.2.1 r3.2.2.2.2.1.2.2.2.2.2.2.1 r3.2.2.2.2.1.2.2.2.2.2.2.2, bX1 G q (o + 33) r3.2.2.2.2.2.1.1 r3.2.2.2.2.2.1.2.1 r3.2.2.2.2.2.1.2.2.1 r3.2.2.2.2.2.1.2.2.2, bX4 G q (o + 36) r3.2.2.2.2.2.2.1.1 r3.2.2.2.2.2.2.1.2, bX3 G q (o + 38) r3.2.2.2.2.2.2.2.1.1 r3.2.2.2.2.2.2.2.1.2.1 r3.2.2.2.2.2.2.2.1.2.2.1 r3.2.2.2.2.2.2.2.1.2.2.2, bX0 G q (o + 43) r3.2.2.2.2.2.2.2.2.1.2.2.1 r3.2.2.2.2.2.2.2.2.1.2.2.2, bX2 G q ((o + 43) + 3) r3.2.2.2.2.2.2.2.2.1.1.1 r3.2.2.2.2.2.2.2.2.1.1.2.1 r3.2.2.2.2.2.2.2.2.1.1.2.2.1 r3.2.2.2.2.2.2.2.2.1.1.2.2.2.1 r3.2.2.2.2.2.2.2.2.1.1.2.2.2.2.1 r3.2.2.2.2.2.2.2.2.1.1.2.2.2.2.2.1 r3.2.2.2.2.2.2.2.2.1.1.2.2.2.2.2.2.1 r3.2.2.2.2.2.2.2.2.1.1.2.2.2.2.2.2.2, bX4 G q ((o + 43) + 9) r3.2.2.2.2.2.2.2.2.1.2.1.1 r3.2.2.2.2.2.2.2.2.1.2.1.2, bX7 G q (o + 54) r3.2.2.2.2.2.2.2.2.2.1 r3.2.2.2.2.2.2.2.2.2.2.1 r3.2.2.2.2.2.2.2.2.2.2.2]) hS0 (c_X4_inSome l G q (o + 36) r3.2.2.2.2.2.2.1 r7 e8) zc_X4_inSome rfl gX10_without_X4_inSome ⟨Nat.le_of_ble_eq_true rfl, Nat.le_of_ble_eq_true rfl⟩ hK hA hT hw (is := [8]) rfl rfl rfl rfl rfl rfl rfl hl.1 rfl (Nat.le_of_ble_eq_true rfl) dX10_without_29 (fun H locs hw => ?_)
    refine lv_istore_n (lv' := [(3, .int r7), (2, .int r5), (0, .ref (q (o + 0))), (1, .int v1)]) hx hb dX10_without_32 rfl hl (by decide) rfl (fun ls hl => ?_)
    refine lv_aload_n hx hb dX10_without_33 rfl (lv_at hl 2 rfl) ?_
    refine z_get hS0 in_X10_without_X10 hK hw 0 4 rfl rfl rfl (by decide) (hts _ m_X10_without_0) (v := .ref (q ((o + 27) + 0))) rfl dX10_without_34 ?_
    obtain ⟨r9, e10, hf⟩ := z_bd hf
    refine z_callV1 (As := []) (rest := []) (bs' := [bX10 G q o, bX9 G q (o + 1) r3.1.1 r3.1.2.1 r3.1.2.2.1 r3.1.2.2.2.1 r3.1.2.2.2.2, bX6 G q (o + 3) r3.2.1.1 r3.2.1.2, bX8 G q (o + 12) r3.2.2.1.1 r3.2.2.1.2, bX5 G q (o + 19) r3.2.2.2.1.2.1 r3.2.2.2.1.2.2.1 r3.2.2.2.1.2.2.2.1 r3.2.2.2.1.2.2.2.2, bX2 G q ((o + 19) + 2) r3.2.2.2.1.1.1 r3.2.2.2.1.1.2.1 r3.2.2.2.1.1.2.2.1 r3.2.2.2.1.1.2.2.2.1 r3.2.2.2.1.1.2.2.2.2.1 r3.2.2.2.1.1.2.2.2.2.2.1 r3.2.2.2.1.1.2.2.2.2.2.2.1 r3.2.2.2.1.1.2.2.2.2.2.2.2, bX2 G q (o + 27) r3.2.2.2.2.1.1 r3.2.2.2.2.1.2.1 r3.2.2.2.2.1.2.2.1 r3.2.2.2.2.1.2.2.2.1 r3.2.2.2.2.1.2.2.2.2.1 r3.2.2.2.2.1.2.2.2.2.2.1 r3.2.2.2.2.1.2.2.2.2.2.2.1 r3.2.2.2.2.1.2.2.2.2.2.2.2, bX1 G q (o + 33) r3.2.2.2.2.2.1.1 r3.2.2.2.2.2.1.2.1 r3.2.2.2.2.2.1.2.2.1 r3.2.2.2.2.2.1.2.2.2, bX4 G q (o + 36) r3.2.2.2.2.2.2.1.1 r3.2.2.2.2.2.2.1.2, bX3 G q (o + 38) r3.2.2.2.2.2.2.2.1.1 r3.2.2.2.2.2.2.2.1.2.1 r3.2.2.2.2.2.2.2.1.2.2.1 r3.2.2.2.2.2.2.2.1.2.2.2, bX0 G q (o + 43) r3.2.2.2.2.2.2.2.2.1.2.2.1 r3.2.2.2.2.2.2.2.2.1.2.2.2, bX2 G q ((o + 43) + 3) r3.2.2.2.2.2.2.2.2.1.1.1 r3.2.2.2.2.2.2.2.2.1.1.2.1 r3.2.2.2.2.2.2.2.2.1.1.2.2.1 r3.2.2.2.2.2.2.2.2.1.1.2.2.2.1 r3.2.2.2.2.2.2.2.2.1.1.2.2.2.2.1 r3.2.2.2.2.2.2.2.2.1.1.2.2.2.2.2.1 r3.2.2.2.2.2.2.2.2.1.1.2.2.2.2.2.2.1 r3.2.2.2.2.2.2.2.2.1.1.2.2.2.2.2.2.2, bX4 G q ((o + 43) + 9) r3.2.2.2.2.2.2.2.2.1.2.1.1 r3.2.2.2.2.2.2.2.2.1.2.1.2, bX7 G q (o + 54) r3.2.2.2.2.2.2.2.2.2.1 r3.2.2.2.2.2.2.2.2.2.2.1 r3.2.2.2.2.2.2.2.2.2.2.2]) hS0 (c_X2_everyone l G q (o + 27) r3.2.2.2.2.1 r9 e10) zc_X2_everyone rfl gX10_without_X2_everyone ⟨Nat.le_of_ble_eq_true rfl, Nat.le_of_ble_eq_true rfl⟩ hK hA hT hw (is := [6]) rfl rfl rfl rfl rfl rfl rfl hl.1 rfl (Nat.le_of_ble_eq_true rfl) dX10_without_37 (fun H locs hw => ?_)
    refine lv_iconst (v := 1) hx hb dX10_without_40 rfl ?_
    refine lv_iload_n hx hb dX10_without_41 rfl (lv_at hl 3 rfl) ?_
    refine lv_ishl hx hb dX10_without_42 ?_
    refine lv_iconst (v := (-1)) hx hb dX10_without_43 rfl ?_
    refine lv_ixor hx hb dX10_without_44 ?_
    refine lv_iand hx hb dX10_without_45 ?_
    refine lv_istore (lv' := [(4, .int (r9 &&& (((1 : Int32) <<< (v1 &&& 31)) ^^^ ((-1) : Int32)))), (3, .int r7), (2, .int r5), (0, .ref (q (o + 0))), (1, .int v1)]) hx hb dX10_without_46 hl (by decide) rfl (fun ls hl => ?_)
    refine lv_aload_n hx hb dX10_without_48 rfl (lv_at hl 3 rfl) ?_
    refine z_get hS0 in_X10_without_X10 hK hw 0 6 rfl rfl rfl (by decide) (hts _ m_X10_without_1) (v := .ref (q ((o + 36) + 0))) rfl dX10_without_49 ?_
    refine lv_aload_n hx hb dX10_without_52 rfl (lv_at hl 3 rfl) ?_
    refine z_get hS0 in_X10_without_X10 hK hw 0 4 rfl rfl rfl (by decide) (hts _ m_X10_without_0) (v := .ref (q ((o + 27) + 0))) rfl dX10_without_53 ?_
    refine lv_iload hx hb dX10_without_56 (lv_at hl 0 rfl) ?_
    obtain ⟨r11, e12, hf⟩ := z_bd hf
    refine z_callV0 (As := [.ref (q ((o + 27) + 0)), .int (r9 &&& (((1 : Int32) <<< (v1 &&& 31)) ^^^ ((-1) : Int32)))]) (rest := []) (bs' := [bX10 G q o, bX9 G q (o + 1) r3.1.1 r3.1.2.1 r3.1.2.2.1 r3.1.2.2.2.1 r3.1.2.2.2.2, bX6 G q (o + 3) r3.2.1.1 r3.2.1.2, bX8 G q (o + 12) r3.2.2.1.1 r3.2.2.1.2, bX5 G q (o + 19) r3.2.2.2.1.2.1 r3.2.2.2.1.2.2.1 r3.2.2.2.1.2.2.2.1 r3.2.2.2.1.2.2.2.2, bX2 G q ((o + 19) + 2) r3.2.2.2.1.1.1 r3.2.2.2.1.1.2.1 r3.2.2.2.1.1.2.2.1 r3.2.2.2.1.1.2.2.2.1 r3.2.2.2.1.1.2.2.2.2.1 r3.2.2.2.1.1.2.2.2.2.2.1 r3.2.2.2.1.1.2.2.2.2.2.2.1 r3.2.2.2.1.1.2.2.2.2.2.2.2, bX2 G q (o + 27) r3.2.2.2.2.1.1 r3.2.2.2.2.1.2.1 r3.2.2.2.2.1.2.2.1 r3.2.2.2.2.1.2.2.2.1 r3.2.2.2.2.1.2.2.2.2.1 r3.2.2.2.2.1.2.2.2.2.2.1 r3.2.2.2.2.1.2.2.2.2.2.2.1 r3.2.2.2.2.1.2.2.2.2.2.2.2, bX1 G q (o + 33) r3.2.2.2.2.2.1.1 r3.2.2.2.2.2.1.2.1 r3.2.2.2.2.2.1.2.2.1 r3.2.2.2.2.2.1.2.2.2, bX4 G q (o + 36) r11.1 r11.2, bX3 G q (o + 38) r3.2.2.2.2.2.2.2.1.1 r3.2.2.2.2.2.2.2.1.2.1 r3.2.2.2.2.2.2.2.1.2.2.1 r3.2.2.2.2.2.2.2.1.2.2.2, bX0 G q (o + 43) r3.2.2.2.2.2.2.2.2.1.2.2.1 r3.2.2.2.2.2.2.2.2.1.2.2.2, bX2 G q ((o + 43) + 3) r3.2.2.2.2.2.2.2.2.1.1.1 r3.2.2.2.2.2.2.2.2.1.1.2.1 r3.2.2.2.2.2.2.2.2.1.1.2.2.1 r3.2.2.2.2.2.2.2.2.1.1.2.2.2.1 r3.2.2.2.2.2.2.2.2.1.1.2.2.2.2.1 r3.2.2.2.2.2.2.2.2.1.1.2.2.2.2.2.1 r3.2.2.2.2.2.2.2.2.1.1.2.2.2.2.2.2.1 r3.2.2.2.2.2.2.2.2.1.1.2.2.2.2.2.2.2, bX4 G q ((o + 43) + 9) r3.2.2.2.2.2.2.2.2.1.2.1.1 r3.2.2.2.2.2.2.2.2.1.2.1.2, bX7 G q (o + 54) r3.2.2.2.2.2.2.2.2.2.1 r3.2.2.2.2.2.2.2.2.2.2.1 r3.2.2.2.2.2.2.2.2.2.2.2]) hS0 (c_X4_fill l G q (o + 36) q (o + 27) r3.2.2.2.2.2.2.1 r3.2.2.2.2.1 (r9 &&& (((1 : Int32) <<< (v1 &&& 31)) ^^^ ((-1) : Int32))) r11 e12) zc_X4_fill rfl gX10_without_X4_fill ⟨Nat.le_of_ble_eq_true rfl, Nat.le_of_ble_eq_true rfl⟩ hK hA hT hw (is := [8, 6]) rfl rfl rfl rfl rfl rfl rfl hl.1 rfl (Nat.le_of_ble_eq_true rfl) dX10_without_58 (fun H locs hw => ?_)
    refine lv_aload_n hx hb dX10_without_61 rfl (lv_at hl 3 rfl) ?_
    refine z_get hS0 in_X10_without_X10 hK hw 0 0 rfl rfl rfl (by decide) (hts _ m_X10_without_2) (v := .ref (q ((o + 1) + 0))) rfl dX10_without_62 ?_
    refine lv_iload_n hx hb dX10_without_65 rfl (lv_at hl 1 rfl) ?_
    refine lv_aload_n hx hb dX10_without_66 rfl (lv_at hl 3 rfl) ?_
    refine z_get hS0 in_X10_without_X10 hK hw 0 6 rfl rfl rfl (by decide) (hts _ m_X10_without_1) (v := .ref (q ((o + 36) + 0))) rfl dX10_without_67 ?_
    obtain ⟨r13, e14, hf⟩ := z_bd hf
    refine z_callV1 (As := []) (rest := [.int r7, .ref (q ((o + 1) + 0))]) (bs' := [bX10 G q o, bX9 G q (o + 1) r3.1.1 r3.1.2.1 r3.1.2.2.1 r3.1.2.2.2.1 r3.1.2.2.2.2, bX6 G q (o + 3) r3.2.1.1 r3.2.1.2, bX8 G q (o + 12) r3.2.2.1.1 r3.2.2.1.2, bX5 G q (o + 19) r3.2.2.2.1.2.1 r3.2.2.2.1.2.2.1 r3.2.2.2.1.2.2.2.1 r3.2.2.2.1.2.2.2.2, bX2 G q ((o + 19) + 2) r3.2.2.2.1.1.1 r3.2.2.2.1.1.2.1 r3.2.2.2.1.1.2.2.1 r3.2.2.2.1.1.2.2.2.1 r3.2.2.2.1.1.2.2.2.2.1 r3.2.2.2.1.1.2.2.2.2.2.1 r3.2.2.2.1.1.2.2.2.2.2.2.1 r3.2.2.2.1.1.2.2.2.2.2.2.2, bX2 G q (o + 27) r3.2.2.2.2.1.1 r3.2.2.2.2.1.2.1 r3.2.2.2.2.1.2.2.1 r3.2.2.2.2.1.2.2.2.1 r3.2.2.2.2.1.2.2.2.2.1 r3.2.2.2.2.1.2.2.2.2.2.1 r3.2.2.2.2.1.2.2.2.2.2.2.1 r3.2.2.2.2.1.2.2.2.2.2.2.2, bX1 G q (o + 33) r3.2.2.2.2.2.1.1 r3.2.2.2.2.2.1.2.1 r3.2.2.2.2.2.1.2.2.1 r3.2.2.2.2.2.1.2.2.2, bX4 G q (o + 36) r11.1 r11.2, bX3 G q (o + 38) r3.2.2.2.2.2.2.2.1.1 r3.2.2.2.2.2.2.2.1.2.1 r3.2.2.2.2.2.2.2.1.2.2.1 r3.2.2.2.2.2.2.2.1.2.2.2, bX0 G q (o + 43) r3.2.2.2.2.2.2.2.2.1.2.2.1 r3.2.2.2.2.2.2.2.2.1.2.2.2, bX2 G q ((o + 43) + 3) r3.2.2.2.2.2.2.2.2.1.1.1 r3.2.2.2.2.2.2.2.2.1.1.2.1 r3.2.2.2.2.2.2.2.2.1.1.2.2.1 r3.2.2.2.2.2.2.2.2.1.1.2.2.2.1 r3.2.2.2.2.2.2.2.2.1.1.2.2.2.2.1 r3.2.2.2.2.2.2.2.2.1.1.2.2.2.2.2.1 r3.2.2.2.2.2.2.2.2.1.1.2.2.2.2.2.2.1 r3.2.2.2.2.2.2.2.2.1.1.2.2.2.2.2.2.2, bX4 G q ((o + 43) + 9) r3.2.2.2.2.2.2.2.2.1.2.1.1 r3.2.2.2.2.2.2.2.2.1.2.1.2, bX7 G q (o + 54) r3.2.2.2.2.2.2.2.2.2.1 r3.2.2.2.2.2.2.2.2.2.2.1 r3.2.2.2.2.2.2.2.2.2.2.2]) hS0 (c_X4_inSome l G q (o + 36) r11 r13 e14) zc_X4_inSome rfl gX10_without_X4_inSome ⟨Nat.le_of_ble_eq_true rfl, Nat.le_of_ble_eq_true rfl⟩ hK hA hT hw (is := [8]) rfl rfl rfl rfl rfl rfl rfl hl.1 rfl (Nat.le_of_ble_eq_true rfl) dX10_without_70 (fun H locs hw => ?_)
    refine lv_iconst (v := (-1)) hx hb dX10_without_73 rfl ?_
    refine lv_ixor hx hb dX10_without_74 ?_
    refine lv_iand hx hb dX10_without_75 ?_
    refine lv_iload hx hb dX10_without_76 (lv_at hl 0 rfl) ?_
    refine lv_iand hx hb dX10_without_78 ?_
    obtain ⟨r15, e16, hf⟩ := z_bd hf
    refine z_callV0 (As := [.int ((r7 &&& (r13 ^^^ ((-1) : Int32))) &&& (r9 &&& (((1 : Int32) <<< (v1 &&& 31)) ^^^ ((-1) : Int32))))]) (rest := []) (bs' := [bX10 G q o, bX9 G q (o + 1) r15.1 r15.2.1 r15.2.2.1 r15.2.2.2.1 r15.2.2.2.2, bX6 G q (o + 3) r3.2.1.1 r3.2.1.2, bX8 G q (o + 12) r3.2.2.1.1 r3.2.2.1.2, bX5 G q (o + 19) r3.2.2.2.1.2.1 r3.2.2.2.1.2.2.1 r3.2.2.2.1.2.2.2.1 r3.2.2.2.1.2.2.2.2, bX2 G q ((o + 19) + 2) r3.2.2.2.1.1.1 r3.2.2.2.1.1.2.1 r3.2.2.2.1.1.2.2.1 r3.2.2.2.1.1.2.2.2.1 r3.2.2.2.1.1.2.2.2.2.1 r3.2.2.2.1.1.2.2.2.2.2.1 r3.2.2.2.1.1.2.2.2.2.2.2.1 r3.2.2.2.1.1.2.2.2.2.2.2.2, bX2 G q (o + 27) r3.2.2.2.2.1.1 r3.2.2.2.2.1.2.1 r3.2.2.2.2.1.2.2.1 r3.2.2.2.2.1.2.2.2.1 r3.2.2.2.2.1.2.2.2.2.1 r3.2.2.2.2.1.2.2.2.2.2.1 r3.2.2.2.2.1.2.2.2.2.2.2.1 r3.2.2.2.2.1.2.2.2.2.2.2.2, bX1 G q (o + 33) r3.2.2.2.2.2.1.1 r3.2.2.2.2.2.1.2.1 r3.2.2.2.2.2.1.2.2.1 r3.2.2.2.2.2.1.2.2.2, bX4 G q (o + 36) r11.1 r11.2, bX3 G q (o + 38) r3.2.2.2.2.2.2.2.1.1 r3.2.2.2.2.2.2.2.1.2.1 r3.2.2.2.2.2.2.2.1.2.2.1 r3.2.2.2.2.2.2.2.1.2.2.2, bX0 G q (o + 43) r3.2.2.2.2.2.2.2.2.1.2.2.1 r3.2.2.2.2.2.2.2.2.1.2.2.2, bX2 G q ((o + 43) + 3) r3.2.2.2.2.2.2.2.2.1.1.1 r3.2.2.2.2.2.2.2.2.1.1.2.1 r3.2.2.2.2.2.2.2.2.1.1.2.2.1 r3.2.2.2.2.2.2.2.2.1.1.2.2.2.1 r3.2.2.2.2.2.2.2.2.1.1.2.2.2.2.1 r3.2.2.2.2.2.2.2.2.1.1.2.2.2.2.2.1 r3.2.2.2.2.2.2.2.2.1.1.2.2.2.2.2.2.1 r3.2.2.2.2.2.2.2.2.1.1.2.2.2.2.2.2.2, bX4 G q ((o + 43) + 9) r3.2.2.2.2.2.2.2.2.1.2.1.1 r3.2.2.2.2.2.2.2.2.1.2.1.2, bX7 G q (o + 54) r3.2.2.2.2.2.2.2.2.2.1 r3.2.2.2.2.2.2.2.2.2.2.1 r3.2.2.2.2.2.2.2.2.2.2.2]) hS0 (c_X9_tell l G q (o + 1) r3.1 ((r7 &&& (r13 ^^^ ((-1) : Int32))) &&& (r9 &&& (((1 : Int32) <<< (v1 &&& 31)) ^^^ ((-1) : Int32)))) r15 e16) zc_X9_tell rfl gX10_without_X9_tell ⟨Nat.le_of_ble_eq_true rfl, Nat.le_of_ble_eq_true rfl⟩ hK hA hT hw (is := [1]) rfl rfl rfl rfl rfl rfl rfl hl.1 rfl (Nat.le_of_ble_eq_true rfl) dX10_without_79 (fun H locs hw => ?_)
    refine lv_iload_n hx hb dX10_without_82 rfl (lv_at hl 2 rfl) ?_
    refine lv_aload_n hx hb dX10_without_83 rfl (lv_at hl 3 rfl) ?_
    refine z_get hS0 in_X10_without_X10 hK hw 0 6 rfl rfl rfl (by decide) (hts _ m_X10_without_1) (v := .ref (q ((o + 36) + 0))) rfl dX10_without_84 ?_
    obtain ⟨r17, e18, hf⟩ := z_bd hf
    refine z_callV1 (As := []) (rest := [.int r5]) (bs' := [bX10 G q o, bX9 G q (o + 1) r15.1 r15.2.1 r15.2.2.1 r15.2.2.2.1 r15.2.2.2.2, bX6 G q (o + 3) r3.2.1.1 r3.2.1.2, bX8 G q (o + 12) r3.2.2.1.1 r3.2.2.1.2, bX5 G q (o + 19) r3.2.2.2.1.2.1 r3.2.2.2.1.2.2.1 r3.2.2.2.1.2.2.2.1 r3.2.2.2.1.2.2.2.2, bX2 G q ((o + 19) + 2) r3.2.2.2.1.1.1 r3.2.2.2.1.1.2.1 r3.2.2.2.1.1.2.2.1 r3.2.2.2.1.1.2.2.2.1 r3.2.2.2.1.1.2.2.2.2.1 r3.2.2.2.1.1.2.2.2.2.2.1 r3.2.2.2.1.1.2.2.2.2.2.2.1 r3.2.2.2.1.1.2.2.2.2.2.2.2, bX2 G q (o + 27) r3.2.2.2.2.1.1 r3.2.2.2.2.1.2.1 r3.2.2.2.2.1.2.2.1 r3.2.2.2.2.1.2.2.2.1 r3.2.2.2.2.1.2.2.2.2.1 r3.2.2.2.2.1.2.2.2.2.2.1 r3.2.2.2.2.1.2.2.2.2.2.2.1 r3.2.2.2.2.1.2.2.2.2.2.2.2, bX1 G q (o + 33) r3.2.2.2.2.2.1.1 r3.2.2.2.2.2.1.2.1 r3.2.2.2.2.2.1.2.2.1 r3.2.2.2.2.2.1.2.2.2, bX4 G q (o + 36) r11.1 r11.2, bX3 G q (o + 38) r3.2.2.2.2.2.2.2.1.1 r3.2.2.2.2.2.2.2.1.2.1 r3.2.2.2.2.2.2.2.1.2.2.1 r3.2.2.2.2.2.2.2.1.2.2.2, bX0 G q (o + 43) r3.2.2.2.2.2.2.2.2.1.2.2.1 r3.2.2.2.2.2.2.2.2.1.2.2.2, bX2 G q ((o + 43) + 3) r3.2.2.2.2.2.2.2.2.1.1.1 r3.2.2.2.2.2.2.2.2.1.1.2.1 r3.2.2.2.2.2.2.2.2.1.1.2.2.1 r3.2.2.2.2.2.2.2.2.1.1.2.2.2.1 r3.2.2.2.2.2.2.2.2.1.1.2.2.2.2.1 r3.2.2.2.2.2.2.2.2.1.1.2.2.2.2.2.1 r3.2.2.2.2.2.2.2.2.1.1.2.2.2.2.2.2.1 r3.2.2.2.2.2.2.2.2.1.1.2.2.2.2.2.2.2, bX4 G q ((o + 43) + 9) r3.2.2.2.2.2.2.2.2.1.2.1.1 r3.2.2.2.2.2.2.2.2.1.2.1.2, bX7 G q (o + 54) r3.2.2.2.2.2.2.2.2.2.1 r3.2.2.2.2.2.2.2.2.2.2.1 r3.2.2.2.2.2.2.2.2.2.2.2]) hS0 (c_X4_howMany l G q (o + 36) r11 r17 e18) zc_X4_howMany rfl gX10_without_X4_howMany ⟨Nat.le_of_ble_eq_true rfl, Nat.le_of_ble_eq_true rfl⟩ hK hA hT hw (is := [8]) rfl rfl rfl rfl rfl rfl rfl hl.1 rfl (Nat.le_of_ble_eq_true rfl) dX10_without_87 (fun H locs hw => ?_)
    refine lv_isub hx hb dX10_without_90 ?_
    cases hf
    exact z_iret hx hb hr hlk hw dX10_without_91
  · have hf := z_t hc hf
    refine lv_iconst (v := (-1)) hx hb dX10_without_11 rfl ?_
    cases hf
    exact z_iret hx hb hr hlk hw dX10_without_12
