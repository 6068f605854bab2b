/-! the functions that the walks give, ahead of all: the pure part stands on them alone -/
def zLen : List Nat := [1, 1, 2, 3, 3, 0]
def zByt : List (List Int32) := [[99], [120], [120, 120], [120, 120, 120], [120, 120, 102], []]
def zIn (i : Int32) (n : Nat) : Bool := decide (0 ≤ i.toInt) && decide (i.toInt < n)
def zg (P : Nat → Nat → Int32) (i : Nat) (f : Nat → Int32) : Nat → Nat → Int32 := fun j => if j = i then f else P j
def zCp (sp dp n : Int32) (k : Nat) : Bool := decide (0 ≤ sp.toInt) && (decide (0 ≤ dp.toInt) && (decide (0 ≤ n.toInt) && (decide (sp.toNatClampNeg + n.toNatClampNeg ≤ k) && decide (dp.toNatClampNeg + n.toNatClampNeg ≤ k))))
abbrev VX2 : Type := (Nat → Int32) × (Nat → Int32) × (Nat → Int32) × (Nat → Int32) × (Nat → Int32) × Int32 × Int32 × Int32
abbrev VX4 : Type := (Nat → Int32) × Int32
abbrev VX9 : Type := (Nat → Int32) × Int32 × Int64 × Int64 × Int32
abbrev VX6 : Type := (Nat → Nat → Int32) × (Nat → Int32)
abbrev VX8 : Type := (Nat → Nat → Int32) × (Nat → Int32)
abbrev VX5 : Type := VX2 × (Nat → Int32) × Int32 × Int32 × Int32
abbrev VX1 : Type := (Nat → Int32) × (Nat → Int32) × Int32 × Int32
abbrev VX3 : Type := (Nat → Int32) × (Nat → Int32) × (Nat → Int32) × (Nat → Int32)
abbrev VX0 : Type := VX2 × VX4 × (Nat → Int32) × (Nat → Int32)
abbrev VX7 : Type := (Nat → Int32) × (Nat → Int32) × Int32
abbrev VX10 : Type := VX9 × VX6 × VX8 × VX5 × VX2 × VX1 × VX4 × VX3 × VX0 × VX7
abbrev VX11 : Type := Int32 × (Nat → Int32) × Int32 × Int64 × Int64 × (Nat → Int32) × (Nat → Int32) × (Nat → Int32) × (Nat → Int32) × (Nat → Int32) × Int32 × (Nat → Int32) × (Nat → Int32) × Int32 × Int32 × Int32 × (Nat → Int32) × (Nat → Int32) × Int32 × Int32 × (Nat → Int32) × (Nat → Int32) × (Nat → Int32) × (Nat → Int32) × (Nat → Int32) × (Nat → Int32) × (Nat → Int32) × Int32 × (Nat → Int32) × (Nat → Int32) × Int64
def zL (k : Nat) : Nat := zLen.getD k 0
def zB (k j : Nat) : Int32 := (zByt.getD k []).getD j 0
def f_J0_length_8abf5 (k : Nat) : Option Int32 := if k < 6 then some (nI (zL k)) else none
def f_J0_isEmpty_aae02 (k : Nat) : Option Int32 := if k < 6 then some (if zL k = 0 then 1 else 0) else none
def f_J0_charAt_5068e (k : Nat) (i : Int32) : Option Int32 := if k < 6 then (if zIn i (zL k) = true then some (zB k i.toNatClampNeg) else none) else none
def f_J6_bitCount_0f7a4  (v0 : Int32) : Option (Int32) :=
 some ((((((((v0 - ((v0.toUInt32 >>> ((1 : Int32).toUInt32 &&& Int32.toUInt32 31)).toInt32 &&& (1431655765 : Int32))) &&& (858993459 : Int32)) + (((v0 - ((v0.toUInt32 >>> ((1 : Int32).toUInt32 &&& Int32.toUInt32 31)).toInt32 &&& (1431655765 : Int32))).toUInt32 >>> ((2 : Int32).toUInt32 &&& Int32.toUInt32 31)).toInt32 &&& (858993459 : Int32))) + ((((v0 - ((v0.toUInt32 >>> ((1 : Int32).toUInt32 &&& Int32.toUInt32 31)).toInt32 &&& (1431655765 : Int32))) &&& (858993459 : Int32)) + (((v0 - ((v0.toUInt32 >>> ((1 : Int32).toUInt32 &&& Int32.toUInt32 31)).toInt32 &&& (1431655765 : Int32))).toUInt32 >>> ((2 : Int32).toUInt32 &&& Int32.toUInt32 31)).toInt32 &&& (858993459 : Int32))).toUInt32 >>> ((4 : Int32).toUInt32 &&& Int32.toUInt32 31)).toInt32) &&& (252645135 : Int32)) + ((((((v0 - ((v0.toUInt32 >>> ((1 : Int32).toUInt32 &&& Int32.toUInt32 31)).toInt32 &&& (1431655765 : Int32))) &&& (858993459 : Int32)) + (((v0 - ((v0.toUInt32 >>> ((1 : Int32).toUInt32 &&& Int32.toUInt32 31)).toInt32 &&& (1431655765 : Int32))).toUInt32 >>> ((2 : Int32).toUInt32 &&& Int32.toUInt32 31)).toInt32 &&& (858993459 : Int32))) + ((((v0 - ((v0.toUInt32 >>> ((1 : Int32).toUInt32 &&& Int32.toUInt32 31)).toInt32 &&& (1431655765 : Int32))) &&& (858993459 : Int32)) + (((v0 - ((v0.toUInt32 >>> ((1 : Int32).toUInt32 &&& Int32.toUInt32 31)).toInt32 &&& (1431655765 : Int32))).toUInt32 >>> ((2 : Int32).toUInt32 &&& Int32.toUInt32 31)).toInt32 &&& (858993459 : Int32))).toUInt32 >>> ((4 : Int32).toUInt32 &&& Int32.toUInt32 31)).toInt32) &&& (252645135 : Int32)).toUInt32 >>> ((8 : Int32).toUInt32 &&& Int32.toUInt32 31)).toInt32) + (((((((v0 - ((v0.toUInt32 >>> ((1 : Int32).toUInt32 &&& Int32.toUInt32 31)).toInt32 &&& (1431655765 : Int32))) &&& (858993459 : Int32)) + (((v0 - ((v0.toUInt32 >>> ((1 : Int32).toUInt32 &&& Int32.toUInt32 31)).toInt32 &&& (1431655765 : Int32))).toUInt32 >>> ((2 : Int32).toUInt32 &&& Int32.toUInt32 31)).toInt32 &&& (858993459 : Int32))) + ((((v0 - ((v0.toUInt32 >>> ((1 : Int32).toUInt32 &&& Int32.toUInt32 31)).toInt32 &&& (1431655765 : Int32))) &&& (858993459 : Int32)) + (((v0 - ((v0.toUInt32 >>> ((1 : Int32).toUInt32 &&& Int32.toUInt32 31)).toInt32 &&& (1431655765 : Int32))).toUInt32 >>> ((2 : Int32).toUInt32 &&& Int32.toUInt32 31)).toInt32 &&& (858993459 : Int32))).toUInt32 >>> ((4 : Int32).toUInt32 &&& Int32.toUInt32 31)).toInt32) &&& (252645135 : Int32)) + ((((((v0 - ((v0.toUInt32 >>> ((1 : Int32).toUInt32 &&& Int32.toUInt32 31)).toInt32 &&& (1431655765 : Int32))) &&& (858993459 : Int32)) + (((v0 - ((v0.toUInt32 >>> ((1 : Int32).toUInt32 &&& Int32.toUInt32 31)).toInt32 &&& (1431655765 : Int32))).toUInt32 >>> ((2 : Int32).toUInt32 &&& Int32.toUInt32 31)).toInt32 &&& (858993459 : Int32))) + ((((v0 - ((v0.toUInt32 >>> ((1 : Int32).toUInt32 &&& Int32.toUInt32 31)).toInt32 &&& (1431655765 : Int32))) &&& (858993459 : Int32)) + (((v0 - ((v0.toUInt32 >>> ((1 : Int32).toUInt32 &&& Int32.toUInt32 31)).toInt32 &&& (1431655765 : Int32))).toUInt32 >>> ((2 : Int32).toUInt32 &&& Int32.toUInt32 31)).toInt32 &&& (858993459 : Int32))).toUInt32 >>> ((4 : Int32).toUInt32 &&& Int32.toUInt32 31)).toInt32) &&& (252645135 : Int32)).toUInt32 >>> ((8 : Int32).toUInt32 &&& Int32.toUInt32 31)).toInt32).toUInt32 >>> ((16 : Int32).toUInt32 &&& Int32.toUInt32 31)).toInt32) &&& (63 : Int32))
def f_X2_isCell (S : VX2) (v1 : Int32) : Option (Int32) :=
 if v1 < 0 then
 some 0
 else
 if S.2.2.2.2.2.1 ≤ v1 then
 some 0
 else
 if 8 ≤ v1 then
 some 0
 else
 some 1
def f_X2_setDoor_65  (S : VX2) (v1 : Int32) (v2 : Int32) (v6 : Int32) (t0 : Int32) (t1 : Int32) : Option (VX2) :=
 if v2 = 5 then
 some (S.1, S.2.1, S.2.2.1, S.2.2.2.1, S.2.2.2.2.1, S.2.2.2.2.2.1, (t1 ||| t0), ((S.2.2.2.2.2.2.2 &&& v6) ||| ((1 : Int32) <<< (v1 &&& 31))))
 else
 some (S.1, S.2.1, S.2.2.1, S.2.2.2.1, S.2.2.2.2.1, S.2.2.2.2.2.1, (t1 ||| t0), ((S.2.2.2.2.2.2.2 &&& v6) ||| (0 : Int32)))
def f_X2_setDoor (S : VX2) (v1 : Int32) (v2 : Int32) (v3 : Int32) (v4 : Int32) (v5 : Int32) : Option (VX2) :=
 (f_X2_isCell S v1).bind fun r1 =>
 if r1 = 0 then
 some S
 else
 if zIn v1 8 = true then
 if zIn v1 8 = true then
 if zIn v1 8 = true then
 if zIn v1 8 = true then
 if v2 = 4 then
 f_X2_setDoor_65 ((upd S.1 v1.toNatClampNeg v2), (upd S.2.1 v1.toNatClampNeg v3), (upd S.2.2.1 v1.toNatClampNeg v4), (upd S.2.2.2.1 v1.toNatClampNeg v5), S.2.2.2.2.1, S.2.2.2.2.2.1, S.2.2.2.2.2.2.1, S.2.2.2.2.2.2.2) v1 v2 (((1 : Int32) <<< (v1 &&& 31)) ^^^ ((-1) : Int32)) ((1 : Int32) <<< (v1 &&& 31)) (S.2.2.2.2.2.2.1 &&& (((1 : Int32) <<< (v1 &&& 31)) ^^^ ((-1) : Int32)))
 else
 f_X2_setDoor_65 ((upd S.1 v1.toNatClampNeg v2), (upd S.2.1 v1.toNatClampNeg v3), (upd S.2.2.1 v1.toNatClampNeg v4), (upd S.2.2.2.1 v1.toNatClampNeg v5), S.2.2.2.2.1, S.2.2.2.2.2.1, S.2.2.2.2.2.2.1, S.2.2.2.2.2.2.2) v1 v2 (((1 : Int32) <<< (v1 &&& 31)) ^^^ ((-1) : Int32)) 0 (S.2.2.2.2.2.2.1 &&& (((1 : Int32) <<< (v1 &&& 31)) ^^^ ((-1) : Int32)))
 else none
 else none
 else none
 else none
def f_X2_build_59 (r_31 : VX2 → Int32 → Option (VX2)) (S : VX2) (v2 : Int32) (t0 : Int32) (t1 : Int32) (t2 : Int32) : Option (VX2) :=
 (f_X2_setDoor S t2 t1 t0 (-9) 0).bind fun r1 =>
 if zIn v2 8 = true then
 r_31 (r1.1, r1.2.1, r1.2.2.1, r1.2.2.2.1, (upd r1.2.2.2.2.1 v2.toNatClampNeg 0), r1.2.2.2.2.2.1, r1.2.2.2.2.2.2.1, r1.2.2.2.2.2.2.2) (v2 + 1)
 else none
def f_X2_build_31  : Nat → VX2 → Int32 → Option (VX2)
 | 0, _, _ => none
 | n + 1, S, v2 =>
 if S.2.2.2.2.2.1 ≤ v2 then
 some S
 else
 if S.2.2.2.2.2.1 ≤ (v2 + (1 : Int32)) then
 f_X2_build_59 (f_X2_build_31 n) S v2 0 0 v2
 else
 f_X2_build_59 (f_X2_build_31 n) S v2 (v2 + (1 : Int32)) 0 v2
def f_X2_build (S : VX2) (v1 : Int32) : Option (VX2) :=
 if v1 < 0 then
 f_X2_build_31 4096 (S.1, S.2.1, S.2.2.1, S.2.2.2.1, S.2.2.2.2.1, 0, 0, 0) 0
 else
 if 8 < v1 then
 f_X2_build_31 4096 (S.1, S.2.1, S.2.2.1, S.2.2.2.1, S.2.2.2.2.1, 0, 0, 0) 0
 else
 f_X2_build_31 4096 (S.1, S.2.1, S.2.2.1, S.2.2.2.1, S.2.2.2.2.1, v1, 0, 0) 0
def f_X2_become_10  : Nat → VX2 → VX2 → Int32 → Option (VX2)
 | 0, _, _, _ => none
 | n + 1, S, P1, v2 =>
 if S.2.2.2.2.2.1 ≤ v2 then
 some S
 else
 if zIn v2 8 = true then
 if zIn v2 8 = true then
 if zIn v2 8 = true then
 if zIn v2 8 = true then
 (f_X2_setDoor S v2 (P1.1 v2.toNatClampNeg) (P1.2.1 v2.toNatClampNeg) (P1.2.2.1 v2.toNatClampNeg) (P1.2.2.2.1 v2.toNatClampNeg)).bind fun r5 =>
 if zIn v2 8 = true then
 if zIn v2 8 = true then
 f_X2_become_10 n (r5.1, r5.2.1, r5.2.2.1, r5.2.2.2.1, (upd r5.2.2.2.2.1 v2.toNatClampNeg (P1.2.2.2.2.1 v2.toNatClampNeg)), r5.2.2.2.2.2.1, r5.2.2.2.2.2.2.1, r5.2.2.2.2.2.2.2) P1 (v2 + 1)
 else none
 else none
 else none
 else none
 else none
 else none
def f_X2_become (S : VX2) (P1 : VX2)  : Option (VX2) :=
 (f_X2_build S P1.2.2.2.2.2.1).bind fun r9 =>
 f_X2_become_10 4096 r9 P1 0
def f_X2_cells (S : VX2)  : Option (Int32) :=
 some S.2.2.2.2.2.1
def f_X2_doorAnswer (S : VX2) (v1 : Int32) (v2 : Int32) : Option (Int32) :=
 (f_X2_isCell S v1).bind fun r1 =>
 if r1 = 0 then
 some (-9)
 else
 if v2 = 0 then
 if zIn v1 8 = true then
 some (S.1 v1.toNatClampNeg)
 else none
 else
 if v2 = 1 then
 if zIn v1 8 = true then
 some (S.2.1 v1.toNatClampNeg)
 else none
 else
 if v2 = 2 then
 if zIn v1 8 = true then
 some (S.2.2.1 v1.toNatClampNeg)
 else none
 else
 if zIn v1 8 = true then
 some (S.2.2.2.1 v1.toNatClampNeg)
 else none
def f_X2_isOf_32  (S : VX2) (v2 : Int32) (v3 : Int32) : Option (Int32) :=
 if v2 = 3 then
 if v3 = 4 then
 some 1
 else
 some 0
 else
 some 0
def f_X2_isOf (S : VX2) (v1 : Int32) (v2 : Int32) : Option (Int32) :=
 (f_X2_isCell S v1).bind fun r1 =>
 if r1 = 0 then
 some 0
 else
 if zIn v1 8 = true then
 if (S.1 v1.toNatClampNeg) = v2 then
 some 1
 else
 if v2 = 1 then
 if (S.1 v1.toNatClampNeg) = 5 then
 some 1
 else
 f_X2_isOf_32 S v2 (S.1 v1.toNatClampNeg)
 else
 f_X2_isOf_32 S v2 (S.1 v1.toNatClampNeg)
 else none
def f_X2_doorsOf_4  : Nat → VX2 → Int32 → Int32 → Int32 → Option (Int32)
 | 0, _, _, _, _ => none
 | n + 1, S, v1, v2, v3 =>
 if S.2.2.2.2.2.1 ≤ v3 then
 some v2
 else
 (f_X2_isOf S v3 v1).bind fun r1 =>
 if r1 = 0 then
 f_X2_doorsOf_4 n S v1 (v2 + (0 : Int32)) (v3 + 1)
 else
 f_X2_doorsOf_4 n S v1 (v2 + (1 : Int32)) (v3 + 1)
def f_X2_doorsOf (S : VX2) (v1 : Int32) : Option (Int32) :=
 f_X2_doorsOf_4 4096 S v1 0 0
def f_X2_everyone (S : VX2)  : Option (Int32) :=
 some (((1 : Int32) <<< (S.2.2.2.2.2.1 &&& 31)) - (1 : Int32))
def f_X2_farFrom_4  : Nat → VX2 → Int32 → Int32 → Option (Int32)
 | 0, _, _, _ => none
 | n + 1, S, v2, v3 =>
 if S.2.2.2.2.2.1 ≤ v3 then
 some v2
 else
 (f_X2_isCell S v2).bind fun r1 =>
 if r1 = 0 then
 some v2
 else
 if zIn v2 8 = true then
 f_X2_farFrom_4 n S (S.2.1 v2.toNatClampNeg) (v3 + 1)
 else none
def f_X2_farFrom (S : VX2) (v1 : Int32) : Option (Int32) :=
 f_X2_farFrom_4 4096 S v1 0
def f_X2_wallFavours_57  (S : VX2) (v4 : Int32) (v5 : Int32) (v6 : Int32) (t0 : Int32) : Option (Int32) :=
 if t0 = 0 then
 some (-9)
 else
 if (v6 &&& S.2.2.2.2.2.2.2) = 0 then
 some (v5 - v4)
 else
 some (-9)
def f_X2_wallFavours_22  (S : VX2) (v1 : Int32) (v3 : Int32) (v4 : Int32) (t0 : Int32) : Option (Int32) :=
 if (((((1 : Int32) <<< ((t0 + (1 : Int32)) &&& 31)) - ((1 : Int32) <<< (v4 &&& 31))) &&& (((1 : Int32) <<< (v1 &&& 31)) ^^^ ((-1) : Int32))) &&& (v3 ^^^ ((-1) : Int32))) = 0 then
 f_X2_wallFavours_57 S v4 t0 (((1 : Int32) <<< ((t0 + (1 : Int32)) &&& 31)) - ((1 : Int32) <<< (v4 &&& 31))) 1
 else
 f_X2_wallFavours_57 S v4 t0 (((1 : Int32) <<< ((t0 + (1 : Int32)) &&& 31)) - ((1 : Int32) <<< (v4 &&& 31))) 0
def f_X2_wallFavours_10  (S : VX2) (v1 : Int32) (v2 : Int32) (v3 : Int32) (t0 : Int32) : Option (Int32) :=
 if v2 ≤ v1 then
 f_X2_wallFavours_22 S v1 v3 t0 v1
 else
 f_X2_wallFavours_22 S v1 v3 t0 v2
def f_X2_wallFavours (S : VX2) (v1 : Int32) (v2 : Int32) (v3 : Int32) : Option (Int32) :=
 if v2 ≤ v1 then
 f_X2_wallFavours_10 S v1 v2 v3 v2
 else
 f_X2_wallFavours_10 S v1 v2 v3 v1
def f_X2_keyFavours_104  (S : VX2) (v7 : Int32) (t0 : Int32) : Option (Int32) :=
 if t0 = 0 then
 some v7
 else
 some 2
def f_X2_keyFavours (S : VX2) (v1 : Int32) (v2 : Int32) (v3 : Int32) (v4 : Int32) : Option (Int32) :=
 (f_X2_isCell S v2).bind fun r1 =>
 if r1 = 0 then
 some (-9)
 else
 if zIn v1 8 = true then
 if ((((v4 &&& ((S.2.2.2.2.1 v1.toNatClampNeg) ^^^ ((-1) : Int32))) &&& (((1 : Int32) <<< (v1 &&& 31)) ^^^ ((-1) : Int32))) >>> (v2 &&& 31)) &&& (1 : Int32)) = 0 then
 some (-9)
 else
 if ((((v3 &&& ((v4 &&& ((S.2.2.2.2.1 v1.toNatClampNeg) ^^^ ((-1) : Int32))) &&& (((1 : Int32) <<< (v1 &&& 31)) ^^^ ((-1) : Int32)))) &&& (S.2.2.2.2.2.2.1 ^^^ ((-1) : Int32))) >>> (v2 &&& 31)) &&& (1 : Int32)) = 1 then
 some 1
 else
 (f_X2_wallFavours S v1 v2 (((v4 &&& ((S.2.2.2.2.1 v1.toNatClampNeg) ^^^ ((-1) : Int32))) &&& (((1 : Int32) <<< (v1 &&& 31)) ^^^ ((-1) : Int32))) &&& (v3 ^^^ ((-1) : Int32)))).bind fun r4 =>
 if ((v3 &&& ((v4 &&& ((S.2.2.2.2.1 v1.toNatClampNeg) ^^^ ((-1) : Int32))) &&& (((1 : Int32) <<< (v1 &&& 31)) ^^^ ((-1) : Int32)))) &&& (S.2.2.2.2.2.2.1 ^^^ ((-1) : Int32))) = 0 then
 f_X2_keyFavours_104 S r4 0
 else
 if r4 = (-9) then
 f_X2_keyFavours_104 S r4 1
 else
 if r4 ≤ 2 then
 f_X2_keyFavours_104 S r4 0
 else
 f_X2_keyFavours_104 S r4 1
 else none
def f_X2_favoursFor_56  (S : VX2) (v1 : Int32) (v2 : Int32) (v3 : Int32) : Option (Int32) :=
 if zIn v1 8 = true then
 (f_X2_keyFavours S v1 (S.2.1 v1.toNatClampNeg) v2 v3).bind fun r2 =>
 if r2 = (-9) then
 some r2
 else
 (f_X2_isOf S v1 1).bind fun r4 =>
 if r4 = 0 then
 some r2
 else
 if zIn v1 8 = true then
 (f_X2_keyFavours S v1 (S.2.2.1 v1.toNatClampNeg) v2 v3).bind fun r7 =>
 if r7 = (-9) then
 some (-9)
 else
 some (r2 + r7)
 else none
 else none
def f_X2_favoursFor (S : VX2) (v1 : Int32) (v2 : Int32) (v3 : Int32) : Option (Int32) :=
 (f_X2_isCell S v1).bind fun r9 =>
 if r9 = 0 then
 some (-9)
 else
 if ((v3 >>> (v1 &&& 31)) &&& (1 : Int32)) = 0 then
 some (-9)
 else
 if zIn v1 8 = true then
 if (S.1 v1.toNatClampNeg) = 2 then
 some 0
 else
 (f_X2_isOf S v1 3).bind fun r12 =>
 if r12 = 0 then
 f_X2_favoursFor_56 S v1 v2 v3
 else
 (f_J6_bitCount_0f7a4 v2).bind fun r14 =>
 if zIn v1 8 = true then
 if (S.2.2.2.1 v1.toNatClampNeg) ≤ r14 then
 f_X2_favoursFor_56 S v1 v2 v3
 else
 some (-9)
 else none
 else none
def f_X2_foesOf (S : VX2) (v1 : Int32) : Option (Int32) :=
 (f_X2_isCell S v1).bind fun r1 =>
 if r1 = 0 then
 some 0
 else
 if zIn v1 8 = true then
 some (S.2.2.2.2.1 v1.toNatClampNeg)
 else none
def f_X2_isSet (S : VX2) (v1 : Int32) : Option (Int32) :=
 if v1 < 0 then
 some 0
 else
 (f_X2_everyone S).bind fun r1 =>
 if r1 < v1 then
 some 0
 else
 some 1
def f_X2_keeperOf (S : VX2) (v1 : Int32) : Option (Int32) :=
 (f_X2_isCell S v1).bind fun r1 =>
 if r1 = 0 then
 some (-9)
 else
 if zIn v1 8 = true then
 some (S.2.1 v1.toNatClampNeg)
 else none
def f_X2_keysKeptBy_28 (r_4 : VX2 → Int32 → Int32 → Int32 → Option (Int32)) (S : VX2) (v1 : Int32) (v3 : Int32) (t0 : Int32) (t1 : Int32) : Option (Int32) :=
 if zIn v3 8 = true then
 if (S.2.2.1 v3.toNatClampNeg) = v1 then
 r_4 S v1 ((t1 + t0) + (1 : Int32)) (v3 + 1)
 else
 r_4 S v1 ((t1 + t0) + (0 : Int32)) (v3 + 1)
 else none
def f_X2_keysKeptBy_4  : Nat → VX2 → Int32 → Int32 → Int32 → Option (Int32)
 | 0, _, _, _, _ => none
 | n + 1, S, v1, v2, v3 =>
 if S.2.2.2.2.2.1 ≤ v3 then
 some v2
 else
 if zIn v3 8 = true then
 if (S.2.1 v3.toNatClampNeg) = v1 then
 f_X2_keysKeptBy_28 (f_X2_keysKeptBy_4 n) S v1 v3 1 v2
 else
 f_X2_keysKeptBy_28 (f_X2_keysKeptBy_4 n) S v1 v3 0 v2
 else none
def f_X2_keysKeptBy (S : VX2) (v1 : Int32) : Option (Int32) :=
 f_X2_keysKeptBy_4 4096 S v1 0 0
def f_X2_markOf (S : VX2) (v1 : Int32) (v2 : Int32) : Option (Int32) :=
 (f_X2_isCell S v1).bind fun r1 =>
 if r1 = 0 then
 some (-9)
 else
 if v2 = 1 then
 if zIn v1 8 = true then
 if zIn v1 8 = true then
 some (if (S.2.2.1 v1.toNatClampNeg) < (S.2.1 v1.toNatClampNeg) then (S.2.2.1 v1.toNatClampNeg) else (S.2.1 v1.toNatClampNeg))
 else none
 else none
 else
 if v2 = 2 then
 (f_X2_keysKeptBy S v1).bind fun r5 =>
 some r5
 else
 if v2 = 3 then
 if zIn v1 8 = true then
 some (S.2.2.2.1 v1.toNatClampNeg)
 else none
 else
 if v2 = 4 then
 if zIn v1 8 = true then
 some (S.2.1 v1.toNatClampNeg)
 else none
 else
 if zIn v1 8 = true then
 if zIn v1 8 = true then
 some (if 0 ≤ ((S.2.1 v1.toNatClampNeg) - (S.2.2.1 v1.toNatClampNeg)) then ((S.2.1 v1.toNatClampNeg) - (S.2.2.1 v1.toNatClampNeg)) else 0 - ((S.2.1 v1.toNatClampNeg) - (S.2.2.1 v1.toNatClampNeg)))
 else none
 else none
def f_X2_mayKeep (S : VX2) (v1 : Int32) (v2 : Int32) : Option (Int32) :=
 (f_X2_isCell S v1).bind fun r1 =>
 if r1 = 0 then
 some 0
 else
 (f_X2_isCell S v2).bind fun r3 =>
 if r3 = 0 then
 some 0
 else
 if v1 = v2 then
 some 0
 else
 if zIn v1 8 = true then
 if (S.1 v1.toNatClampNeg) = 2 then
 some 0
 else
 if zIn v1 8 = true then
 if (S.2.2.1 v1.toNatClampNeg) = v2 then
 some 0
 else
 some 1
 else none
 else none
def f_X2_metFrom_49  (S : VX2) (v2 : Int32) : Option (Int32) :=
 (f_J6_bitCount_0f7a4 v2).bind fun r1 =>
 some r1
def f_X2_metFrom_7  : Nat → VX2 → Int32 → Int32 → Int32 → Option (Int32)
 | 0, _, _, _, _ => none
 | n + 1, S, v2, v3, v4 =>
 if 8 ≤ v4 then
 f_X2_metFrom_49 S v2
 else
 (f_X2_isCell S v3).bind fun r3 =>
 if r3 = 0 then
 f_X2_metFrom_49 S v2
 else
 if ((v2 >>> (v3 &&& 31)) &&& (1 : Int32)) = 0 then
 if zIn v3 8 = true then
 f_X2_metFrom_7 n S (v2 ||| ((1 : Int32) <<< (v3 &&& 31))) (S.2.1 v3.toNatClampNeg) (v4 + 1)
 else none
 else
 f_X2_metFrom_49 S v2
def f_X2_metFrom (S : VX2) (v1 : Int32) : Option (Int32) :=
 f_X2_metFrom_7 4096 S 0 v1 0
def f_X2_mix_13 (r_2 : VX2 → Int64 → Int32 → Option (Int64)) : Nat → VX2 → Int64 → Int32 → Int32 → Option (Int64)
 | 0, _, _, _, _ => none
 | n + 1, S, v1, v3, v4 =>
 if 4 ≤ v4 then
 if zIn v3 8 = true then
 r_2 S ((31 * v1) + (S.2.2.2.2.1 v3.toNatClampNeg).toInt64) (v3 + 1)
 else none
 else
 (f_X2_doorAnswer S v3 v4).bind fun r2 =>
 f_X2_mix_13 r_2 n S ((31 * v1) + r2.toInt64) v3 (v4 + 1)
def f_X2_mix_2  : Nat → VX2 → Int64 → Int32 → Option (Int64)
 | 0, _, _, _ => none
 | n + 1, S, v1, v3 =>
 if S.2.2.2.2.2.1 ≤ v3 then
 some v1
 else
 f_X2_mix_13 (f_X2_mix_2 n) 4096 S v1 v3 0
def f_X2_mix (S : VX2) (v1 : Int64) : Option (Int64) :=
 f_X2_mix_2 4096 S v1 0
def f_X2_quarrels_4  : Nat → VX2 → Int32 → Int32 → Option (Int32)
 | 0, _, _, _ => none
 | n + 1, S, v1, v2 =>
 if S.2.2.2.2.2.1 ≤ v2 then
 some (v1 / 2)
 else
 if zIn v2 8 = true then
 (f_J6_bitCount_0f7a4 (S.2.2.2.2.1 v2.toNatClampNeg)).bind fun r2 =>
 f_X2_quarrels_4 n S (v1 + r2) (v2 + 1)
 else none
def f_X2_quarrels (S : VX2)  : Option (Int32) :=
 f_X2_quarrels_4 4096 S 0 0
def f_X2_setKeeper (S : VX2) (v1 : Int32) (v2 : Int32) : Option (VX2) :=
 (f_X2_isCell S v1).bind fun r1 =>
 if r1 = 0 then
 some S
 else
 if zIn v1 8 = true then
 some (S.1, (upd S.2.1 v1.toNatClampNeg v2), S.2.2.1, S.2.2.2.1, S.2.2.2.2.1, S.2.2.2.2.2.1, S.2.2.2.2.2.2.1, S.2.2.2.2.2.2.2)
 else none
def f_X2_setQuarrel (S : VX2) (v1 : Int32) (v2 : Int32) (v3 : Int32) : Option (VX2) :=
 (f_X2_isCell S v1).bind fun r1 =>
 if r1 = 0 then
 some S
 else
 (f_X2_isCell S v2).bind fun r3 =>
 if r3 = 0 then
 some S
 else
 if zIn v1 8 = true then
 if zIn v1 8 = true then
 if zIn v2 8 = true then
 if zIn v2 8 = true then
 some (S.1, S.2.1, S.2.2.1, S.2.2.2.1, (upd (upd S.2.2.2.2.1 v1.toNatClampNeg (((S.2.2.2.2.1 v1.toNatClampNeg) &&& (((1 : Int32) <<< (v2 &&& 31)) ^^^ ((-1) : Int32))) ||| (v3 <<< (v2 &&& 31)))) v2.toNatClampNeg ((((upd S.2.2.2.2.1 v1.toNatClampNeg (((S.2.2.2.2.1 v1.toNatClampNeg) &&& (((1 : Int32) <<< (v2 &&& 31)) ^^^ ((-1) : Int32))) ||| (v3 <<< (v2 &&& 31)))) v2.toNatClampNeg) &&& (((1 : Int32) <<< (v1 &&& 31)) ^^^ ((-1) : Int32))) ||| (v3 <<< (v1 &&& 31)))), S.2.2.2.2.2.1, S.2.2.2.2.2.2.1, S.2.2.2.2.2.2.2)
 else none
 else none
 else none
 else none
def f_X2_sprungOnes (S : VX2)  : Option (Int32) :=
 some S.2.2.2.2.2.2.1
def f_X1_addOut (S : VX1) (v1 : Int32) (v2 : Int32) : Option (VX1) :=
 some (S.1, S.2.1, (S.2.2.1 ||| ((1 : Int32) <<< (v1 &&& 31))), (S.2.2.2 + v2))
def f_X1_allIn (S : VX1)  : Option (VX1) :=
 some (S.1, S.2.1, 0, 0)
def f_X1_dropKept_2  : Nat → VX1 → Int32 → Option (VX1)
 | 0, _, _ => none
 | n + 1, S, v1 =>
 if 3 ≤ v1 then
 some S
 else
 if zIn v1 3 = true then
 if zIn v1 3 = true then
 f_X1_dropKept_2 n ((upd S.1 v1.toNatClampNeg (-1)), (upd S.2.1 v1.toNatClampNeg 0), S.2.2.1, S.2.2.2) (v1 + 1)
 else none
 else none
def f_X1_dropKept (S : VX1)  : Option (VX1) :=
 f_X1_dropKept_2 4096 S 0
def f_X1_clear (S : VX1)  : Option (VX1) :=
 (f_X1_allIn S).bind fun r1 =>
 (f_X1_dropKept r1).bind fun r3 =>
 some r3
def f_X1_favours (S : VX1)  : Option (Int32) :=
 some S.2.2.2
def f_X1_hasOut (S : VX1) (v1 : Int32) : Option (Int32) :=
 if ((S.2.2.1 >>> (v1 &&& 31)) &&& (1 : Int32)) = 1 then
 some 1
 else
 some 0
def f_X1_howManyOut (S : VX1)  : Option (Int32) :=
 (f_J6_bitCount_0f7a4 S.2.2.1).bind fun r1 =>
 some r1
def f_X1_isNumber (S : VX1) (v1 : Int32) : Option (Int32) :=
 if v1 < 0 then
 some 0
 else
 if 3 ≤ v1 then
 some 0
 else
 some 1
def f_X1_isKept (S : VX1) (v1 : Int32) : Option (Int32) :=
 (f_X1_isNumber S v1).bind fun r1 =>
 if r1 = 0 then
 some 0
 else
 if zIn v1 3 = true then
 if (S.1 v1.toNatClampNeg) = (-1) then
 some 0
 else
 some 1
 else none
def f_X1_mixKept_2  : Nat → VX1 → Int64 → Int32 → Option (Int64)
 | 0, _, _, _ => none
 | n + 1, S, v1, v3 =>
 if 3 ≤ v3 then
 some v1
 else
 if zIn v3 3 = true then
 (f_X1_isKept S v3).bind fun r2 =>
 if r2 = 0 then
 f_X1_mixKept_2 n S ((31 * v1) + (S.1 v3.toNatClampNeg).toInt64) (v3 + 1)
 else
 if zIn v3 3 = true then
 f_X1_mixKept_2 n S ((31 * ((31 * v1) + (S.1 v3.toNatClampNeg).toInt64)) + (S.2.1 v3.toNatClampNeg).toInt64) (v3 + 1)
 else none
 else none
def f_X1_mixKept (S : VX1) (v1 : Int64) : Option (Int64) :=
 f_X1_mixKept_2 4096 S v1 0
def f_X1_restore (S : VX1) (v1 : Int32) : Option (VX1) :=
 (f_X1_isKept S v1).bind fun r1 =>
 if r1 = 0 then
 some S
 else
 if zIn v1 3 = true then
 if zIn v1 3 = true then
 some (S.1, S.2.1, (S.1 v1.toNatClampNeg), (S.2.1 v1.toNatClampNeg))
 else none
 else none
def f_X1_store (S : VX1) (v1 : Int32) : Option (VX1) :=
 (f_X1_isNumber S v1).bind fun r1 =>
 if r1 = 0 then
 some S
 else
 if zIn v1 3 = true then
 if zIn v1 3 = true then
 some ((upd S.1 v1.toNatClampNeg S.2.2.1), (upd S.2.1 v1.toNatClampNeg S.2.2.2), S.2.2.1, S.2.2.2)
 else none
 else none
def f_X1_whoIsOut (S : VX1)  : Option (Int32) :=
 some S.2.2.1
def f_X7_isFull (S : VX7)  : Option (Int32) :=
 if S.2.2 < 8 then
 some 0
 else
 some 1
def f_X7_add (S : VX7) (v1 : Int32) (v2 : Int32) : Option (Int32 × VX7) :=
 (f_X7_isFull S).bind fun r1 =>
 if r1 = 0 then
 if 0 ≤ S.2.2 then
 if zIn S.2.2 8 = true then
 if zIn S.2.2 8 = true then
 some (((S.2.2 + (1 : Int32)) - (1 : Int32)), ((upd S.1 S.2.2.toNatClampNeg v1), (upd S.2.1 S.2.2.toNatClampNeg v2), (S.2.2 + (1 : Int32))))
 else none
 else none
 else
 some ((-2), S)
 else
 some ((-2), S)
def f_X7_dropFrom (S : VX7) (v1 : Int32) : Option (Int32 × VX7) :=
 if v1 < 0 then
 some (0, S)
 else
 if 0 ≤ (S.2.2 - v1) then
 some ((S.2.2 - v1), (S.1, S.2.1, v1))
 else
 some (0, S)
def f_X7_fit_2  : Nat → VX7 → Int32 → Int32 → Option (Int32)
 | 0, _, _, _ => none
 | n + 1, S, v1, v2 =>
 if S.2.2 ≤ v2 then
 some 1
 else
 if 8 ≤ v2 then
 some 1
 else
 if zIn v2 8 = true then
 if zIn v2 8 = true then
 if ((v1 >>> ((S.1 v2.toNatClampNeg) &&& 31)) &&& (1 : Int32)) = (S.2.1 v2.toNatClampNeg) then
 f_X7_fit_2 n S v1 (v2 + 1)
 else
 some 0
 else none
 else none
def f_X7_fit (S : VX7) (v1 : Int32) : Option (Int32) :=
 f_X7_fit_2 4096 S v1 0
def f_X7_mix_2  : Nat → VX7 → Int64 → Int32 → Option (Int64)
 | 0, _, _, _ => none
 | n + 1, S, v1, v3 =>
 if S.2.2 ≤ v3 then
 some v1
 else
 if 8 ≤ v3 then
 some v1
 else
 if zIn v3 8 = true then
 if zIn v3 8 = true then
 f_X7_mix_2 n S ((31 * ((31 * v1) + (S.1 v3.toNatClampNeg).toInt64)) + (S.2.1 v3.toNatClampNeg).toInt64) (v3 + 1)
 else none
 else none
def f_X7_mix (S : VX7) (v1 : Int64) : Option (Int64) :=
 f_X7_mix_2 4096 S v1 0
def f_X7_size (S : VX7)  : Option (Int32) :=
 some S.2.2
def f_X9_found (S : VX9) (v1 : Int32) : Option (Int32 × VX9) :=
 if v1 < 1 then
 some ((-3), S)
 else
 if 5 < v1 then
 some ((-3), S)
 else
 if zIn v1 6 = true then
 if zIn v1 6 = true then
 some ((-3), ((upd S.1 v1.toNatClampNeg ((S.1 v1.toNatClampNeg) + (1 : Int32))), S.2.1, S.2.2.1, S.2.2.2.1, v1))
 else none
 else none
def f_X9_howOften (S : VX9) (v1 : Int32) : Option (Int32) :=
 if v1 < 1 then
 some 0
 else
 if 5 < v1 then
 some 0
 else
 if zIn v1 6 = true then
 some (S.1 v1.toNatClampNeg)
 else none
def f_X9_latest (S : VX9)  : Option (Int32) :=
 some S.2.1
def f_X9_latestFinding (S : VX9)  : Option (Int32) :=
 some S.2.2.2.2
def f_X9_lowerNumber (S : VX9)  : Option (Int64) :=
 some S.2.2.2.1
def f_X9_tell (S : VX9) (v1 : Int32) : Option (VX9) :=
 some (S.1, v1, S.2.2.1, S.2.2.2.1, S.2.2.2.2)
def f_X9_tellFraction_14  : Nat → VX9 → Int32 → Int32 → Int32 → Option (VX9)
 | 0, _, _, _, _ => none
 | n + 1, S, v1, v2, v3 =>
 if v3 ≤ 1 then
 some S
 else
 if v3 = 0 then none else
 if (v1 - v1 / v3 * v3) = 0 then
 if v3 = 0 then none else
 if (v2 - v2 / v3 * v3) = 0 then
 if v3 = 0 then none else
 if v3 = 0 then none else
 some (S.1, S.2.1, (v1 / v3).toInt64, (v2 / v3).toInt64, S.2.2.2.2)
 else
 f_X9_tellFraction_14 n S v1 v2 (v3 + (-1))
 else
 f_X9_tellFraction_14 n S v1 v2 (v3 + (-1))
def f_X9_tellFraction (S : VX9) (v1 : Int32) (v2 : Int32) : Option (VX9) :=
 f_X9_tellFraction_14 4096 (S.1, S.2.1, v1.toInt64, v2.toInt64, S.2.2.2.2) v1 v2 v2
def f_X9_upperNumber (S : VX9)  : Option (Int64) :=
 some S.2.2.1
def f_X6_isNumber (S : VX6) (v1 : Int32) : Option (Int32) :=
 if v1 < 0 then
 some 0
 else
 if 6 ≤ v1 then
 some 0
 else
 some 1
def f_X6_sizeOf (S : VX6) (v1 : Int32) : Option (Int32) :=
 (f_X6_isNumber S v1).bind fun r1 =>
 if r1 = 0 then
 some (-1)
 else
 if zIn v1 6 = true then
 some (S.2 v1.toNatClampNeg)
 else none
def f_X6_isPlace (S : VX6) (v1 : Int32) (v2 : Int32) : Option (Int32) :=
 if v2 < 0 then
 some 0
 else
 (f_X6_sizeOf S v1).bind fun r1 =>
 if r1 ≤ v2 then
 some 0
 else
 some 1
def f_X6_get (S : VX6) (v1 : Int32) (v2 : Int32) : Option (Int32) :=
 (f_X6_isPlace S v1 v2).bind fun r1 =>
 if r1 = 0 then
 some 0
 else
 if zIn v1 6 = true then
 if zIn v2 60 = true then
 some (S.1 v1.toNatClampNeg v2.toNatClampNeg)
 else none
 else none
def f_X6_hasPlaces (S : VX6) (v1 : Int32) (v2 : Int32) (v3 : Int32) : Option (Int32) :=
 (f_X6_sizeOf S v1).bind fun r1 =>
 if v2 < 0 then
 some 0
 else
 if r1 < v2 then
 some 0
 else
 if v3 < 0 then
 some 0
 else
 if (r1 - v2) < v3 then
 some 0
 else
 some 1
def f_X6_isThere (S : VX6) (v1 : Int32) : Option (Int32) :=
 (f_X6_sizeOf S v1).bind fun r1 =>
 if r1 = (-1) then
 some 0
 else
 some 1
def f_X6_howMany_4  : Nat → VX6 → Int32 → Int32 → Option (Int32)
 | 0, _, _, _ => none
 | n + 1, S, v1, v2 =>
 if 6 ≤ v2 then
 some v1
 else
 (f_X6_isThere S v2).bind fun r1 =>
 if r1 = 0 then
 f_X6_howMany_4 n S (v1 + (0 : Int32)) (v2 + 1)
 else
 f_X6_howMany_4 n S (v1 + (1 : Int32)) (v2 + 1)
def f_X6_howMany (S : VX6)  : Option (Int32) :=
 f_X6_howMany_4 4096 S 0 0
def f_X6_make_28  : Nat → VX6 → Int32 → Int32 → Int32 → Option (VX6)
 | 0, _, _, _, _ => none
 | n + 1, S, v1, v2, v3 =>
 if v2 ≤ v3 then
 some S
 else
 if zIn v1 6 = true then
 if zIn v3 60 = true then
 f_X6_make_28 n ((zg S.1 v1.toNatClampNeg (upd (S.1 v1.toNatClampNeg) v3.toNatClampNeg 0)), S.2) v1 v2 (v3 + 1)
 else none
 else none
def f_X6_make (S : VX6) (v1 : Int32) (v2 : Int32) : Option (VX6) :=
 (f_X6_isNumber S v1).bind fun r6 =>
 if r6 = 0 then
 some S
 else
 if v2 < 0 then
 some S
 else
 if v2 ≤ 60 then
 if zIn v1 6 = true then
 f_X6_make_28 4096 (S.1, (upd S.2 v1.toNatClampNeg v2)) v1 v2 0
 else none
 else
 some S
def f_X6_mix_24 (r_2 : VX6 → Int64 → Int32 → Option (Int64)) : Nat → VX6 → Int64 → Int32 → Int32 → Option (Int64)
 | 0, _, _, _, _ => none
 | n + 1, S, v1, v3, v4 =>
 (f_X6_sizeOf S v3).bind fun r1 =>
 if r1 ≤ v4 then
 r_2 S v1 (v3 + 1)
 else
 (f_X6_get S v3 v4).bind fun r3 =>
 f_X6_mix_24 r_2 n S ((31 * v1) + r3.toInt64) v3 (v4 + 1)
def f_X6_mix_2  : Nat → VX6 → Int64 → Int32 → Option (Int64)
 | 0, _, _, _ => none
 | n + 1, S, v1, v3 =>
 if 6 ≤ v3 then
 some v1
 else
 (f_X6_sizeOf S v3).bind fun r5 =>
 f_X6_mix_24 (f_X6_mix_2 n) 4096 S ((31 * v1) + r5.toInt64) v3 0
def f_X6_mix (S : VX6) (v1 : Int64) : Option (Int64) :=
 f_X6_mix_2 4096 S v1 0
def f_X6_move (S : VX6) (v1 : Int32) (v2 : Int32) (v3 : Int32) (v4 : Int32) (v5 : Int32) : Option (VX6) :=
 (f_X6_hasPlaces S v1 v2 v5).bind fun r1 =>
 if r1 = 0 then
 some S
 else
 (f_X6_hasPlaces S v3 v4 v5).bind fun r3 =>
 if r3 = 0 then
 some S
 else
 if zIn v1 6 = true then
 if zIn v3 6 = true then
 if zCp v2 v4 v5 60 = true then
 some ((zg S.1 v3.toNatClampNeg (va_cpy (S.1 v1.toNatClampNeg) (S.1 v3.toNatClampNeg) v2.toNatClampNeg v4.toNatClampNeg v5.toNatClampNeg)), S.2)
 else none
 else none
 else none
def f_X6_remove (S : VX6) (v1 : Int32) : Option (VX6) :=
 (f_X6_isNumber S v1).bind fun r1 =>
 if r1 = 0 then
 some S
 else
 if zIn v1 6 = true then
 some (S.1, (upd S.2 v1.toNatClampNeg (-1)))
 else none
def f_X6_set (S : VX6) (v1 : Int32) (v2 : Int32) (v3 : Int32) : Option (VX6) :=
 (f_X6_isPlace S v1 v2).bind fun r1 =>
 if r1 = 0 then
 some S
 else
 if zIn v1 6 = true then
 if zIn v2 60 = true then
 some ((zg S.1 v1.toNatClampNeg (upd (S.1 v1.toNatClampNeg) v2.toNatClampNeg v3)), S.2)
 else none
 else none
def f_X6_sumOf_5  : Nat → VX6 → Int32 → Int64 → Int32 → Option (Int64)
 | 0, _, _, _, _ => none
 | n + 1, S, v1, v2, v4 =>
 (f_X6_sizeOf S v1).bind fun r1 =>
 if r1 ≤ v4 then
 some v2
 else
 (f_X6_get S v1 v4).bind fun r3 =>
 f_X6_sumOf_5 n S v1 (v2 + r3.toInt64) (v4 + 1)
def f_X6_sumOf (S : VX6) (v1 : Int32) : Option (Int64) :=
 f_X6_sumOf_5 4096 S v1 0 0
def f_X8_isNumber (S : VX8) (v1 : Int32) : Option (Int32) :=
 if v1 < 0 then
 some 0
 else
 if 4 ≤ v1 then
 some 0
 else
 some 1
def f_X8_sizeOf (S : VX8) (v1 : Int32) : Option (Int32) :=
 (f_X8_isNumber S v1).bind fun r1 =>
 if r1 = 0 then
 some (-1)
 else
 if zIn v1 4 = true then
 some (S.2 v1.toNatClampNeg)
 else none
def f_X8_isPlace (S : VX8) (v1 : Int32) (v2 : Int32) : Option (Int32) :=
 if v2 < 0 then
 some 0
 else
 (f_X8_sizeOf S v1).bind fun r1 =>
 if r1 ≤ v2 then
 some 0
 else
 some 1
def f_X8_get (S : VX8) (v1 : Int32) (v2 : Int32) : Option (Int32) :=
 (f_X8_isPlace S v1 v2).bind fun r1 =>
 if r1 = 0 then
 some 32
 else
 if zIn v1 4 = true then
 if zIn v2 100 = true then
 some (S.1 v1.toNatClampNeg v2.toNatClampNeg)
 else none
 else none
def f_X8_isThere (S : VX8) (v1 : Int32) : Option (Int32) :=
 (f_X8_sizeOf S v1).bind fun r1 =>
 if r1 = (-1) then
 some 0
 else
 some 1
def f_X8_howMany_4  : Nat → VX8 → Int32 → Int32 → Option (Int32)
 | 0, _, _, _ => none
 | n + 1, S, v1, v2 =>
 if 4 ≤ v2 then
 some v1
 else
 (f_X8_isThere S v2).bind fun r1 =>
 if r1 = 0 then
 f_X8_howMany_4 n S (v1 + (0 : Int32)) (v2 + 1)
 else
 f_X8_howMany_4 n S (v1 + (1 : Int32)) (v2 + 1)
def f_X8_howMany (S : VX8)  : Option (Int32) :=
 f_X8_howMany_4 4096 S 0 0
def f_X8_make_28  : Nat → VX8 → Int32 → Int32 → Int32 → Option (VX8)
 | 0, _, _, _, _ => none
 | n + 1, S, v1, v2, v3 =>
 if v2 ≤ v3 then
 some S
 else
 if zIn v1 4 = true then
 if zIn v3 100 = true then
 f_X8_make_28 n ((zg S.1 v1.toNatClampNeg (upd (S.1 v1.toNatClampNeg) v3.toNatClampNeg ((32 : Int32).toInt8.toInt32))), S.2) v1 v2 (v3 + 1)
 else none
 else none
def f_X8_make (S : VX8) (v1 : Int32) (v2 : Int32) : Option (VX8) :=
 (f_X8_isNumber S v1).bind fun r6 =>
 if r6 = 0 then
 some S
 else
 if v2 < 0 then
 some S
 else
 if v2 ≤ 100 then
 if zIn v1 4 = true then
 f_X8_make_28 4096 (S.1, (upd S.2 v1.toNatClampNeg v2)) v1 v2 0
 else none
 else
 some S
def f_X8_mix_23 (r_2 : VX8 → Int64 → Int32 → Option (Int64)) : Nat → VX8 → Int64 → Int32 → Int32 → Option (Int64)
 | 0, _, _, _, _ => none
 | n + 1, S, v1, v3, v4 =>
 (f_X8_sizeOf S v3).bind fun r1 =>
 if r1 ≤ v4 then
 r_2 S v1 (v3 + 1)
 else
 (f_X8_get S v3 v4).bind fun r3 =>
 f_X8_mix_23 r_2 n S ((31 * v1) + r3.toInt64) v3 (v4 + 1)
def f_X8_mix_2  : Nat → VX8 → Int64 → Int32 → Option (Int64)
 | 0, _, _, _ => none
 | n + 1, S, v1, v3 =>
 if 4 ≤ v3 then
 some v1
 else
 (f_X8_sizeOf S v3).bind fun r5 =>
 f_X8_mix_23 (f_X8_mix_2 n) 4096 S ((31 * v1) + r5.toInt64) v3 0
def f_X8_mix (S : VX8) (v1 : Int64) : Option (Int64) :=
 f_X8_mix_2 4096 S v1 0
def f_X8_set (S : VX8) (v1 : Int32) (v2 : Int32) (v3 : Int32) : Option (VX8) :=
 (f_X8_isPlace S v1 v2).bind fun r1 =>
 if r1 = 0 then
 some S
 else
 if zIn v1 4 = true then
 if zIn v2 100 = true then
 some ((zg S.1 v1.toNatClampNeg (upd (S.1 v1.toNatClampNeg) v2.toNatClampNeg v3.toInt8.toInt32)), S.2)
 else none
 else none
def f_X4_cheapestWith_37 (r_5 : VX4 → Int32 → Int32 → Int32 → Option (Int32)) (S : VX4) (v1 : Int32) (v2 : Int32) (v3 : Int32) (t0 : Int32) : Option (Int32) :=
 if t0 = 0 then
 r_5 S v1 v2 (v3 + 1)
 else
 if v2 = (-9) then
 r_5 S v1 v3 (v3 + 1)
 else
 if zIn v3 256 = true then
 if zIn v2 256 = true then
 if (S.1 v2.toNatClampNeg) ≤ (S.1 v3.toNatClampNeg) then
 r_5 S v1 v2 (v3 + 1)
 else
 r_5 S v1 v3 (v3 + 1)
 else none
 else none
def f_X4_cheapestWith_5  : Nat → VX4 → Int32 → Int32 → Int32 → Option (Int32)
 | 0, _, _, _, _ => none
 | n + 1, S, v1, v2, v3 =>
 if S.2 < v3 then
 some v2
 else
 if zIn v3 256 = true then
 if (S.1 v3.toNatClampNeg) = (-9) then
 f_X4_cheapestWith_37 (f_X4_cheapestWith_5 n) S v1 v2 v3 0
 else
 if (v1 &&& (v3 ^^^ ((-1) : Int32))) = 0 then
 f_X4_cheapestWith_37 (f_X4_cheapestWith_5 n) S v1 v2 v3 1
 else
 f_X4_cheapestWith_37 (f_X4_cheapestWith_5 n) S v1 v2 v3 0
 else none
def f_X4_cheapestWith (S : VX4) (v1 : Int32) : Option (Int32) :=
 f_X4_cheapestWith_5 4096 S v1 (-9) 0
def f_X4_favoursOf (S : VX4) (v1 : Int32) : Option (Int32) :=
 if v1 < 0 then
 some (-9)
 else
 if S.2 < v1 then
 some (-9)
 else
 if zIn v1 256 = true then
 some (S.1 v1.toNatClampNeg)
 else none
def f_X4_fill_64 (r_53 : VX4 → VX2 → Int32 → Option (VX4)) : Nat → VX4 → VX2 → Int32 → Int32 → Option (VX4)
 | 0, _, _, _, _ => none
 | n + 1, S, P1, v3, v4 =>
 if 8 ≤ v4 then
 r_53 S P1 (v3 + 1)
 else
 if zIn v3 256 = true then
 if (S.1 v3.toNatClampNeg) = (-9) then
 r_53 S P1 (v3 + 1)
 else
 if (v3 ||| ((1 : Int32) <<< (v4 &&& 31))) = v3 then
 f_X4_fill_64 r_53 n S P1 v3 (v4 + 1)
 else
 if ((v3 ||| ((1 : Int32) <<< (v4 &&& 31))) &&& (S.2 ^^^ ((-1) : Int32))) = 0 then
 (f_X2_favoursFor P1 v4 v3 S.2).bind fun r2 =>
 if zIn v3 256 = true then
 if r2 = (-9) then
 f_X4_fill_64 r_53 n S P1 v3 (v4 + 1)
 else
 if zIn (v3 ||| ((1 : Int32) <<< (v4 &&& 31))) 256 = true then
 if (S.1 (v3 ||| ((1 : Int32) <<< (v4 &&& 31))).toNatClampNeg) = (-9) then
 if zIn (v3 ||| ((1 : Int32) <<< (v4 &&& 31))) 256 = true then
 f_X4_fill_64 r_53 n ((upd S.1 (v3 ||| ((1 : Int32) <<< (v4 &&& 31))).toNatClampNeg ((S.1 v3.toNatClampNeg) + r2)), S.2) P1 v3 (v4 + 1)
 else none
 else
 if zIn (v3 ||| ((1 : Int32) <<< (v4 &&& 31))) 256 = true then
 if (S.1 (v3 ||| ((1 : Int32) <<< (v4 &&& 31))).toNatClampNeg) ≤ ((S.1 v3.toNatClampNeg) + r2) then
 f_X4_fill_64 r_53 n S P1 v3 (v4 + 1)
 else
 if zIn (v3 ||| ((1 : Int32) <<< (v4 &&& 31))) 256 = true then
 f_X4_fill_64 r_53 n ((upd S.1 (v3 ||| ((1 : Int32) <<< (v4 &&& 31))).toNatClampNeg ((S.1 v3.toNatClampNeg) + r2)), S.2) P1 v3 (v4 + 1)
 else none
 else none
 else none
 else none
 else
 f_X4_fill_64 r_53 n S P1 v3 (v4 + 1)
 else none
def f_X4_fill_53  : Nat → VX4 → VX2 → Int32 → Option (VX4)
 | 0, _, _, _ => none
 | n + 1, S, P1, v3 =>
 if S.2 ≤ v3 then
 some S
 else
 f_X4_fill_64 (f_X4_fill_53 n) 4096 S P1 v3 0
def f_X4_fill_29  : Nat → VX4 → VX2 → Int32 → Option (VX4)
 | 0, _, _, _ => none
 | n + 1, S, P1, v3 =>
 if S.2 < v3 then
 f_X4_fill_53 4096 S P1 0
 else
 if zIn v3 256 = true then
 f_X4_fill_29 n ((upd S.1 v3.toNatClampNeg (-9)), S.2) P1 (v3 + 1)
 else none
def f_X4_fill (S : VX4) (P1 : VX2) (v2 : Int32) : Option (VX4) :=
 if v2 < 0 then
 if zIn 0 256 = true then
 f_X4_fill_29 4096 ((upd S.1 (0 : Int32).toNatClampNeg 0), 0) P1 1
 else none
 else
 if 256 ≤ v2 then
 if zIn 0 256 = true then
 f_X4_fill_29 4096 ((upd S.1 (0 : Int32).toNatClampNeg 0), 0) P1 1
 else none
 else
 if zIn 0 256 = true then
 f_X4_fill_29 4096 ((upd S.1 (0 : Int32).toNatClampNeg 0), v2) P1 1
 else none
def f_X4_has (S : VX4) (v1 : Int32) : Option (Int32) :=
 (f_X4_favoursOf S v1).bind fun r1 =>
 if r1 = (-9) then
 some 0
 else
 some 1
def f_X4_isGreater (S : VX4) (v1 : Int32) (v2 : Int32) : Option (Int32) :=
 (f_J6_bitCount_0f7a4 v1).bind fun r1 =>
 (f_J6_bitCount_0f7a4 v2).bind fun r3 =>
 if 0 < (r1 - r3) then
 some 1
 else
 if (r1 - r3) = 0 then
 (f_X4_favoursOf S v1).bind fun r5 =>
 (f_X4_favoursOf S v2).bind fun r7 =>
 if r7 ≤ r5 then
 some 0
 else
 some 1
 else
 some 0
def f_X4_greatest_4  : Nat → VX4 → Int32 → Int32 → Option (Int32)
 | 0, _, _, _ => none
 | n + 1, S, v1, v2 =>
 if S.2 < v2 then
 some v1
 else
 (f_X4_has S v2).bind fun r1 =>
 if r1 = 0 then
 f_X4_greatest_4 n S v1 (v2 + 1)
 else
 (f_X4_isGreater S v2 v1).bind fun r3 =>
 if r3 = 0 then
 f_X4_greatest_4 n S v1 (v2 + 1)
 else
 f_X4_greatest_4 n S v2 (v2 + 1)
def f_X4_greatest (S : VX4)  : Option (Int32) :=
 f_X4_greatest_4 4096 S 0 1
def f_X4_howMany_4  : Nat → VX4 → Int32 → Int32 → Option (Int32)
 | 0, _, _, _ => none
 | n + 1, S, v1, v2 =>
 if S.2 < v2 then
 some v1
 else
 (f_X4_has S v2).bind fun r1 =>
 if r1 = 0 then
 f_X4_howMany_4 n S (v1 + (0 : Int32)) (v2 + 1)
 else
 f_X4_howMany_4 n S (v1 + (1 : Int32)) (v2 + 1)
def f_X4_howMany (S : VX4)  : Option (Int32) :=
 f_X4_howMany_4 4096 S 0 0
def f_X4_inSome_4  : Nat → VX4 → Int32 → Int32 → Option (Int32)
 | 0, _, _, _ => none
 | n + 1, S, v1, v2 =>
 if S.2 < v2 then
 some v1
 else
 (f_X4_has S v2).bind fun r1 =>
 if r1 = 0 then
 f_X4_inSome_4 n S (v1 ||| (0 : Int32)) (v2 + 1)
 else
 f_X4_inSome_4 n S (v1 ||| v2) (v2 + 1)
def f_X4_inSome (S : VX4)  : Option (Int32) :=
 f_X4_inSome_4 4096 S 0 0
def f_X4_leastFor (S : VX4) (v1 : Int32) : Option (Int32) :=
 (f_X4_cheapestWith S ((1 : Int32) <<< (v1 &&& 31))).bind fun r1 =>
 (f_X4_favoursOf S r1).bind fun r3 =>
 some r3
def f_X3_favoursBy (S : VX3) (P1 : VX2) (v2 : Int32) (v3 : Int32) (v4 : Int32) : Option (Int32) :=
 if (v2 ||| ((1 : Int32) <<< (v3 &&& 31))) = v2 then
 some (-9)
 else
 if ((v2 ||| ((1 : Int32) <<< (v3 &&& 31))) &&& (v4 ^^^ ((-1) : Int32))) = 0 then
 if zIn (v2 ||| ((1 : Int32) <<< (v3 &&& 31))) 256 = true then
 if (S.2.1 (v2 ||| ((1 : Int32) <<< (v3 &&& 31))).toNatClampNeg) = (-9) then
 some (-9)
 else
 (f_X2_everyone P1).bind fun r2 =>
 (f_X2_favoursFor P1 v3 v2 r2).bind fun r4 =>
 if r4 = (-9) then
 some (-9)
 else
 if zIn (v2 ||| ((1 : Int32) <<< (v3 &&& 31))) 256 = true then
 some (r4 + (S.2.1 (v2 ||| ((1 : Int32) <<< (v3 &&& 31))).toNatClampNeg))
 else none
 else none
 else
 some (-9)
def f_X3_fewestFrom_7  : Nat → VX3 → VX2 → Int32 → Int32 → Int32 → Int32 → Option (Int32 × VX3)
 | 0, _, _, _, _, _, _ => none
 | n + 1, S, P1, v2, v3, v4, v5 =>
 if 8 ≤ v5 then
 some (v4, S)
 else
 (f_X3_favoursBy S P1 v2 v5 v3).bind fun r1 =>
 if r1 = (-9) then
 f_X3_fewestFrom_7 n S P1 v2 v3 v4 (v5 + 1)
 else
 if v4 = (-9) then
 if zIn v2 256 = true then
 f_X3_fewestFrom_7 n (S.1, S.2.1, (upd S.2.2.1 v2.toNatClampNeg v5), S.2.2.2) P1 v2 v3 r1 (v5 + 1)
 else none
 else
 if v4 ≤ r1 then
 f_X3_fewestFrom_7 n S P1 v2 v3 v4 (v5 + 1)
 else
 if zIn v2 256 = true then
 f_X3_fewestFrom_7 n (S.1, S.2.1, (upd S.2.2.1 v2.toNatClampNeg v5), S.2.2.2) P1 v2 v3 r1 (v5 + 1)
 else none
def f_X3_fewestFrom (S : VX3) (P1 : VX2) (v2 : Int32) (v3 : Int32) : Option (Int32 × VX3) :=
 f_X3_fewestFrom_7 4096 S P1 v2 v3 (-9) 0
def f_X3_follow_4  : Nat → VX3 → Int32 → Int32 → Int32 → Option (VX3)
 | 0, _, _, _, _ => none
 | n + 1, S, v1, v2, v3 =>
 if 8 ≤ v3 then
 some S
 else
 if v2 = v1 then
 some S
 else
 if zIn v2 256 = true then
 if zIn v3 8 = true then
 if zIn v3 8 = true then
 f_X3_follow_4 n (S.1, S.2.1, S.2.2.1, (upd S.2.2.2 v3.toNatClampNeg (S.2.2.1 v2.toNatClampNeg))) v1 (v2 ||| ((1 : Int32) <<< (((upd S.2.2.2 v3.toNatClampNeg (S.2.2.1 v2.toNatClampNeg)) v3.toNatClampNeg) &&& 31))) (v3 + 1)
 else none
 else none
 else none
def f_X3_follow (S : VX3) (v1 : Int32) : Option (VX3) :=
 f_X3_follow_4 4096 S v1 0 0
def f_X3_findFirst_25  : Nat → VX3 → VX2 → Int32 → Int32 → Option (Int32 × VX3)
 | 0, _, _, _, _ => none
 | n + 1, S, P1, v2, v3 =>
 if v3 < 0 then
 if zIn 0 256 = true then
 if (S.2.1 (0 : Int32).toNatClampNeg) = (-9) then
 if zIn 0 256 = true then
 some ((S.2.1 (0 : Int32).toNatClampNeg), S)
 else none
 else
 (f_X3_follow S v2).bind fun r3 =>
 if zIn 0 256 = true then
 some ((r3.2.1 (0 : Int32).toNatClampNeg), r3)
 else none
 else none
 else
 if (v3 &&& (v2 ^^^ ((-1) : Int32))) = 0 then
 (f_X3_fewestFrom S P1 v3 v2).bind fun r7 =>
 if zIn v3 256 = true then
 f_X3_findFirst_25 n (r7.2.1, (upd r7.2.2.1 v3.toNatClampNeg r7.1), r7.2.2.2.1, r7.2.2.2.2) P1 v2 (v3 + (-1))
 else none
 else
 if zIn v3 256 = true then
 f_X3_findFirst_25 n (S.1, (upd S.2.1 v3.toNatClampNeg (-9)), S.2.2.1, S.2.2.2) P1 v2 (v3 + (-1))
 else none
def f_X3_findFirst (S : VX3) (P1 : VX2) (v2 : Int32) : Option (Int32 × VX3) :=
 if v2 < 0 then
 some ((-9), S)
 else
 if v2 < 256 then
 if zIn v2 256 = true then
 f_X3_findFirst_25 4096 (S.1, (upd S.2.1 v2.toNatClampNeg 0), S.2.2.1, S.2.2.2) P1 v2 (v2 - (1 : Int32))
 else none
 else
 some ((-9), S)
def f_X3_numberTo_5  : Nat → VX3 → VX2 → Int32 → Int32 → Int32 → Option (Int32)
 | 0, _, _, _, _, _ => none
 | n + 1, S, P1, v2, v3, v4 =>
 if 8 ≤ v4 then
 some v3
 else
 if (v2 &&& (((1 : Int32) <<< (v4 &&& 31)) ^^^ ((-1) : Int32))) = v2 then
 f_X3_numberTo_5 n S P1 v2 v3 (v4 + 1)
 else
 (f_X2_everyone P1).bind fun r1 =>
 (f_X2_favoursFor P1 v4 (v2 &&& (((1 : Int32) <<< (v4 &&& 31)) ^^^ ((-1) : Int32))) r1).bind fun r3 =>
 if r3 = (-9) then
 f_X3_numberTo_5 n S P1 v2 v3 (v4 + 1)
 else
 if zIn (v2 &&& (((1 : Int32) <<< (v4 &&& 31)) ^^^ ((-1) : Int32))) 256 = true then
 f_X3_numberTo_5 n S P1 v2 (v3 + (S.1 (v2 &&& (((1 : Int32) <<< (v4 &&& 31)) ^^^ ((-1) : Int32))).toNatClampNeg)) (v4 + 1)
 else none
def f_X3_numberTo (S : VX3) (P1 : VX2) (v2 : Int32) : Option (Int32) :=
 f_X3_numberTo_5 4096 S P1 v2 0 0
def f_X3_howMany_22  : Nat → VX3 → VX2 → Int32 → Int32 → Option (Int32 × VX3)
 | 0, _, _, _, _ => none
 | n + 1, S, P1, v2, v3 =>
 if v2 < v3 then
 if zIn v2 256 = true then
 some ((S.1 v2.toNatClampNeg), S)
 else none
 else
 if (v3 &&& (v2 ^^^ ((-1) : Int32))) = 0 then
 (f_X3_numberTo S P1 v3).bind fun r3 =>
 if zIn v3 256 = true then
 f_X3_howMany_22 n ((upd S.1 v3.toNatClampNeg r3), S.2.1, S.2.2.1, S.2.2.2) P1 v2 (v3 + 1)
 else none
 else
 if zIn v3 256 = true then
 f_X3_howMany_22 n ((upd S.1 v3.toNatClampNeg 0), S.2.1, S.2.2.1, S.2.2.2) P1 v2 (v3 + 1)
 else none
def f_X3_howMany (S : VX3) (P1 : VX2) (v2 : Int32) : Option (Int32 × VX3) :=
 if v2 < 0 then
 some (0, S)
 else
 if v2 < 256 then
 if zIn 0 256 = true then
 f_X3_howMany_22 4096 ((upd S.1 (0 : Int32).toNatClampNeg 1), S.2.1, S.2.2.1, S.2.2.2) P1 v2 1
 else none
 else
 some (0, S)
def f_X3_stepAt (S : VX3) (v1 : Int32) : Option (Int32) :=
 if v1 < 0 then
 some (-9)
 else
 if 8 ≤ v1 then
 some (-9)
 else
 if zIn v1 8 = true then
 some (S.2.2.2 v1.toNatClampNeg)
 else none
def f_X0_isDeal_100 (r_14 : VX0 → Int32 → Int32 → Int32 → Option (Int32 × VX0)) (S : VX0) (v2 : Int32) (v3 : Int32) (v4 : Int32) (t0 : Int32) (t1 : Int32) : Option (Int32 × VX0) :=
 (f_X2_setKeeper S.1 t1 t0).bind fun r1 =>
 r_14 (r1, S.2.1, S.2.2.1, S.2.2.2) v2 v3 (v4 + (-1))
def f_X0_isDeal_65 (r_14 : VX0 → Int32 → Int32 → Int32 → Option (Int32 × VX0)) (S : VX0) (v2 : Int32) (v3 : Int32) (v4 : Int32) (v5 : Int32) (t0 : Int32) : Option (Int32 × VX0) :=
 if t0 = 0 then
 some (0, S)
 else
 (f_X2_isOf S.1 v4 2).bind fun r3 =>
 if r3 = 0 then
 f_X0_isDeal_100 r_14 S v2 v3 v4 v5 v4
 else
 f_X0_isDeal_100 r_14 S v2 v3 v4 (-9) v4
def f_X0_isDeal_14  : Nat → VX0 → Int32 → Int32 → Int32 → Option (Int32 × VX0)
 | 0, _, _, _, _ => none
 | n + 1, S, v2, v3, v4 =>
 if v4 < 0 then
 some (1, S)
 else
 if v2 = 0 then none else
 if v2 = 0 then none else
 (f_X2_isOf S.1 v4 2).bind fun r7 =>
 if r7 = 0 then
 (f_X2_mayKeep S.1 v4 (v3 - v3 / v2 * v2)).bind fun r9 =>
 f_X0_isDeal_65 (f_X0_isDeal_14 n) S v2 (v3 / v2) v4 (v3 - v3 / v2 * v2) r9
 else
 if (v3 - v3 / v2 * v2) = 0 then
 f_X0_isDeal_65 (f_X0_isDeal_14 n) S v2 (v3 / v2) v4 (v3 - v3 / v2 * v2) 1
 else
 f_X0_isDeal_65 (f_X0_isDeal_14 n) S v2 (v3 / v2) v4 (v3 - v3 / v2 * v2) 0
def f_X0_isDeal (S : VX0) (v1 : Int32) (v2 : Int32) : Option (Int32 × VX0) :=
 if 1 ≤ v2 then
 f_X0_isDeal_14 4096 S v2 v1 (v2 - (1 : Int32))
 else
 some (0, S)
def f_X0_freesNoneOf_2  : Nat → VX0 → Int32 → Int32 → Option (Int32 × VX0)
 | 0, _, _, _ => none
 | n + 1, S, v1, v2 =>
 (f_X2_everyone S.1).bind fun r1 =>
 if r1 < v2 then
 some (1, S)
 else
 (f_J6_bitCount_0f7a4 v2).bind fun r3 =>
 if r3 = v1 then
 (f_X4_fill S.2.1 S.1 v2).bind fun r5 =>
 (f_X4_has r5 v2).bind fun r7 =>
 if r7 = 0 then
 f_X0_freesNoneOf_2 n (S.1, r5, S.2.2.1, S.2.2.2) v1 (v2 + 1)
 else
 some (0, (S.1, r5, S.2.2.1, S.2.2.2))
 else
 f_X0_freesNoneOf_2 n S v1 (v2 + 1)
def f_X0_freesNoneOf (S : VX0) (v1 : Int32) : Option (Int32 × VX0) :=
 f_X0_freesNoneOf_2 4096 S v1 1
def f_X0_rememberDeal_2  : Nat → VX0 → Int32 → Option (VX0)
 | 0, _, _ => none
 | n + 1, S, v1 =>
 if 5 ≤ v1 then
 some S
 else
 (f_X2_keeperOf S.1 v1).bind fun r1 =>
 if zIn v1 5 = true then
 f_X0_rememberDeal_2 n (S.1, S.2.1, (upd S.2.2.1 v1.toNatClampNeg r1), S.2.2.2) (v1 + 1)
 else none
def f_X0_rememberDeal (S : VX0)  : Option (VX0) :=
 f_X0_rememberDeal_2 4096 S 0
def f_X0_dealAll_50  : Nat → VX0 → VX2 → Int32 → Int32 → Int32 → Int32 → Int32 → Option (Int32 × VX0)
 | 0, _, _, _, _, _, _, _ => none
 | n + 1, S, P1, v2, v3, v4, v5, v6 =>
 if v4 ≤ v6 then
 some (v5, S)
 else
 (f_X0_isDeal S v6 v3).bind fun r1 =>
 if r1.1 = 0 then
 f_X0_dealAll_50 n r1.2 P1 v2 v3 v4 v5 (v6 + 1)
 else
 (f_X0_freesNoneOf r1.2 v2).bind fun r3 =>
 if r3.1 = 0 then
 f_X0_dealAll_50 n r3.2 P1 v2 v3 v4 v5 (v6 + 1)
 else
 if v5 = 0 then
 (f_X0_rememberDeal r3.2).bind fun r5 =>
 f_X0_dealAll_50 n r5 P1 v2 v3 v4 (v5 + 1) (v6 + 1)
 else
 f_X0_dealAll_50 n r3.2 P1 v2 v3 v4 (v5 + 1) (v6 + 1)
def f_X0_dealAll_26  : Nat → VX0 → VX2 → Int32 → Int32 → Int32 → Int32 → Option (Int32 × VX0)
 | 0, _, _, _, _, _, _ => none
 | n + 1, S, P1, v2, v3, v4, v5 =>
 if v3 ≤ v5 then
 f_X0_dealAll_50 4096 S P1 v2 v3 v4 0 0
 else
 f_X0_dealAll_26 n S P1 v2 v3 (v4 * v3) (v5 + 1)
def f_X0_dealAll (S : VX0) (P1 : VX2) (v2 : Int32) : Option (Int32 × VX0) :=
 (f_X2_cells P1).bind fun r7 =>
 if r7 ≤ 5 then
 (f_X2_become S.1 P1).bind fun r9 =>
 f_X0_dealAll_26 4096 (r9, S.2.1, S.2.2.1, S.2.2.2) P1 v2 r7 1 0
 else
 some (0, S)
def f_X0_favoursOrNever (S : VX0) (v1 : Int32) : Option (Int32) :=
 (f_X4_leastFor S.2.1 v1).bind fun r1 =>
 if r1 = (-9) then
 some 99
 else
 some r1
def f_X0_firstKeeperOf (S : VX0) (v1 : Int32) : Option (Int32) :=
 if v1 < 0 then
 some (-9)
 else
 if 5 ≤ v1 then
 some (-9)
 else
 if zIn v1 5 = true then
 some (S.2.2.1 v1.toNatClampNeg)
 else none
def f_X0_wouldTrade (S : VX0) (v1 : Int32) : Option (Int32) :=
 if v1 < 0 then
 some 0
 else
 if 8 ≤ v1 then
 some 0
 else
 (f_X0_favoursOrNever S v1).bind fun r1 =>
 if zIn v1 8 = true then
 if (S.2.2.2 v1.toNatClampNeg) ≤ r1 then
 some 0
 else
 some 1
 else none
def f_X0_helpsBoth_60  (S : VX0) (P1 : VX2) (v2 : Int32) (v3 : Int32) (v4 : Int32) (v5 : Int32) : Option (Int32 × VX0 × VX2) :=
 (f_X2_setKeeper P1 v2 v4).bind fun r1 =>
 (f_X2_setKeeper r1 v3 v5).bind fun r3 =>
 some (0, S, r3)
def f_X0_helpsBoth (S : VX0) (P1 : VX2) (v2 : Int32) (v3 : Int32) : Option (Int32 × VX0 × VX2) :=
 (f_X2_keeperOf P1 v2).bind fun r5 =>
 (f_X2_keeperOf P1 v3).bind fun r7 =>
 (f_X2_setKeeper P1 v2 r7).bind fun r9 =>
 (f_X2_setKeeper r9 v3 r5).bind fun r11 =>
 (f_X2_everyone r11).bind fun r13 =>
 (f_X4_fill S.2.1 r11 r13).bind fun r15 =>
 (f_X0_wouldTrade (S.1, r15, S.2.2.1, S.2.2.2) r5).bind fun r17 =>
 if r17 = 0 then
 f_X0_helpsBoth_60 (S.1, r15, S.2.2.1, S.2.2.2) r11 v2 v3 r5 r7
 else
 (f_X0_wouldTrade (S.1, r15, S.2.2.1, S.2.2.2) r7).bind fun r19 =>
 if r19 = 0 then
 f_X0_helpsBoth_60 (S.1, r15, S.2.2.1, S.2.2.2) r11 v2 v3 r5 r7
 else
 some (1, (S.1, r15, S.2.2.1, S.2.2.2), r11)
def f_X0_mayTrade (S : VX0) (P1 : VX2) (v2 : Int32) (v3 : Int32) : Option (Int32) :=
 (f_X2_keeperOf P1 v2).bind fun r1 =>
 (f_X2_keeperOf P1 v3).bind fun r3 =>
 if r1 = r3 then
 some 0
 else
 (f_X2_mayKeep P1 v2 r3).bind fun r5 =>
 if r5 = 0 then
 some 0
 else
 (f_X2_mayKeep P1 v3 r1).bind fun r7 =>
 if r7 = 0 then
 some 0
 else
 some 1
def f_X0_tradeOnce_51 (r_39 : VX0 → VX2 → Int32 → Option (Int32 × VX0 × VX2)) : Nat → VX0 → VX2 → Int32 → Int32 → Option (Int32 × VX0 × VX2)
 | 0, _, _, _, _ => none
 | n + 1, S, P1, v2, v3 =>
 (f_X2_cells P1).bind fun r1 =>
 if r1 ≤ v3 then
 r_39 S P1 (v2 + 1)
 else
 (f_X0_mayTrade S P1 v2 v3).bind fun r3 =>
 if r3 = 0 then
 f_X0_tradeOnce_51 r_39 n S P1 v2 (v3 + 1)
 else
 (f_X0_helpsBoth S P1 v2 v3).bind fun r5 =>
 if r5.1 = 0 then
 f_X0_tradeOnce_51 r_39 n r5.2.1 r5.2.2 v2 (v3 + 1)
 else
 some (1, r5.2.1, r5.2.2)
def f_X0_tradeOnce_39  : Nat → VX0 → VX2 → Int32 → Option (Int32 × VX0 × VX2)
 | 0, _, _, _ => none
 | n + 1, S, P1, v2 =>
 (f_X2_cells P1).bind fun r7 =>
 if r7 ≤ v2 then
 some (0, S, P1)
 else
 f_X0_tradeOnce_51 (f_X0_tradeOnce_39 n) 4096 S P1 v2 (v2 + (1 : Int32))
def f_X0_tradeOnce_14  : Nat → VX0 → VX2 → Int32 → Option (Int32 × VX0 × VX2)
 | 0, _, _, _ => none
 | n + 1, S, P1, v2 =>
 if 8 ≤ v2 then
 f_X0_tradeOnce_39 4096 S P1 0
 else
 (f_X0_favoursOrNever S v2).bind fun r9 =>
 if zIn v2 8 = true then
 f_X0_tradeOnce_14 n (S.1, S.2.1, S.2.2.1, (upd S.2.2.2 v2.toNatClampNeg r9)) P1 (v2 + 1)
 else none
def f_X0_tradeOnce (S : VX0) (P1 : VX2)  : Option (Int32 × VX0 × VX2) :=
 (f_X2_everyone P1).bind fun r12 =>
 (f_X4_fill S.2.1 P1 r12).bind fun r14 =>
 f_X0_tradeOnce_14 4096 (S.1, r14, S.2.2.1, S.2.2.2) P1 0
def f_X5_close (S : VX5)  : Option (VX5) :=
 if zIn 0 3 = true then
 if zIn 1 3 = true then
 if zIn 2 3 = true then
 if S.2.2.1 = 98 then
 (f_X2_setDoor S.1 (S.2.1 (0 : Int32).toNatClampNeg) 5 (S.2.1 (1 : Int32).toNatClampNeg) (S.2.1 (2 : Int32).toNatClampNeg) 0).bind fun r4 =>
 some (r4, S.2.1, 0, S.2.2.2.1, S.2.2.2.2)
 else
 if S.2.2.1 = 105 then
 (f_X2_setDoor S.1 (S.2.1 (0 : Int32).toNatClampNeg) 2 (-9) (-9) 0).bind fun r6 =>
 some (r6, S.2.1, 0, S.2.2.2.1, S.2.2.2.2)
 else
 if S.2.2.1 = 107 then
 (f_X2_setDoor S.1 (S.2.1 (0 : Int32).toNatClampNeg) 0 (S.2.1 (1 : Int32).toNatClampNeg) (-9) 0).bind fun r8 =>
 some (r8, S.2.1, 0, S.2.2.2.1, S.2.2.2.2)
 else
 if S.2.2.1 = 108 then
 (f_X2_setDoor S.1 (S.2.1 (0 : Int32).toNatClampNeg) 3 (S.2.1 (1 : Int32).toNatClampNeg) (-9) (S.2.1 (2 : Int32).toNatClampNeg)).bind fun r10 =>
 some (r10, S.2.1, 0, S.2.2.2.1, S.2.2.2.2)
 else
 if S.2.2.1 = 110 then
 (f_X2_build S.1 (S.2.1 (0 : Int32).toNatClampNeg)).bind fun r12 =>
 some (r12, S.2.1, 0, S.2.2.2.1, 1)
 else
 if S.2.2.1 = 115 then
 (f_X2_setDoor S.1 (S.2.1 (0 : Int32).toNatClampNeg) 4 (S.2.1 (1 : Int32).toNatClampNeg) (-9) (S.2.1 (2 : Int32).toNatClampNeg)).bind fun r14 =>
 some (r14, S.2.1, 0, S.2.2.2.1, S.2.2.2.2)
 else
 if S.2.2.1 = 116 then
 (f_X2_setDoor S.1 (S.2.1 (0 : Int32).toNatClampNeg) 1 (S.2.1 (1 : Int32).toNatClampNeg) (S.2.1 (2 : Int32).toNatClampNeg) 0).bind fun r16 =>
 some (r16, S.2.1, 0, S.2.2.2.1, S.2.2.2.2)
 else
 (f_X2_setQuarrel S.1 (S.2.1 (0 : Int32).toNatClampNeg) (S.2.1 (1 : Int32).toNatClampNeg) 1).bind fun r18 =>
 some (r18, S.2.1, 0, S.2.2.2.1, S.2.2.2.2)
 else none
 else none
 else none
def f_X5_formOf  (v0 : Int32) : Option (Nat) :=
 if v0 = 98 then
 some 3
 else
 if v0 = 105 then
 some 1
 else
 if v0 = 107 then
 some 2
 else
 if v0 = 108 then
 some 4
 else
 if v0 = 110 then
 some 0
 else
 if v0 = 113 then
 some 2
 else
 if v0 = 115 then
 some 4
 else
 if v0 = 116 then
 some 3
 else
 some 5
def f_X5_isNew_2  : Nat → VX5 → Int32 → Int32 → Option (Int32)
 | 0, _, _, _ => none
 | n + 1, S, v1, v2 =>
 if S.2.2.2.1 ≤ v2 then
 some 1
 else
 if 3 ≤ v2 then
 some 1
 else
 if zIn v2 3 = true then
 if (S.2.1 v2.toNatClampNeg) = v1 then
 some 0
 else
 f_X5_isNew_2 n S v1 (v2 + 1)
 else none
def f_X5_isNew (S : VX5) (v1 : Int32) : Option (Int32) :=
 f_X5_isNew_2 4096 S v1 0
def f_X5_partOf (S : VX5) (v1 : Int32) (v2 : Int32) : Option (Int32) :=
 if v1 = 99 then
 if (v2 - (48 : Int32)) < 2 then
 some (-9)
 else
 if 8 < (v2 - (48 : Int32)) then
 some (-9)
 else
 some (v2 - (48 : Int32))
 else
 if v1 = 102 then
 if (v2 - (48 : Int32)) < 0 then
 some (-9)
 else
 if 9 < (v2 - (48 : Int32)) then
 some (-9)
 else
 some (v2 - (48 : Int32))
 else
 (f_X2_isCell S.1 (v2 - (65 : Int32))).bind fun r1 =>
 if r1 = 0 then
 some (-9)
 else
 (f_X5_isNew S (v2 - (65 : Int32))).bind fun r3 =>
 if r3 = 0 then
 some (-9)
 else
 some (v2 - (65 : Int32))
def f_X5_continues (S : VX5) (v1 : Int32) : Option (Int32 × VX5) :=
 (f_X5_formOf S.2.2.1).bind fun r1 =>
 (f_J0_length_8abf5 r1).bind fun r3 =>
 if r3 ≤ S.2.2.2.1 then
 some (0, S)
 else
 if S.2.2.2.1 < 3 then
 (f_J0_charAt_5068e r1 S.2.2.2.1).bind fun r5 =>
 (f_X5_partOf S r5 v1).bind fun r7 =>
 if r7 = (-9) then
 some (0, S)
 else
 if zIn S.2.2.2.1 3 = true then
 (f_J0_length_8abf5 r1).bind fun r10 =>
 if (S.2.2.2.1 + (1 : Int32)) = r10 then
 (f_X5_close (S.1, (upd S.2.1 S.2.2.2.1.toNatClampNeg r7), S.2.2.1, (S.2.2.2.1 + (1 : Int32)), S.2.2.2.2)).bind fun r12 =>
 some (1, r12)
 else
 some (1, (S.1, (upd S.2.1 S.2.2.2.1.toNatClampNeg r7), S.2.2.1, (S.2.2.2.1 + (1 : Int32)), S.2.2.2.2))
 else none
 else
 some (0, S)
def f_X5_draft (S : VX5)  : Option (Unit) :=
 some ()
def f_X5_opens_29  (S : VX5) (v1 : Int32) (t0 : Int32) : Option (Int32 × VX5) :=
 if t0 = S.2.2.2.2 then
 some (0, S)
 else
 some (1, (S.1, S.2.1, v1, 0, S.2.2.2.2))
def f_X5_opens (S : VX5) (v1 : Int32) : Option (Int32 × VX5) :=
 if v1 = 32 then
 some (1, S)
 else
 (f_X5_formOf v1).bind fun r1 =>
 (f_J0_isEmpty_aae02 r1).bind fun r3 =>
 if r3 = 0 then
 if v1 = 110 then
 f_X5_opens_29 S v1 1
 else
 f_X5_opens_29 S v1 0
 else
 some (0, S)
def f_X5_read_61 (r_24 : VX5 → VX8 → Int32 → Int32 → Int32 → Option (Int32 × VX5)) (S : VX5) (P1 : VX8) (v2 : Int32) (v3 : Int32) (v4 : Int32) (t0 : Int32) : Option (Int32 × VX5) :=
 if t0 = 0 then
 some (v4, S)
 else
 r_24 S P1 v2 v3 (v4 + 1)
def f_X5_read_24  : Nat → VX5 → VX8 → Int32 → Int32 → Int32 → Option (Int32 × VX5)
 | 0, _, _, _, _, _ => none
 | n + 1, S, P1, v2, v3, v4 =>
 if v3 ≤ v4 then
 if S.2.2.1 = 0 then
 if S.2.2.2.2 = 0 then
 some (v3, S)
 else
 some ((-9), S)
 else
 some (v3, S)
 else
 (f_X8_get P1 v2 v4).bind fun r1 =>
 if S.2.2.1 = 0 then
 (f_X5_opens S r1).bind fun r5 =>
 f_X5_read_61 (f_X5_read_24 n) r5.2 P1 v2 v3 v4 r5.1
 else
 (f_X5_continues S r1).bind fun r3 =>
 f_X5_read_61 (f_X5_read_24 n) r3.2 P1 v2 v3 v4 r3.1
def f_X5_read (S : VX5) (P1 : VX8) (v2 : Int32) : Option (Int32 × VX5) :=
 (f_X8_sizeOf P1 v2).bind fun r7 =>
 f_X5_read_24 4096 (S.1, S.2.1, 0, 0, 0) P1 v2 r7 0
def f_X10_asked (S : VX10)  : Option (Int32) :=
 (f_X9_latest S.1).bind fun r1 =>
 some r1
def f_X10_rowRefusal (S : VX10) (v1 : Int32) : Option (Int32 × VX10) :=
 (f_X6_isNumber S.2.1 v1).bind fun r1 =>
 if r1 = 0 then
 some ((-1), S)
 else
 (f_X6_isThere S.2.1 v1).bind fun r3 =>
 if r3 = 0 then
 (f_X9_found S.1 1).bind fun r5 =>
 some (r5.1, (r5.2, S.2.1, S.2.2.1, S.2.2.2.1, S.2.2.2.2.1, S.2.2.2.2.2.1, S.2.2.2.2.2.2.1, S.2.2.2.2.2.2.2.1, S.2.2.2.2.2.2.2.2.1, S.2.2.2.2.2.2.2.2.2))
 else
 some (0, S)
def f_X10_placeRefusal (S : VX10) (v1 : Int32) (v2 : Int32) : Option (Int32 × VX10) :=
 (f_X10_rowRefusal S v1).bind fun r1 =>
 if r1.1 = 0 then
 (f_X6_isPlace r1.2.2.1 v1 v2).bind fun r3 =>
 if r3 = 0 then
 (f_X9_found r1.2.1 2).bind fun r5 =>
 some (r5.1, (r5.2, r1.2.2.1, r1.2.2.2.1, r1.2.2.2.2.1, r1.2.2.2.2.2.1, r1.2.2.2.2.2.2.1, r1.2.2.2.2.2.2.2.1, r1.2.2.2.2.2.2.2.2.1, r1.2.2.2.2.2.2.2.2.2.1, r1.2.2.2.2.2.2.2.2.2.2))
 else
 some (0, r1.2)
 else
 some (r1.1, r1.2)
def f_X10_at (S : VX10) (v1 : Int32) (v2 : Int32) : Option (Int32 × VX10) :=
 (f_X10_placeRefusal S v1 v2).bind fun r1 =>
 if r1.1 = 0 then
 (f_X6_get r1.2.2.1 v1 v2).bind fun r3 =>
 (f_X9_tell r1.2.1 r3).bind fun r5 =>
 some (1, (r5, r1.2.2.1, r1.2.2.2.1, r1.2.2.2.2.1, r1.2.2.2.2.2.1, r1.2.2.2.2.2.2.1, r1.2.2.2.2.2.2.2.1, r1.2.2.2.2.2.2.2.2.1, r1.2.2.2.2.2.2.2.2.2.1, r1.2.2.2.2.2.2.2.2.2.2))
 else
 some (r1.1, r1.2)
def f_X10_getsOut (S : VX10) (v1 : Int32) : Option (Int32 × VX10) :=
 (f_X4_fill S.2.2.2.2.2.2.1 S.2.2.2.2.1 v1).bind fun r1 =>
 (f_X4_has r1 v1).bind fun r3 =>
 if r3 = 0 ∨ r3 = 1 then
 some (r3, (S.1, S.2.1, S.2.2.1, S.2.2.2.1, S.2.2.2.2.1, S.2.2.2.2.2.1, r1, S.2.2.2.2.2.2.2.1, S.2.2.2.2.2.2.2.2.1, S.2.2.2.2.2.2.2.2.2))
 else none
def f_X10_band (S : VX10) (v1 : Int32) : Option (Int32 × VX10) :=
 (f_X2_isSet S.2.2.2.2.1 v1).bind fun r1 =>
 if r1 = 0 then
 some ((-1), S)
 else
 if v1 = 0 then
 some ((-1), S)
 else
 (f_X10_getsOut S v1).bind fun r3 =>
 if r3.1 = 0 then
 some ((-9), r3.2)
 else
 (f_X4_favoursOf r3.2.2.2.2.2.2.2.1 v1).bind fun r5 =>
 some (r5, r3.2)
def f_X10_bands_26  : Nat → VX10 → Int32 → Int32 → Int32 → Int32 → Option (Int32 × VX10)
 | 0, _, _, _, _, _ => none
 | n + 1, S, v1, v2, v3, v4 =>
 (f_X2_everyone S.2.2.2.2.1).bind fun r1 =>
 if r1 < v4 then
 (f_X9_tell S.1 v3).bind fun r3 =>
 some (v2, (r3, S.2.1, S.2.2.1, S.2.2.2.1, S.2.2.2.2.1, S.2.2.2.2.2.1, S.2.2.2.2.2.2.1, S.2.2.2.2.2.2.2.1, S.2.2.2.2.2.2.2.2.1, S.2.2.2.2.2.2.2.2.2))
 else
 (f_J6_bitCount_0f7a4 v4).bind fun r5 =>
 if r5 = v1 then
 (f_X10_getsOut S v4).bind fun r7 =>
 if r7.1 = 0 then
 f_X10_bands_26 n r7.2 v1 v2 v3 (v4 + 1)
 else
 if v2 = 0 then
 f_X10_bands_26 n r7.2 v1 (v2 + 1) v4 (v4 + 1)
 else
 f_X10_bands_26 n r7.2 v1 (v2 + 1) v3 (v4 + 1)
 else
 f_X10_bands_26 n S v1 v2 v3 (v4 + 1)
def f_X10_bands (S : VX10) (v1 : Int32) : Option (Int32 × VX10) :=
 if v1 < 1 then
 some ((-1), S)
 else
 (f_X2_cells S.2.2.2.2.1).bind fun r9 =>
 if v1 ≤ r9 then
 f_X10_bands_26 4096 S v1 0 (-9) 1
 else
 some ((-1), S)
def f_X10_bell (S : VX10)  : Option (Int32 × VX10) :=
 (f_X1_howManyOut S.2.2.2.2.2.1).bind fun r1 =>
 (f_X1_allIn S.2.2.2.2.2.1).bind fun r3 =>
 some (r1, (S.1, S.2.1, S.2.2.1, S.2.2.2.1, S.2.2.2.2.1, r3, S.2.2.2.2.2.2.1, S.2.2.2.2.2.2.2.1, S.2.2.2.2.2.2.2.2.1, S.2.2.2.2.2.2.2.2.2))
def f_X10_can (S : VX10) (v1 : Int32) : Option (Int32) :=
 (f_X2_isCell S.2.2.2.2.1 v1).bind fun r1 =>
 if r1 = 0 then
 some (-1)
 else
 (f_X1_hasOut S.2.2.2.2.2.1 v1).bind fun r3 =>
 if r3 = 0 then
 (f_X1_whoIsOut S.2.2.2.2.2.1).bind fun r5 =>
 (f_X2_everyone S.2.2.2.2.1).bind fun r7 =>
 (f_X2_favoursFor S.2.2.2.2.1 v1 r5 r7).bind fun r9 =>
 some r9
 else
 some (-4)
def f_X10_copy_60  (S : VX10)  : Option (Int32 × VX10) :=
 (f_X9_found S.1 1).bind fun r1 =>
 some (r1.1, (r1.2, S.2.1, S.2.2.1, S.2.2.2.1, S.2.2.2.2.1, S.2.2.2.2.2.1, S.2.2.2.2.2.2.1, S.2.2.2.2.2.2.2.1, S.2.2.2.2.2.2.2.2.1, S.2.2.2.2.2.2.2.2.2))
def f_X10_copy_98  (S : VX10)  : Option (Int32 × VX10) :=
 (f_X9_found S.1 2).bind fun r3 =>
 some (r3.1, (r3.2, S.2.1, S.2.2.1, S.2.2.2.1, S.2.2.2.2.1, S.2.2.2.2.2.1, S.2.2.2.2.2.2.1, S.2.2.2.2.2.2.2.1, S.2.2.2.2.2.2.2.2.1, S.2.2.2.2.2.2.2.2.2))
def f_X10_copy (S : VX10) (v1 : Int32) (v2 : Int32) (v3 : Int32) (v4 : Int32) (v5 : Int32) : Option (Int32 × VX10) :=
 (f_X6_isNumber S.2.1 v1).bind fun r5 =>
 if r5 = 0 then
 some ((-1), S)
 else
 (f_X6_isNumber S.2.1 v3).bind fun r7 =>
 if r7 = 0 then
 some ((-1), S)
 else
 if 0 ≤ v5 then
 (f_X6_isThere S.2.1 v1).bind fun r9 =>
 if r9 = 0 then
 f_X10_copy_60 S
 else
 (f_X6_isThere S.2.1 v3).bind fun r11 =>
 if r11 = 0 then
 f_X10_copy_60 S
 else
 (f_X6_hasPlaces S.2.1 v1 v2 v5).bind fun r13 =>
 if r13 = 0 then
 f_X10_copy_98 S
 else
 (f_X6_hasPlaces S.2.1 v3 v4 v5).bind fun r15 =>
 if r15 = 0 then
 f_X10_copy_98 S
 else
 (f_X6_move S.2.1 v1 v2 v3 v4 v5).bind fun r17 =>
 some (1, (S.1, r17, S.2.2.1, S.2.2.2.1, S.2.2.2.2.1, S.2.2.2.2.2.1, S.2.2.2.2.2.2.1, S.2.2.2.2.2.2.2.1, S.2.2.2.2.2.2.2.2.1, S.2.2.2.2.2.2.2.2.2))
 else
 (f_X9_found S.1 5).bind fun r19 =>
 some (r19.1, (r19.2, S.2.1, S.2.2.1, S.2.2.2.1, S.2.2.2.2.1, S.2.2.2.2.2.1, S.2.2.2.2.2.2.1, S.2.2.2.2.2.2.2.1, S.2.2.2.2.2.2.2.2.1, S.2.2.2.2.2.2.2.2.2))
def f_X10_count (S : VX10) (v1 : Int32) : Option (Int32) :=
 if v1 = 0 then
 (f_X2_cells S.2.2.2.2.1).bind fun r1 =>
 some r1
 else
 if v1 = 1 then
 (f_X1_howManyOut S.2.2.2.2.2.1).bind fun r3 =>
 some r3
 else
 if v1 = 2 then
 (f_X2_doorsOf S.2.2.2.2.1 1).bind fun r5 =>
 some r5
 else
 if v1 = 3 then
 (f_X2_doorsOf S.2.2.2.2.1 3).bind fun r7 =>
 some r7
 else
 if v1 = 4 then
 (f_X2_quarrels S.2.2.2.2.1).bind fun r9 =>
 some r9
 else
 if v1 = 5 then
 (f_X7_size S.2.2.2.2.2.2.2.2.2).bind fun r11 =>
 some r11
 else
 if v1 = 6 then
 (f_X6_howMany S.2.1).bind fun r13 =>
 some r13
 else
 if v1 = 7 then
 (f_X8_howMany S.2.2.1).bind fun r15 =>
 some r15
 else
 some (-1)
def f_X10_isFavours  (v0 : Int32) : Option (Int32) :=
 if v0 < 0 then
 some 0
 else
 if 99 < v0 then
 some 0
 else
 some 1
def f_X10_reachAll (S : VX10)  : Option (VX10) :=
 (f_X2_everyone S.2.2.2.2.1).bind fun r1 =>
 (f_X4_fill S.2.2.2.2.2.2.1 S.2.2.2.2.1 r1).bind fun r3 =>
 some (S.1, S.2.1, S.2.2.1, S.2.2.2.1, S.2.2.2.2.1, S.2.2.2.2.2.1, r3, S.2.2.2.2.2.2.2.1, S.2.2.2.2.2.2.2.2.1, S.2.2.2.2.2.2.2.2.2)
def f_X10_fitsNight (S : VX10) (v1 : Int32) (v2 : Int32) : Option (Int32) :=
 (f_X4_has S.2.2.2.2.2.2.1 v1).bind fun r1 =>
 if r1 = 0 then
 some 0
 else
 (f_X4_favoursOf S.2.2.2.2.2.2.1 v1).bind fun r3 =>
 if v2 < r3 then
 some 0
 else
 (f_X7_fit S.2.2.2.2.2.2.2.2.2 v1).bind fun r5 =>
 if r5 = 0 then
 some 0
 else
 some 1
def f_X10_culprits_29  : Nat → VX10 → Int32 → Int32 → Int32 → Int32 → Int32 → Option (Int32 × VX10)
 | 0, _, _, _, _, _, _ => none
 | n + 1, S, v1, v2, v3, v4, v5 =>
 (f_X2_everyone S.2.2.2.2.1).bind fun r1 =>
 if r1 < v5 then
 if v4 = 0 then
 some ((-9), S)
 else
 (f_X9_tell S.1 v3).bind fun r3 =>
 some (v2, (r3, S.2.1, S.2.2.1, S.2.2.2.1, S.2.2.2.2.1, S.2.2.2.2.2.1, S.2.2.2.2.2.2.1, S.2.2.2.2.2.2.2.1, S.2.2.2.2.2.2.2.2.1, S.2.2.2.2.2.2.2.2.2))
 else
 (f_X10_fitsNight S v5 v1).bind fun r5 =>
 if r5 = 0 then
 f_X10_culprits_29 n S v1 v2 v3 v4 (v5 + 1)
 else
 f_X10_culprits_29 n S v1 (v2 ||| v5) (v3 &&& v5) 1 (v5 + 1)
def f_X10_culprits (S : VX10) (v1 : Int32) : Option (Int32 × VX10) :=
 (f_X10_isFavours v1).bind fun r7 =>
 if r7 = 0 then
 some ((-1), S)
 else
 (f_X10_reachAll S).bind fun r9 =>
 (f_X2_everyone r9.2.2.2.2.1).bind fun r11 =>
 f_X10_culprits_29 4096 r9 v1 0 r11 0 0
def f_X10_deals_83  : Nat → VX10 → Int32 → Int32 → Int32 → Option (Int32 × VX10)
 | 0, _, _, _, _ => none
 | n + 1, S, v2, v3, v4 =>
 (f_X2_cells S.2.2.2.2.1).bind fun r1 =>
 if r1 ≤ v4 then
 some (v3, S)
 else
 (f_X0_firstKeeperOf S.2.2.2.2.2.2.2.2.1 v4).bind fun r3 =>
 (f_X6_set S.2.1 v2 v4 r3).bind fun r5 =>
 f_X10_deals_83 n (S.1, r5, S.2.2.1, S.2.2.2.1, S.2.2.2.2.1, S.2.2.2.2.2.1, S.2.2.2.2.2.2.1, S.2.2.2.2.2.2.2.1, S.2.2.2.2.2.2.2.2.1, S.2.2.2.2.2.2.2.2.2) v2 v3 (v4 + 1)
def f_X10_deals (S : VX10) (v1 : Int32) (v2 : Int32) : Option (Int32 × VX10) :=
 if v1 < 1 then
 some ((-1), S)
 else
 if 5 < v1 then
 some ((-1), S)
 else
 (f_X2_cells S.2.2.2.2.1).bind fun r7 =>
 if r7 < v1 then
 some ((-1), S)
 else
 (f_X6_isNumber S.2.1 v2).bind fun r9 =>
 if r9 = 0 then
 some ((-1), S)
 else
 (f_X2_cells S.2.2.2.2.1).bind fun r11 =>
 if r11 ≤ 5 then
 (f_X0_dealAll S.2.2.2.2.2.2.2.2.1 S.2.2.2.2.1 v1).bind fun r13 =>
 if r13.1 ≤ 0 then
 some (r13.1, (S.1, S.2.1, S.2.2.1, S.2.2.2.1, S.2.2.2.2.1, S.2.2.2.2.2.1, S.2.2.2.2.2.2.1, S.2.2.2.2.2.2.2.1, r13.2, S.2.2.2.2.2.2.2.2.2))
 else
 (f_X2_cells S.2.2.2.2.1).bind fun r15 =>
 (f_X6_make S.2.1 v2 r15).bind fun r17 =>
 f_X10_deals_83 4096 (S.1, r17, S.2.2.1, S.2.2.2.1, S.2.2.2.2.1, S.2.2.2.2.2.1, S.2.2.2.2.2.2.1, S.2.2.2.2.2.2.2.1, r13.2, S.2.2.2.2.2.2.2.2.2) v2 r13.1 0
 else
 some ((-6), S)
def f_X10_dealt_101  : Nat → VX10 → Int32 → Int32 → Option (Int32 × VX10)
 | 0, _, _, _ => none
 | n + 1, S, v1, v3 =>
 (f_X2_cells S.2.2.2.2.1).bind fun r1 =>
 if r1 ≤ v3 then
 some (1, S)
 else
 (f_X2_isOf S.2.2.2.2.1 v3 2).bind fun r3 =>
 if r3 = 0 then
 (f_X6_get S.2.1 v1 v3).bind fun r5 =>
 (f_X2_setKeeper S.2.2.2.2.1 v3 r5).bind fun r7 =>
 f_X10_dealt_101 n (S.1, S.2.1, S.2.2.1, S.2.2.2.1, r7, S.2.2.2.2.2.1, S.2.2.2.2.2.2.1, S.2.2.2.2.2.2.2.1, S.2.2.2.2.2.2.2.2.1, S.2.2.2.2.2.2.2.2.2) v1 (v3 + 1)
 else
 f_X10_dealt_101 n S v1 (v3 + 1)
def f_X10_dealt_41  : Nat → VX10 → Int32 → Int32 → Option (Int32 × VX10)
 | 0, _, _, _ => none
 | n + 1, S, v1, v3 =>
 (f_X2_cells S.2.2.2.2.1).bind fun r9 =>
 if r9 ≤ v3 then
 f_X10_dealt_101 4096 S v1 0
 else
 (f_X2_isOf S.2.2.2.2.1 v3 2).bind fun r11 =>
 if r11 = 0 then
 (f_X6_get S.2.1 v1 v3).bind fun r13 =>
 (f_X2_mayKeep S.2.2.2.2.1 v3 r13).bind fun r15 =>
 if r15 = 0 then
 (f_X9_found S.1 3).bind fun r17 =>
 some (r17.1, (r17.2, S.2.1, S.2.2.1, S.2.2.2.1, S.2.2.2.2.1, S.2.2.2.2.2.1, S.2.2.2.2.2.2.1, S.2.2.2.2.2.2.2.1, S.2.2.2.2.2.2.2.2.1, S.2.2.2.2.2.2.2.2.2))
 else
 f_X10_dealt_41 n S v1 (v3 + 1)
 else
 f_X10_dealt_41 n S v1 (v3 + 1)
def f_X10_dealt (S : VX10) (v1 : Int32) : Option (Int32 × VX10) :=
 (f_X10_rowRefusal S v1).bind fun r19 =>
 if r19.1 = 0 then
 (f_X6_sizeOf r19.2.2.1 v1).bind fun r21 =>
 (f_X2_cells r19.2.2.2.2.2.1).bind fun r23 =>
 if r21 = r23 then
 f_X10_dealt_41 4096 r19.2 v1 0
 else
 (f_X9_found r19.2.1 5).bind fun r25 =>
 some (r25.1, (r25.2, r19.2.2.1, r19.2.2.2.1, r19.2.2.2.2.1, r19.2.2.2.2.2.1, r19.2.2.2.2.2.2.1, r19.2.2.2.2.2.2.2.1, r19.2.2.2.2.2.2.2.2.1, r19.2.2.2.2.2.2.2.2.2.1, r19.2.2.2.2.2.2.2.2.2.2))
 else
 some (r19.1, r19.2)
def f_X10_digest_6  : Nat → VX10 → Int64 → Int32 → Option (Int64)
 | 0, _, _, _ => none
 | n + 1, S, v1, v3 =>
 if 8 ≤ v3 then
 (f_X1_whoIsOut S.2.2.2.2.2.1).bind fun r1 =>
 (f_X1_favours S.2.2.2.2.2.1).bind fun r3 =>
 (f_X2_mix S.2.2.2.2.1 ((31 * ((31 * v1) + r1.toInt64)) + r3.toInt64)).bind fun r5 =>
 (f_X7_mix S.2.2.2.2.2.2.2.2.2 r5).bind fun r7 =>
 (f_X1_mixKept S.2.2.2.2.2.1 r7).bind fun r9 =>
 (f_X6_mix S.2.1 r9).bind fun r11 =>
 (f_X8_mix S.2.2.1 r11).bind fun r13 =>
 some r13
 else
 (f_X10_count S v3).bind fun r15 =>
 f_X10_digest_6 n S ((31 * v1) + r15.toInt64) (v3 + 1)
def f_X10_digest (S : VX10)  : Option (Int64) :=
 f_X10_digest_6 4096 S 17 0
def f_X10_door (S : VX10) (v1 : Int32) (v2 : Int32) : Option (Int32 × VX10) :=
 (f_X2_isCell S.2.2.2.2.1 v1).bind fun r1 =>
 if r1 = 0 then
 some ((-1), S)
 else
 if v2 < 0 then
 some ((-1), S)
 else
 if v2 < 4 then
 (f_X2_doorAnswer S.2.2.2.2.1 v1 v2).bind fun r3 =>
 (f_X9_tell S.1 r3).bind fun r5 =>
 some (1, (r5, S.2.1, S.2.2.1, S.2.2.2.1, S.2.2.2.2.1, S.2.2.2.2.2.1, S.2.2.2.2.2.2.1, S.2.2.2.2.2.2.2.1, S.2.2.2.2.2.2.2.2.1, S.2.2.2.2.2.2.2.2.2))
 else
 some ((-1), S)
def f_X10_ever (S : VX10)  : Option (Int32 × VX10) :=
 (f_X10_reachAll S).bind fun r1 =>
 (f_X4_inSome r1.2.2.2.2.2.2.1).bind fun r3 =>
 (f_X2_everyone r1.2.2.2.2.1).bind fun r5 =>
 (f_X9_tell r1.1 (r5 &&& (r3 ^^^ ((-1) : Int32)))).bind fun r7 =>
 some (r3, (r7, r1.2.1, r1.2.2.1, r1.2.2.2.1, r1.2.2.2.2.1, r1.2.2.2.2.2.1, r1.2.2.2.2.2.2.1, r1.2.2.2.2.2.2.2.1, r1.2.2.2.2.2.2.2.2.1, r1.2.2.2.2.2.2.2.2.2))
def f_X10_textRefusal (S : VX10) (v1 : Int32) : Option (Int32 × VX10) :=
 (f_X8_isNumber S.2.2.1 v1).bind fun r1 =>
 if r1 = 0 then
 some ((-1), S)
 else
 (f_X8_isThere S.2.2.1 v1).bind fun r3 =>
 if r3 = 0 then
 (f_X9_found S.1 1).bind fun r5 =>
 some (r5.1, (r5.2, S.2.1, S.2.2.1, S.2.2.2.1, S.2.2.2.2.1, S.2.2.2.2.2.1, S.2.2.2.2.2.2.1, S.2.2.2.2.2.2.2.1, S.2.2.2.2.2.2.2.2.1, S.2.2.2.2.2.2.2.2.2))
 else
 some (0, S)
def f_X10_fault (S : VX10) (v1 : Int32) : Option (Int32 × VX10) :=
 (f_X10_textRefusal S v1).bind fun r1 =>
 if r1.1 = 0 then
 (f_X5_read r1.2.2.2.2.1 r1.2.2.2.1 v1).bind fun r3 =>
 some (r3.1, (r1.2.1, r1.2.2.1, r1.2.2.2.1, r3.2, r1.2.2.2.2.2.1, r1.2.2.2.2.2.2.1, r1.2.2.2.2.2.2.2.1, r1.2.2.2.2.2.2.2.2.1, r1.2.2.2.2.2.2.2.2.2.1, r1.2.2.2.2.2.2.2.2.2.2))
 else
 some (r1.1, r1.2)
def f_X10_finding (S : VX10)  : Option (Int32) :=
 (f_X9_latestFinding S.1).bind fun r1 =>
 some r1
def f_X10_findings (S : VX10) (v1 : Int32) : Option (Int32) :=
 if v1 < 1 then
 some (-1)
 else
 if v1 ≤ 5 then
 (f_X9_howOften S.1 v1).bind fun r1 =>
 some r1
 else
 some (-1)
def f_X10_foes (S : VX10) (v1 : Int32) : Option (Int32) :=
 (f_X2_isCell S.2.2.2.2.1 v1).bind fun r1 =>
 if r1 = 0 then
 some (-1)
 else
 (f_X2_foesOf S.2.2.2.2.1 v1).bind fun r3 =>
 some r3
def f_X10_forget (S : VX10) (v1 : Int32) : Option (Int32 × VX10) :=
 if v1 < 0 then
 some ((-1), S)
 else
 (f_X7_size S.2.2.2.2.2.2.2.2.2).bind fun r1 =>
 if v1 ≤ r1 then
 (f_X7_dropFrom S.2.2.2.2.2.2.2.2.2 v1).bind fun r3 =>
 some (r3.1, (S.1, S.2.1, S.2.2.1, S.2.2.2.1, S.2.2.2.2.1, S.2.2.2.2.2.1, S.2.2.2.2.2.2.1, S.2.2.2.2.2.2.2.1, S.2.2.2.2.2.2.2.2.1, r3.2))
 else
 some ((-1), S)
def f_X10_ill_98 (r_62 : VX10 → Int32 → Int32 → Int32 → Int32 → Option (Int32 × VX10)) (S : VX10) (v2 : Int32) (v3 : Int32) (v4 : Int32) (v5 : Int32) (t0 : Int32) : Option (Int32 × VX10) :=
 if t0 = (-9) then
 r_62 S v2 v3 v4 (v5 + 1)
 else
 if v3 = (-9) then
 r_62 S v2 t0 v5 (v5 + 1)
 else
 if v3 ≤ t0 then
 r_62 S v2 v3 v4 (v5 + 1)
 else
 r_62 S v2 t0 v5 (v5 + 1)
def f_X10_ill_62  : Nat → VX10 → Int32 → Int32 → Int32 → Int32 → Option (Int32 × VX10)
 | 0, _, _, _, _, _ => none
 | n + 1, S, v2, v3, v4, v5 =>
 (f_X2_cells S.2.2.2.2.1).bind fun r1 =>
 if r1 ≤ v5 then
 if v3 = (-9) then
 some (v3, S)
 else
 (f_X9_tell S.1 v4).bind fun r3 =>
 some (v3, (r3, S.2.1, S.2.2.1, S.2.2.2.1, S.2.2.2.2.1, S.2.2.2.2.2.1, S.2.2.2.2.2.2.1, S.2.2.2.2.2.2.2.1, S.2.2.2.2.2.2.2.2.1, S.2.2.2.2.2.2.2.2.2))
 else
 if ((v2 >>> (v5 &&& 31)) &&& (1 : Int32)) = 1 then
 (f_X4_leastFor S.2.2.2.2.2.2.1 v5).bind fun r5 =>
 f_X10_ill_98 (f_X10_ill_62 n) S v2 v3 v4 v5 r5
 else
 f_X10_ill_98 (f_X10_ill_62 n) S v2 v3 v4 v5 (-9)
def f_X10_ill (S : VX10) (v1 : Int32) : Option (Int32 × VX10) :=
 (f_X2_isCell S.2.2.2.2.1 v1).bind fun r7 =>
 if r7 = 0 then
 some ((-1), S)
 else
 (f_X10_reachAll S).bind fun r9 =>
 (f_X2_everyone r9.2.2.2.2.1).bind fun r11 =>
 (f_X2_foesOf r9.2.2.2.2.1 v1).bind fun r13 =>
 (f_X2_sprungOnes r9.2.2.2.2.1).bind fun r15 =>
 f_X10_ill_62 4096 r9 (((r11 &&& (r13 ^^^ ((-1) : Int32))) &&& (r15 ^^^ ((-1) : Int32))) &&& (((1 : Int32) <<< (v1 &&& 31)) ^^^ ((-1) : Int32))) (-9) (-9) 0
def f_X10_isYesOrNo  (v0 : Int32) : Option (Int32) :=
 if v0 = 0 then
 some 1
 else
 if v0 = 1 then
 some 1
 else
 some 0
def f_X10_jail (S : VX10) (v1 : Int32) : Option (Int32 × VX10) :=
 (f_X10_textRefusal S v1).bind fun r1 =>
 if r1.1 = 0 then
 (f_X5_read r1.2.2.2.2.1 r1.2.2.2.1 v1).bind fun r3 =>
 if r3.1 = (-9) then
 (f_X5_draft r3.2).bind fun r5 =>
 (f_X2_become r1.2.2.2.2.2.1 r3.2.1).bind fun r7 =>
 (f_X1_clear r1.2.2.2.2.2.2.1).bind fun r9 =>
 (f_X7_dropFrom r1.2.2.2.2.2.2.2.2.2.2 0).bind fun r11 =>
 (f_X2_cells r7).bind fun r13 =>
 some (r13, (r1.2.1, r1.2.2.1, r1.2.2.2.1, r3.2, r7, r9, r1.2.2.2.2.2.2.2.1, r1.2.2.2.2.2.2.2.2.1, r1.2.2.2.2.2.2.2.2.2.1, r11.2))
 else
 some ((-4), (r1.2.1, r1.2.2.1, r1.2.2.2.1, r3.2, r1.2.2.2.2.2.1, r1.2.2.2.2.2.2.1, r1.2.2.2.2.2.2.2.1, r1.2.2.2.2.2.2.2.2.1, r1.2.2.2.2.2.2.2.2.2.1, r1.2.2.2.2.2.2.2.2.2.2))
 else
 some (r1.1, r1.2)
def f_X10_keep (S : VX10) (v1 : Int32) : Option (Int32 × VX10) :=
 (f_X1_isNumber S.2.2.2.2.2.1 v1).bind fun r1 =>
 if r1 = 0 then
 some ((-1), S)
 else
 (f_X1_store S.2.2.2.2.2.1 v1).bind fun r3 =>
 (f_X1_howManyOut r3).bind fun r5 =>
 some (r5, (S.1, S.2.1, S.2.2.1, S.2.2.2.1, S.2.2.2.2.1, r3, S.2.2.2.2.2.2.1, S.2.2.2.2.2.2.2.1, S.2.2.2.2.2.2.2.2.1, S.2.2.2.2.2.2.2.2.2))
def f_X10_key (S : VX10) (v1 : Int32) (v2 : Int32) : Option (Int32 × VX10) :=
 (f_X2_isCell S.2.2.2.2.1 v1).bind fun r1 =>
 if r1 = 0 then
 some ((-1), S)
 else
 (f_X2_isCell S.2.2.2.2.1 v2).bind fun r3 =>
 if r3 = 0 then
 some ((-1), S)
 else
 if v1 = v2 then
 some ((-1), S)
 else
 (f_X2_mayKeep S.2.2.2.2.1 v1 v2).bind fun r5 =>
 if r5 = 0 then
 (f_X9_found S.1 3).bind fun r11 =>
 some (r11.1, (r11.2, S.2.1, S.2.2.1, S.2.2.2.1, S.2.2.2.2.1, S.2.2.2.2.2.1, S.2.2.2.2.2.2.1, S.2.2.2.2.2.2.2.1, S.2.2.2.2.2.2.2.2.1, S.2.2.2.2.2.2.2.2.2))
 else
 (f_X2_keeperOf S.2.2.2.2.1 v1).bind fun r7 =>
 (f_X2_setKeeper S.2.2.2.2.1 v1 v2).bind fun r9 =>
 some (r7, (S.1, S.2.1, S.2.2.1, S.2.2.2.1, r9, S.2.2.2.2.2.1, S.2.2.2.2.2.2.1, S.2.2.2.2.2.2.2.1, S.2.2.2.2.2.2.2.2.1, S.2.2.2.2.2.2.2.2.2))
def f_X10_lay (S : VX10) (v1 : Int32) (v2 : Int32) (v3 : Int32) : Option (Int32 × VX10) :=
 (f_X10_placeRefusal S v1 v2).bind fun r1 =>
 if r1.1 = 0 then
 (f_X6_get r1.2.2.1 v1 v2).bind fun r3 =>
 (f_X9_tell r1.2.1 r3).bind fun r5 =>
 (f_X6_set r1.2.2.1 v1 v2 v3).bind fun r7 =>
 some (1, (r5, r7, r1.2.2.2.1, r1.2.2.2.2.1, r1.2.2.2.2.2.1, r1.2.2.2.2.2.2.1, r1.2.2.2.2.2.2.2.1, r1.2.2.2.2.2.2.2.2.1, r1.2.2.2.2.2.2.2.2.2.1, r1.2.2.2.2.2.2.2.2.2.2))
 else
 some (r1.1, r1.2)
def f_X10_least (S : VX10) (v1 : Int32) : Option (Int32 × VX10) :=
 (f_X2_isSet S.2.2.2.2.1 v1).bind fun r1 =>
 if r1 = 0 then
 some ((-1), S)
 else
 (f_X10_reachAll S).bind fun r3 =>
 (f_X4_cheapestWith r3.2.2.2.2.2.2.1 v1).bind fun r5 =>
 if r5 = (-9) then
 some ((-9), r3)
 else
 (f_X9_tell r3.1 r5).bind fun r7 =>
 (f_X4_favoursOf r3.2.2.2.2.2.2.1 r5).bind fun r9 =>
 some (r9, (r7, r3.2.1, r3.2.2.1, r3.2.2.2.1, r3.2.2.2.2.1, r3.2.2.2.2.2.1, r3.2.2.2.2.2.2.1, r3.2.2.2.2.2.2.2.1, r3.2.2.2.2.2.2.2.2.1, r3.2.2.2.2.2.2.2.2.2))
def f_X10_let (S : VX10) (v1 : Int32) : Option (Int32 × VX10) :=
 (f_X10_can S v1).bind fun r1 =>
 if r1 < 0 then
 some (r1, S)
 else
 (f_X1_addOut S.2.2.2.2.2.1 v1 r1).bind fun r3 =>
 some (r1, (S.1, S.2.1, S.2.2.1, S.2.2.2.1, S.2.2.2.2.1, r3, S.2.2.2.2.2.2.1, S.2.2.2.2.2.2.2.1, S.2.2.2.2.2.2.2.2.1, S.2.2.2.2.2.2.2.2.2))
def f_X10_letRowOut_83  (S : VX10) (v3 : Int32) (v4 : Int32) : Option (Int32 × VX10) :=
 (f_X9_tell S.1 v3).bind fun r1 =>
 some (v4, (r1, S.2.1, S.2.2.1, S.2.2.2.1, S.2.2.2.2.1, S.2.2.2.2.2.1, S.2.2.2.2.2.2.1, S.2.2.2.2.2.2.2.1, S.2.2.2.2.2.2.2.2.1, S.2.2.2.2.2.2.2.2.2))
def f_X10_letRowOut_10  : Nat → VX10 → Int32 → Int32 → Int32 → Int32 → Int32 → Option (Int32 × VX10)
 | 0, _, _, _, _, _, _ => none
 | n + 1, S, v1, v2, v3, v4, v5 =>
 (f_X6_sizeOf S.2.1 v1).bind fun r3 =>
 if r3 ≤ v5 then
 f_X10_letRowOut_83 S v3 v4
 else
 (f_X6_get S.2.1 v1 v5).bind fun r5 =>
 (f_X2_everyone S.2.2.2.2.1).bind fun r7 =>
 (f_X2_favoursFor S.2.2.2.2.1 r5 v2 r7).bind fun r9 =>
 if 0 ≤ r9 then
 f_X10_letRowOut_10 n S v1 (v2 ||| ((1 : Int32) <<< (r5 &&& 31))) (v3 + r9) (v4 + 1) (v5 + 1)
 else
 f_X10_letRowOut_83 S v3 v4
def f_X10_letRowOut (S : VX10) (v1 : Int32) : Option (Int32 × VX10) :=
 f_X10_letRowOut_10 4096 S v1 0 0 0 0
def f_X10_tellsUnlikeCells_4  : Nat → VX10 → Int32 → Int32 → Int32 → Option (Int32)
 | 0, _, _, _, _ => none
 | n + 1, S, v1, v2, v3 =>
 (f_X6_sizeOf S.2.1 v1).bind fun r1 =>
 if r1 ≤ v3 then
 some 1
 else
 (f_X6_get S.2.1 v1 v3).bind fun r3 =>
 (f_X2_isCell S.2.2.2.2.1 r3).bind fun r5 =>
 if r5 = 0 then
 some 0
 else
 if ((v2 >>> (r3 &&& 31)) &&& (1 : Int32)) = 1 then
 some 0
 else
 f_X10_tellsUnlikeCells_4 n S v1 (v2 ||| ((1 : Int32) <<< (r3 &&& 31))) (v3 + 1)
def f_X10_tellsUnlikeCells (S : VX10) (v1 : Int32) : Option (Int32) :=
 f_X10_tellsUnlikeCells_4 4096 S v1 0 0
def f_X10_lets (S : VX10) (v1 : Int32) : Option (Int32 × VX10) :=
 (f_X10_rowRefusal S v1).bind fun r1 =>
 if r1.1 = 0 then
 (f_X6_sizeOf r1.2.2.1 v1).bind fun r3 =>
 (f_X2_cells r1.2.2.2.2.2.1).bind fun r5 =>
 if r3 ≤ r5 then
 (f_X10_tellsUnlikeCells r1.2 v1).bind fun r7 =>
 if r7 = 0 then
 (f_X9_found r1.2.1 3).bind fun r11 =>
 some (r11.1, (r11.2, r1.2.2.1, r1.2.2.2.1, r1.2.2.2.2.1, r1.2.2.2.2.2.1, r1.2.2.2.2.2.2.1, r1.2.2.2.2.2.2.2.1, r1.2.2.2.2.2.2.2.2.1, r1.2.2.2.2.2.2.2.2.2.1, r1.2.2.2.2.2.2.2.2.2.2))
 else
 (f_X10_letRowOut r1.2 v1).bind fun r9 =>
 some (r9.1, r9.2)
 else
 (f_X9_found r1.2.1 5).bind fun r13 =>
 some (r13.1, (r13.2, r1.2.2.1, r1.2.2.2.1, r1.2.2.2.2.1, r1.2.2.2.2.2.1, r1.2.2.2.2.2.2.1, r1.2.2.2.2.2.2.2.1, r1.2.2.2.2.2.2.2.2.1, r1.2.2.2.2.2.2.2.2.2.1, r1.2.2.2.2.2.2.2.2.2.2))
 else
 some (r1.1, r1.2)
def f_X10_lower (S : VX10)  : Option (Int64) :=
 (f_X9_lowerNumber S.1).bind fun r1 =>
 some r1
def f_X10_mark (S : VX10) (v1 : Int32) (v2 : Int32) : Option (Int32 × VX10) :=
 (f_X2_isCell S.2.2.2.2.1 v1).bind fun r1 =>
 if r1 = 0 then
 some ((-1), S)
 else
 if v2 ≤ 0 then
 some ((-1), S)
 else
 if v2 ≤ 5 then
 (f_X2_isOf S.2.2.2.2.1 v1 v2).bind fun r3 =>
 if r3 = 0 then
 (f_X9_found S.1 3).bind fun r7 =>
 some (r7.1, (r7.2, S.2.1, S.2.2.1, S.2.2.2.1, S.2.2.2.2.1, S.2.2.2.2.2.1, S.2.2.2.2.2.2.1, S.2.2.2.2.2.2.2.1, S.2.2.2.2.2.2.2.2.1, S.2.2.2.2.2.2.2.2.2))
 else
 (f_X2_markOf S.2.2.2.2.1 v1 v2).bind fun r5 =>
 some (r5, S)
 else
 some ((-1), S)
def f_X10_mean (S : VX10) (v1 : Int32) : Option (Int32 × VX10) :=
 (f_X10_rowRefusal S v1).bind fun r1 =>
 if r1.1 = 0 then
 (f_X6_sizeOf r1.2.2.1 v1).bind fun r3 =>
 if 1 ≤ r3 then
 (f_X6_sumOf r1.2.2.1 v1).bind fun r5 =>
 if r3.toInt64 = 0 then none else
 (f_X9_tell r1.2.1 ((r5 / r3.toInt64).toInt32)).bind fun r8 =>
 some (1, (r8, r1.2.2.1, r1.2.2.2.1, r1.2.2.2.2.1, r1.2.2.2.2.2.1, r1.2.2.2.2.2.2.1, r1.2.2.2.2.2.2.2.1, r1.2.2.2.2.2.2.2.2.1, r1.2.2.2.2.2.2.2.2.2.1, r1.2.2.2.2.2.2.2.2.2.2))
 else
 (f_X9_found r1.2.1 4).bind fun r10 =>
 some (r10.1, (r10.2, r1.2.2.1, r1.2.2.2.1, r1.2.2.2.2.1, r1.2.2.2.2.2.1, r1.2.2.2.2.2.2.1, r1.2.2.2.2.2.2.2.1, r1.2.2.2.2.2.2.2.2.1, r1.2.2.2.2.2.2.2.2.2.1, r1.2.2.2.2.2.2.2.2.2.2))
 else
 some (r1.1, r1.2)
def f_X10_most (S : VX10)  : Option (Int32 × VX10) :=
 (f_X10_reachAll S).bind fun r1 =>
 (f_X4_greatest r1.2.2.2.2.2.2.1).bind fun r3 =>
 (f_X4_favoursOf r1.2.2.2.2.2.2.1 r3).bind fun r5 =>
 (f_X9_tell r1.1 r5).bind fun r7 =>
 some (r3, (r7, r1.2.1, r1.2.2.1, r1.2.2.2.1, r1.2.2.2.2.1, r1.2.2.2.2.2.1, r1.2.2.2.2.2.2.1, r1.2.2.2.2.2.2.2.1, r1.2.2.2.2.2.2.2.2.1, r1.2.2.2.2.2.2.2.2.2))
def f_X10_odds_32  : Nat → VX10 → Int32 → Int32 → Int32 → Int32 → Int32 → Option (Int32 × VX10)
 | 0, _, _, _, _, _, _ => none
 | n + 1, S, v1, v2, v3, v4, v5 =>
 (f_X2_everyone S.2.2.2.2.1).bind fun r1 =>
 if r1 < v5 then
 if v3 = 0 then
 (f_X9_found S.1 4).bind fun r5 =>
 some (r5.1, (r5.2, S.2.1, S.2.2.1, S.2.2.2.1, S.2.2.2.2.1, S.2.2.2.2.2.1, S.2.2.2.2.2.2.1, S.2.2.2.2.2.2.2.1, S.2.2.2.2.2.2.2.2.1, S.2.2.2.2.2.2.2.2.2))
 else
 (f_X9_tellFraction S.1 v4 v3).bind fun r3 =>
 some (v4, (r3, S.2.1, S.2.2.1, S.2.2.2.1, S.2.2.2.2.1, S.2.2.2.2.2.1, S.2.2.2.2.2.2.1, S.2.2.2.2.2.2.2.1, S.2.2.2.2.2.2.2.2.1, S.2.2.2.2.2.2.2.2.2))
 else
 (f_X10_fitsNight S v5 v1).bind fun r7 =>
 if r7 = 0 then
 f_X10_odds_32 n S v1 v2 v3 v4 (v5 + 1)
 else
 f_X10_odds_32 n S v1 v2 (v3 + 1) (v4 + ((v5 >>> (v2 &&& 31)) &&& (1 : Int32))) (v5 + 1)
def f_X10_odds (S : VX10) (v1 : Int32) (v2 : Int32) : Option (Int32 × VX10) :=
 (f_X10_isFavours v1).bind fun r9 =>
 if r9 = 0 then
 some ((-1), S)
 else
 (f_X2_isCell S.2.2.2.2.1 v2).bind fun r11 =>
 if r11 = 0 then
 some ((-1), S)
 else
 (f_X10_reachAll S).bind fun r13 =>
 f_X10_odds_32 4096 r13 v1 v2 0 0 0
def f_X10_on (S : VX10) (v1 : Int32) : Option (Int32 × VX10) :=
 (f_X1_isNumber S.2.2.2.2.2.1 v1).bind fun r1 =>
 if r1 = 0 then
 some ((-1), S)
 else
 (f_X1_isKept S.2.2.2.2.2.1 v1).bind fun r3 =>
 if r3 = 0 then
 (f_X9_found S.1 1).bind fun r9 =>
 some (r9.1, (r9.2, S.2.1, S.2.2.1, S.2.2.2.1, S.2.2.2.2.1, S.2.2.2.2.2.1, S.2.2.2.2.2.2.1, S.2.2.2.2.2.2.2.1, S.2.2.2.2.2.2.2.2.1, S.2.2.2.2.2.2.2.2.2))
 else
 (f_X1_restore S.2.2.2.2.2.1 v1).bind fun r5 =>
 (f_X1_howManyOut r5).bind fun r7 =>
 some (r7, (S.1, S.2.1, S.2.2.1, S.2.2.2.1, S.2.2.2.2.1, r5, S.2.2.2.2.2.2.1, S.2.2.2.2.2.2.2.1, S.2.2.2.2.2.2.2.2.1, S.2.2.2.2.2.2.2.2.2))
def f_X10_order_65  : Nat → VX10 → Int32 → Int32 → Int32 → Int32 → Option (Int32 × VX10)
 | 0, _, _, _, _, _ => none
 | n + 1, S, v2, v3, v4, v5 =>
 if v4 ≤ v5 then
 some (v3, S)
 else
 (f_X3_stepAt S.2.2.2.2.2.2.2.1 v5).bind fun r1 =>
 (f_X6_set S.2.1 v2 v5 r1).bind fun r3 =>
 f_X10_order_65 n (S.1, r3, S.2.2.1, S.2.2.2.1, S.2.2.2.2.1, S.2.2.2.2.2.1, S.2.2.2.2.2.2.1, S.2.2.2.2.2.2.2.1, S.2.2.2.2.2.2.2.2.1, S.2.2.2.2.2.2.2.2.2) v2 v3 v4 (v5 + 1)
def f_X10_order (S : VX10) (v1 : Int32) (v2 : Int32) : Option (Int32 × VX10) :=
 (f_X2_isSet S.2.2.2.2.1 v1).bind fun r5 =>
 if r5 = 0 then
 some ((-1), S)
 else
 (f_X6_isNumber S.2.1 v2).bind fun r7 =>
 if r7 = 0 then
 some ((-1), S)
 else
 (f_X3_findFirst S.2.2.2.2.2.2.2.1 S.2.2.2.2.1 v1).bind fun r9 =>
 if r9.1 = (-9) then
 some ((-9), (S.1, S.2.1, S.2.2.1, S.2.2.2.1, S.2.2.2.2.1, S.2.2.2.2.2.1, S.2.2.2.2.2.2.1, r9.2, S.2.2.2.2.2.2.2.2.1, S.2.2.2.2.2.2.2.2.2))
 else
 (f_J6_bitCount_0f7a4 v1).bind fun r11 =>
 (f_X6_make S.2.1 v2 r11).bind fun r13 =>
 f_X10_order_65 4096 (S.1, r13, S.2.2.1, S.2.2.2.1, S.2.2.2.2.1, S.2.2.2.2.2.1, S.2.2.2.2.2.2.1, r9.2, S.2.2.2.2.2.2.2.2.1, S.2.2.2.2.2.2.2.2.2) v2 r9.1 r11 0
def f_X10_out (S : VX10)  : Option (Int32 × VX10) :=
 (f_X1_favours S.2.2.2.2.2.1).bind fun r1 =>
 (f_X9_tell S.1 r1).bind fun r3 =>
 (f_X1_whoIsOut S.2.2.2.2.2.1).bind fun r5 =>
 some (r5, (r3, S.2.1, S.2.2.1, S.2.2.2.1, S.2.2.2.2.1, S.2.2.2.2.2.1, S.2.2.2.2.2.2.1, S.2.2.2.2.2.2.2.1, S.2.2.2.2.2.2.2.2.1, S.2.2.2.2.2.2.2.2.2))
def f_X10_put (S : VX10) (v1 : Int32) (v2 : Int32) (v3 : Int32) : Option (Int32 × VX10) :=
 (f_X10_textRefusal S v1).bind fun r1 =>
 if r1.1 = 0 then
 (f_X8_isPlace r1.2.2.2.1 v1 v2).bind fun r3 =>
 if r3 = 0 then
 (f_X9_found r1.2.1 2).bind fun r9 =>
 some (r9.1, (r9.2, r1.2.2.1, r1.2.2.2.1, r1.2.2.2.2.1, r1.2.2.2.2.2.1, r1.2.2.2.2.2.2.1, r1.2.2.2.2.2.2.2.1, r1.2.2.2.2.2.2.2.2.1, r1.2.2.2.2.2.2.2.2.2.1, r1.2.2.2.2.2.2.2.2.2.2))
 else
 (f_X8_get r1.2.2.2.1 v1 v2).bind fun r5 =>
 (f_X8_set r1.2.2.2.1 v1 v2 v3.toInt8.toInt32).bind fun r7 =>
 some ((r5 + (1000 : Int32)), (r1.2.1, r1.2.2.1, r7, r1.2.2.2.2.1, r1.2.2.2.2.2.1, r1.2.2.2.2.2.2.1, r1.2.2.2.2.2.2.2.1, r1.2.2.2.2.2.2.2.2.1, r1.2.2.2.2.2.2.2.2.2.1, r1.2.2.2.2.2.2.2.2.2.2))
 else
 some (r1.1, r1.2)
def f_X10_quarrel (S : VX10) (v1 : Int32) (v2 : Int32) (v3 : Int32) : Option (Int32 × VX10) :=
 (f_X2_isCell S.2.2.2.2.1 v1).bind fun r1 =>
 if r1 = 0 then
 some ((-1), S)
 else
 (f_X2_isCell S.2.2.2.2.1 v2).bind fun r3 =>
 if r3 = 0 then
 some ((-1), S)
 else
 if v1 = v2 then
 some ((-1), S)
 else
 (f_X10_isYesOrNo v3).bind fun r5 =>
 if r5 = 0 then
 some ((-1), S)
 else
 (f_X2_foesOf S.2.2.2.2.1 v1).bind fun r7 =>
 (f_X2_setQuarrel S.2.2.2.2.1 v1 v2 v3).bind fun r9 =>
 some (((r7 >>> (v2 &&& 31)) &&& (1 : Int32)), (S.1, S.2.1, S.2.2.1, S.2.2.2.1, r9, S.2.2.2.2.2.1, S.2.2.2.2.2.2.1, S.2.2.2.2.2.2.2.1, S.2.2.2.2.2.2.2.2.1, S.2.2.2.2.2.2.2.2.2))
def f_X10_reached (S : VX10)  : Option (Int32 × VX10) :=
 (f_X10_reachAll S).bind fun r1 =>
 (f_X4_greatest r1.2.2.2.2.2.2.1).bind fun r3 =>
 (f_J6_bitCount_0f7a4 r3).bind fun r5 =>
 (f_X9_tell r1.1 r5).bind fun r7 =>
 (f_X4_howMany r1.2.2.2.2.2.2.1).bind fun r9 =>
 some (r9, (r7, r1.2.1, r1.2.2.1, r1.2.2.2.1, r1.2.2.2.2.1, r1.2.2.2.2.2.1, r1.2.2.2.2.2.2.1, r1.2.2.2.2.2.2.2.1, r1.2.2.2.2.2.2.2.2.1, r1.2.2.2.2.2.2.2.2.2))
def f_X10_ring (S : VX10) (v1 : Int32) : Option (Int32 × VX10) :=
 (f_X2_isCell S.2.2.2.2.1 v1).bind fun r1 =>
 if r1 = 0 then
 some ((-1), S)
 else
 (f_X2_farFrom S.2.2.2.2.1 v1).bind fun r3 =>
 (f_X2_metFrom S.2.2.2.2.1 r3).bind fun r5 =>
 (f_X9_tell S.1 r5).bind fun r7 =>
 (f_X2_metFrom S.2.2.2.2.1 v1).bind fun r9 =>
 some (r9, (r7, S.2.1, S.2.2.1, S.2.2.2.1, S.2.2.2.2.1, S.2.2.2.2.2.1, S.2.2.2.2.2.2.1, S.2.2.2.2.2.2.2.1, S.2.2.2.2.2.2.2.2.1, S.2.2.2.2.2.2.2.2.2))
def f_X10_row (S : VX10) (v1 : Int32) (v2 : Int32) : Option (Int32 × VX10) :=
 (f_X6_isNumber S.2.1 v1).bind fun r1 =>
 if r1 = 0 then
 some ((-1), S)
 else
 if v2 ≤ 60 then
 if 0 ≤ v2 then
 (f_X6_make S.2.1 v1 v2).bind fun r3 =>
 some (v2, (S.1, r3, S.2.2.1, S.2.2.2.1, S.2.2.2.2.1, S.2.2.2.2.2.1, S.2.2.2.2.2.2.1, S.2.2.2.2.2.2.2.1, S.2.2.2.2.2.2.2.2.1, S.2.2.2.2.2.2.2.2.2))
 else
 (f_X9_found S.1 5).bind fun r5 =>
 some (r5.1, (r5.2, S.2.1, S.2.2.1, S.2.2.2.1, S.2.2.2.2.1, S.2.2.2.2.2.1, S.2.2.2.2.2.2.1, S.2.2.2.2.2.2.2.1, S.2.2.2.2.2.2.2.2.1, S.2.2.2.2.2.2.2.2.2))
 else
 some ((-1), S)
def f_X10_saw (S : VX10) (v1 : Int32) (v2 : Int32) : Option (Int32 × VX10) :=
 (f_X2_isCell S.2.2.2.2.1 v1).bind fun r1 =>
 if r1 = 0 then
 some ((-1), S)
 else
 (f_X10_isYesOrNo v2).bind fun r3 =>
 if r3 = 0 then
 some ((-1), S)
 else
 (f_X7_isFull S.2.2.2.2.2.2.2.2.2).bind fun r5 =>
 if r5 = 0 then
 (f_X7_add S.2.2.2.2.2.2.2.2.2 v1 v2).bind fun r7 =>
 some (r7.1, (S.1, S.2.1, S.2.2.1, S.2.2.2.1, S.2.2.2.2.1, S.2.2.2.2.2.1, S.2.2.2.2.2.2.1, S.2.2.2.2.2.2.2.1, S.2.2.2.2.2.2.2.2.1, r7.2))
 else
 some ((-2), S)
def f_X10_tear (S : VX10) (v1 : Int32) : Option (Int32 × VX10) :=
 (f_X10_rowRefusal S v1).bind fun r1 =>
 if r1.1 = 0 then
 (f_X6_remove r1.2.2.1 v1).bind fun r3 =>
 some (1, (r1.2.1, r3, r1.2.2.2.1, r1.2.2.2.2.1, r1.2.2.2.2.2.1, r1.2.2.2.2.2.2.1, r1.2.2.2.2.2.2.2.1, r1.2.2.2.2.2.2.2.2.1, r1.2.2.2.2.2.2.2.2.2.1, r1.2.2.2.2.2.2.2.2.2.2))
 else
 some (r1.1, r1.2)
def f_X10_text (S : VX10) (v1 : Int32) (v2 : Int32) : Option (Int32 × VX10) :=
 (f_X8_isNumber S.2.2.1 v1).bind fun r1 =>
 if r1 = 0 then
 some ((-1), S)
 else
 if v2 ≤ 100 then
 if 0 ≤ v2 then
 (f_X8_make S.2.2.1 v1 v2).bind fun r3 =>
 some (v2, (S.1, S.2.1, r3, S.2.2.2.1, S.2.2.2.2.1, S.2.2.2.2.2.1, S.2.2.2.2.2.2.1, S.2.2.2.2.2.2.2.1, S.2.2.2.2.2.2.2.2.1, S.2.2.2.2.2.2.2.2.2))
 else
 (f_X9_found S.1 5).bind fun r5 =>
 some (r5.1, (r5.2, S.2.1, S.2.2.1, S.2.2.2.1, S.2.2.2.2.1, S.2.2.2.2.2.1, S.2.2.2.2.2.2.1, S.2.2.2.2.2.2.2.1, S.2.2.2.2.2.2.2.2.1, S.2.2.2.2.2.2.2.2.2))
 else
 some ((-1), S)
def f_X10_trades_2  : Nat → VX10 → Int32 → Option (Int32 × VX10)
 | 0, _, _ => none
 | n + 1, S, v1 =>
 if 20 ≤ v1 then
 some (v1, S)
 else
 (f_X0_tradeOnce S.2.2.2.2.2.2.2.2.1 S.2.2.2.2.1).bind fun r1 =>
 if r1.1 = 0 then
 some (v1, (S.1, S.2.1, S.2.2.1, S.2.2.2.1, r1.2.2, S.2.2.2.2.2.1, S.2.2.2.2.2.2.1, S.2.2.2.2.2.2.2.1, r1.2.1, S.2.2.2.2.2.2.2.2.2))
 else
 f_X10_trades_2 n (S.1, S.2.1, S.2.2.1, S.2.2.2.1, r1.2.2, S.2.2.2.2.2.1, S.2.2.2.2.2.2.1, S.2.2.2.2.2.2.2.1, r1.2.1, S.2.2.2.2.2.2.2.2.2) (v1 + 1)
def f_X10_trades (S : VX10)  : Option (Int32 × VX10) :=
 f_X10_trades_2 4096 S 0
def f_X10_upper (S : VX10)  : Option (Int64) :=
 (f_X9_upperNumber S.1).bind fun r1 =>
 some r1
def f_X10_ways (S : VX10) (v1 : Int32) : Option (Int32 × VX10) :=
 (f_X2_isSet S.2.2.2.2.1 v1).bind fun r1 =>
 if r1 = 0 then
 some ((-1), S)
 else
 (f_X3_howMany S.2.2.2.2.2.2.2.1 S.2.2.2.2.1 v1).bind fun r3 =>
 some (r3.1, (S.1, S.2.1, S.2.2.1, S.2.2.2.1, S.2.2.2.2.1, S.2.2.2.2.2.1, S.2.2.2.2.2.2.1, r3.2, S.2.2.2.2.2.2.2.2.1, S.2.2.2.2.2.2.2.2.2))
def f_X10_without (S : VX10) (v1 : Int32) : Option (Int32 × VX10) :=
 (f_X2_isCell S.2.2.2.2.1 v1).bind fun r1 =>
 if r1 = 0 then
 some ((-1), S)
 else
 (f_X10_reachAll S).bind fun r3 =>
 (f_X4_howMany r3.2.2.2.2.2.2.1).bind fun r5 =>
 (f_X4_inSome r3.2.2.2.2.2.2.1).bind fun r7 =>
 (f_X2_everyone r3.2.2.2.2.1).bind fun r9 =>
 (f_X4_fill r3.2.2.2.2.2.2.1 r3.2.2.2.2.1 (r9 &&& (((1 : Int32) <<< (v1 &&& 31)) ^^^ ((-1) : Int32)))).bind fun r11 =>
 (f_X4_inSome r11).bind fun r13 =>
 (f_X9_tell r3.1 ((r7 &&& (r13 ^^^ ((-1) : Int32))) &&& (r9 &&& (((1 : Int32) <<< (v1 &&& 31)) ^^^ ((-1) : Int32))))).bind fun r15 =>
 (f_X4_howMany r11).bind fun r17 =>
 some ((r5 - r17), (r15, r3.2.1, r3.2.2.1, r3.2.2.2.1, r3.2.2.2.2.1, r3.2.2.2.2.2.1, r11, r3.2.2.2.2.2.2.2.1, r3.2.2.2.2.2.2.2.2.1, r3.2.2.2.2.2.2.2.2.2))
def f_X11_all (S : VX11)  : Option (Int32) :=
 some (((1 : Int32) <<< (S.2.2.2.2.2.2.2.2.2.2.1 &&& 31)) - (1 : Int32))
def f_X11_asked (S : VX11)  : Option (Int32) :=
 some S.2.2.1
def f_X11_in  (v0 : Int32) (v1 : Int32) (v2 : Int32) : Option (Int32) :=
 if v0 < v1 then
 some 0
 else
 if v2 < v0 then
 some 0
 else
 some 1
def f_X11_isRow  (v0 : Int32) : Option (Int32) :=
 (f_X11_in v0 0 5).bind fun r1 =>
 if r1 = 0 ∨ r1 = 1 then
 some r1
 else none
def f_X11_meets (S : VX11) (v1 : Int32) : Option (Int32 × VX11) :=
 if zIn v1 6 = true then
 if zIn v1 6 = true then
 some ((-3), (v1, (upd S.2.1 v1.toNatClampNeg ((S.2.1 v1.toNatClampNeg) + (1 : Int32))), S.2.2.1, S.2.2.2.1, S.2.2.2.2.1, S.2.2.2.2.2.1, S.2.2.2.2.2.2.1, S.2.2.2.2.2.2.2.1, S.2.2.2.2.2.2.2.2.1, S.2.2.2.2.2.2.2.2.2.1, S.2.2.2.2.2.2.2.2.2.2.1, S.2.2.2.2.2.2.2.2.2.2.2.1, S.2.2.2.2.2.2.2.2.2.2.2.2.1, S.2.2.2.2.2.2.2.2.2.2.2.2.2.1, S.2.2.2.2.2.2.2.2.2.2.2.2.2.2.1, S.2.2.2.2.2.2.2.2.2.2.2.2.2.2.2.1, S.2.2.2.2.2.2.2.2.2.2.2.2.2.2.2.2.1, S.2.2.2.2.2.2.2.2.2.2.2.2.2.2.2.2.2.1, S.2.2.2.2.2.2.2.2.2.2.2.2.2.2.2.2.2.2.1, S.2.2.2.2.2.2.2.2.2.2.2.2.2.2.2.2.2.2.2.1, S.2.2.2.2.2.2.2.2.2.2.2.2.2.2.2.2.2.2.2.2.1, S.2.2.2.2.2.2.2.2.2.2.2.2.2.2.2.2.2.2.2.2.2.1, S.2.2.2.2.2.2.2.2.2.2.2.2.2.2.2.2.2.2.2.2.2.2.1, S.2.2.2.2.2.2.2.2.2.2.2.2.2.2.2.2.2.2.2.2.2.2.2.1, S.2.2.2.2.2.2.2.2.2.2.2.2.2.2.2.2.2.2.2.2.2.2.2.2.1, S.2.2.2.2.2.2.2.2.2.2.2.2.2.2.2.2.2.2.2.2.2.2.2.2.2.1, S.2.2.2.2.2.2.2.2.2.2.2.2.2.2.2.2.2.2.2.2.2.2.2.2.2.2.1, S.2.2.2.2.2.2.2.2.2.2.2.2.2.2.2.2.2.2.2.2.2.2.2.2.2.2.2.1, S.2.2.2.2.2.2.2.2.2.2.2.2.2.2.2.2.2.2.2.2.2.2.2.2.2.2.2.2.1, S.2.2.2.2.2.2.2.2.2.2.2.2.2.2.2.2.2.2.2.2.2.2.2.2.2.2.2.2.2.1, S.2.2.2.2.2.2.2.2.2.2.2.2.2.2.2.2.2.2.2.2.2.2.2.2.2.2.2.2.2.2))
 else none
 else none
def f_X11_rowAt (S : VX11) (v1 : Int32) (v2 : Int32) : Option (Int32) :=
 if zIn (((60 : Int32) * v1) + v2) 360 = true then
 some (S.2.2.2.2.2.2.1 (((60 : Int32) * v1) + v2).toNatClampNeg)
 else none
def f_X11_tells (S : VX11) (v1 : Int32) (v2 : Int32) : Option (Int32 × VX11) :=
 some (v2, (S.1, S.2.1, v1, S.2.2.2.1, S.2.2.2.2.1, S.2.2.2.2.2.1, S.2.2.2.2.2.2.1, S.2.2.2.2.2.2.2.1, S.2.2.2.2.2.2.2.2.1, S.2.2.2.2.2.2.2.2.2.1, S.2.2.2.2.2.2.2.2.2.2.1, S.2.2.2.2.2.2.2.2.2.2.2.1, S.2.2.2.2.2.2.2.2.2.2.2.2.1, S.2.2.2.2.2.2.2.2.2.2.2.2.2.1, S.2.2.2.2.2.2.2.2.2.2.2.2.2.2.1, S.2.2.2.2.2.2.2.2.2.2.2.2.2.2.2.1, S.2.2.2.2.2.2.2.2.2.2.2.2.2.2.2.2.1, S.2.2.2.2.2.2.2.2.2.2.2.2.2.2.2.2.2.1, S.2.2.2.2.2.2.2.2.2.2.2.2.2.2.2.2.2.2.1, S.2.2.2.2.2.2.2.2.2.2.2.2.2.2.2.2.2.2.2.1, S.2.2.2.2.2.2.2.2.2.2.2.2.2.2.2.2.2.2.2.2.1, S.2.2.2.2.2.2.2.2.2.2.2.2.2.2.2.2.2.2.2.2.2.1, S.2.2.2.2.2.2.2.2.2.2.2.2.2.2.2.2.2.2.2.2.2.2.1, S.2.2.2.2.2.2.2.2.2.2.2.2.2.2.2.2.2.2.2.2.2.2.2.1, S.2.2.2.2.2.2.2.2.2.2.2.2.2.2.2.2.2.2.2.2.2.2.2.2.1, S.2.2.2.2.2.2.2.2.2.2.2.2.2.2.2.2.2.2.2.2.2.2.2.2.2.1, S.2.2.2.2.2.2.2.2.2.2.2.2.2.2.2.2.2.2.2.2.2.2.2.2.2.2.1, S.2.2.2.2.2.2.2.2.2.2.2.2.2.2.2.2.2.2.2.2.2.2.2.2.2.2.2.1, S.2.2.2.2.2.2.2.2.2.2.2.2.2.2.2.2.2.2.2.2.2.2.2.2.2.2.2.2.1, S.2.2.2.2.2.2.2.2.2.2.2.2.2.2.2.2.2.2.2.2.2.2.2.2.2.2.2.2.2.1, S.2.2.2.2.2.2.2.2.2.2.2.2.2.2.2.2.2.2.2.2.2.2.2.2.2.2.2.2.2.2))
def f_X11_at (S : VX11) (v1 : Int32) (v2 : Int32) : Option (Int32 × VX11) :=
 (f_X11_isRow v1).bind fun r1 =>
 if r1 = 0 then
 some ((-1), S)
 else
 if zIn v1 6 = true then
 if 0 ≤ (S.2.2.2.2.2.1 v1.toNatClampNeg) then
 if zIn v1 6 = true then
 (f_X11_in v2 0 ((S.2.2.2.2.2.1 v1.toNatClampNeg) - (1 : Int32))).bind fun r5 =>
 if r5 = 0 then
 (f_X11_meets S 2).bind fun r7 =>
 some (r7.1, r7.2)
 else
 (f_X11_rowAt S v1 v2).bind fun r9 =>
 (f_X11_tells S r9 1).bind fun r11 =>
 some (r11.1, r11.2)
 else none
 else
 (f_X11_meets S 1).bind fun r13 =>
 some (r13.1, r13.2)
 else none
def f_X11_isSet (S : VX11) (v1 : Int32) : Option (Int32) :=
 (f_X11_all S).bind fun r1 =>
 (f_X11_in v1 0 r1).bind fun r3 =>
 if r3 = 0 ∨ r3 = 1 then
 some r3
 else none
def f_X11_has  (v0 : Int32) (v1 : Int32) : Option (Int32) :=
 if ((v0 >>> (v1 &&& 31)) &&& (1 : Int32)) = 1 then
 some 1
 else
 some 0
def f_X11_kind (S : VX11) (v1 : Int32) : Option (Int32) :=
 if zIn ((4 : Int32) * v1) 32 = true then
 some (S.2.2.2.2.2.2.2.2.2.2.2.1 ((4 : Int32) * v1).toNatClampNeg)
 else none
def f_X11_isLate (S : VX11) (v1 : Int32) : Option (Int32) :=
 (f_X11_kind S v1).bind fun r1 =>
 if r1 = 3 then
 some 1
 else
 (f_X11_kind S v1).bind fun r3 =>
 if r3 = 4 then
 some 1
 else
 some 0
def f_X11_bits_4  : Nat → Int32 → Int32 → Option (Int32)
 | 0, _, _ => none
 | n + 1, v1, v2 =>
 if v2 = 0 then
 some v1
 else
 f_X11_bits_4 n (v1 + 1) (v2 &&& (v2 - (1 : Int32)))
def f_X11_bits  (v0 : Int32) : Option (Int32) :=
 f_X11_bits_4 4096 0 v0
def f_X11_keeper (S : VX11) (v1 : Int32) : Option (Int32) :=
 if zIn (((4 : Int32) * v1) + (1 : Int32)) 32 = true then
 some (S.2.2.2.2.2.2.2.2.2.2.2.1 (((4 : Int32) * v1) + (1 : Int32)).toNatClampNeg)
 else none
def f_X11_doQuarrel (S : VX11) (v1 : Int32) (v2 : Int32) : Option (Int32) :=
 if zIn v1 8 = true then
 (f_X11_has (S.2.2.2.2.2.2.2.2.2.2.2.2.1 v1.toNatClampNeg) v2).bind fun r2 =>
 if r2 = 0 ∨ r2 = 1 then
 some r2
 else none
 else none
def f_X11_lesser  (v0 : Int32) (v1 : Int32) : Option (Int32) :=
 if v1 ≤ v0 then
 some v1
 else
 some v0
def f_X11_greater  (v0 : Int32) (v1 : Int32) : Option (Int32) :=
 if v0 ≤ v1 then
 some v1
 else
 some v0
def f_X11_far  (v0 : Int32) (v1 : Int32) : Option (Int32) :=
 if v1 ≤ v0 then
 some (v0 - v1)
 else
 some (v1 - v0)
def f_X11_keyCost_106 (r_51 : VX11 → Int32 → Int32 → Int32 → Int32 → Int32 → Int32 → Option (Int32)) (S : VX11) (v1 : Int32) (v2 : Int32) (v3 : Int32) (v4 : Int32) (v5 : Int32) (v6 : Int32) (t0 : Int32) : Option (Int32) :=
 if t0 = 0 then
 r_51 S v1 v2 v3 v4 v5 (v6 + 1)
 else
 (f_X11_lesser v5 2).bind fun r1 =>
 r_51 S v1 v2 v3 v4 r1 (v6 + 1)
def f_X11_keyCost_174  : Nat → VX11 → Int32 → Int32 → Int32 → Int32 → Int32 → Int32 → Int32 → Option (Int32)
 | 0, _, _, _, _, _, _, _, _ => none
 | n + 1, S, v1, v2, v3, v4, v5, v6, v7 =>
 (f_X11_greater v1 v2).bind fun r3 =>
 if r3 ≤ v7 then
 if v6 = 0 then
 some v5
 else
 (f_X11_far v1 v2).bind fun r5 =>
 (f_X11_lesser v5 r5).bind fun r7 =>
 some r7
 else
 if v6 = 0 then
 f_X11_keyCost_174 n S v1 v2 v3 v4 v5 0 (v7 + 1)
 else
 (f_X11_has v3 v7).bind fun r9 =>
 if r9 = 0 then
 (f_X11_has v4 v7).bind fun r11 =>
 if r11 = 0 then
 f_X11_keyCost_174 n S v1 v2 v3 v4 v5 0 (v7 + 1)
 else
 (f_X11_kind S v7).bind fun r13 =>
 if r13 = 5 then
 f_X11_keyCost_174 n S v1 v2 v3 v4 v5 0 (v7 + 1)
 else
 (f_X11_doQuarrel S v1 v7).bind fun r15 =>
 if r15 = 0 then
 f_X11_keyCost_174 n S v1 v2 v3 v4 v5 1 (v7 + 1)
 else
 f_X11_keyCost_174 n S v1 v2 v3 v4 v5 0 (v7 + 1)
 else
 f_X11_keyCost_174 n S v1 v2 v3 v4 v5 0 (v7 + 1)
def f_X11_keyCost_163  (S : VX11) (v1 : Int32) (v2 : Int32) (v3 : Int32) (v4 : Int32) (v5 : Int32) (t0 : Int32) : Option (Int32) :=
 (f_X11_lesser v1 v2).bind fun r17 =>
 f_X11_keyCost_174 4096 S v1 v2 v3 v4 v5 t0 (r17 + (1 : Int32))
def f_X11_keyCost_51  : Nat → VX11 → Int32 → Int32 → Int32 → Int32 → Int32 → Int32 → Option (Int32)
 | 0, _, _, _, _, _, _, _ => none
 | n + 1, S, v1, v2, v3, v4, v5, v6 =>
 if S.2.2.2.2.2.2.2.2.2.2.1 ≤ v6 then
 (f_X11_has v3 v2).bind fun r19 =>
 if r19 = 0 then
 (f_X11_kind S v1).bind fun r21 =>
 if r21 = 5 then
 f_X11_keyCost_163 S v1 v2 v3 v4 v5 0
 else
 (f_X11_kind S v2).bind fun r23 =>
 if r23 = 5 then
 f_X11_keyCost_163 S v1 v2 v3 v4 v5 0
 else
 f_X11_keyCost_163 S v1 v2 v3 v4 v5 1
 else
 f_X11_keyCost_163 S v1 v2 v3 v4 v5 0
 else
 (f_X11_has v3 v6).bind fun r25 =>
 if r25 = 0 then
 f_X11_keyCost_106 (f_X11_keyCost_51 n) S v1 v2 v3 v4 v5 v6 0
 else
 if v6 = v2 then
 f_X11_keyCost_106 (f_X11_keyCost_51 n) S v1 v2 v3 v4 v5 v6 0
 else
 if v6 = v1 then
 f_X11_keyCost_106 (f_X11_keyCost_51 n) S v1 v2 v3 v4 v5 v6 0
 else
 (f_X11_kind S v6).bind fun r27 =>
 if r27 = 4 then
 f_X11_keyCost_106 (f_X11_keyCost_51 n) S v1 v2 v3 v4 v5 v6 0
 else
 (f_X11_doQuarrel S v1 v6).bind fun r29 =>
 if r29 = 0 then
 f_X11_keyCost_106 (f_X11_keyCost_51 n) S v1 v2 v3 v4 v5 v6 1
 else
 f_X11_keyCost_106 (f_X11_keyCost_51 n) S v1 v2 v3 v4 v5 v6 0
def f_X11_keyCost (S : VX11) (v1 : Int32) (v2 : Int32) (v3 : Int32) (v4 : Int32) : Option (Int32) :=
 (f_X11_has v4 v2).bind fun r31 =>
 if r31 = 0 then
 some 1000
 else
 (f_X11_doQuarrel S v1 v2).bind fun r33 =>
 if r33 = 0 then
 (f_X11_has v3 v2).bind fun r35 =>
 if r35 = 0 then
 f_X11_keyCost_51 4096 S v1 v2 v3 v4 1000 0
 else
 (f_X11_kind S v2).bind fun r37 =>
 if r37 = 4 then
 f_X11_keyCost_51 4096 S v1 v2 v3 v4 1000 0
 else
 f_X11_keyCost_51 4096 S v1 v2 v3 v4 1 0
 else
 some 1000
def f_X11_isTwo (S : VX11) (v1 : Int32) : Option (Int32) :=
 (f_X11_kind S v1).bind fun r1 =>
 if r1 = 1 then
 some 1
 else
 (f_X11_kind S v1).bind fun r3 =>
 if r3 = 5 then
 some 1
 else
 some 0
def f_X11_otherKeeper (S : VX11) (v1 : Int32) : Option (Int32) :=
 if zIn (((4 : Int32) * v1) + (2 : Int32)) 32 = true then
 some (S.2.2.2.2.2.2.2.2.2.2.2.1 (((4 : Int32) * v1) + (2 : Int32)).toNatClampNeg)
 else none
def f_X11_costOf_80  (S : VX11) (t0 : Int32) (t1 : Int32) : Option (Int32) :=
 (f_X11_lesser (t1 + t0) 1000).bind fun r1 =>
 some r1
def f_X11_costOf_40  (S : VX11) (v1 : Int32) (v2 : Int32) (v3 : Int32) : Option (Int32) :=
 (f_X11_keeper S v1).bind fun r3 =>
 (f_X11_keyCost S v1 r3 v2 v3).bind fun r5 =>
 (f_X11_isTwo S v1).bind fun r7 =>
 if r7 = 0 then
 f_X11_costOf_80 S 0 r5
 else
 (f_X11_otherKeeper S v1).bind fun r9 =>
 (f_X11_keyCost S v1 r9 v2 v3).bind fun r11 =>
 f_X11_costOf_80 S r11 r5
def f_X11_costOf (S : VX11) (v1 : Int32) (v2 : Int32) (v3 : Int32) : Option (Int32) :=
 (f_X11_kind S v1).bind fun r13 =>
 if r13 = 2 then
 some 0
 else
 (f_X11_isLate S v1).bind fun r15 =>
 if r15 = 0 then
 f_X11_costOf_40 S v1 v2 v3
 else
 (f_X11_bits v2).bind fun r17 =>
 if zIn (((4 : Int32) * v1) + (3 : Int32)) 32 = true then
 if (S.2.2.2.2.2.2.2.2.2.2.2.1 (((4 : Int32) * v1) + (3 : Int32)).toNatClampNeg) ≤ r17 then
 f_X11_costOf_40 S v1 v2 v3
 else
 some 1000
 else none
def f_X11_layLeasts_44 (r_2 : VX11 → Int32 → Int32 → Option (VX11)) : Nat → VX11 → Int32 → Int32 → Int32 → Option (VX11)
 | 0, _, _, _, _ => none
 | n + 1, S, v1, v2, v3 =>
 if S.2.2.2.2.2.2.2.2.2.2.1 ≤ v3 then
 r_2 S v1 (v2 + 1)
 else
 if (v2 &&& (v1 ^^^ ((-1) : Int32))) = 0 then
 (f_X11_has v2 v3).bind fun r1 =>
 if r1 = 0 then
 f_X11_layLeasts_44 r_2 n S v1 v2 (v3 + 1)
 else
 if zIn (v2 &&& (((1 : Int32) <<< (v3 &&& 31)) ^^^ ((-1) : Int32))) 256 = true then
 if (S.2.2.2.2.2.2.2.2.2.2.2.2.2.2.2.2.2.2.2.2.2.2.2.1 (v2 &&& (((1 : Int32) <<< (v3 &&& 31)) ^^^ ((-1) : Int32))).toNatClampNeg) ≤ 0 then
 f_X11_layLeasts_44 r_2 n S v1 v2 (v3 + 1)
 else
 (f_X11_costOf S v3 (v2 &&& (((1 : Int32) <<< (v3 &&& 31)) ^^^ ((-1) : Int32))) v1).bind fun r4 =>
 if 1000 ≤ r4 then
 f_X11_layLeasts_44 r_2 n S v1 v2 (v3 + 1)
 else
 if zIn v2 256 = true then
 if zIn (v2 &&& (((1 : Int32) <<< (v3 &&& 31)) ^^^ ((-1) : Int32))) 256 = true then
 (f_X11_lesser (S.2.2.2.2.2.2.2.2.2.2.2.2.2.2.2.2.2.2.2.2.2.2.1 v2.toNatClampNeg) ((S.2.2.2.2.2.2.2.2.2.2.2.2.2.2.2.2.2.2.2.2.2.2.1 (v2 &&& (((1 : Int32) <<< (v3 &&& 31)) ^^^ ((-1) : Int32))).toNatClampNeg) + r4)).bind fun r8 =>
 if zIn v2 256 = true then
 if zIn v2 256 = true then
 if zIn (v2 &&& (((1 : Int32) <<< (v3 &&& 31)) ^^^ ((-1) : Int32))) 256 = true then
 if zIn v2 256 = true then
 f_X11_layLeasts_44 r_2 n (S.1, S.2.1, S.2.2.1, S.2.2.2.1, S.2.2.2.2.1, S.2.2.2.2.2.1, S.2.2.2.2.2.2.1, S.2.2.2.2.2.2.2.1, S.2.2.2.2.2.2.2.2.1, S.2.2.2.2.2.2.2.2.2.1, S.2.2.2.2.2.2.2.2.2.2.1, S.2.2.2.2.2.2.2.2.2.2.2.1, S.2.2.2.2.2.2.2.2.2.2.2.2.1, S.2.2.2.2.2.2.2.2.2.2.2.2.2.1, S.2.2.2.2.2.2.2.2.2.2.2.2.2.2.1, S.2.2.2.2.2.2.2.2.2.2.2.2.2.2.2.1, S.2.2.2.2.2.2.2.2.2.2.2.2.2.2.2.2.1, S.2.2.2.2.2.2.2.2.2.2.2.2.2.2.2.2.2.1, S.2.2.2.2.2.2.2.2.2.2.2.2.2.2.2.2.2.2.1, S.2.2.2.2.2.2.2.2.2.2.2.2.2.2.2.2.2.2.2.1, S.2.2.2.2.2.2.2.2.2.2.2.2.2.2.2.2.2.2.2.2.1, S.2.2.2.2.2.2.2.2.2.2.2.2.2.2.2.2.2.2.2.2.2.1, (upd S.2.2.2.2.2.2.2.2.2.2.2.2.2.2.2.2.2.2.2.2.2.2.1 v2.toNatClampNeg r8), (upd S.2.2.2.2.2.2.2.2.2.2.2.2.2.2.2.2.2.2.2.2.2.2.2.1 v2.toNatClampNeg ((S.2.2.2.2.2.2.2.2.2.2.2.2.2.2.2.2.2.2.2.2.2.2.2.1 v2.toNatClampNeg) + (S.2.2.2.2.2.2.2.2.2.2.2.2.2.2.2.2.2.2.2.2.2.2.2.1 (v2 &&& (((1 : Int32) <<< (v3 &&& 31)) ^^^ ((-1) : Int32))).toNatClampNeg))), S.2.2.2.2.2.2.2.2.2.2.2.2.2.2.2.2.2.2.2.2.2.2.2.2.1, S.2.2.2.2.2.2.2.2.2.2.2.2.2.2.2.2.2.2.2.2.2.2.2.2.2.1, S.2.2.2.2.2.2.2.2.2.2.2.2.2.2.2.2.2.2.2.2.2.2.2.2.2.2.1, S.2.2.2.2.2.2.2.2.2.2.2.2.2.2.2.2.2.2.2.2.2.2.2.2.2.2.2.1, S.2.2.2.2.2.2.2.2.2.2.2.2.2.2.2.2.2.2.2.2.2.2.2.2.2.2.2.2.1, S.2.2.2.2.2.2.2.2.2.2.2.2.2.2.2.2.2.2.2.2.2.2.2.2.2.2.2.2.2.1, S.2.2.2.2.2.2.2.2.2.2.2.2.2.2.2.2.2.2.2.2.2.2.2.2.2.2.2.2.2.2) v1 v2 (v3 + 1)
 else none
 else none
 else none
 else none
 else none
 else none
 else none
 else
 r_2 S v1 (v2 + 1)
def f_X11_layLeasts_26 (r_2 : VX11 → Int32 → Int32 → Option (VX11)) (S : VX11) (v1 : Int32) (v2 : Int32) (t0 : Int32) (t1 : Int32) : Option (VX11) :=
 if zIn t1 256 = true then
 if v2 = 0 then
 if zIn v2 256 = true then
 f_X11_layLeasts_44 r_2 4096 (S.1, S.2.1, S.2.2.1, S.2.2.2.1, S.2.2.2.2.1, S.2.2.2.2.2.1, S.2.2.2.2.2.2.1, S.2.2.2.2.2.2.2.1, S.2.2.2.2.2.2.2.2.1, S.2.2.2.2.2.2.2.2.2.1, S.2.2.2.2.2.2.2.2.2.2.1, S.2.2.2.2.2.2.2.2.2.2.2.1, S.2.2.2.2.2.2.2.2.2.2.2.2.1, S.2.2.2.2.2.2.2.2.2.2.2.2.2.1, S.2.2.2.2.2.2.2.2.2.2.2.2.2.2.1, S.2.2.2.2.2.2.2.2.2.2.2.2.2.2.2.1, S.2.2.2.2.2.2.2.2.2.2.2.2.2.2.2.2.1, S.2.2.2.2.2.2.2.2.2.2.2.2.2.2.2.2.2.1, S.2.2.2.2.2.2.2.2.2.2.2.2.2.2.2.2.2.2.1, S.2.2.2.2.2.2.2.2.2.2.2.2.2.2.2.2.2.2.2.1, S.2.2.2.2.2.2.2.2.2.2.2.2.2.2.2.2.2.2.2.2.1, S.2.2.2.2.2.2.2.2.2.2.2.2.2.2.2.2.2.2.2.2.2.1, (upd S.2.2.2.2.2.2.2.2.2.2.2.2.2.2.2.2.2.2.2.2.2.2.1 t1.toNatClampNeg t0), (upd S.2.2.2.2.2.2.2.2.2.2.2.2.2.2.2.2.2.2.2.2.2.2.2.1 v2.toNatClampNeg 1), S.2.2.2.2.2.2.2.2.2.2.2.2.2.2.2.2.2.2.2.2.2.2.2.2.1, S.2.2.2.2.2.2.2.2.2.2.2.2.2.2.2.2.2.2.2.2.2.2.2.2.2.1, S.2.2.2.2.2.2.2.2.2.2.2.2.2.2.2.2.2.2.2.2.2.2.2.2.2.2.1, S.2.2.2.2.2.2.2.2.2.2.2.2.2.2.2.2.2.2.2.2.2.2.2.2.2.2.2.1, S.2.2.2.2.2.2.2.2.2.2.2.2.2.2.2.2.2.2.2.2.2.2.2.2.2.2.2.2.1, S.2.2.2.2.2.2.2.2.2.2.2.2.2.2.2.2.2.2.2.2.2.2.2.2.2.2.2.2.2.1, S.2.2.2.2.2.2.2.2.2.2.2.2.2.2.2.2.2.2.2.2.2.2.2.2.2.2.2.2.2.2) v1 v2 0
 else none
 else
 if zIn v2 256 = true then
 f_X11_layLeasts_44 r_2 4096 (S.1, S.2.1, S.2.2.1, S.2.2.2.1, S.2.2.2.2.1, S.2.2.2.2.2.1, S.2.2.2.2.2.2.1, S.2.2.2.2.2.2.2.1, S.2.2.2.2.2.2.2.2.1, S.2.2.2.2.2.2.2.2.2.1, S.2.2.2.2.2.2.2.2.2.2.1, S.2.2.2.2.2.2.2.2.2.2.2.1, S.2.2.2.2.2.2.2.2.2.2.2.2.1, S.2.2.2.2.2.2.2.2.2.2.2.2.2.1, S.2.2.2.2.2.2.2.2.2.2.2.2.2.2.1, S.2.2.2.2.2.2.2.2.2.2.2.2.2.2.2.1, S.2.2.2.2.2.2.2.2.2.2.2.2.2.2.2.2.1, S.2.2.2.2.2.2.2.2.2.2.2.2.2.2.2.2.2.1, S.2.2.2.2.2.2.2.2.2.2.2.2.2.2.2.2.2.2.1, S.2.2.2.2.2.2.2.2.2.2.2.2.2.2.2.2.2.2.2.1, S.2.2.2.2.2.2.2.2.2.2.2.2.2.2.2.2.2.2.2.2.1, S.2.2.2.2.2.2.2.2.2.2.2.2.2.2.2.2.2.2.2.2.2.1, (upd S.2.2.2.2.2.2.2.2.2.2.2.2.2.2.2.2.2.2.2.2.2.2.1 t1.toNatClampNeg t0), (upd S.2.2.2.2.2.2.2.2.2.2.2.2.2.2.2.2.2.2.2.2.2.2.2.1 v2.toNatClampNeg 0), S.2.2.2.2.2.2.2.2.2.2.2.2.2.2.2.2.2.2.2.2.2.2.2.2.1, S.2.2.2.2.2.2.2.2.2.2.2.2.2.2.2.2.2.2.2.2.2.2.2.2.2.1, S.2.2.2.2.2.2.2.2.2.2.2.2.2.2.2.2.2.2.2.2.2.2.2.2.2.2.1, S.2.2.2.2.2.2.2.2.2.2.2.2.2.2.2.2.2.2.2.2.2.2.2.2.2.2.2.1, S.2.2.2.2.2.2.2.2.2.2.2.2.2.2.2.2.2.2.2.2.2.2.2.2.2.2.2.2.1, S.2.2.2.2.2.2.2.2.2.2.2.2.2.2.2.2.2.2.2.2.2.2.2.2.2.2.2.2.2.1, S.2.2.2.2.2.2.2.2.2.2.2.2.2.2.2.2.2.2.2.2.2.2.2.2.2.2.2.2.2.2) v1 v2 0
 else none
 else none
def f_X11_layLeasts_2  : Nat → VX11 → Int32 → Int32 → Option (VX11)
 | 0, _, _, _ => none
 | n + 1, S, v1, v2 =>
 (f_X11_all S).bind fun r17 =>
 if r17 < v2 then
 some S
 else
 if v2 = 0 then
 f_X11_layLeasts_26 (f_X11_layLeasts_2 n) S v1 v2 0 v2
 else
 f_X11_layLeasts_26 (f_X11_layLeasts_2 n) S v1 v2 1000 v2
def f_X11_layLeasts (S : VX11) (v1 : Int32) : Option (VX11) :=
 f_X11_layLeasts_2 4096 S v1 0
def f_X11_bandCost (S : VX11) (v1 : Int32) : Option (Int32 × VX11) :=
 (f_X11_layLeasts S v1).bind fun r1 =>
 if zIn v1 256 = true then
 if (r1.2.2.2.2.2.2.2.2.2.2.2.2.2.2.2.2.2.2.2.2.2.2.2.1 v1.toNatClampNeg) ≤ 0 then
 some (1000, r1)
 else
 if zIn v1 256 = true then
 some ((r1.2.2.2.2.2.2.2.2.2.2.2.2.2.2.2.2.2.2.2.2.2.2.1 v1.toNatClampNeg), r1)
 else none
 else none
def f_X11_band (S : VX11) (v1 : Int32) : Option (Int32 × VX11) :=
 (f_X11_isSet S v1).bind fun r1 =>
 if r1 = 0 then
 some ((-1), S)
 else
 if v1 = 0 then
 some ((-1), S)
 else
 (f_X11_bandCost S v1).bind fun r3 =>
 if r3.1 < 1000 then
 some (r3.1, r3.2)
 else
 some ((-9), r3.2)
def f_X11_bands_22  : Nat → VX11 → Int32 → Int32 → Int32 → Int32 → Option (Int32 × VX11)
 | 0, _, _, _, _, _ => none
 | n + 1, S, v1, v2, v3, v4 =>
 (f_X11_all S).bind fun r1 =>
 if r1 < v4 then
 (f_X11_tells S v2 v3).bind fun r3 =>
 some (r3.1, r3.2)
 else
 (f_X11_bits v4).bind fun r5 =>
 if r5 = v1 then
 (f_X11_bandCost S v4).bind fun r7 =>
 if 1000 ≤ r7.1 then
 f_X11_bands_22 n r7.2 v1 v2 v3 (v4 + 1)
 else
 if v3 = 0 then
 f_X11_bands_22 n r7.2 v1 v4 (v3 + 1) (v4 + 1)
 else
 f_X11_bands_22 n r7.2 v1 v2 (v3 + 1) (v4 + 1)
 else
 f_X11_bands_22 n S v1 v2 v3 (v4 + 1)
def f_X11_bands (S : VX11) (v1 : Int32) : Option (Int32 × VX11) :=
 (f_X11_in v1 1 S.2.2.2.2.2.2.2.2.2.2.1).bind fun r9 =>
 if r9 = 0 then
 some ((-1), S)
 else
 f_X11_bands_22 4096 S v1 (-9) 0 1
def f_X11_bell (S : VX11)  : Option (Int32 × VX11) :=
 (f_X11_bits S.2.2.2.2.2.2.2.2.2.2.2.2.2.2.2.2.2.2.1).bind fun r1 =>
 some (r1, (S.1, S.2.1, S.2.2.1, S.2.2.2.1, S.2.2.2.2.1, S.2.2.2.2.2.1, S.2.2.2.2.2.2.1, S.2.2.2.2.2.2.2.1, S.2.2.2.2.2.2.2.2.1, S.2.2.2.2.2.2.2.2.2.1, S.2.2.2.2.2.2.2.2.2.2.1, S.2.2.2.2.2.2.2.2.2.2.2.1, S.2.2.2.2.2.2.2.2.2.2.2.2.1, S.2.2.2.2.2.2.2.2.2.2.2.2.2.1, S.2.2.2.2.2.2.2.2.2.2.2.2.2.2.1, S.2.2.2.2.2.2.2.2.2.2.2.2.2.2.2.1, S.2.2.2.2.2.2.2.2.2.2.2.2.2.2.2.2.1, S.2.2.2.2.2.2.2.2.2.2.2.2.2.2.2.2.2.1, 0, 0, S.2.2.2.2.2.2.2.2.2.2.2.2.2.2.2.2.2.2.2.2.1, S.2.2.2.2.2.2.2.2.2.2.2.2.2.2.2.2.2.2.2.2.2.1, S.2.2.2.2.2.2.2.2.2.2.2.2.2.2.2.2.2.2.2.2.2.2.1, S.2.2.2.2.2.2.2.2.2.2.2.2.2.2.2.2.2.2.2.2.2.2.2.1, S.2.2.2.2.2.2.2.2.2.2.2.2.2.2.2.2.2.2.2.2.2.2.2.2.1, S.2.2.2.2.2.2.2.2.2.2.2.2.2.2.2.2.2.2.2.2.2.2.2.2.2.1, S.2.2.2.2.2.2.2.2.2.2.2.2.2.2.2.2.2.2.2.2.2.2.2.2.2.2.1, S.2.2.2.2.2.2.2.2.2.2.2.2.2.2.2.2.2.2.2.2.2.2.2.2.2.2.2.1, S.2.2.2.2.2.2.2.2.2.2.2.2.2.2.2.2.2.2.2.2.2.2.2.2.2.2.2.2.1, S.2.2.2.2.2.2.2.2.2.2.2.2.2.2.2.2.2.2.2.2.2.2.2.2.2.2.2.2.2.1, S.2.2.2.2.2.2.2.2.2.2.2.2.2.2.2.2.2.2.2.2.2.2.2.2.2.2.2.2.2.2))
def f_X11_byteAt (S : VX11) (v1 : Int32) (v2 : Int32) : Option (Int32) :=
 if zIn v1 4 = true then
 if (S.2.2.2.2.2.2.2.2.1 v1.toNatClampNeg) ≤ v2 then
 some 0
 else
 if zIn (((100 : Int32) * v1) + v2) 400 = true then
 some (S.2.2.2.2.2.2.2.2.2.1 (((100 : Int32) * v1) + v2).toNatClampNeg)
 else none
 else none
def f_X11_isCell (S : VX11) (v1 : Int32) : Option (Int32) :=
 (f_X11_in v1 0 (S.2.2.2.2.2.2.2.2.2.2.1 - (1 : Int32))).bind fun r1 =>
 if r1 = 0 ∨ r1 = 1 then
 some r1
 else none
def f_X11_can (S : VX11) (v1 : Int32) : Option (Int32) :=
 (f_X11_isCell S v1).bind fun r1 =>
 if r1 = 0 then
 some (-1)
 else
 (f_X11_has S.2.2.2.2.2.2.2.2.2.2.2.2.2.2.2.2.2.2.1 v1).bind fun r3 =>
 if r3 = 0 then
 (f_X11_all S).bind fun r5 =>
 (f_X11_costOf S v1 S.2.2.2.2.2.2.2.2.2.2.2.2.2.2.2.2.2.2.1 r5).bind fun r7 =>
 if r7 < 1000 then
 some r7
 else
 some (-9)
 else
 some (-4)
def f_X11_copy_45  (S : VX11)  : Option (Int32 × VX11) :=
 (f_X11_meets S 1).bind fun r1 =>
 some (r1.1, r1.2)
def f_X11_copy_95  (S : VX11)  : Option (Int32 × VX11) :=
 (f_X11_meets S 2).bind fun r3 =>
 some (r3.1, r3.2)
def f_X11_copy_136  : Nat → VX11 → Int32 → Int32 → Int32 → Int32 → Option (Int32 × VX11)
 | 0, _, _, _, _, _ => none
 | n + 1, S, v3, v4, v5, v6 =>
 if v5 ≤ v6 then
 some (1, S)
 else
 if zIn v6 60 = true then
 if zIn ((((60 : Int32) * v3) + v4) + v6) 360 = true then
 f_X11_copy_136 n (S.1, S.2.1, S.2.2.1, S.2.2.2.1, S.2.2.2.2.1, S.2.2.2.2.2.1, (upd S.2.2.2.2.2.2.1 ((((60 : Int32) * v3) + v4) + v6).toNatClampNeg (S.2.2.2.2.2.2.2.1 v6.toNatClampNeg)), S.2.2.2.2.2.2.2.1, S.2.2.2.2.2.2.2.2.1, S.2.2.2.2.2.2.2.2.2.1, S.2.2.2.2.2.2.2.2.2.2.1, S.2.2.2.2.2.2.2.2.2.2.2.1, S.2.2.2.2.2.2.2.2.2.2.2.2.1, S.2.2.2.2.2.2.2.2.2.2.2.2.2.1, S.2.2.2.2.2.2.2.2.2.2.2.2.2.2.1, S.2.2.2.2.2.2.2.2.2.2.2.2.2.2.2.1, S.2.2.2.2.2.2.2.2.2.2.2.2.2.2.2.2.1, S.2.2.2.2.2.2.2.2.2.2.2.2.2.2.2.2.2.1, S.2.2.2.2.2.2.2.2.2.2.2.2.2.2.2.2.2.2.1, S.2.2.2.2.2.2.2.2.2.2.2.2.2.2.2.2.2.2.2.1, S.2.2.2.2.2.2.2.2.2.2.2.2.2.2.2.2.2.2.2.2.1, S.2.2.2.2.2.2.2.2.2.2.2.2.2.2.2.2.2.2.2.2.2.1, S.2.2.2.2.2.2.2.2.2.2.2.2.2.2.2.2.2.2.2.2.2.2.1, S.2.2.2.2.2.2.2.2.2.2.2.2.2.2.2.2.2.2.2.2.2.2.2.1, S.2.2.2.2.2.2.2.2.2.2.2.2.2.2.2.2.2.2.2.2.2.2.2.2.1, S.2.2.2.2.2.2.2.2.2.2.2.2.2.2.2.2.2.2.2.2.2.2.2.2.2.1, S.2.2.2.2.2.2.2.2.2.2.2.2.2.2.2.2.2.2.2.2.2.2.2.2.2.2.1, S.2.2.2.2.2.2.2.2.2.2.2.2.2.2.2.2.2.2.2.2.2.2.2.2.2.2.2.1, S.2.2.2.2.2.2.2.2.2.2.2.2.2.2.2.2.2.2.2.2.2.2.2.2.2.2.2.2.1, S.2.2.2.2.2.2.2.2.2.2.2.2.2.2.2.2.2.2.2.2.2.2.2.2.2.2.2.2.2.1, S.2.2.2.2.2.2.2.2.2.2.2.2.2.2.2.2.2.2.2.2.2.2.2.2.2.2.2.2.2.2) v3 v4 v5 (v6 + 1)
 else none
 else none
def f_X11_copy_104  : Nat → VX11 → Int32 → Int32 → Int32 → Int32 → Int32 → Int32 → Option (Int32 × VX11)
 | 0, _, _, _, _, _, _, _ => none
 | n + 1, S, v1, v2, v3, v4, v5, v6 =>
 if v5 ≤ v6 then
 f_X11_copy_136 4096 S v3 v4 v5 0
 else
 (f_X11_rowAt S v1 (v2 + v6)).bind fun r7 =>
 if zIn v6 60 = true then
 f_X11_copy_104 n (S.1, S.2.1, S.2.2.1, S.2.2.2.1, S.2.2.2.2.1, S.2.2.2.2.2.1, S.2.2.2.2.2.2.1, (upd S.2.2.2.2.2.2.2.1 v6.toNatClampNeg r7), S.2.2.2.2.2.2.2.2.1, S.2.2.2.2.2.2.2.2.2.1, S.2.2.2.2.2.2.2.2.2.2.1, S.2.2.2.2.2.2.2.2.2.2.2.1, S.2.2.2.2.2.2.2.2.2.2.2.2.1, S.2.2.2.2.2.2.2.2.2.2.2.2.2.1, S.2.2.2.2.2.2.2.2.2.2.2.2.2.2.1, S.2.2.2.2.2.2.2.2.2.2.2.2.2.2.2.1, S.2.2.2.2.2.2.2.2.2.2.2.2.2.2.2.2.1, S.2.2.2.2.2.2.2.2.2.2.2.2.2.2.2.2.2.1, S.2.2.2.2.2.2.2.2.2.2.2.2.2.2.2.2.2.2.1, S.2.2.2.2.2.2.2.2.2.2.2.2.2.2.2.2.2.2.2.1, S.2.2.2.2.2.2.2.2.2.2.2.2.2.2.2.2.2.2.2.2.1, S.2.2.2.2.2.2.2.2.2.2.2.2.2.2.2.2.2.2.2.2.2.1, S.2.2.2.2.2.2.2.2.2.2.2.2.2.2.2.2.2.2.2.2.2.2.1, S.2.2.2.2.2.2.2.2.2.2.2.2.2.2.2.2.2.2.2.2.2.2.2.1, S.2.2.2.2.2.2.2.2.2.2.2.2.2.2.2.2.2.2.2.2.2.2.2.2.1, S.2.2.2.2.2.2.2.2.2.2.2.2.2.2.2.2.2.2.2.2.2.2.2.2.2.1, S.2.2.2.2.2.2.2.2.2.2.2.2.2.2.2.2.2.2.2.2.2.2.2.2.2.2.1, S.2.2.2.2.2.2.2.2.2.2.2.2.2.2.2.2.2.2.2.2.2.2.2.2.2.2.2.1, S.2.2.2.2.2.2.2.2.2.2.2.2.2.2.2.2.2.2.2.2.2.2.2.2.2.2.2.2.1, S.2.2.2.2.2.2.2.2.2.2.2.2.2.2.2.2.2.2.2.2.2.2.2.2.2.2.2.2.2.1, S.2.2.2.2.2.2.2.2.2.2.2.2.2.2.2.2.2.2.2.2.2.2.2.2.2.2.2.2.2.2) v1 v2 v3 v4 v5 (v6 + 1)
 else none
def f_X11_copy (S : VX11) (v1 : Int32) (v2 : Int32) (v3 : Int32) (v4 : Int32) (v5 : Int32) : Option (Int32 × VX11) :=
 (f_X11_isRow v1).bind fun r10 =>
 if r10 = 0 then
 some ((-1), S)
 else
 (f_X11_isRow v3).bind fun r12 =>
 if r12 = 0 then
 some ((-1), S)
 else
 if 0 ≤ v5 then
 if zIn v1 6 = true then
 if (S.2.2.2.2.2.1 v1.toNatClampNeg) < 0 then
 f_X11_copy_45 S
 else
 if zIn v3 6 = true then
 if 0 ≤ (S.2.2.2.2.2.1 v3.toNatClampNeg) then
 if v2 < 0 then
 f_X11_copy_95 S
 else
 if v4 < 0 then
 f_X11_copy_95 S
 else
 if zIn v1 6 = true then
 if 0 < (lg_cmp (v2.toInt64 + v5.toInt64) ((S.2.2.2.2.2.1 v1.toNatClampNeg).toInt64)) then
 f_X11_copy_95 S
 else
 if zIn v3 6 = true then
 if (lg_cmp (v4.toInt64 + v5.toInt64) ((S.2.2.2.2.2.1 v3.toNatClampNeg).toInt64)) ≤ 0 then
 f_X11_copy_104 4096 S v1 v2 v3 v4 v5 0
 else
 f_X11_copy_95 S
 else none
 else none
 else
 f_X11_copy_45 S
 else none
 else none
 else
 (f_X11_meets S 5).bind fun r18 =>
 some (r18.1, r18.2)
def f_X11_counted_44 (r_4 : VX11 → Int32 → Int32 → Int32 → Option (Int32)) (S : VX11) (v1 : Int32) (v3 : Int32) (t0 : Int32) (t1 : Int32) : Option (Int32) :=
 if v1 = 4 then
 if zIn v3 8 = true then
 (f_X11_bits (S.2.2.2.2.2.2.2.2.2.2.2.2.1 v3.toNatClampNeg)).bind fun r2 =>
 r_4 S v1 ((t1 + t0) + r2) (v3 + 1)
 else none
 else
 r_4 S v1 ((t1 + t0) + (0 : Int32)) (v3 + 1)
def f_X11_counted_26 (r_4 : VX11 → Int32 → Int32 → Int32 → Option (Int32)) (S : VX11) (v1 : Int32) (v3 : Int32) (t0 : Int32) : Option (Int32) :=
 if v1 = 3 then
 (f_X11_isLate S v3).bind fun r4 =>
 if r4 = 0 then
 f_X11_counted_44 r_4 S v1 v3 0 t0
 else
 f_X11_counted_44 r_4 S v1 v3 1 t0
 else
 f_X11_counted_44 r_4 S v1 v3 0 t0
def f_X11_counted_112  : Nat → VX11 → Int32 → Int32 → Int32 → Option (Int32)
 | 0, _, _, _, _ => none
 | n + 1, S, v1, v2, v3 =>
 if 4 ≤ v3 then
 if v1 = 0 then
 some S.2.2.2.2.2.2.2.2.2.2.1
 else
 if v1 = 1 then
 (f_X11_bits S.2.2.2.2.2.2.2.2.2.2.2.2.2.2.2.2.2.2.1).bind fun r6 =>
 some r6
 else
 if v1 = 4 then
 some (v2 / 2)
 else
 if v1 = 5 then
 some S.2.2.2.2.2.2.2.2.2.2.2.2.2.2.2.2.2.2.2.2.2.2.2.2.2.2.2.1
 else
 some v2
 else
 if v1 = 7 then
 if zIn v3 4 = true then
 if (S.2.2.2.2.2.2.2.2.1 v3.toNatClampNeg) < 0 then
 f_X11_counted_112 n S v1 (v2 + (0 : Int32)) (v3 + 1)
 else
 f_X11_counted_112 n S v1 (v2 + (1 : Int32)) (v3 + 1)
 else none
 else
 f_X11_counted_112 n S v1 (v2 + (0 : Int32)) (v3 + 1)
def f_X11_counted_75  : Nat → VX11 → Int32 → Int32 → Int32 → Option (Int32)
 | 0, _, _, _, _ => none
 | n + 1, S, v1, v2, v3 =>
 if 6 ≤ v3 then
 f_X11_counted_112 4096 S v1 v2 0
 else
 if v1 = 6 then
 if zIn v3 6 = true then
 if (S.2.2.2.2.2.1 v3.toNatClampNeg) < 0 then
 f_X11_counted_75 n S v1 (v2 + (0 : Int32)) (v3 + 1)
 else
 f_X11_counted_75 n S v1 (v2 + (1 : Int32)) (v3 + 1)
 else none
 else
 f_X11_counted_75 n S v1 (v2 + (0 : Int32)) (v3 + 1)
def f_X11_counted_4  : Nat → VX11 → Int32 → Int32 → Int32 → Option (Int32)
 | 0, _, _, _, _ => none
 | n + 1, S, v1, v2, v3 =>
 if S.2.2.2.2.2.2.2.2.2.2.1 ≤ v3 then
 f_X11_counted_75 4096 S v1 v2 0
 else
 if v1 = 2 then
 (f_X11_isTwo S v3).bind fun r10 =>
 if r10 = 0 then
 f_X11_counted_26 (f_X11_counted_4 n) S v1 v3 v2
 else
 f_X11_counted_44 (f_X11_counted_4 n) S v1 v3 1 v2
 else
 f_X11_counted_26 (f_X11_counted_4 n) S v1 v3 v2
def f_X11_counted (S : VX11) (v1 : Int32) : Option (Int32) :=
 f_X11_counted_4 4096 S v1 0 0
def f_X11_count (S : VX11) (v1 : Int32) : Option (Int32) :=
 (f_X11_in v1 0 7).bind fun r1 =>
 if r1 = 0 then
 some (-1)
 else
 (f_X11_counted S v1).bind fun r3 =>
 some r3
def f_X11_fits_68 (r_28 : VX11 → Int32 → Int32 → Int32 → Option (Int32)) (S : VX11) (v1 : Int32) (v4 : Int32) (t0 : Int32) (t1 : Int32) : Option (Int32) :=
 if t1 = t0 then
 r_28 S v1 1 (v4 + 1)
 else
 r_28 S v1 0 (v4 + 1)
def f_X11_fits_28  : Nat → VX11 → Int32 → Int32 → Int32 → Option (Int32)
 | 0, _, _, _, _ => none
 | n + 1, S, v1, v3, v4 =>
 if S.2.2.2.2.2.2.2.2.2.2.2.2.2.2.2.2.2.2.2.2.2.2.2.2.2.2.2.1 ≤ v4 then
 if v3 = 0 ∨ v3 = 1 then
 some v3
 else none
 else
 if v3 = 0 then
 f_X11_fits_28 n S v1 0 (v4 + 1)
 else
 if zIn v4 8 = true then
 (f_X11_has v1 (S.2.2.2.2.2.2.2.2.2.2.2.2.2.2.2.2.2.2.2.2.2.2.2.2.2.2.2.2.1 v4.toNatClampNeg)).bind fun r3 =>
 if zIn v4 8 = true then
 if (S.2.2.2.2.2.2.2.2.2.2.2.2.2.2.2.2.2.2.2.2.2.2.2.2.2.2.2.2.2.1 v4.toNatClampNeg) = 1 then
 f_X11_fits_68 (f_X11_fits_28 n) S v1 v4 1 r3
 else
 f_X11_fits_68 (f_X11_fits_28 n) S v1 v4 0 r3
 else none
 else none
def f_X11_fits (S : VX11) (v1 : Int32) (v2 : Int32) : Option (Int32) :=
 if zIn v1 256 = true then
 if (S.2.2.2.2.2.2.2.2.2.2.2.2.2.2.2.2.2.2.2.2.2.2.2.1 v1.toNatClampNeg) ≤ 0 then
 f_X11_fits_28 4096 S v1 0 0
 else
 if zIn v1 256 = true then
 if v2 < (S.2.2.2.2.2.2.2.2.2.2.2.2.2.2.2.2.2.2.2.2.2.2.1 v1.toNatClampNeg) then
 f_X11_fits_28 4096 S v1 0 0
 else
 f_X11_fits_28 4096 S v1 1 0
 else none
 else none
def f_X11_culprits_33  : Nat → VX11 → Int32 → Int32 → Int32 → Int32 → Int32 → Option (Int32 × VX11)
 | 0, _, _, _, _, _, _ => none
 | n + 1, S, v1, v2, v3, v4, v5 =>
 (f_X11_all S).bind fun r1 =>
 if r1 < v5 then
 if v4 = 0 then
 some ((-9), S)
 else
 (f_X11_tells S v3 v2).bind fun r3 =>
 some (r3.1, r3.2)
 else
 (f_X11_fits S v5 v1).bind fun r5 =>
 if r5 = 0 then
 f_X11_culprits_33 n S v1 v2 v3 v4 (v5 + 1)
 else
 f_X11_culprits_33 n S v1 (v2 ||| v5) (v3 &&& v5) 1 (v5 + 1)
def f_X11_culprits (S : VX11) (v1 : Int32) : Option (Int32 × VX11) :=
 (f_X11_in v1 0 99).bind fun r7 =>
 if r7 = 0 then
 some ((-1), S)
 else
 (f_X11_all S).bind fun r9 =>
 (f_X11_layLeasts S r9).bind fun r11 =>
 (f_X11_all r11).bind fun r13 =>
 f_X11_culprits_33 4096 r11 v1 0 r13 0 0
def f_X11_mayKeep (S : VX11) (v1 : Int32) (v2 : Int32) : Option (Int32) :=
 if v2 = v1 then
 some 0
 else
 (f_X11_otherKeeper S v1).bind fun r1 =>
 if v2 = r1 then
 some 0
 else
 some 1
def f_X11_leastKeeper_2  : Nat → VX11 → Int32 → Int32 → Option (Int32)
 | 0, _, _, _ => none
 | n + 1, S, v1, v2 =>
 (f_X11_mayKeep S v1 v2).bind fun r1 =>
 if r1 = 0 then
 f_X11_leastKeeper_2 n S v1 (v2 + 1)
 else
 some v2
def f_X11_leastKeeper (S : VX11) (v1 : Int32) : Option (Int32) :=
 f_X11_leastKeeper_2 4096 S v1 0
def f_X11_hasNoBand_2  : Nat → VX11 → Int32 → Int32 → Option (Int32 × VX11)
 | 0, _, _, _ => none
 | n + 1, S, v1, v2 =>
 (f_X11_all S).bind fun r1 =>
 if r1 < v2 then
 some (1, S)
 else
 (f_X11_bits v2).bind fun r3 =>
 if r3 = v1 then
 (f_X11_bandCost S v2).bind fun r5 =>
 if 1000 ≤ r5.1 then
 f_X11_hasNoBand_2 n r5.2 v1 (v2 + 1)
 else
 some (0, r5.2)
 else
 f_X11_hasNoBand_2 n S v1 (v2 + 1)
def f_X11_hasNoBand (S : VX11) (v1 : Int32) : Option (Int32 × VX11) :=
 f_X11_hasNoBand_2 4096 S v1 1
def f_X11_nextDeal_51 (r_7 : VX11 → Int32 → Option (Int32 × VX11)) (S : VX11) (v1 : Int32) (v2 : Int32) : Option (Int32 × VX11) :=
 if S.2.2.2.2.2.2.2.2.2.2.1 ≤ v2 then
 (f_X11_leastKeeper S v1).bind fun r1 =>
 if zIn (((4 : Int32) * v1) + (1 : Int32)) 32 = true then
 r_7 (S.1, S.2.1, S.2.2.1, S.2.2.2.1, S.2.2.2.2.1, S.2.2.2.2.2.1, S.2.2.2.2.2.2.1, S.2.2.2.2.2.2.2.1, S.2.2.2.2.2.2.2.2.1, S.2.2.2.2.2.2.2.2.2.1, S.2.2.2.2.2.2.2.2.2.2.1, (upd S.2.2.2.2.2.2.2.2.2.2.2.1 (((4 : Int32) * v1) + (1 : Int32)).toNatClampNeg r1), S.2.2.2.2.2.2.2.2.2.2.2.2.1, S.2.2.2.2.2.2.2.2.2.2.2.2.2.1, S.2.2.2.2.2.2.2.2.2.2.2.2.2.2.1, S.2.2.2.2.2.2.2.2.2.2.2.2.2.2.2.1, S.2.2.2.2.2.2.2.2.2.2.2.2.2.2.2.2.1, S.2.2.2.2.2.2.2.2.2.2.2.2.2.2.2.2.2.1, S.2.2.2.2.2.2.2.2.2.2.2.2.2.2.2.2.2.2.1, S.2.2.2.2.2.2.2.2.2.2.2.2.2.2.2.2.2.2.2.1, S.2.2.2.2.2.2.2.2.2.2.2.2.2.2.2.2.2.2.2.2.1, S.2.2.2.2.2.2.2.2.2.2.2.2.2.2.2.2.2.2.2.2.2.1, S.2.2.2.2.2.2.2.2.2.2.2.2.2.2.2.2.2.2.2.2.2.2.1, S.2.2.2.2.2.2.2.2.2.2.2.2.2.2.2.2.2.2.2.2.2.2.2.1, S.2.2.2.2.2.2.2.2.2.2.2.2.2.2.2.2.2.2.2.2.2.2.2.2.1, S.2.2.2.2.2.2.2.2.2.2.2.2.2.2.2.2.2.2.2.2.2.2.2.2.2.1, S.2.2.2.2.2.2.2.2.2.2.2.2.2.2.2.2.2.2.2.2.2.2.2.2.2.2.1, S.2.2.2.2.2.2.2.2.2.2.2.2.2.2.2.2.2.2.2.2.2.2.2.2.2.2.2.1, S.2.2.2.2.2.2.2.2.2.2.2.2.2.2.2.2.2.2.2.2.2.2.2.2.2.2.2.2.1, S.2.2.2.2.2.2.2.2.2.2.2.2.2.2.2.2.2.2.2.2.2.2.2.2.2.2.2.2.2.1, S.2.2.2.2.2.2.2.2.2.2.2.2.2.2.2.2.2.2.2.2.2.2.2.2.2.2.2.2.2.2) (v1 + (-1))
 else none
 else
 if zIn (((4 : Int32) * v1) + (1 : Int32)) 32 = true then
 some (1, (S.1, S.2.1, S.2.2.1, S.2.2.2.1, S.2.2.2.2.1, S.2.2.2.2.2.1, S.2.2.2.2.2.2.1, S.2.2.2.2.2.2.2.1, S.2.2.2.2.2.2.2.2.1, S.2.2.2.2.2.2.2.2.2.1, S.2.2.2.2.2.2.2.2.2.2.1, (upd S.2.2.2.2.2.2.2.2.2.2.2.1 (((4 : Int32) * v1) + (1 : Int32)).toNatClampNeg v2), S.2.2.2.2.2.2.2.2.2.2.2.2.1, S.2.2.2.2.2.2.2.2.2.2.2.2.2.1, S.2.2.2.2.2.2.2.2.2.2.2.2.2.2.1, S.2.2.2.2.2.2.2.2.2.2.2.2.2.2.2.1, S.2.2.2.2.2.2.2.2.2.2.2.2.2.2.2.2.1, S.2.2.2.2.2.2.2.2.2.2.2.2.2.2.2.2.2.1, S.2.2.2.2.2.2.2.2.2.2.2.2.2.2.2.2.2.2.1, S.2.2.2.2.2.2.2.2.2.2.2.2.2.2.2.2.2.2.2.1, S.2.2.2.2.2.2.2.2.2.2.2.2.2.2.2.2.2.2.2.2.1, S.2.2.2.2.2.2.2.2.2.2.2.2.2.2.2.2.2.2.2.2.2.1, S.2.2.2.2.2.2.2.2.2.2.2.2.2.2.2.2.2.2.2.2.2.2.1, S.2.2.2.2.2.2.2.2.2.2.2.2.2.2.2.2.2.2.2.2.2.2.2.1, S.2.2.2.2.2.2.2.2.2.2.2.2.2.2.2.2.2.2.2.2.2.2.2.2.1, S.2.2.2.2.2.2.2.2.2.2.2.2.2.2.2.2.2.2.2.2.2.2.2.2.2.1, S.2.2.2.2.2.2.2.2.2.2.2.2.2.2.2.2.2.2.2.2.2.2.2.2.2.2.1, S.2.2.2.2.2.2.2.2.2.2.2.2.2.2.2.2.2.2.2.2.2.2.2.2.2.2.2.1, S.2.2.2.2.2.2.2.2.2.2.2.2.2.2.2.2.2.2.2.2.2.2.2.2.2.2.2.2.1, S.2.2.2.2.2.2.2.2.2.2.2.2.2.2.2.2.2.2.2.2.2.2.2.2.2.2.2.2.2.1, S.2.2.2.2.2.2.2.2.2.2.2.2.2.2.2.2.2.2.2.2.2.2.2.2.2.2.2.2.2.2))
 else none
def f_X11_nextDeal_28 (r_7 : VX11 → Int32 → Option (Int32 × VX11)) : Nat → VX11 → Int32 → Int32 → Option (Int32 × VX11)
 | 0, _, _, _ => none
 | n + 1, S, v1, v2 =>
 if S.2.2.2.2.2.2.2.2.2.2.1 ≤ v2 then
 f_X11_nextDeal_51 r_7 S v1 v2
 else
 (f_X11_mayKeep S v1 v2).bind fun r5 =>
 if r5 = 0 then
 f_X11_nextDeal_28 r_7 n S v1 (v2 + 1)
 else
 f_X11_nextDeal_51 r_7 S v1 v2
def f_X11_nextDeal_7  : Nat → VX11 → Int32 → Option (Int32 × VX11)
 | 0, _, _ => none
 | n + 1, S, v1 =>
 if v1 < 0 then
 some (0, S)
 else
 (f_X11_kind S v1).bind fun r7 =>
 if r7 = 2 then
 f_X11_nextDeal_7 n S (v1 + (-1))
 else
 (f_X11_keeper S v1).bind fun r9 =>
 f_X11_nextDeal_28 (f_X11_nextDeal_7 n) 4096 S v1 (r9 + (1 : Int32))
def f_X11_nextDeal (S : VX11)  : Option (Int32 × VX11) :=
 f_X11_nextDeal_7 4096 S (S.2.2.2.2.2.2.2.2.2.2.1 - (1 : Int32))
def f_X11_deals_149 (r_98 : VX11 → Int32 → Int32 → Int32 → Int32 → Option (Int32 × VX11)) (S : VX11) (v1 : Int32) (v2 : Int32) (v3 : Int32) : Option (Int32 × VX11) :=
 (f_X11_nextDeal S).bind fun r1 =>
 r_98 r1.2 v1 v2 v3 r1.1
def f_X11_deals_114 (r_98 : VX11 → Int32 → Int32 → Int32 → Int32 → Option (Int32 × VX11)) : Nat → VX11 → Int32 → Int32 → Int32 → Int32 → Option (Int32 × VX11)
 | 0, _, _, _, _, _ => none
 | n + 1, S, v1, v2, v3, v5 =>
 if S.2.2.2.2.2.2.2.2.2.2.1 ≤ v5 then
 f_X11_deals_149 r_98 S v1 v2 (v3 + 1)
 else
 if v3 = 0 then
 (f_X11_keeper S v5).bind fun r3 =>
 if zIn v5 8 = true then
 f_X11_deals_114 r_98 n (S.1, S.2.1, S.2.2.1, S.2.2.2.1, S.2.2.2.2.1, S.2.2.2.2.2.1, S.2.2.2.2.2.2.1, S.2.2.2.2.2.2.2.1, S.2.2.2.2.2.2.2.2.1, S.2.2.2.2.2.2.2.2.2.1, S.2.2.2.2.2.2.2.2.2.2.1, S.2.2.2.2.2.2.2.2.2.2.2.1, S.2.2.2.2.2.2.2.2.2.2.2.2.1, S.2.2.2.2.2.2.2.2.2.2.2.2.2.1, S.2.2.2.2.2.2.2.2.2.2.2.2.2.2.1, S.2.2.2.2.2.2.2.2.2.2.2.2.2.2.2.1, S.2.2.2.2.2.2.2.2.2.2.2.2.2.2.2.2.1, S.2.2.2.2.2.2.2.2.2.2.2.2.2.2.2.2.2.1, S.2.2.2.2.2.2.2.2.2.2.2.2.2.2.2.2.2.2.1, S.2.2.2.2.2.2.2.2.2.2.2.2.2.2.2.2.2.2.2.1, S.2.2.2.2.2.2.2.2.2.2.2.2.2.2.2.2.2.2.2.2.1, S.2.2.2.2.2.2.2.2.2.2.2.2.2.2.2.2.2.2.2.2.2.1, S.2.2.2.2.2.2.2.2.2.2.2.2.2.2.2.2.2.2.2.2.2.2.1, S.2.2.2.2.2.2.2.2.2.2.2.2.2.2.2.2.2.2.2.2.2.2.2.1, S.2.2.2.2.2.2.2.2.2.2.2.2.2.2.2.2.2.2.2.2.2.2.2.2.1, S.2.2.2.2.2.2.2.2.2.2.2.2.2.2.2.2.2.2.2.2.2.2.2.2.2.1, (upd S.2.2.2.2.2.2.2.2.2.2.2.2.2.2.2.2.2.2.2.2.2.2.2.2.2.2.1 v5.toNatClampNeg r3), S.2.2.2.2.2.2.2.2.2.2.2.2.2.2.2.2.2.2.2.2.2.2.2.2.2.2.2.1, S.2.2.2.2.2.2.2.2.2.2.2.2.2.2.2.2.2.2.2.2.2.2.2.2.2.2.2.2.1, S.2.2.2.2.2.2.2.2.2.2.2.2.2.2.2.2.2.2.2.2.2.2.2.2.2.2.2.2.2.1, S.2.2.2.2.2.2.2.2.2.2.2.2.2.2.2.2.2.2.2.2.2.2.2.2.2.2.2.2.2.2) v1 v2 v3 (v5 + 1)
 else none
 else
 f_X11_deals_149 r_98 S v1 v2 (v3 + 1)
def f_X11_deals_211  : Nat → VX11 → Int32 → Int32 → Int32 → Option (Int32 × VX11)
 | 0, _, _, _, _ => none
 | n + 1, S, v2, v3, v5 =>
 if 60 ≤ v5 then
 some (v3, S)
 else
 if S.2.2.2.2.2.2.2.2.2.2.1 ≤ v5 then
 if zIn (((60 : Int32) * v2) + v5) 360 = true then
 f_X11_deals_211 n (S.1, S.2.1, S.2.2.1, S.2.2.2.1, S.2.2.2.2.1, S.2.2.2.2.2.1, (upd S.2.2.2.2.2.2.1 (((60 : Int32) * v2) + v5).toNatClampNeg 0), S.2.2.2.2.2.2.2.1, S.2.2.2.2.2.2.2.2.1, S.2.2.2.2.2.2.2.2.2.1, S.2.2.2.2.2.2.2.2.2.2.1, S.2.2.2.2.2.2.2.2.2.2.2.1, S.2.2.2.2.2.2.2.2.2.2.2.2.1, S.2.2.2.2.2.2.2.2.2.2.2.2.2.1, S.2.2.2.2.2.2.2.2.2.2.2.2.2.2.1, S.2.2.2.2.2.2.2.2.2.2.2.2.2.2.2.1, S.2.2.2.2.2.2.2.2.2.2.2.2.2.2.2.2.1, S.2.2.2.2.2.2.2.2.2.2.2.2.2.2.2.2.2.1, S.2.2.2.2.2.2.2.2.2.2.2.2.2.2.2.2.2.2.1, S.2.2.2.2.2.2.2.2.2.2.2.2.2.2.2.2.2.2.2.1, S.2.2.2.2.2.2.2.2.2.2.2.2.2.2.2.2.2.2.2.2.1, S.2.2.2.2.2.2.2.2.2.2.2.2.2.2.2.2.2.2.2.2.2.1, S.2.2.2.2.2.2.2.2.2.2.2.2.2.2.2.2.2.2.2.2.2.2.1, S.2.2.2.2.2.2.2.2.2.2.2.2.2.2.2.2.2.2.2.2.2.2.2.1, S.2.2.2.2.2.2.2.2.2.2.2.2.2.2.2.2.2.2.2.2.2.2.2.2.1, S.2.2.2.2.2.2.2.2.2.2.2.2.2.2.2.2.2.2.2.2.2.2.2.2.2.1, S.2.2.2.2.2.2.2.2.2.2.2.2.2.2.2.2.2.2.2.2.2.2.2.2.2.2.1, S.2.2.2.2.2.2.2.2.2.2.2.2.2.2.2.2.2.2.2.2.2.2.2.2.2.2.2.1, S.2.2.2.2.2.2.2.2.2.2.2.2.2.2.2.2.2.2.2.2.2.2.2.2.2.2.2.2.1, S.2.2.2.2.2.2.2.2.2.2.2.2.2.2.2.2.2.2.2.2.2.2.2.2.2.2.2.2.2.1, S.2.2.2.2.2.2.2.2.2.2.2.2.2.2.2.2.2.2.2.2.2.2.2.2.2.2.2.2.2.2) v2 v3 (v5 + 1)
 else none
 else
 if zIn v5 8 = true then
 if zIn (((60 : Int32) * v2) + v5) 360 = true then
 f_X11_deals_211 n (S.1, S.2.1, S.2.2.1, S.2.2.2.1, S.2.2.2.2.1, S.2.2.2.2.2.1, (upd S.2.2.2.2.2.2.1 (((60 : Int32) * v2) + v5).toNatClampNeg (S.2.2.2.2.2.2.2.2.2.2.2.2.2.2.2.2.2.2.2.2.2.2.2.2.2.2.1 v5.toNatClampNeg)), S.2.2.2.2.2.2.2.1, S.2.2.2.2.2.2.2.2.1, S.2.2.2.2.2.2.2.2.2.1, S.2.2.2.2.2.2.2.2.2.2.1, S.2.2.2.2.2.2.2.2.2.2.2.1, S.2.2.2.2.2.2.2.2.2.2.2.2.1, S.2.2.2.2.2.2.2.2.2.2.2.2.2.1, S.2.2.2.2.2.2.2.2.2.2.2.2.2.2.1, S.2.2.2.2.2.2.2.2.2.2.2.2.2.2.2.1, S.2.2.2.2.2.2.2.2.2.2.2.2.2.2.2.2.1, S.2.2.2.2.2.2.2.2.2.2.2.2.2.2.2.2.2.1, S.2.2.2.2.2.2.2.2.2.2.2.2.2.2.2.2.2.2.1, S.2.2.2.2.2.2.2.2.2.2.2.2.2.2.2.2.2.2.2.1, S.2.2.2.2.2.2.2.2.2.2.2.2.2.2.2.2.2.2.2.2.1, S.2.2.2.2.2.2.2.2.2.2.2.2.2.2.2.2.2.2.2.2.2.1, S.2.2.2.2.2.2.2.2.2.2.2.2.2.2.2.2.2.2.2.2.2.2.1, S.2.2.2.2.2.2.2.2.2.2.2.2.2.2.2.2.2.2.2.2.2.2.2.1, S.2.2.2.2.2.2.2.2.2.2.2.2.2.2.2.2.2.2.2.2.2.2.2.2.1, S.2.2.2.2.2.2.2.2.2.2.2.2.2.2.2.2.2.2.2.2.2.2.2.2.2.1, S.2.2.2.2.2.2.2.2.2.2.2.2.2.2.2.2.2.2.2.2.2.2.2.2.2.2.1, S.2.2.2.2.2.2.2.2.2.2.2.2.2.2.2.2.2.2.2.2.2.2.2.2.2.2.2.1, S.2.2.2.2.2.2.2.2.2.2.2.2.2.2.2.2.2.2.2.2.2.2.2.2.2.2.2.2.1, S.2.2.2.2.2.2.2.2.2.2.2.2.2.2.2.2.2.2.2.2.2.2.2.2.2.2.2.2.2.1, S.2.2.2.2.2.2.2.2.2.2.2.2.2.2.2.2.2.2.2.2.2.2.2.2.2.2.2.2.2.2) v2 v3 (v5 + 1)
 else none
 else none
def f_X11_deals_161  : Nat → VX11 → Int32 → Int32 → Int32 → Option (Int32 × VX11)
 | 0, _, _, _, _ => none
 | n + 1, S, v2, v3, v5 =>
 if S.2.2.2.2.2.2.2.2.2.2.1 ≤ v5 then
 if v3 ≤ 0 then
 some (v3, S)
 else
 if zIn v2 6 = true then
 f_X11_deals_211 4096 (S.1, S.2.1, S.2.2.1, S.2.2.2.1, S.2.2.2.2.1, (upd S.2.2.2.2.2.1 v2.toNatClampNeg S.2.2.2.2.2.2.2.2.2.2.1), S.2.2.2.2.2.2.1, S.2.2.2.2.2.2.2.1, S.2.2.2.2.2.2.2.2.1, S.2.2.2.2.2.2.2.2.2.1, S.2.2.2.2.2.2.2.2.2.2.1, S.2.2.2.2.2.2.2.2.2.2.2.1, S.2.2.2.2.2.2.2.2.2.2.2.2.1, S.2.2.2.2.2.2.2.2.2.2.2.2.2.1, S.2.2.2.2.2.2.2.2.2.2.2.2.2.2.1, S.2.2.2.2.2.2.2.2.2.2.2.2.2.2.2.1, S.2.2.2.2.2.2.2.2.2.2.2.2.2.2.2.2.1, S.2.2.2.2.2.2.2.2.2.2.2.2.2.2.2.2.2.1, S.2.2.2.2.2.2.2.2.2.2.2.2.2.2.2.2.2.2.1, S.2.2.2.2.2.2.2.2.2.2.2.2.2.2.2.2.2.2.2.1, S.2.2.2.2.2.2.2.2.2.2.2.2.2.2.2.2.2.2.2.2.1, S.2.2.2.2.2.2.2.2.2.2.2.2.2.2.2.2.2.2.2.2.2.1, S.2.2.2.2.2.2.2.2.2.2.2.2.2.2.2.2.2.2.2.2.2.2.1, S.2.2.2.2.2.2.2.2.2.2.2.2.2.2.2.2.2.2.2.2.2.2.2.1, S.2.2.2.2.2.2.2.2.2.2.2.2.2.2.2.2.2.2.2.2.2.2.2.2.1, S.2.2.2.2.2.2.2.2.2.2.2.2.2.2.2.2.2.2.2.2.2.2.2.2.2.1, S.2.2.2.2.2.2.2.2.2.2.2.2.2.2.2.2.2.2.2.2.2.2.2.2.2.2.1, S.2.2.2.2.2.2.2.2.2.2.2.2.2.2.2.2.2.2.2.2.2.2.2.2.2.2.2.1, S.2.2.2.2.2.2.2.2.2.2.2.2.2.2.2.2.2.2.2.2.2.2.2.2.2.2.2.2.1, S.2.2.2.2.2.2.2.2.2.2.2.2.2.2.2.2.2.2.2.2.2.2.2.2.2.2.2.2.2.1, S.2.2.2.2.2.2.2.2.2.2.2.2.2.2.2.2.2.2.2.2.2.2.2.2.2.2.2.2.2.2) v2 v3 0
 else none
 else
 if zIn v5 8 = true then
 if zIn (((4 : Int32) * v5) + (1 : Int32)) 32 = true then
 f_X11_deals_161 n (S.1, S.2.1, S.2.2.1, S.2.2.2.1, S.2.2.2.2.1, S.2.2.2.2.2.1, S.2.2.2.2.2.2.1, S.2.2.2.2.2.2.2.1, S.2.2.2.2.2.2.2.2.1, S.2.2.2.2.2.2.2.2.2.1, S.2.2.2.2.2.2.2.2.2.2.1, (upd S.2.2.2.2.2.2.2.2.2.2.2.1 (((4 : Int32) * v5) + (1 : Int32)).toNatClampNeg (S.2.2.2.2.2.2.2.2.2.2.2.2.2.2.2.2.2.2.2.2.2.2.2.2.2.1 v5.toNatClampNeg)), S.2.2.2.2.2.2.2.2.2.2.2.2.1, S.2.2.2.2.2.2.2.2.2.2.2.2.2.1, S.2.2.2.2.2.2.2.2.2.2.2.2.2.2.1, S.2.2.2.2.2.2.2.2.2.2.2.2.2.2.2.1, S.2.2.2.2.2.2.2.2.2.2.2.2.2.2.2.2.1, S.2.2.2.2.2.2.2.2.2.2.2.2.2.2.2.2.2.1, S.2.2.2.2.2.2.2.2.2.2.2.2.2.2.2.2.2.2.1, S.2.2.2.2.2.2.2.2.2.2.2.2.2.2.2.2.2.2.2.1, S.2.2.2.2.2.2.2.2.2.2.2.2.2.2.2.2.2.2.2.2.1, S.2.2.2.2.2.2.2.2.2.2.2.2.2.2.2.2.2.2.2.2.2.1, S.2.2.2.2.2.2.2.2.2.2.2.2.2.2.2.2.2.2.2.2.2.2.1, S.2.2.2.2.2.2.2.2.2.2.2.2.2.2.2.2.2.2.2.2.2.2.2.1, S.2.2.2.2.2.2.2.2.2.2.2.2.2.2.2.2.2.2.2.2.2.2.2.2.1, S.2.2.2.2.2.2.2.2.2.2.2.2.2.2.2.2.2.2.2.2.2.2.2.2.2.1, S.2.2.2.2.2.2.2.2.2.2.2.2.2.2.2.2.2.2.2.2.2.2.2.2.2.2.1, S.2.2.2.2.2.2.2.2.2.2.2.2.2.2.2.2.2.2.2.2.2.2.2.2.2.2.2.1, S.2.2.2.2.2.2.2.2.2.2.2.2.2.2.2.2.2.2.2.2.2.2.2.2.2.2.2.2.1, S.2.2.2.2.2.2.2.2.2.2.2.2.2.2.2.2.2.2.2.2.2.2.2.2.2.2.2.2.2.1, S.2.2.2.2.2.2.2.2.2.2.2.2.2.2.2.2.2.2.2.2.2.2.2.2.2.2.2.2.2.2) v2 v3 (v5 + 1)
 else none
 else none
def f_X11_deals_98  : Nat → VX11 → Int32 → Int32 → Int32 → Int32 → Option (Int32 × VX11)
 | 0, _, _, _, _, _ => none
 | n + 1, S, v1, v2, v3, v4 =>
 if v4 = 0 then
 f_X11_deals_161 4096 S v2 v3 0
 else
 (f_X11_hasNoBand S v1).bind fun r12 =>
 if r12.1 = 0 then
 f_X11_deals_149 (f_X11_deals_98 n) r12.2 v1 v2 v3
 else
 f_X11_deals_114 (f_X11_deals_98 n) 4096 r12.2 v1 v2 v3 0
def f_X11_deals_39  : Nat → VX11 → Int32 → Int32 → Int32 → Option (Int32 × VX11)
 | 0, _, _, _, _ => none
 | n + 1, S, v1, v2, v3 =>
 if S.2.2.2.2.2.2.2.2.2.2.1 ≤ v3 then
 f_X11_deals_98 4096 S v1 v2 0 1
 else
 (f_X11_keeper S v3).bind fun r14 =>
 if zIn v3 8 = true then
 (f_X11_kind (S.1, S.2.1, S.2.2.1, S.2.2.2.1, S.2.2.2.2.1, S.2.2.2.2.2.1, S.2.2.2.2.2.2.1, S.2.2.2.2.2.2.2.1, S.2.2.2.2.2.2.2.2.1, S.2.2.2.2.2.2.2.2.2.1, S.2.2.2.2.2.2.2.2.2.2.1, S.2.2.2.2.2.2.2.2.2.2.2.1, S.2.2.2.2.2.2.2.2.2.2.2.2.1, S.2.2.2.2.2.2.2.2.2.2.2.2.2.1, S.2.2.2.2.2.2.2.2.2.2.2.2.2.2.1, S.2.2.2.2.2.2.2.2.2.2.2.2.2.2.2.1, S.2.2.2.2.2.2.2.2.2.2.2.2.2.2.2.2.1, S.2.2.2.2.2.2.2.2.2.2.2.2.2.2.2.2.2.1, S.2.2.2.2.2.2.2.2.2.2.2.2.2.2.2.2.2.2.1, S.2.2.2.2.2.2.2.2.2.2.2.2.2.2.2.2.2.2.2.1, S.2.2.2.2.2.2.2.2.2.2.2.2.2.2.2.2.2.2.2.2.1, S.2.2.2.2.2.2.2.2.2.2.2.2.2.2.2.2.2.2.2.2.2.1, S.2.2.2.2.2.2.2.2.2.2.2.2.2.2.2.2.2.2.2.2.2.2.1, S.2.2.2.2.2.2.2.2.2.2.2.2.2.2.2.2.2.2.2.2.2.2.2.1, S.2.2.2.2.2.2.2.2.2.2.2.2.2.2.2.2.2.2.2.2.2.2.2.2.1, (upd S.2.2.2.2.2.2.2.2.2.2.2.2.2.2.2.2.2.2.2.2.2.2.2.2.2.1 v3.toNatClampNeg r14), S.2.2.2.2.2.2.2.2.2.2.2.2.2.2.2.2.2.2.2.2.2.2.2.2.2.2.1, S.2.2.2.2.2.2.2.2.2.2.2.2.2.2.2.2.2.2.2.2.2.2.2.2.2.2.2.1, S.2.2.2.2.2.2.2.2.2.2.2.2.2.2.2.2.2.2.2.2.2.2.2.2.2.2.2.2.1, S.2.2.2.2.2.2.2.2.2.2.2.2.2.2.2.2.2.2.2.2.2.2.2.2.2.2.2.2.2.1, S.2.2.2.2.2.2.2.2.2.2.2.2.2.2.2.2.2.2.2.2.2.2.2.2.2.2.2.2.2.2) v3).bind fun r17 =>
 if r17 = 2 then
 if zIn (((4 : Int32) * v3) + (1 : Int32)) 32 = true then
 f_X11_deals_39 n (S.1, S.2.1, S.2.2.1, S.2.2.2.1, S.2.2.2.2.1, S.2.2.2.2.2.1, S.2.2.2.2.2.2.1, S.2.2.2.2.2.2.2.1, S.2.2.2.2.2.2.2.2.1, S.2.2.2.2.2.2.2.2.2.1, S.2.2.2.2.2.2.2.2.2.2.1, (upd S.2.2.2.2.2.2.2.2.2.2.2.1 (((4 : Int32) * v3) + (1 : Int32)).toNatClampNeg (-9)), S.2.2.2.2.2.2.2.2.2.2.2.2.1, S.2.2.2.2.2.2.2.2.2.2.2.2.2.1, S.2.2.2.2.2.2.2.2.2.2.2.2.2.2.1, S.2.2.2.2.2.2.2.2.2.2.2.2.2.2.2.1, S.2.2.2.2.2.2.2.2.2.2.2.2.2.2.2.2.1, S.2.2.2.2.2.2.2.2.2.2.2.2.2.2.2.2.2.1, S.2.2.2.2.2.2.2.2.2.2.2.2.2.2.2.2.2.2.1, S.2.2.2.2.2.2.2.2.2.2.2.2.2.2.2.2.2.2.2.1, S.2.2.2.2.2.2.2.2.2.2.2.2.2.2.2.2.2.2.2.2.1, S.2.2.2.2.2.2.2.2.2.2.2.2.2.2.2.2.2.2.2.2.2.1, S.2.2.2.2.2.2.2.2.2.2.2.2.2.2.2.2.2.2.2.2.2.2.1, S.2.2.2.2.2.2.2.2.2.2.2.2.2.2.2.2.2.2.2.2.2.2.2.1, S.2.2.2.2.2.2.2.2.2.2.2.2.2.2.2.2.2.2.2.2.2.2.2.2.1, (upd S.2.2.2.2.2.2.2.2.2.2.2.2.2.2.2.2.2.2.2.2.2.2.2.2.2.1 v3.toNatClampNeg r14), S.2.2.2.2.2.2.2.2.2.2.2.2.2.2.2.2.2.2.2.2.2.2.2.2.2.2.1, S.2.2.2.2.2.2.2.2.2.2.2.2.2.2.2.2.2.2.2.2.2.2.2.2.2.2.2.1, S.2.2.2.2.2.2.2.2.2.2.2.2.2.2.2.2.2.2.2.2.2.2.2.2.2.2.2.2.1, S.2.2.2.2.2.2.2.2.2.2.2.2.2.2.2.2.2.2.2.2.2.2.2.2.2.2.2.2.2.1, S.2.2.2.2.2.2.2.2.2.2.2.2.2.2.2.2.2.2.2.2.2.2.2.2.2.2.2.2.2.2) v1 v2 (v3 + 1)
 else none
 else
 (f_X11_leastKeeper (S.1, S.2.1, S.2.2.1, S.2.2.2.1, S.2.2.2.2.1, S.2.2.2.2.2.1, S.2.2.2.2.2.2.1, S.2.2.2.2.2.2.2.1, S.2.2.2.2.2.2.2.2.1, S.2.2.2.2.2.2.2.2.2.1, S.2.2.2.2.2.2.2.2.2.2.1, S.2.2.2.2.2.2.2.2.2.2.2.1, S.2.2.2.2.2.2.2.2.2.2.2.2.1, S.2.2.2.2.2.2.2.2.2.2.2.2.2.1, S.2.2.2.2.2.2.2.2.2.2.2.2.2.2.1, S.2.2.2.2.2.2.2.2.2.2.2.2.2.2.2.1, S.2.2.2.2.2.2.2.2.2.2.2.2.2.2.2.2.1, S.2.2.2.2.2.2.2.2.2.2.2.2.2.2.2.2.2.1, S.2.2.2.2.2.2.2.2.2.2.2.2.2.2.2.2.2.2.1, S.2.2.2.2.2.2.2.2.2.2.2.2.2.2.2.2.2.2.2.1, S.2.2.2.2.2.2.2.2.2.2.2.2.2.2.2.2.2.2.2.2.1, S.2.2.2.2.2.2.2.2.2.2.2.2.2.2.2.2.2.2.2.2.2.1, S.2.2.2.2.2.2.2.2.2.2.2.2.2.2.2.2.2.2.2.2.2.2.1, S.2.2.2.2.2.2.2.2.2.2.2.2.2.2.2.2.2.2.2.2.2.2.2.1, S.2.2.2.2.2.2.2.2.2.2.2.2.2.2.2.2.2.2.2.2.2.2.2.2.1, (upd S.2.2.2.2.2.2.2.2.2.2.2.2.2.2.2.2.2.2.2.2.2.2.2.2.2.1 v3.toNatClampNeg r14), S.2.2.2.2.2.2.2.2.2.2.2.2.2.2.2.2.2.2.2.2.2.2.2.2.2.2.1, S.2.2.2.2.2.2.2.2.2.2.2.2.2.2.2.2.2.2.2.2.2.2.2.2.2.2.2.1, S.2.2.2.2.2.2.2.2.2.2.2.2.2.2.2.2.2.2.2.2.2.2.2.2.2.2.2.2.1, S.2.2.2.2.2.2.2.2.2.2.2.2.2.2.2.2.2.2.2.2.2.2.2.2.2.2.2.2.2.1, S.2.2.2.2.2.2.2.2.2.2.2.2.2.2.2.2.2.2.2.2.2.2.2.2.2.2.2.2.2.2) v3).bind fun r19 =>
 if zIn (((4 : Int32) * v3) + (1 : Int32)) 32 = true then
 f_X11_deals_39 n (S.1, S.2.1, S.2.2.1, S.2.2.2.1, S.2.2.2.2.1, S.2.2.2.2.2.1, S.2.2.2.2.2.2.1, S.2.2.2.2.2.2.2.1, S.2.2.2.2.2.2.2.2.1, S.2.2.2.2.2.2.2.2.2.1, S.2.2.2.2.2.2.2.2.2.2.1, (upd S.2.2.2.2.2.2.2.2.2.2.2.1 (((4 : Int32) * v3) + (1 : Int32)).toNatClampNeg r19), S.2.2.2.2.2.2.2.2.2.2.2.2.1, S.2.2.2.2.2.2.2.2.2.2.2.2.2.1, S.2.2.2.2.2.2.2.2.2.2.2.2.2.2.1, S.2.2.2.2.2.2.2.2.2.2.2.2.2.2.2.1, S.2.2.2.2.2.2.2.2.2.2.2.2.2.2.2.2.1, S.2.2.2.2.2.2.2.2.2.2.2.2.2.2.2.2.2.1, S.2.2.2.2.2.2.2.2.2.2.2.2.2.2.2.2.2.2.1, S.2.2.2.2.2.2.2.2.2.2.2.2.2.2.2.2.2.2.2.1, S.2.2.2.2.2.2.2.2.2.2.2.2.2.2.2.2.2.2.2.2.1, S.2.2.2.2.2.2.2.2.2.2.2.2.2.2.2.2.2.2.2.2.2.1, S.2.2.2.2.2.2.2.2.2.2.2.2.2.2.2.2.2.2.2.2.2.2.1, S.2.2.2.2.2.2.2.2.2.2.2.2.2.2.2.2.2.2.2.2.2.2.2.1, S.2.2.2.2.2.2.2.2.2.2.2.2.2.2.2.2.2.2.2.2.2.2.2.2.1, (upd S.2.2.2.2.2.2.2.2.2.2.2.2.2.2.2.2.2.2.2.2.2.2.2.2.2.1 v3.toNatClampNeg r14), S.2.2.2.2.2.2.2.2.2.2.2.2.2.2.2.2.2.2.2.2.2.2.2.2.2.2.1, S.2.2.2.2.2.2.2.2.2.2.2.2.2.2.2.2.2.2.2.2.2.2.2.2.2.2.2.1, S.2.2.2.2.2.2.2.2.2.2.2.2.2.2.2.2.2.2.2.2.2.2.2.2.2.2.2.2.1, S.2.2.2.2.2.2.2.2.2.2.2.2.2.2.2.2.2.2.2.2.2.2.2.2.2.2.2.2.2.1, S.2.2.2.2.2.2.2.2.2.2.2.2.2.2.2.2.2.2.2.2.2.2.2.2.2.2.2.2.2.2) v1 v2 (v3 + 1)
 else none
 else none
def f_X11_deals (S : VX11) (v1 : Int32) (v2 : Int32) : Option (Int32 × VX11) :=
 (f_X11_in v1 1 5).bind fun r23 =>
 if r23 = 0 then
 some ((-1), S)
 else
 if S.2.2.2.2.2.2.2.2.2.2.1 < v1 then
 some ((-1), S)
 else
 (f_X11_isRow v2).bind fun r25 =>
 if r25 = 0 then
 some ((-1), S)
 else
 if S.2.2.2.2.2.2.2.2.2.2.1 ≤ 5 then
 f_X11_deals_39 4096 S v1 v2 0
 else
 some ((-6), S)
def f_X11_dealt_119  : Nat → VX11 → Int32 → Int32 → Option (Int32 × VX11)
 | 0, _, _, _ => none
 | n + 1, S, v1, v3 =>
 if S.2.2.2.2.2.2.2.2.2.2.1 ≤ v3 then
 some (1, S)
 else
 (f_X11_kind S v3).bind fun r1 =>
 if r1 = 2 then
 if zIn (((4 : Int32) * v3) + (1 : Int32)) 32 = true then
 f_X11_dealt_119 n (S.1, S.2.1, S.2.2.1, S.2.2.2.1, S.2.2.2.2.1, S.2.2.2.2.2.1, S.2.2.2.2.2.2.1, S.2.2.2.2.2.2.2.1, S.2.2.2.2.2.2.2.2.1, S.2.2.2.2.2.2.2.2.2.1, S.2.2.2.2.2.2.2.2.2.2.1, (upd S.2.2.2.2.2.2.2.2.2.2.2.1 (((4 : Int32) * v3) + (1 : Int32)).toNatClampNeg (-9)), S.2.2.2.2.2.2.2.2.2.2.2.2.1, S.2.2.2.2.2.2.2.2.2.2.2.2.2.1, S.2.2.2.2.2.2.2.2.2.2.2.2.2.2.1, S.2.2.2.2.2.2.2.2.2.2.2.2.2.2.2.1, S.2.2.2.2.2.2.2.2.2.2.2.2.2.2.2.2.1, S.2.2.2.2.2.2.2.2.2.2.2.2.2.2.2.2.2.1, S.2.2.2.2.2.2.2.2.2.2.2.2.2.2.2.2.2.2.1, S.2.2.2.2.2.2.2.2.2.2.2.2.2.2.2.2.2.2.2.1, S.2.2.2.2.2.2.2.2.2.2.2.2.2.2.2.2.2.2.2.2.1, S.2.2.2.2.2.2.2.2.2.2.2.2.2.2.2.2.2.2.2.2.2.1, S.2.2.2.2.2.2.2.2.2.2.2.2.2.2.2.2.2.2.2.2.2.2.1, S.2.2.2.2.2.2.2.2.2.2.2.2.2.2.2.2.2.2.2.2.2.2.2.1, S.2.2.2.2.2.2.2.2.2.2.2.2.2.2.2.2.2.2.2.2.2.2.2.2.1, S.2.2.2.2.2.2.2.2.2.2.2.2.2.2.2.2.2.2.2.2.2.2.2.2.2.1, S.2.2.2.2.2.2.2.2.2.2.2.2.2.2.2.2.2.2.2.2.2.2.2.2.2.2.1, S.2.2.2.2.2.2.2.2.2.2.2.2.2.2.2.2.2.2.2.2.2.2.2.2.2.2.2.1, S.2.2.2.2.2.2.2.2.2.2.2.2.2.2.2.2.2.2.2.2.2.2.2.2.2.2.2.2.1, S.2.2.2.2.2.2.2.2.2.2.2.2.2.2.2.2.2.2.2.2.2.2.2.2.2.2.2.2.2.1, S.2.2.2.2.2.2.2.2.2.2.2.2.2.2.2.2.2.2.2.2.2.2.2.2.2.2.2.2.2.2) v1 (v3 + 1)
 else none
 else
 (f_X11_rowAt S v1 v3).bind fun r3 =>
 if zIn (((4 : Int32) * v3) + (1 : Int32)) 32 = true then
 f_X11_dealt_119 n (S.1, S.2.1, S.2.2.1, S.2.2.2.1, S.2.2.2.2.1, S.2.2.2.2.2.1, S.2.2.2.2.2.2.1, S.2.2.2.2.2.2.2.1, S.2.2.2.2.2.2.2.2.1, S.2.2.2.2.2.2.2.2.2.1, S.2.2.2.2.2.2.2.2.2.2.1, (upd S.2.2.2.2.2.2.2.2.2.2.2.1 (((4 : Int32) * v3) + (1 : Int32)).toNatClampNeg r3), S.2.2.2.2.2.2.2.2.2.2.2.2.1, S.2.2.2.2.2.2.2.2.2.2.2.2.2.1, S.2.2.2.2.2.2.2.2.2.2.2.2.2.2.1, S.2.2.2.2.2.2.2.2.2.2.2.2.2.2.2.1, S.2.2.2.2.2.2.2.2.2.2.2.2.2.2.2.2.1, S.2.2.2.2.2.2.2.2.2.2.2.2.2.2.2.2.2.1, S.2.2.2.2.2.2.2.2.2.2.2.2.2.2.2.2.2.2.1, S.2.2.2.2.2.2.2.2.2.2.2.2.2.2.2.2.2.2.2.1, S.2.2.2.2.2.2.2.2.2.2.2.2.2.2.2.2.2.2.2.2.1, S.2.2.2.2.2.2.2.2.2.2.2.2.2.2.2.2.2.2.2.2.2.1, S.2.2.2.2.2.2.2.2.2.2.2.2.2.2.2.2.2.2.2.2.2.2.1, S.2.2.2.2.2.2.2.2.2.2.2.2.2.2.2.2.2.2.2.2.2.2.2.1, S.2.2.2.2.2.2.2.2.2.2.2.2.2.2.2.2.2.2.2.2.2.2.2.2.1, S.2.2.2.2.2.2.2.2.2.2.2.2.2.2.2.2.2.2.2.2.2.2.2.2.2.1, S.2.2.2.2.2.2.2.2.2.2.2.2.2.2.2.2.2.2.2.2.2.2.2.2.2.2.1, S.2.2.2.2.2.2.2.2.2.2.2.2.2.2.2.2.2.2.2.2.2.2.2.2.2.2.2.1, S.2.2.2.2.2.2.2.2.2.2.2.2.2.2.2.2.2.2.2.2.2.2.2.2.2.2.2.2.1, S.2.2.2.2.2.2.2.2.2.2.2.2.2.2.2.2.2.2.2.2.2.2.2.2.2.2.2.2.2.1, S.2.2.2.2.2.2.2.2.2.2.2.2.2.2.2.2.2.2.2.2.2.2.2.2.2.2.2.2.2.2) v1 (v3 + 1)
 else none
def f_X11_dealt_47  : Nat → VX11 → Int32 → Int32 → Int32 → Option (Int32 × VX11)
 | 0, _, _, _, _ => none
 | n + 1, S, v1, v2, v3 =>
 if S.2.2.2.2.2.2.2.2.2.2.1 ≤ v3 then
 if v2 = 0 then
 (f_X11_meets S 3).bind fun r7 =>
 some (r7.1, r7.2)
 else
 f_X11_dealt_119 4096 S v1 0
 else
 if v2 = 0 then
 f_X11_dealt_47 n S v1 0 (v3 + 1)
 else
 (f_X11_kind S v3).bind fun r9 =>
 if r9 = 2 then
 f_X11_dealt_47 n S v1 1 (v3 + 1)
 else
 (f_X11_rowAt S v1 v3).bind fun r11 =>
 (f_X11_isCell S r11).bind fun r13 =>
 if r13 = 0 then
 f_X11_dealt_47 n S v1 0 (v3 + 1)
 else
 (f_X11_rowAt S v1 v3).bind fun r15 =>
 (f_X11_mayKeep S v3 r15).bind fun r17 =>
 if r17 = 0 then
 f_X11_dealt_47 n S v1 0 (v3 + 1)
 else
 f_X11_dealt_47 n S v1 1 (v3 + 1)
def f_X11_dealt (S : VX11) (v1 : Int32) : Option (Int32 × VX11) :=
 (f_X11_isRow v1).bind fun r19 =>
 if r19 = 0 then
 some ((-1), S)
 else
 if zIn v1 6 = true then
 if 0 ≤ (S.2.2.2.2.2.1 v1.toNatClampNeg) then
 if zIn v1 6 = true then
 if (S.2.2.2.2.2.1 v1.toNatClampNeg) = S.2.2.2.2.2.2.2.2.2.2.1 then
 f_X11_dealt_47 4096 S v1 1 0
 else
 (f_X11_meets S 5).bind fun r23 =>
 some (r23.1, r23.2)
 else none
 else
 (f_X11_meets S 1).bind fun r25 =>
 some (r25.1, r25.2)
 else none
def f_X11_mix (S : VX11) (v1 : Int64) : Option (VX11) :=
 some (S.1, S.2.1, S.2.2.1, S.2.2.2.1, S.2.2.2.2.1, S.2.2.2.2.2.1, S.2.2.2.2.2.2.1, S.2.2.2.2.2.2.2.1, S.2.2.2.2.2.2.2.2.1, S.2.2.2.2.2.2.2.2.2.1, S.2.2.2.2.2.2.2.2.2.2.1, S.2.2.2.2.2.2.2.2.2.2.2.1, S.2.2.2.2.2.2.2.2.2.2.2.2.1, S.2.2.2.2.2.2.2.2.2.2.2.2.2.1, S.2.2.2.2.2.2.2.2.2.2.2.2.2.2.1, S.2.2.2.2.2.2.2.2.2.2.2.2.2.2.2.1, S.2.2.2.2.2.2.2.2.2.2.2.2.2.2.2.2.1, S.2.2.2.2.2.2.2.2.2.2.2.2.2.2.2.2.2.1, S.2.2.2.2.2.2.2.2.2.2.2.2.2.2.2.2.2.2.1, S.2.2.2.2.2.2.2.2.2.2.2.2.2.2.2.2.2.2.2.1, S.2.2.2.2.2.2.2.2.2.2.2.2.2.2.2.2.2.2.2.2.1, S.2.2.2.2.2.2.2.2.2.2.2.2.2.2.2.2.2.2.2.2.2.1, S.2.2.2.2.2.2.2.2.2.2.2.2.2.2.2.2.2.2.2.2.2.2.1, S.2.2.2.2.2.2.2.2.2.2.2.2.2.2.2.2.2.2.2.2.2.2.2.1, S.2.2.2.2.2.2.2.2.2.2.2.2.2.2.2.2.2.2.2.2.2.2.2.2.1, S.2.2.2.2.2.2.2.2.2.2.2.2.2.2.2.2.2.2.2.2.2.2.2.2.2.1, S.2.2.2.2.2.2.2.2.2.2.2.2.2.2.2.2.2.2.2.2.2.2.2.2.2.2.1, S.2.2.2.2.2.2.2.2.2.2.2.2.2.2.2.2.2.2.2.2.2.2.2.2.2.2.2.1, S.2.2.2.2.2.2.2.2.2.2.2.2.2.2.2.2.2.2.2.2.2.2.2.2.2.2.2.2.1, S.2.2.2.2.2.2.2.2.2.2.2.2.2.2.2.2.2.2.2.2.2.2.2.2.2.2.2.2.2.1, ((31 * S.2.2.2.2.2.2.2.2.2.2.2.2.2.2.2.2.2.2.2.2.2.2.2.2.2.2.2.2.2.2) + v1))
def f_X11_mixJail_30 (r_20 : VX11 → Int32 → Option (VX11)) : Nat → VX11 → Int32 → Int32 → Option (VX11)
 | 0, _, _, _ => none
 | n + 1, S, v1, v2 =>
 if 4 ≤ v2 then
 if zIn v1 8 = true then
 (f_X11_mix S ((S.2.2.2.2.2.2.2.2.2.2.2.2.1 v1.toNatClampNeg).toInt64)).bind fun r2 =>
 r_20 r2 (v1 + 1)
 else none
 else
 if zIn (((4 : Int32) * v1) + v2) 32 = true then
 (f_X11_mix S ((S.2.2.2.2.2.2.2.2.2.2.2.1 (((4 : Int32) * v1) + v2).toNatClampNeg).toInt64)).bind fun r5 =>
 f_X11_mixJail_30 r_20 n r5 v1 (v2 + 1)
 else none
def f_X11_mixJail_141 (r_113 : VX11 → Int32 → Option (VX11)) (S : VX11) (v1 : Int32) (t0 : Int64) : Option (VX11) :=
 (f_X11_mix S t0).bind fun r7 =>
 if zIn v1 3 = true then
 if (r7.2.2.2.2.2.2.2.2.2.2.2.2.2.2.2.2.2.2.2.2.1 v1.toNatClampNeg) < 0 then
 r_113 r7 (v1 + 1)
 else
 if zIn v1 3 = true then
 (f_X11_mix r7 ((r7.2.2.2.2.2.2.2.2.2.2.2.2.2.2.2.2.2.2.2.2.2.1 v1.toNatClampNeg).toInt64)).bind fun r11 =>
 r_113 r11 (v1 + 1)
 else none
 else none
def f_X11_mixJail_113  : Nat → VX11 → Int32 → Option (VX11)
 | 0, _, _ => none
 | n + 1, S, v1 =>
 if 3 ≤ v1 then
 some S
 else
 if zIn v1 3 = true then
 if 0 ≤ (S.2.2.2.2.2.2.2.2.2.2.2.2.2.2.2.2.2.2.2.2.1 v1.toNatClampNeg) then
 if zIn v1 3 = true then
 f_X11_mixJail_141 (f_X11_mixJail_113 n) S v1 ((S.2.2.2.2.2.2.2.2.2.2.2.2.2.2.2.2.2.2.2.2.1 v1.toNatClampNeg).toInt64)
 else none
 else
 f_X11_mixJail_141 (f_X11_mixJail_113 n) S v1 (-1)
 else none
def f_X11_mixJail_75  : Nat → VX11 → Int32 → Option (VX11)
 | 0, _, _ => none
 | n + 1, S, v1 =>
 if S.2.2.2.2.2.2.2.2.2.2.2.2.2.2.2.2.2.2.2.2.2.2.2.2.2.2.2.1 ≤ v1 then
 f_X11_mixJail_113 4096 S 0
 else
 if zIn v1 8 = true then
 (f_X11_mix S ((S.2.2.2.2.2.2.2.2.2.2.2.2.2.2.2.2.2.2.2.2.2.2.2.2.2.2.2.2.1 v1.toNatClampNeg).toInt64)).bind fun r16 =>
 if zIn v1 8 = true then
 (f_X11_mix r16 ((r16.2.2.2.2.2.2.2.2.2.2.2.2.2.2.2.2.2.2.2.2.2.2.2.2.2.2.2.2.2.1 v1.toNatClampNeg).toInt64)).bind fun r19 =>
 f_X11_mixJail_75 n r19 (v1 + 1)
 else none
 else none
def f_X11_mixJail_20  : Nat → VX11 → Int32 → Option (VX11)
 | 0, _, _ => none
 | n + 1, S, v1 =>
 if S.2.2.2.2.2.2.2.2.2.2.1 ≤ v1 then
 f_X11_mixJail_75 4096 S 0
 else
 f_X11_mixJail_30 (f_X11_mixJail_20 n) 4096 S v1 0
def f_X11_mixJail (S : VX11)  : Option (VX11) :=
 (f_X11_mix S S.2.2.2.2.2.2.2.2.2.2.2.2.2.2.2.2.2.2.1.toInt64).bind fun r21 =>
 (f_X11_mix r21 r21.2.2.2.2.2.2.2.2.2.2.2.2.2.2.2.2.2.2.2.1.toInt64).bind fun r23 =>
 f_X11_mixJail_20 4096 r23 0
def f_X11_digest_56 (r_37 : VX11 → Int32 → Option (Int64 × VX11)) : Nat → VX11 → Int32 → Int32 → Option (Int64 × VX11)
 | 0, _, _, _ => none
 | n + 1, S, v1, v2 =>
 if zIn v1 6 = true then
 if (S.2.2.2.2.2.1 v1.toNatClampNeg) ≤ v2 then
 r_37 S (v1 + 1)
 else
 (f_X11_rowAt S v1 v2).bind fun r2 =>
 (f_X11_mix S r2.toInt64).bind fun r4 =>
 f_X11_digest_56 r_37 n r4 v1 (v2 + 1)
 else none
def f_X11_digest_109 (r_91 : VX11 → Int32 → Option (Int64 × VX11)) : Nat → VX11 → Int32 → Int32 → Option (Int64 × VX11)
 | 0, _, _, _ => none
 | n + 1, S, v1, v2 =>
 if zIn v1 4 = true then
 if (S.2.2.2.2.2.2.2.2.1 v1.toNatClampNeg) ≤ v2 then
 r_91 S (v1 + 1)
 else
 (f_X11_byteAt S v1 v2).bind fun r7 =>
 (f_X11_mix S r7.toInt64).bind fun r9 =>
 f_X11_digest_109 r_91 n r9 v1 (v2 + 1)
 else none
def f_X11_digest_91  : Nat → VX11 → Int32 → Option (Int64 × VX11)
 | 0, _, _ => none
 | n + 1, S, v1 =>
 if 4 ≤ v1 then
 some (S.2.2.2.2.2.2.2.2.2.2.2.2.2.2.2.2.2.2.2.2.2.2.2.2.2.2.2.2.2.2, S)
 else
 if zIn v1 4 = true then
 (f_X11_mix S ((S.2.2.2.2.2.2.2.2.1 v1.toNatClampNeg).toInt64)).bind fun r12 =>
 f_X11_digest_109 (f_X11_digest_91 n) 4096 r12 v1 0
 else none
def f_X11_digest_37  : Nat → VX11 → Int32 → Option (Int64 × VX11)
 | 0, _, _ => none
 | n + 1, S, v1 =>
 if 6 ≤ v1 then
 f_X11_digest_91 4096 S 0
 else
 if zIn v1 6 = true then
 (f_X11_mix S ((S.2.2.2.2.2.1 v1.toNatClampNeg).toInt64)).bind fun r15 =>
 f_X11_digest_56 (f_X11_digest_37 n) 4096 r15 v1 0
 else none
def f_X11_digest_9  : Nat → VX11 → Int32 → Option (Int64 × VX11)
 | 0, _, _ => none
 | n + 1, S, v1 =>
 if 8 ≤ v1 then
 (f_X11_mixJail S).bind fun r17 =>
 f_X11_digest_37 4096 r17 0
 else
 (f_X11_counted S v1).bind fun r19 =>
 (f_X11_mix S r19.toInt64).bind fun r21 =>
 f_X11_digest_9 n r21 (v1 + 1)
def f_X11_digest (S : VX11)  : Option (Int64 × VX11) :=
 f_X11_digest_9 4096 (S.1, S.2.1, S.2.2.1, S.2.2.2.1, S.2.2.2.2.1, S.2.2.2.2.2.1, S.2.2.2.2.2.2.1, S.2.2.2.2.2.2.2.1, S.2.2.2.2.2.2.2.2.1, S.2.2.2.2.2.2.2.2.2.1, S.2.2.2.2.2.2.2.2.2.2.1, S.2.2.2.2.2.2.2.2.2.2.2.1, S.2.2.2.2.2.2.2.2.2.2.2.2.1, S.2.2.2.2.2.2.2.2.2.2.2.2.2.1, S.2.2.2.2.2.2.2.2.2.2.2.2.2.2.1, S.2.2.2.2.2.2.2.2.2.2.2.2.2.2.2.1, S.2.2.2.2.2.2.2.2.2.2.2.2.2.2.2.2.1, S.2.2.2.2.2.2.2.2.2.2.2.2.2.2.2.2.2.1, S.2.2.2.2.2.2.2.2.2.2.2.2.2.2.2.2.2.2.1, S.2.2.2.2.2.2.2.2.2.2.2.2.2.2.2.2.2.2.2.1, S.2.2.2.2.2.2.2.2.2.2.2.2.2.2.2.2.2.2.2.2.1, S.2.2.2.2.2.2.2.2.2.2.2.2.2.2.2.2.2.2.2.2.2.1, S.2.2.2.2.2.2.2.2.2.2.2.2.2.2.2.2.2.2.2.2.2.2.1, S.2.2.2.2.2.2.2.2.2.2.2.2.2.2.2.2.2.2.2.2.2.2.2.1, S.2.2.2.2.2.2.2.2.2.2.2.2.2.2.2.2.2.2.2.2.2.2.2.2.1, S.2.2.2.2.2.2.2.2.2.2.2.2.2.2.2.2.2.2.2.2.2.2.2.2.2.1, S.2.2.2.2.2.2.2.2.2.2.2.2.2.2.2.2.2.2.2.2.2.2.2.2.2.2.1, S.2.2.2.2.2.2.2.2.2.2.2.2.2.2.2.2.2.2.2.2.2.2.2.2.2.2.2.1, S.2.2.2.2.2.2.2.2.2.2.2.2.2.2.2.2.2.2.2.2.2.2.2.2.2.2.2.2.1, S.2.2.2.2.2.2.2.2.2.2.2.2.2.2.2.2.2.2.2.2.2.2.2.2.2.2.2.2.2.1, 17) 0
def f_X11_door (S : VX11) (v1 : Int32) (v2 : Int32) : Option (Int32 × VX11) :=
 (f_X11_isCell S v1).bind fun r1 =>
 if r1 = 0 then
 some ((-1), S)
 else
 (f_X11_in v2 0 3).bind fun r3 =>
 if r3 = 0 then
 some ((-1), S)
 else
 if zIn (((4 : Int32) * v1) + v2) 32 = true then
 (f_X11_tells S (S.2.2.2.2.2.2.2.2.2.2.2.1 (((4 : Int32) * v1) + v2).toNatClampNeg) 1).bind fun r6 =>
 some (r6.1, r6.2)
 else none
def f_X11_everOut_4  : Nat → VX11 → Int32 → Int32 → Option (Int32)
 | 0, _, _, _ => none
 | n + 1, S, v1, v2 =>
 (f_X11_all S).bind fun r1 =>
 if r1 < v2 then
 some v1
 else
 if zIn v2 256 = true then
 if (S.2.2.2.2.2.2.2.2.2.2.2.2.2.2.2.2.2.2.2.2.2.2.2.1 v2.toNatClampNeg) ≤ 0 then
 f_X11_everOut_4 n S (v1 ||| (0 : Int32)) (v2 + 1)
 else
 f_X11_everOut_4 n S (v1 ||| v2) (v2 + 1)
 else none
def f_X11_everOut (S : VX11)  : Option (Int32) :=
 f_X11_everOut_4 4096 S 0 0
def f_X11_ever (S : VX11)  : Option (Int32 × VX11) :=
 (f_X11_all S).bind fun r1 =>
 (f_X11_layLeasts S r1).bind fun r3 =>
 (f_X11_everOut r3).bind fun r5 =>
 (f_X11_all r3).bind fun r7 =>
 (f_X11_tells r3 (r7 &&& (r5 ^^^ ((-1) : Int32))) r5).bind fun r9 =>
 some (r9.1, r9.2)
def f_X11_isText  (v0 : Int32) : Option (Int32) :=
 (f_X11_in v0 0 3).bind fun r1 =>
 if r1 = 0 ∨ r1 = 1 then
 some r1
 else none
def f_X11_figure (S : VX11) (v1 : Int32) (v2 : Int32) (v3 : Int32) : Option (Int32 × VX11) :=
 (f_X11_byteAt S v1 S.2.2.2.2.2.2.2.2.2.2.2.2.2.1).bind fun r1 =>
 (f_X11_in (r1 - (48 : Int32)) v2 v3).bind fun r3 =>
 if r3 = 0 then
 if r3 = 0 ∨ r3 = 1 then
 some (r3, (S.1, S.2.1, S.2.2.1, S.2.2.2.1, S.2.2.2.2.1, S.2.2.2.2.2.1, S.2.2.2.2.2.2.1, S.2.2.2.2.2.2.2.1, S.2.2.2.2.2.2.2.2.1, S.2.2.2.2.2.2.2.2.2.1, S.2.2.2.2.2.2.2.2.2.2.1, S.2.2.2.2.2.2.2.2.2.2.2.1, S.2.2.2.2.2.2.2.2.2.2.2.2.1, (S.2.2.2.2.2.2.2.2.2.2.2.2.2.1 + (0 : Int32)), (r1 - (48 : Int32)), S.2.2.2.2.2.2.2.2.2.2.2.2.2.2.2.1, S.2.2.2.2.2.2.2.2.2.2.2.2.2.2.2.2.1, S.2.2.2.2.2.2.2.2.2.2.2.2.2.2.2.2.2.1, S.2.2.2.2.2.2.2.2.2.2.2.2.2.2.2.2.2.2.1, S.2.2.2.2.2.2.2.2.2.2.2.2.2.2.2.2.2.2.2.1, S.2.2.2.2.2.2.2.2.2.2.2.2.2.2.2.2.2.2.2.2.1, S.2.2.2.2.2.2.2.2.2.2.2.2.2.2.2.2.2.2.2.2.2.1, S.2.2.2.2.2.2.2.2.2.2.2.2.2.2.2.2.2.2.2.2.2.2.1, S.2.2.2.2.2.2.2.2.2.2.2.2.2.2.2.2.2.2.2.2.2.2.2.1, S.2.2.2.2.2.2.2.2.2.2.2.2.2.2.2.2.2.2.2.2.2.2.2.2.1, S.2.2.2.2.2.2.2.2.2.2.2.2.2.2.2.2.2.2.2.2.2.2.2.2.2.1, S.2.2.2.2.2.2.2.2.2.2.2.2.2.2.2.2.2.2.2.2.2.2.2.2.2.2.1, S.2.2.2.2.2.2.2.2.2.2.2.2.2.2.2.2.2.2.2.2.2.2.2.2.2.2.2.1, S.2.2.2.2.2.2.2.2.2.2.2.2.2.2.2.2.2.2.2.2.2.2.2.2.2.2.2.2.1, S.2.2.2.2.2.2.2.2.2.2.2.2.2.2.2.2.2.2.2.2.2.2.2.2.2.2.2.2.2.1, S.2.2.2.2.2.2.2.2.2.2.2.2.2.2.2.2.2.2.2.2.2.2.2.2.2.2.2.2.2.2))
 else none
 else
 if r3 = 0 ∨ r3 = 1 then
 some (r3, (S.1, S.2.1, S.2.2.1, S.2.2.2.1, S.2.2.2.2.1, S.2.2.2.2.2.1, S.2.2.2.2.2.2.1, S.2.2.2.2.2.2.2.1, S.2.2.2.2.2.2.2.2.1, S.2.2.2.2.2.2.2.2.2.1, S.2.2.2.2.2.2.2.2.2.2.1, S.2.2.2.2.2.2.2.2.2.2.2.1, S.2.2.2.2.2.2.2.2.2.2.2.2.1, (S.2.2.2.2.2.2.2.2.2.2.2.2.2.1 + (1 : Int32)), (r1 - (48 : Int32)), S.2.2.2.2.2.2.2.2.2.2.2.2.2.2.2.1, S.2.2.2.2.2.2.2.2.2.2.2.2.2.2.2.2.1, S.2.2.2.2.2.2.2.2.2.2.2.2.2.2.2.2.2.1, S.2.2.2.2.2.2.2.2.2.2.2.2.2.2.2.2.2.2.1, S.2.2.2.2.2.2.2.2.2.2.2.2.2.2.2.2.2.2.2.1, S.2.2.2.2.2.2.2.2.2.2.2.2.2.2.2.2.2.2.2.2.1, S.2.2.2.2.2.2.2.2.2.2.2.2.2.2.2.2.2.2.2.2.2.1, S.2.2.2.2.2.2.2.2.2.2.2.2.2.2.2.2.2.2.2.2.2.2.1, S.2.2.2.2.2.2.2.2.2.2.2.2.2.2.2.2.2.2.2.2.2.2.2.1, S.2.2.2.2.2.2.2.2.2.2.2.2.2.2.2.2.2.2.2.2.2.2.2.2.1, S.2.2.2.2.2.2.2.2.2.2.2.2.2.2.2.2.2.2.2.2.2.2.2.2.2.1, S.2.2.2.2.2.2.2.2.2.2.2.2.2.2.2.2.2.2.2.2.2.2.2.2.2.2.1, S.2.2.2.2.2.2.2.2.2.2.2.2.2.2.2.2.2.2.2.2.2.2.2.2.2.2.2.1, S.2.2.2.2.2.2.2.2.2.2.2.2.2.2.2.2.2.2.2.2.2.2.2.2.2.2.2.2.1, S.2.2.2.2.2.2.2.2.2.2.2.2.2.2.2.2.2.2.2.2.2.2.2.2.2.2.2.2.2.1, S.2.2.2.2.2.2.2.2.2.2.2.2.2.2.2.2.2.2.2.2.2.2.2.2.2.2.2.2.2.2))
 else none
def f_X11_readsNew (S : VX11) (v1 : Int32) (v2 : Int32) (v3 : Int32) (v4 : Int32) (v5 : Int32) : Option (VX11) :=
 if zIn ((4 : Int32) * v1) 32 = true then
 if zIn (((4 : Int32) * v1) + (1 : Int32)) 32 = true then
 if zIn (((4 : Int32) * v1) + (2 : Int32)) 32 = true then
 if zIn (((4 : Int32) * v1) + (3 : Int32)) 32 = true then
 some (S.1, S.2.1, S.2.2.1, S.2.2.2.1, S.2.2.2.2.1, S.2.2.2.2.2.1, S.2.2.2.2.2.2.1, S.2.2.2.2.2.2.2.1, S.2.2.2.2.2.2.2.2.1, S.2.2.2.2.2.2.2.2.2.1, S.2.2.2.2.2.2.2.2.2.2.1, S.2.2.2.2.2.2.2.2.2.2.2.1, S.2.2.2.2.2.2.2.2.2.2.2.2.1, S.2.2.2.2.2.2.2.2.2.2.2.2.2.1, S.2.2.2.2.2.2.2.2.2.2.2.2.2.2.1, S.2.2.2.2.2.2.2.2.2.2.2.2.2.2.2.1, (upd (upd (upd (upd S.2.2.2.2.2.2.2.2.2.2.2.2.2.2.2.2.1 ((4 : Int32) * v1).toNatClampNeg v2) (((4 : Int32) * v1) + (1 : Int32)).toNatClampNeg v3) (((4 : Int32) * v1) + (2 : Int32)).toNatClampNeg v4) (((4 : Int32) * v1) + (3 : Int32)).toNatClampNeg v5), S.2.2.2.2.2.2.2.2.2.2.2.2.2.2.2.2.2.1, S.2.2.2.2.2.2.2.2.2.2.2.2.2.2.2.2.2.2.1, S.2.2.2.2.2.2.2.2.2.2.2.2.2.2.2.2.2.2.2.1, S.2.2.2.2.2.2.2.2.2.2.2.2.2.2.2.2.2.2.2.2.1, S.2.2.2.2.2.2.2.2.2.2.2.2.2.2.2.2.2.2.2.2.2.1, S.2.2.2.2.2.2.2.2.2.2.2.2.2.2.2.2.2.2.2.2.2.2.1, S.2.2.2.2.2.2.2.2.2.2.2.2.2.2.2.2.2.2.2.2.2.2.2.1, S.2.2.2.2.2.2.2.2.2.2.2.2.2.2.2.2.2.2.2.2.2.2.2.2.1, S.2.2.2.2.2.2.2.2.2.2.2.2.2.2.2.2.2.2.2.2.2.2.2.2.2.1, S.2.2.2.2.2.2.2.2.2.2.2.2.2.2.2.2.2.2.2.2.2.2.2.2.2.2.1, S.2.2.2.2.2.2.2.2.2.2.2.2.2.2.2.2.2.2.2.2.2.2.2.2.2.2.2.1, S.2.2.2.2.2.2.2.2.2.2.2.2.2.2.2.2.2.2.2.2.2.2.2.2.2.2.2.2.1, S.2.2.2.2.2.2.2.2.2.2.2.2.2.2.2.2.2.2.2.2.2.2.2.2.2.2.2.2.2.1, S.2.2.2.2.2.2.2.2.2.2.2.2.2.2.2.2.2.2.2.2.2.2.2.2.2.2.2.2.2.2)
 else none
 else none
 else none
 else none
def f_X11_readsCells_49  : Nat → VX11 → Int32 → Option (Int32 × VX11)
 | 0, _, _ => none
 | n + 1, S, v2 =>
 if S.2.2.2.2.2.2.2.2.2.2.2.2.2.2.2.1 ≤ v2 then
 some (1, S)
 else
 if S.2.2.2.2.2.2.2.2.2.2.2.2.2.2.2.1 = 0 then none else
 (f_X11_readsNew S v2 0 ((v2 + (1 : Int32)) - (v2 + (1 : Int32)) / S.2.2.2.2.2.2.2.2.2.2.2.2.2.2.2.1 * S.2.2.2.2.2.2.2.2.2.2.2.2.2.2.2.1) (-9) 0).bind fun r2 =>
 if zIn v2 8 = true then
 f_X11_readsCells_49 n (r2.1, r2.2.1, r2.2.2.1, r2.2.2.2.1, r2.2.2.2.2.1, r2.2.2.2.2.2.1, r2.2.2.2.2.2.2.1, r2.2.2.2.2.2.2.2.1, r2.2.2.2.2.2.2.2.2.1, r2.2.2.2.2.2.2.2.2.2.1, r2.2.2.2.2.2.2.2.2.2.2.1, r2.2.2.2.2.2.2.2.2.2.2.2.1, r2.2.2.2.2.2.2.2.2.2.2.2.2.1, r2.2.2.2.2.2.2.2.2.2.2.2.2.2.1, r2.2.2.2.2.2.2.2.2.2.2.2.2.2.2.1, r2.2.2.2.2.2.2.2.2.2.2.2.2.2.2.2.1, r2.2.2.2.2.2.2.2.2.2.2.2.2.2.2.2.2.1, (upd r2.2.2.2.2.2.2.2.2.2.2.2.2.2.2.2.2.2.1 v2.toNatClampNeg 0), r2.2.2.2.2.2.2.2.2.2.2.2.2.2.2.2.2.2.2.1, r2.2.2.2.2.2.2.2.2.2.2.2.2.2.2.2.2.2.2.2.1, r2.2.2.2.2.2.2.2.2.2.2.2.2.2.2.2.2.2.2.2.2.1, r2.2.2.2.2.2.2.2.2.2.2.2.2.2.2.2.2.2.2.2.2.2.1, r2.2.2.2.2.2.2.2.2.2.2.2.2.2.2.2.2.2.2.2.2.2.2.1, r2.2.2.2.2.2.2.2.2.2.2.2.2.2.2.2.2.2.2.2.2.2.2.2.1, r2.2.2.2.2.2.2.2.2.2.2.2.2.2.2.2.2.2.2.2.2.2.2.2.2.1, r2.2.2.2.2.2.2.2.2.2.2.2.2.2.2.2.2.2.2.2.2.2.2.2.2.2.1, r2.2.2.2.2.2.2.2.2.2.2.2.2.2.2.2.2.2.2.2.2.2.2.2.2.2.2.1, r2.2.2.2.2.2.2.2.2.2.2.2.2.2.2.2.2.2.2.2.2.2.2.2.2.2.2.2.1, r2.2.2.2.2.2.2.2.2.2.2.2.2.2.2.2.2.2.2.2.2.2.2.2.2.2.2.2.2.1, r2.2.2.2.2.2.2.2.2.2.2.2.2.2.2.2.2.2.2.2.2.2.2.2.2.2.2.2.2.2.1, r2.2.2.2.2.2.2.2.2.2.2.2.2.2.2.2.2.2.2.2.2.2.2.2.2.2.2.2.2.2.2) (v2 + 1)
 else none
def f_X11_readsCells (S : VX11) (v1 : Int32) : Option (Int32 × VX11) :=
 (f_X11_byteAt S v1 S.2.2.2.2.2.2.2.2.2.2.2.2.2.1).bind fun r5 =>
 if r5 = 110 then
 (f_X11_figure (S.1, S.2.1, S.2.2.1, S.2.2.2.1, S.2.2.2.2.1, S.2.2.2.2.2.1, S.2.2.2.2.2.2.1, S.2.2.2.2.2.2.2.1, S.2.2.2.2.2.2.2.2.1, S.2.2.2.2.2.2.2.2.2.1, S.2.2.2.2.2.2.2.2.2.2.1, S.2.2.2.2.2.2.2.2.2.2.2.1, S.2.2.2.2.2.2.2.2.2.2.2.2.1, (S.2.2.2.2.2.2.2.2.2.2.2.2.2.1 + (1 : Int32)), S.2.2.2.2.2.2.2.2.2.2.2.2.2.2.1, S.2.2.2.2.2.2.2.2.2.2.2.2.2.2.2.1, S.2.2.2.2.2.2.2.2.2.2.2.2.2.2.2.2.1, S.2.2.2.2.2.2.2.2.2.2.2.2.2.2.2.2.2.1, S.2.2.2.2.2.2.2.2.2.2.2.2.2.2.2.2.2.2.1, S.2.2.2.2.2.2.2.2.2.2.2.2.2.2.2.2.2.2.2.1, S.2.2.2.2.2.2.2.2.2.2.2.2.2.2.2.2.2.2.2.2.1, S.2.2.2.2.2.2.2.2.2.2.2.2.2.2.2.2.2.2.2.2.2.1, S.2.2.2.2.2.2.2.2.2.2.2.2.2.2.2.2.2.2.2.2.2.2.1, S.2.2.2.2.2.2.2.2.2.2.2.2.2.2.2.2.2.2.2.2.2.2.2.1, S.2.2.2.2.2.2.2.2.2.2.2.2.2.2.2.2.2.2.2.2.2.2.2.2.1, S.2.2.2.2.2.2.2.2.2.2.2.2.2.2.2.2.2.2.2.2.2.2.2.2.2.1, S.2.2.2.2.2.2.2.2.2.2.2.2.2.2.2.2.2.2.2.2.2.2.2.2.2.2.1, S.2.2.2.2.2.2.2.2.2.2.2.2.2.2.2.2.2.2.2.2.2.2.2.2.2.2.2.1, S.2.2.2.2.2.2.2.2.2.2.2.2.2.2.2.2.2.2.2.2.2.2.2.2.2.2.2.2.1, S.2.2.2.2.2.2.2.2.2.2.2.2.2.2.2.2.2.2.2.2.2.2.2.2.2.2.2.2.2.1, S.2.2.2.2.2.2.2.2.2.2.2.2.2.2.2.2.2.2.2.2.2.2.2.2.2.2.2.2.2.2) v1 2 8).bind fun r7 =>
 if r7.1 = 0 then
 some (0, r7.2)
 else
 f_X11_readsCells_49 4096 (r7.2.1, r7.2.2.1, r7.2.2.2.1, r7.2.2.2.2.1, r7.2.2.2.2.2.1, r7.2.2.2.2.2.2.1, r7.2.2.2.2.2.2.2.1, r7.2.2.2.2.2.2.2.2.1, r7.2.2.2.2.2.2.2.2.2.1, r7.2.2.2.2.2.2.2.2.2.2.1, r7.2.2.2.2.2.2.2.2.2.2.2.1, r7.2.2.2.2.2.2.2.2.2.2.2.2.1, r7.2.2.2.2.2.2.2.2.2.2.2.2.2.1, r7.2.2.2.2.2.2.2.2.2.2.2.2.2.2.1, r7.2.2.2.2.2.2.2.2.2.2.2.2.2.2.2.1, r7.2.2.2.2.2.2.2.2.2.2.2.2.2.2.2.1, r7.2.2.2.2.2.2.2.2.2.2.2.2.2.2.2.2.2.1, r7.2.2.2.2.2.2.2.2.2.2.2.2.2.2.2.2.2.2.1, r7.2.2.2.2.2.2.2.2.2.2.2.2.2.2.2.2.2.2.2.1, r7.2.2.2.2.2.2.2.2.2.2.2.2.2.2.2.2.2.2.2.2.1, r7.2.2.2.2.2.2.2.2.2.2.2.2.2.2.2.2.2.2.2.2.2.1, r7.2.2.2.2.2.2.2.2.2.2.2.2.2.2.2.2.2.2.2.2.2.2.1, r7.2.2.2.2.2.2.2.2.2.2.2.2.2.2.2.2.2.2.2.2.2.2.2.1, r7.2.2.2.2.2.2.2.2.2.2.2.2.2.2.2.2.2.2.2.2.2.2.2.2.1, r7.2.2.2.2.2.2.2.2.2.2.2.2.2.2.2.2.2.2.2.2.2.2.2.2.2.1, r7.2.2.2.2.2.2.2.2.2.2.2.2.2.2.2.2.2.2.2.2.2.2.2.2.2.2.1, r7.2.2.2.2.2.2.2.2.2.2.2.2.2.2.2.2.2.2.2.2.2.2.2.2.2.2.2.1, r7.2.2.2.2.2.2.2.2.2.2.2.2.2.2.2.2.2.2.2.2.2.2.2.2.2.2.2.2.1, r7.2.2.2.2.2.2.2.2.2.2.2.2.2.2.2.2.2.2.2.2.2.2.2.2.2.2.2.2.2.1, r7.2.2.2.2.2.2.2.2.2.2.2.2.2.2.2.2.2.2.2.2.2.2.2.2.2.2.2.2.2.2.1, r7.2.2.2.2.2.2.2.2.2.2.2.2.2.2.2.2.2.2.2.2.2.2.2.2.2.2.2.2.2.2.2) 0
 else
 some (0, S)
def f_X11_letter_54  (S : VX11) (t0 : Int32) : Option (Int32 × VX11) :=
 if t0 = 0 then
 if t0 = 0 ∨ t0 = 1 then
 some (t0, (S.1, S.2.1, S.2.2.1, S.2.2.2.1, S.2.2.2.2.1, S.2.2.2.2.2.1, S.2.2.2.2.2.2.1, S.2.2.2.2.2.2.2.1, S.2.2.2.2.2.2.2.2.1, S.2.2.2.2.2.2.2.2.2.1, S.2.2.2.2.2.2.2.2.2.2.1, S.2.2.2.2.2.2.2.2.2.2.2.1, S.2.2.2.2.2.2.2.2.2.2.2.2.1, (S.2.2.2.2.2.2.2.2.2.2.2.2.2.1 + (0 : Int32)), S.2.2.2.2.2.2.2.2.2.2.2.2.2.2.1, S.2.2.2.2.2.2.2.2.2.2.2.2.2.2.2.1, S.2.2.2.2.2.2.2.2.2.2.2.2.2.2.2.2.1, S.2.2.2.2.2.2.2.2.2.2.2.2.2.2.2.2.2.1, S.2.2.2.2.2.2.2.2.2.2.2.2.2.2.2.2.2.2.1, S.2.2.2.2.2.2.2.2.2.2.2.2.2.2.2.2.2.2.2.1, S.2.2.2.2.2.2.2.2.2.2.2.2.2.2.2.2.2.2.2.2.1, S.2.2.2.2.2.2.2.2.2.2.2.2.2.2.2.2.2.2.2.2.2.1, S.2.2.2.2.2.2.2.2.2.2.2.2.2.2.2.2.2.2.2.2.2.2.1, S.2.2.2.2.2.2.2.2.2.2.2.2.2.2.2.2.2.2.2.2.2.2.2.1, S.2.2.2.2.2.2.2.2.2.2.2.2.2.2.2.2.2.2.2.2.2.2.2.2.1, S.2.2.2.2.2.2.2.2.2.2.2.2.2.2.2.2.2.2.2.2.2.2.2.2.2.1, S.2.2.2.2.2.2.2.2.2.2.2.2.2.2.2.2.2.2.2.2.2.2.2.2.2.2.1, S.2.2.2.2.2.2.2.2.2.2.2.2.2.2.2.2.2.2.2.2.2.2.2.2.2.2.2.1, S.2.2.2.2.2.2.2.2.2.2.2.2.2.2.2.2.2.2.2.2.2.2.2.2.2.2.2.2.1, S.2.2.2.2.2.2.2.2.2.2.2.2.2.2.2.2.2.2.2.2.2.2.2.2.2.2.2.2.2.1, S.2.2.2.2.2.2.2.2.2.2.2.2.2.2.2.2.2.2.2.2.2.2.2.2.2.2.2.2.2.2))
 else none
 else
 if t0 = 0 ∨ t0 = 1 then
 some (t0, (S.1, S.2.1, S.2.2.1, S.2.2.2.1, S.2.2.2.2.1, S.2.2.2.2.2.1, S.2.2.2.2.2.2.1, S.2.2.2.2.2.2.2.1, S.2.2.2.2.2.2.2.2.1, S.2.2.2.2.2.2.2.2.2.1, S.2.2.2.2.2.2.2.2.2.2.1, S.2.2.2.2.2.2.2.2.2.2.2.1, S.2.2.2.2.2.2.2.2.2.2.2.2.1, (S.2.2.2.2.2.2.2.2.2.2.2.2.2.1 + (1 : Int32)), S.2.2.2.2.2.2.2.2.2.2.2.2.2.2.1, S.2.2.2.2.2.2.2.2.2.2.2.2.2.2.2.1, S.2.2.2.2.2.2.2.2.2.2.2.2.2.2.2.2.1, S.2.2.2.2.2.2.2.2.2.2.2.2.2.2.2.2.2.1, S.2.2.2.2.2.2.2.2.2.2.2.2.2.2.2.2.2.2.1, S.2.2.2.2.2.2.2.2.2.2.2.2.2.2.2.2.2.2.2.1, S.2.2.2.2.2.2.2.2.2.2.2.2.2.2.2.2.2.2.2.2.1, S.2.2.2.2.2.2.2.2.2.2.2.2.2.2.2.2.2.2.2.2.2.1, S.2.2.2.2.2.2.2.2.2.2.2.2.2.2.2.2.2.2.2.2.2.2.1, S.2.2.2.2.2.2.2.2.2.2.2.2.2.2.2.2.2.2.2.2.2.2.2.1, S.2.2.2.2.2.2.2.2.2.2.2.2.2.2.2.2.2.2.2.2.2.2.2.2.1, S.2.2.2.2.2.2.2.2.2.2.2.2.2.2.2.2.2.2.2.2.2.2.2.2.2.1, S.2.2.2.2.2.2.2.2.2.2.2.2.2.2.2.2.2.2.2.2.2.2.2.2.2.2.1, S.2.2.2.2.2.2.2.2.2.2.2.2.2.2.2.2.2.2.2.2.2.2.2.2.2.2.2.1, S.2.2.2.2.2.2.2.2.2.2.2.2.2.2.2.2.2.2.2.2.2.2.2.2.2.2.2.2.1, S.2.2.2.2.2.2.2.2.2.2.2.2.2.2.2.2.2.2.2.2.2.2.2.2.2.2.2.2.2.1, S.2.2.2.2.2.2.2.2.2.2.2.2.2.2.2.2.2.2.2.2.2.2.2.2.2.2.2.2.2.2))
 else none
def f_X11_letter (S : VX11) (v1 : Int32) (v2 : Int32) (v3 : Int32) : Option (Int32 × VX11) :=
 (f_X11_byteAt S v1 S.2.2.2.2.2.2.2.2.2.2.2.2.2.1).bind fun r3 =>
 (f_X11_in (r3 - (65 : Int32)) 0 (S.2.2.2.2.2.2.2.2.2.2.2.2.2.2.2.1 - (1 : Int32))).bind fun r5 =>
 if r5 = 0 then
 f_X11_letter_54 (S.1, S.2.1, S.2.2.1, S.2.2.2.1, S.2.2.2.2.1, S.2.2.2.2.2.1, S.2.2.2.2.2.2.1, S.2.2.2.2.2.2.2.1, S.2.2.2.2.2.2.2.2.1, S.2.2.2.2.2.2.2.2.2.1, S.2.2.2.2.2.2.2.2.2.2.1, S.2.2.2.2.2.2.2.2.2.2.2.1, S.2.2.2.2.2.2.2.2.2.2.2.2.1, S.2.2.2.2.2.2.2.2.2.2.2.2.2.1, (r3 - (65 : Int32)), S.2.2.2.2.2.2.2.2.2.2.2.2.2.2.2.1, S.2.2.2.2.2.2.2.2.2.2.2.2.2.2.2.2.1, S.2.2.2.2.2.2.2.2.2.2.2.2.2.2.2.2.2.1, S.2.2.2.2.2.2.2.2.2.2.2.2.2.2.2.2.2.2.1, S.2.2.2.2.2.2.2.2.2.2.2.2.2.2.2.2.2.2.2.1, S.2.2.2.2.2.2.2.2.2.2.2.2.2.2.2.2.2.2.2.2.1, S.2.2.2.2.2.2.2.2.2.2.2.2.2.2.2.2.2.2.2.2.2.1, S.2.2.2.2.2.2.2.2.2.2.2.2.2.2.2.2.2.2.2.2.2.2.1, S.2.2.2.2.2.2.2.2.2.2.2.2.2.2.2.2.2.2.2.2.2.2.2.1, S.2.2.2.2.2.2.2.2.2.2.2.2.2.2.2.2.2.2.2.2.2.2.2.2.1, S.2.2.2.2.2.2.2.2.2.2.2.2.2.2.2.2.2.2.2.2.2.2.2.2.2.1, S.2.2.2.2.2.2.2.2.2.2.2.2.2.2.2.2.2.2.2.2.2.2.2.2.2.2.1, S.2.2.2.2.2.2.2.2.2.2.2.2.2.2.2.2.2.2.2.2.2.2.2.2.2.2.2.1, S.2.2.2.2.2.2.2.2.2.2.2.2.2.2.2.2.2.2.2.2.2.2.2.2.2.2.2.2.1, S.2.2.2.2.2.2.2.2.2.2.2.2.2.2.2.2.2.2.2.2.2.2.2.2.2.2.2.2.2.1, S.2.2.2.2.2.2.2.2.2.2.2.2.2.2.2.2.2.2.2.2.2.2.2.2.2.2.2.2.2.2) 0
 else
 if (r3 - (65 : Int32)) = v2 then
 f_X11_letter_54 (S.1, S.2.1, S.2.2.1, S.2.2.2.1, S.2.2.2.2.1, S.2.2.2.2.2.1, S.2.2.2.2.2.2.1, S.2.2.2.2.2.2.2.1, S.2.2.2.2.2.2.2.2.1, S.2.2.2.2.2.2.2.2.2.1, S.2.2.2.2.2.2.2.2.2.2.1, S.2.2.2.2.2.2.2.2.2.2.2.1, S.2.2.2.2.2.2.2.2.2.2.2.2.1, S.2.2.2.2.2.2.2.2.2.2.2.2.2.1, (r3 - (65 : Int32)), S.2.2.2.2.2.2.2.2.2.2.2.2.2.2.2.1, S.2.2.2.2.2.2.2.2.2.2.2.2.2.2.2.2.1, S.2.2.2.2.2.2.2.2.2.2.2.2.2.2.2.2.2.1, S.2.2.2.2.2.2.2.2.2.2.2.2.2.2.2.2.2.2.1, S.2.2.2.2.2.2.2.2.2.2.2.2.2.2.2.2.2.2.2.1, S.2.2.2.2.2.2.2.2.2.2.2.2.2.2.2.2.2.2.2.2.1, S.2.2.2.2.2.2.2.2.2.2.2.2.2.2.2.2.2.2.2.2.2.1, S.2.2.2.2.2.2.2.2.2.2.2.2.2.2.2.2.2.2.2.2.2.2.1, S.2.2.2.2.2.2.2.2.2.2.2.2.2.2.2.2.2.2.2.2.2.2.2.1, S.2.2.2.2.2.2.2.2.2.2.2.2.2.2.2.2.2.2.2.2.2.2.2.2.1, S.2.2.2.2.2.2.2.2.2.2.2.2.2.2.2.2.2.2.2.2.2.2.2.2.2.1, S.2.2.2.2.2.2.2.2.2.2.2.2.2.2.2.2.2.2.2.2.2.2.2.2.2.2.1, S.2.2.2.2.2.2.2.2.2.2.2.2.2.2.2.2.2.2.2.2.2.2.2.2.2.2.2.1, S.2.2.2.2.2.2.2.2.2.2.2.2.2.2.2.2.2.2.2.2.2.2.2.2.2.2.2.2.1, S.2.2.2.2.2.2.2.2.2.2.2.2.2.2.2.2.2.2.2.2.2.2.2.2.2.2.2.2.2.1, S.2.2.2.2.2.2.2.2.2.2.2.2.2.2.2.2.2.2.2.2.2.2.2.2.2.2.2.2.2.2) 0
 else
 if (r3 - (65 : Int32)) = v3 then
 f_X11_letter_54 (S.1, S.2.1, S.2.2.1, S.2.2.2.1, S.2.2.2.2.1, S.2.2.2.2.2.1, S.2.2.2.2.2.2.1, S.2.2.2.2.2.2.2.1, S.2.2.2.2.2.2.2.2.1, S.2.2.2.2.2.2.2.2.2.1, S.2.2.2.2.2.2.2.2.2.2.1, S.2.2.2.2.2.2.2.2.2.2.2.1, S.2.2.2.2.2.2.2.2.2.2.2.2.1, S.2.2.2.2.2.2.2.2.2.2.2.2.2.1, (r3 - (65 : Int32)), S.2.2.2.2.2.2.2.2.2.2.2.2.2.2.2.1, S.2.2.2.2.2.2.2.2.2.2.2.2.2.2.2.2.1, S.2.2.2.2.2.2.2.2.2.2.2.2.2.2.2.2.2.1, S.2.2.2.2.2.2.2.2.2.2.2.2.2.2.2.2.2.2.1, S.2.2.2.2.2.2.2.2.2.2.2.2.2.2.2.2.2.2.2.1, S.2.2.2.2.2.2.2.2.2.2.2.2.2.2.2.2.2.2.2.2.1, S.2.2.2.2.2.2.2.2.2.2.2.2.2.2.2.2.2.2.2.2.2.1, S.2.2.2.2.2.2.2.2.2.2.2.2.2.2.2.2.2.2.2.2.2.2.1, S.2.2.2.2.2.2.2.2.2.2.2.2.2.2.2.2.2.2.2.2.2.2.2.1, S.2.2.2.2.2.2.2.2.2.2.2.2.2.2.2.2.2.2.2.2.2.2.2.2.1, S.2.2.2.2.2.2.2.2.2.2.2.2.2.2.2.2.2.2.2.2.2.2.2.2.2.1, S.2.2.2.2.2.2.2.2.2.2.2.2.2.2.2.2.2.2.2.2.2.2.2.2.2.2.1, S.2.2.2.2.2.2.2.2.2.2.2.2.2.2.2.2.2.2.2.2.2.2.2.2.2.2.2.1, S.2.2.2.2.2.2.2.2.2.2.2.2.2.2.2.2.2.2.2.2.2.2.2.2.2.2.2.2.1, S.2.2.2.2.2.2.2.2.2.2.2.2.2.2.2.2.2.2.2.2.2.2.2.2.2.2.2.2.2.1, S.2.2.2.2.2.2.2.2.2.2.2.2.2.2.2.2.2.2.2.2.2.2.2.2.2.2.2.2.2.2) 0
 else
 f_X11_letter_54 (S.1, S.2.1, S.2.2.1, S.2.2.2.1, S.2.2.2.2.1, S.2.2.2.2.2.1, S.2.2.2.2.2.2.1, S.2.2.2.2.2.2.2.1, S.2.2.2.2.2.2.2.2.1, S.2.2.2.2.2.2.2.2.2.1, S.2.2.2.2.2.2.2.2.2.2.1, S.2.2.2.2.2.2.2.2.2.2.2.1, S.2.2.2.2.2.2.2.2.2.2.2.2.1, S.2.2.2.2.2.2.2.2.2.2.2.2.2.1, (r3 - (65 : Int32)), S.2.2.2.2.2.2.2.2.2.2.2.2.2.2.2.1, S.2.2.2.2.2.2.2.2.2.2.2.2.2.2.2.2.1, S.2.2.2.2.2.2.2.2.2.2.2.2.2.2.2.2.2.1, S.2.2.2.2.2.2.2.2.2.2.2.2.2.2.2.2.2.2.1, S.2.2.2.2.2.2.2.2.2.2.2.2.2.2.2.2.2.2.2.1, S.2.2.2.2.2.2.2.2.2.2.2.2.2.2.2.2.2.2.2.2.1, S.2.2.2.2.2.2.2.2.2.2.2.2.2.2.2.2.2.2.2.2.2.1, S.2.2.2.2.2.2.2.2.2.2.2.2.2.2.2.2.2.2.2.2.2.2.1, S.2.2.2.2.2.2.2.2.2.2.2.2.2.2.2.2.2.2.2.2.2.2.2.1, S.2.2.2.2.2.2.2.2.2.2.2.2.2.2.2.2.2.2.2.2.2.2.2.2.1, S.2.2.2.2.2.2.2.2.2.2.2.2.2.2.2.2.2.2.2.2.2.2.2.2.2.1, S.2.2.2.2.2.2.2.2.2.2.2.2.2.2.2.2.2.2.2.2.2.2.2.2.2.2.1, S.2.2.2.2.2.2.2.2.2.2.2.2.2.2.2.2.2.2.2.2.2.2.2.2.2.2.2.1, S.2.2.2.2.2.2.2.2.2.2.2.2.2.2.2.2.2.2.2.2.2.2.2.2.2.2.2.2.1, S.2.2.2.2.2.2.2.2.2.2.2.2.2.2.2.2.2.2.2.2.2.2.2.2.2.2.2.2.2.1, S.2.2.2.2.2.2.2.2.2.2.2.2.2.2.2.2.2.2.2.2.2.2.2.2.2.2.2.2.2.2) 1
def f_X11_readsItem_235  (S : VX11) (v4 : Int32) (t0 : Int32) (t1 : Int32) : Option (Int32 × VX11) :=
 (f_X11_readsNew S t1 t0 v4 (-9) S.2.2.2.2.2.2.2.2.2.2.2.2.2.2.1).bind fun r1 =>
 some (1, r1)
def f_X11_readsItem_222  (S : VX11) (v2 : Int32) (v3 : Int32) (v4 : Int32) : Option (Int32 × VX11) :=
 if v2 = 108 then
 f_X11_readsItem_235 S v4 3 v3
 else
 f_X11_readsItem_235 S v4 4 v3
def f_X11_readsItem_262  (S : VX11) (v4 : Int32) (t0 : Int32) (t1 : Int32) : Option (Int32 × VX11) :=
 (f_X11_readsNew S t1 t0 v4 S.2.2.2.2.2.2.2.2.2.2.2.2.2.2.1 0).bind fun r3 =>
 some (1, r3)
def f_X11_readsItem_210  (S : VX11) (v2 : Int32) (v3 : Int32) (v4 : Int32) : Option (Int32 × VX11) :=
 if v2 = 108 then
 f_X11_readsItem_222 S v2 v3 v4
 else
 if v2 = 115 then
 f_X11_readsItem_222 S v2 v3 v4
 else
 if v2 = 116 then
 f_X11_readsItem_262 S v4 1 v3
 else
 f_X11_readsItem_262 S v4 5 v3
def f_X11_readsItem_183  (S : VX11) (v1 : Int32) (v2 : Int32) (v3 : Int32) (v4 : Int32) : Option (Int32 × VX11) :=
 (f_X11_figure S v1 0 9).bind fun r5 =>
 if r5.1 = 0 then
 some (0, r5.2)
 else
 f_X11_readsItem_210 r5.2 v2 v3 v4
def f_X11_readsItem_54  (S : VX11) (v1 : Int32) (v2 : Int32) : Option (Int32 × VX11) :=
 (f_X11_letter (S.1, S.2.1, S.2.2.1, S.2.2.2.1, S.2.2.2.2.1, S.2.2.2.2.2.1, S.2.2.2.2.2.2.1, S.2.2.2.2.2.2.2.1, S.2.2.2.2.2.2.2.2.1, S.2.2.2.2.2.2.2.2.2.1, S.2.2.2.2.2.2.2.2.2.2.1, S.2.2.2.2.2.2.2.2.2.2.2.1, S.2.2.2.2.2.2.2.2.2.2.2.2.1, (S.2.2.2.2.2.2.2.2.2.2.2.2.2.1 + (1 : Int32)), S.2.2.2.2.2.2.2.2.2.2.2.2.2.2.1, S.2.2.2.2.2.2.2.2.2.2.2.2.2.2.2.1, S.2.2.2.2.2.2.2.2.2.2.2.2.2.2.2.2.1, S.2.2.2.2.2.2.2.2.2.2.2.2.2.2.2.2.2.1, S.2.2.2.2.2.2.2.2.2.2.2.2.2.2.2.2.2.2.1, S.2.2.2.2.2.2.2.2.2.2.2.2.2.2.2.2.2.2.2.1, S.2.2.2.2.2.2.2.2.2.2.2.2.2.2.2.2.2.2.2.2.1, S.2.2.2.2.2.2.2.2.2.2.2.2.2.2.2.2.2.2.2.2.2.1, S.2.2.2.2.2.2.2.2.2.2.2.2.2.2.2.2.2.2.2.2.2.2.1, S.2.2.2.2.2.2.2.2.2.2.2.2.2.2.2.2.2.2.2.2.2.2.2.1, S.2.2.2.2.2.2.2.2.2.2.2.2.2.2.2.2.2.2.2.2.2.2.2.2.1, S.2.2.2.2.2.2.2.2.2.2.2.2.2.2.2.2.2.2.2.2.2.2.2.2.2.1, S.2.2.2.2.2.2.2.2.2.2.2.2.2.2.2.2.2.2.2.2.2.2.2.2.2.2.1, S.2.2.2.2.2.2.2.2.2.2.2.2.2.2.2.2.2.2.2.2.2.2.2.2.2.2.2.1, S.2.2.2.2.2.2.2.2.2.2.2.2.2.2.2.2.2.2.2.2.2.2.2.2.2.2.2.2.1, S.2.2.2.2.2.2.2.2.2.2.2.2.2.2.2.2.2.2.2.2.2.2.2.2.2.2.2.2.2.1, S.2.2.2.2.2.2.2.2.2.2.2.2.2.2.2.2.2.2.2.2.2.2.2.2.2.2.2.2.2.2) v1 (-1) (-1)).bind fun r7 =>
 if r7.1 = 0 then
 some (0, r7.2)
 else
 if v2 = 105 then
 (f_X11_readsNew r7.2 r7.2.2.2.2.2.2.2.2.2.2.2.2.2.2.2.1 2 (-9) (-9) 0).bind fun r19 =>
 some (1, r19)
 else
 (f_X11_letter r7.2 v1 r7.2.2.2.2.2.2.2.2.2.2.2.2.2.2.2.1 (-1)).bind fun r9 =>
 if r9.1 = 0 then
 some (0, r9.2)
 else
 if v2 = 107 then
 (f_X11_readsNew r9.2 r7.2.2.2.2.2.2.2.2.2.2.2.2.2.2.2.1 0 r9.2.2.2.2.2.2.2.2.2.2.2.2.2.2.2.1 (-9) 0).bind fun r17 =>
 some (1, r17)
 else
 if v2 = 113 then
 if zIn r7.2.2.2.2.2.2.2.2.2.2.2.2.2.2.2.1 8 = true then
 if zIn r7.2.2.2.2.2.2.2.2.2.2.2.2.2.2.2.1 8 = true then
 if zIn r9.2.2.2.2.2.2.2.2.2.2.2.2.2.2.2.1 8 = true then
 if zIn r9.2.2.2.2.2.2.2.2.2.2.2.2.2.2.2.1 8 = true then
 some (1, (r9.2.1, r9.2.2.1, r9.2.2.2.1, r9.2.2.2.2.1, r9.2.2.2.2.2.1, r9.2.2.2.2.2.2.1, r9.2.2.2.2.2.2.2.1, r9.2.2.2.2.2.2.2.2.1, r9.2.2.2.2.2.2.2.2.2.1, r9.2.2.2.2.2.2.2.2.2.2.1, r9.2.2.2.2.2.2.2.2.2.2.2.1, r9.2.2.2.2.2.2.2.2.2.2.2.2.1, r9.2.2.2.2.2.2.2.2.2.2.2.2.2.1, r9.2.2.2.2.2.2.2.2.2.2.2.2.2.2.1, r9.2.2.2.2.2.2.2.2.2.2.2.2.2.2.2.1, r9.2.2.2.2.2.2.2.2.2.2.2.2.2.2.2.2.1, r9.2.2.2.2.2.2.2.2.2.2.2.2.2.2.2.2.2.1, (upd (upd r9.2.2.2.2.2.2.2.2.2.2.2.2.2.2.2.2.2.2.1 r7.2.2.2.2.2.2.2.2.2.2.2.2.2.2.2.1.toNatClampNeg ((r9.2.2.2.2.2.2.2.2.2.2.2.2.2.2.2.2.2.2.1 r7.2.2.2.2.2.2.2.2.2.2.2.2.2.2.2.1.toNatClampNeg) ||| ((1 : Int32) <<< (r9.2.2.2.2.2.2.2.2.2.2.2.2.2.2.2.1 &&& 31)))) r9.2.2.2.2.2.2.2.2.2.2.2.2.2.2.2.1.toNatClampNeg (((upd r9.2.2.2.2.2.2.2.2.2.2.2.2.2.2.2.2.2.2.1 r7.2.2.2.2.2.2.2.2.2.2.2.2.2.2.2.1.toNatClampNeg ((r9.2.2.2.2.2.2.2.2.2.2.2.2.2.2.2.2.2.2.1 r7.2.2.2.2.2.2.2.2.2.2.2.2.2.2.2.1.toNatClampNeg) ||| ((1 : Int32) <<< (r9.2.2.2.2.2.2.2.2.2.2.2.2.2.2.2.1 &&& 31)))) r9.2.2.2.2.2.2.2.2.2.2.2.2.2.2.2.1.toNatClampNeg) ||| ((1 : Int32) <<< (r7.2.2.2.2.2.2.2.2.2.2.2.2.2.2.2.1 &&& 31)))), r9.2.2.2.2.2.2.2.2.2.2.2.2.2.2.2.2.2.2.2.1, r9.2.2.2.2.2.2.2.2.2.2.2.2.2.2.2.2.2.2.2.2.1, r9.2.2.2.2.2.2.2.2.2.2.2.2.2.2.2.2.2.2.2.2.2.1, r9.2.2.2.2.2.2.2.2.2.2.2.2.2.2.2.2.2.2.2.2.2.2.1, r9.2.2.2.2.2.2.2.2.2.2.2.2.2.2.2.2.2.2.2.2.2.2.2.1, r9.2.2.2.2.2.2.2.2.2.2.2.2.2.2.2.2.2.2.2.2.2.2.2.2.1, r9.2.2.2.2.2.2.2.2.2.2.2.2.2.2.2.2.2.2.2.2.2.2.2.2.2.1, r9.2.2.2.2.2.2.2.2.2.2.2.2.2.2.2.2.2.2.2.2.2.2.2.2.2.2.1, r9.2.2.2.2.2.2.2.2.2.2.2.2.2.2.2.2.2.2.2.2.2.2.2.2.2.2.2.1, r9.2.2.2.2.2.2.2.2.2.2.2.2.2.2.2.2.2.2.2.2.2.2.2.2.2.2.2.2.1, r9.2.2.2.2.2.2.2.2.2.2.2.2.2.2.2.2.2.2.2.2.2.2.2.2.2.2.2.2.2.1, r9.2.2.2.2.2.2.2.2.2.2.2.2.2.2.2.2.2.2.2.2.2.2.2.2.2.2.2.2.2.2.1, r9.2.2.2.2.2.2.2.2.2.2.2.2.2.2.2.2.2.2.2.2.2.2.2.2.2.2.2.2.2.2.2))
 else none
 else none
 else none
 else none
 else
 if v2 = 108 then
 f_X11_readsItem_183 r9.2 v1 v2 r7.2.2.2.2.2.2.2.2.2.2.2.2.2.2.2.1 r9.2.2.2.2.2.2.2.2.2.2.2.2.2.2.2.1
 else
 if v2 = 115 then
 f_X11_readsItem_183 r9.2 v1 v2 r7.2.2.2.2.2.2.2.2.2.2.2.2.2.2.2.1 r9.2.2.2.2.2.2.2.2.2.2.2.2.2.2.2.1
 else
 (f_X11_letter r9.2 v1 r7.2.2.2.2.2.2.2.2.2.2.2.2.2.2.2.1 r9.2.2.2.2.2.2.2.2.2.2.2.2.2.2.2.1).bind fun r11 =>
 if r11.1 = 0 then
 some (0, r11.2)
 else
 f_X11_readsItem_210 r11.2 v2 r7.2.2.2.2.2.2.2.2.2.2.2.2.2.2.2.1 r9.2.2.2.2.2.2.2.2.2.2.2.2.2.2.2.1
def f_X11_readsItem (S : VX11) (v1 : Int32) : Option (Int32 × VX11) :=
 (f_X11_byteAt S v1 S.2.2.2.2.2.2.2.2.2.2.2.2.2.1).bind fun r21 =>
 if r21 = 107 then
 f_X11_readsItem_54 S v1 r21
 else
 if r21 = 116 then
 f_X11_readsItem_54 S v1 r21
 else
 if r21 = 105 then
 f_X11_readsItem_54 S v1 r21
 else
 if r21 = 108 then
 f_X11_readsItem_54 S v1 r21
 else
 if r21 = 115 then
 f_X11_readsItem_54 S v1 r21
 else
 if r21 = 98 then
 f_X11_readsItem_54 S v1 r21
 else
 if r21 = 113 then
 f_X11_readsItem_54 S v1 r21
 else
 some (0, S)
def f_X11_faultOf_10  : Nat → VX11 → Int32 → Option (Int32 × VX11)
 | 0, _, _ => none
 | n + 1, S, v1 =>
 if zIn v1 4 = true then
 if (S.2.2.2.2.2.2.2.2.1 v1.toNatClampNeg) ≤ S.2.2.2.2.2.2.2.2.2.2.2.2.2.1 then
 if S.2.2.2.2.2.2.2.2.2.2.2.2.2.2.2.1 = 0 then
 if zIn v1 4 = true then
 some ((S.2.2.2.2.2.2.2.2.1 v1.toNatClampNeg), S)
 else none
 else
 some ((-9), S)
 else
 (f_X11_byteAt S v1 S.2.2.2.2.2.2.2.2.2.2.2.2.2.1).bind fun r3 =>
 if r3 = 32 then
 f_X11_faultOf_10 n (S.1, S.2.1, S.2.2.1, S.2.2.2.1, S.2.2.2.2.1, S.2.2.2.2.2.1, S.2.2.2.2.2.2.1, S.2.2.2.2.2.2.2.1, S.2.2.2.2.2.2.2.2.1, S.2.2.2.2.2.2.2.2.2.1, S.2.2.2.2.2.2.2.2.2.2.1, S.2.2.2.2.2.2.2.2.2.2.2.1, S.2.2.2.2.2.2.2.2.2.2.2.2.1, (S.2.2.2.2.2.2.2.2.2.2.2.2.2.1 + (1 : Int32)), S.2.2.2.2.2.2.2.2.2.2.2.2.2.2.1, S.2.2.2.2.2.2.2.2.2.2.2.2.2.2.2.1, S.2.2.2.2.2.2.2.2.2.2.2.2.2.2.2.2.1, S.2.2.2.2.2.2.2.2.2.2.2.2.2.2.2.2.2.1, S.2.2.2.2.2.2.2.2.2.2.2.2.2.2.2.2.2.2.1, S.2.2.2.2.2.2.2.2.2.2.2.2.2.2.2.2.2.2.2.1, S.2.2.2.2.2.2.2.2.2.2.2.2.2.2.2.2.2.2.2.2.1, S.2.2.2.2.2.2.2.2.2.2.2.2.2.2.2.2.2.2.2.2.2.1, S.2.2.2.2.2.2.2.2.2.2.2.2.2.2.2.2.2.2.2.2.2.2.1, S.2.2.2.2.2.2.2.2.2.2.2.2.2.2.2.2.2.2.2.2.2.2.2.1, S.2.2.2.2.2.2.2.2.2.2.2.2.2.2.2.2.2.2.2.2.2.2.2.2.1, S.2.2.2.2.2.2.2.2.2.2.2.2.2.2.2.2.2.2.2.2.2.2.2.2.2.1, S.2.2.2.2.2.2.2.2.2.2.2.2.2.2.2.2.2.2.2.2.2.2.2.2.2.2.1, S.2.2.2.2.2.2.2.2.2.2.2.2.2.2.2.2.2.2.2.2.2.2.2.2.2.2.2.1, S.2.2.2.2.2.2.2.2.2.2.2.2.2.2.2.2.2.2.2.2.2.2.2.2.2.2.2.2.1, S.2.2.2.2.2.2.2.2.2.2.2.2.2.2.2.2.2.2.2.2.2.2.2.2.2.2.2.2.2.1, S.2.2.2.2.2.2.2.2.2.2.2.2.2.2.2.2.2.2.2.2.2.2.2.2.2.2.2.2.2.2) v1
 else
 if S.2.2.2.2.2.2.2.2.2.2.2.2.2.2.2.1 = 0 then
 (f_X11_readsCells S v1).bind fun r7 =>
 if r7.1 = 0 then
 some (r7.2.2.2.2.2.2.2.2.2.2.2.2.2.2.1, r7.2)
 else
 f_X11_faultOf_10 n r7.2 v1
 else
 (f_X11_readsItem S v1).bind fun r5 =>
 if r5.1 = 0 then
 some (r5.2.2.2.2.2.2.2.2.2.2.2.2.2.2.1, r5.2)
 else
 f_X11_faultOf_10 n r5.2 v1
 else none
def f_X11_faultOf (S : VX11) (v1 : Int32) : Option (Int32 × VX11) :=
 f_X11_faultOf_10 4096 (S.1, S.2.1, S.2.2.1, S.2.2.2.1, S.2.2.2.2.1, S.2.2.2.2.2.1, S.2.2.2.2.2.2.1, S.2.2.2.2.2.2.2.1, S.2.2.2.2.2.2.2.2.1, S.2.2.2.2.2.2.2.2.2.1, S.2.2.2.2.2.2.2.2.2.2.1, S.2.2.2.2.2.2.2.2.2.2.2.1, S.2.2.2.2.2.2.2.2.2.2.2.2.1, 0, S.2.2.2.2.2.2.2.2.2.2.2.2.2.2.1, 0, S.2.2.2.2.2.2.2.2.2.2.2.2.2.2.2.2.1, S.2.2.2.2.2.2.2.2.2.2.2.2.2.2.2.2.2.1, S.2.2.2.2.2.2.2.2.2.2.2.2.2.2.2.2.2.2.1, S.2.2.2.2.2.2.2.2.2.2.2.2.2.2.2.2.2.2.2.1, S.2.2.2.2.2.2.2.2.2.2.2.2.2.2.2.2.2.2.2.2.1, S.2.2.2.2.2.2.2.2.2.2.2.2.2.2.2.2.2.2.2.2.2.1, S.2.2.2.2.2.2.2.2.2.2.2.2.2.2.2.2.2.2.2.2.2.2.1, S.2.2.2.2.2.2.2.2.2.2.2.2.2.2.2.2.2.2.2.2.2.2.2.1, S.2.2.2.2.2.2.2.2.2.2.2.2.2.2.2.2.2.2.2.2.2.2.2.2.1, S.2.2.2.2.2.2.2.2.2.2.2.2.2.2.2.2.2.2.2.2.2.2.2.2.2.1, S.2.2.2.2.2.2.2.2.2.2.2.2.2.2.2.2.2.2.2.2.2.2.2.2.2.2.1, S.2.2.2.2.2.2.2.2.2.2.2.2.2.2.2.2.2.2.2.2.2.2.2.2.2.2.2.1, S.2.2.2.2.2.2.2.2.2.2.2.2.2.2.2.2.2.2.2.2.2.2.2.2.2.2.2.2.1, S.2.2.2.2.2.2.2.2.2.2.2.2.2.2.2.2.2.2.2.2.2.2.2.2.2.2.2.2.2.1, S.2.2.2.2.2.2.2.2.2.2.2.2.2.2.2.2.2.2.2.2.2.2.2.2.2.2.2.2.2.2) v1
def f_X11_fault (S : VX11) (v1 : Int32) : Option (Int32 × VX11) :=
 (f_X11_isText v1).bind fun r1 =>
 if r1 = 0 then
 some ((-1), S)
 else
 if zIn v1 4 = true then
 if 0 ≤ (S.2.2.2.2.2.2.2.2.1 v1.toNatClampNeg) then
 (f_X11_faultOf S v1).bind fun r4 =>
 some (r4.1, r4.2)
 else
 (f_X11_meets S 1).bind fun r6 =>
 some (r6.1, r6.2)
 else none
def f_X11_finding (S : VX11)  : Option (Int32) :=
 some S.1
def f_X11_findings (S : VX11) (v1 : Int32) : Option (Int32) :=
 (f_X11_in v1 1 5).bind fun r1 =>
 if r1 = 0 then
 some (-1)
 else
 if zIn v1 6 = true then
 some (S.2.1 v1.toNatClampNeg)
 else none
def f_X11_firstWith_34 (r_5 : VX11 → Int32 → Int32 → Int32 → Option (Int32)) (S : VX11) (v1 : Int32) (v2 : Int32) (v3 : Int32) (t0 : Int32) : Option (Int32) :=
 if t0 = 0 then
 r_5 S v1 v2 (v3 + 1)
 else
 if v2 = (-9) then
 r_5 S v1 v3 (v3 + 1)
 else
 if zIn v3 256 = true then
 if zIn v2 256 = true then
 if (S.2.2.2.2.2.2.2.2.2.2.2.2.2.2.2.2.2.2.2.2.2.2.1 v2.toNatClampNeg) ≤ (S.2.2.2.2.2.2.2.2.2.2.2.2.2.2.2.2.2.2.2.2.2.2.1 v3.toNatClampNeg) then
 r_5 S v1 v2 (v3 + 1)
 else
 r_5 S v1 v3 (v3 + 1)
 else none
 else none
def f_X11_firstWith_5  : Nat → VX11 → Int32 → Int32 → Int32 → Option (Int32)
 | 0, _, _, _, _ => none
 | n + 1, S, v1, v2, v3 =>
 (f_X11_all S).bind fun r3 =>
 if r3 < v3 then
 some v2
 else
 if (v3 &&& v1) = v1 then
 if zIn v3 256 = true then
 if (S.2.2.2.2.2.2.2.2.2.2.2.2.2.2.2.2.2.2.2.2.2.2.2.1 v3.toNatClampNeg) ≤ 0 then
 f_X11_firstWith_34 (f_X11_firstWith_5 n) S v1 v2 v3 0
 else
 f_X11_firstWith_34 (f_X11_firstWith_5 n) S v1 v2 v3 1
 else none
 else
 f_X11_firstWith_34 (f_X11_firstWith_5 n) S v1 v2 v3 0
def f_X11_firstWith (S : VX11) (v1 : Int32) : Option (Int32) :=
 f_X11_firstWith_5 4096 S v1 (-9) 0
def f_X11_foes (S : VX11) (v1 : Int32) : Option (Int32) :=
 (f_X11_isCell S v1).bind fun r1 =>
 if r1 = 0 then
 some (-1)
 else
 if zIn v1 8 = true then
 some (S.2.2.2.2.2.2.2.2.2.2.2.2.1 v1.toNatClampNeg)
 else none
def f_X11_forget (S : VX11) (v1 : Int32) : Option (Int32 × VX11) :=
 (f_X11_in v1 0 S.2.2.2.2.2.2.2.2.2.2.2.2.2.2.2.2.2.2.2.2.2.2.2.2.2.2.2.1).bind fun r1 =>
 if r1 = 0 then
 some ((-1), S)
 else
 some ((S.2.2.2.2.2.2.2.2.2.2.2.2.2.2.2.2.2.2.2.2.2.2.2.2.2.2.2.1 - v1), (S.1, S.2.1, S.2.2.1, S.2.2.2.1, S.2.2.2.2.1, S.2.2.2.2.2.1, S.2.2.2.2.2.2.1, S.2.2.2.2.2.2.2.1, S.2.2.2.2.2.2.2.2.1, S.2.2.2.2.2.2.2.2.2.1, S.2.2.2.2.2.2.2.2.2.2.1, S.2.2.2.2.2.2.2.2.2.2.2.1, S.2.2.2.2.2.2.2.2.2.2.2.2.1, S.2.2.2.2.2.2.2.2.2.2.2.2.2.1, S.2.2.2.2.2.2.2.2.2.2.2.2.2.2.1, S.2.2.2.2.2.2.2.2.2.2.2.2.2.2.2.1, S.2.2.2.2.2.2.2.2.2.2.2.2.2.2.2.2.1, S.2.2.2.2.2.2.2.2.2.2.2.2.2.2.2.2.2.1, S.2.2.2.2.2.2.2.2.2.2.2.2.2.2.2.2.2.2.1, S.2.2.2.2.2.2.2.2.2.2.2.2.2.2.2.2.2.2.2.1, S.2.2.2.2.2.2.2.2.2.2.2.2.2.2.2.2.2.2.2.2.1, S.2.2.2.2.2.2.2.2.2.2.2.2.2.2.2.2.2.2.2.2.2.1, S.2.2.2.2.2.2.2.2.2.2.2.2.2.2.2.2.2.2.2.2.2.2.1, S.2.2.2.2.2.2.2.2.2.2.2.2.2.2.2.2.2.2.2.2.2.2.2.1, S.2.2.2.2.2.2.2.2.2.2.2.2.2.2.2.2.2.2.2.2.2.2.2.2.1, S.2.2.2.2.2.2.2.2.2.2.2.2.2.2.2.2.2.2.2.2.2.2.2.2.2.1, S.2.2.2.2.2.2.2.2.2.2.2.2.2.2.2.2.2.2.2.2.2.2.2.2.2.2.1, v1, S.2.2.2.2.2.2.2.2.2.2.2.2.2.2.2.2.2.2.2.2.2.2.2.2.2.2.2.2.1, S.2.2.2.2.2.2.2.2.2.2.2.2.2.2.2.2.2.2.2.2.2.2.2.2.2.2.2.2.2.1, S.2.2.2.2.2.2.2.2.2.2.2.2.2.2.2.2.2.2.2.2.2.2.2.2.2.2.2.2.2.2))
def f_X11_fraction_6  : Nat → VX11 → Int64 → Int64 → Int32 → Int64 → Int64 → Option (Int32 × VX11)
 | 0, _, _, _, _, _, _ => none
 | n + 1, S, v1, v3, v5, v6, v8 =>
 if (lg_cmp v8 0) = 0 then
 if v6 = 0 then none else
 if v6 = 0 then none else
 some (v5, (S.1, S.2.1, S.2.2.1, (v1 / v6), (v3 / v6), S.2.2.2.2.2.1, S.2.2.2.2.2.2.1, S.2.2.2.2.2.2.2.1, S.2.2.2.2.2.2.2.2.1, S.2.2.2.2.2.2.2.2.2.1, S.2.2.2.2.2.2.2.2.2.2.1, S.2.2.2.2.2.2.2.2.2.2.2.1, S.2.2.2.2.2.2.2.2.2.2.2.2.1, S.2.2.2.2.2.2.2.2.2.2.2.2.2.1, S.2.2.2.2.2.2.2.2.2.2.2.2.2.2.1, S.2.2.2.2.2.2.2.2.2.2.2.2.2.2.2.1, S.2.2.2.2.2.2.2.2.2.2.2.2.2.2.2.2.1, S.2.2.2.2.2.2.2.2.2.2.2.2.2.2.2.2.2.1, S.2.2.2.2.2.2.2.2.2.2.2.2.2.2.2.2.2.2.1, S.2.2.2.2.2.2.2.2.2.2.2.2.2.2.2.2.2.2.2.1, S.2.2.2.2.2.2.2.2.2.2.2.2.2.2.2.2.2.2.2.2.1, S.2.2.2.2.2.2.2.2.2.2.2.2.2.2.2.2.2.2.2.2.2.1, S.2.2.2.2.2.2.2.2.2.2.2.2.2.2.2.2.2.2.2.2.2.2.1, S.2.2.2.2.2.2.2.2.2.2.2.2.2.2.2.2.2.2.2.2.2.2.2.1, S.2.2.2.2.2.2.2.2.2.2.2.2.2.2.2.2.2.2.2.2.2.2.2.2.1, S.2.2.2.2.2.2.2.2.2.2.2.2.2.2.2.2.2.2.2.2.2.2.2.2.2.1, S.2.2.2.2.2.2.2.2.2.2.2.2.2.2.2.2.2.2.2.2.2.2.2.2.2.2.1, S.2.2.2.2.2.2.2.2.2.2.2.2.2.2.2.2.2.2.2.2.2.2.2.2.2.2.2.1, S.2.2.2.2.2.2.2.2.2.2.2.2.2.2.2.2.2.2.2.2.2.2.2.2.2.2.2.2.1, S.2.2.2.2.2.2.2.2.2.2.2.2.2.2.2.2.2.2.2.2.2.2.2.2.2.2.2.2.2.1, S.2.2.2.2.2.2.2.2.2.2.2.2.2.2.2.2.2.2.2.2.2.2.2.2.2.2.2.2.2.2))
 else
 if v8 = 0 then none else
 f_X11_fraction_6 n S v1 v3 v5 v8 (v6 - v6 / v8 * v8)
def f_X11_fraction (S : VX11) (v1 : Int64) (v3 : Int64) (v5 : Int32) : Option (Int32 × VX11) :=
 f_X11_fraction_6 4096 S v1 v3 v5 v1 v3
def f_X11_ill_83 (r_26 : VX11 → Int32 → Int32 → Int32 → Int32 → Option (Int32 × VX11)) (S : VX11) (v1 : Int32) (v2 : Int32) (v3 : Int32) (v4 : Int32) (v5 : Int32) (t0 : Int32) : Option (Int32 × VX11) :=
 if t0 = 0 then
 r_26 S v1 v2 v3 (v4 + 1)
 else
 if v2 = (-9) then
 if zIn v5 256 = true then
 r_26 S v1 v4 (S.2.2.2.2.2.2.2.2.2.2.2.2.2.2.2.2.2.2.2.2.2.2.1 v5.toNatClampNeg) (v4 + 1)
 else none
 else
 if zIn v5 256 = true then
 if v3 ≤ (S.2.2.2.2.2.2.2.2.2.2.2.2.2.2.2.2.2.2.2.2.2.2.1 v5.toNatClampNeg) then
 r_26 S v1 v2 v3 (v4 + 1)
 else
 if zIn v5 256 = true then
 r_26 S v1 v4 (S.2.2.2.2.2.2.2.2.2.2.2.2.2.2.2.2.2.2.2.2.2.2.1 v5.toNatClampNeg) (v4 + 1)
 else none
 else none
def f_X11_ill_26  : Nat → VX11 → Int32 → Int32 → Int32 → Int32 → Option (Int32 × VX11)
 | 0, _, _, _, _, _ => none
 | n + 1, S, v1, v2, v3, v4 =>
 if S.2.2.2.2.2.2.2.2.2.2.1 ≤ v4 then
 if v2 = (-9) then
 some ((-9), S)
 else
 (f_X11_tells S v2 v3).bind fun r4 =>
 some (r4.1, r4.2)
 else
 (f_X11_firstWith S ((1 : Int32) <<< (v4 &&& 31))).bind fun r6 =>
 if v4 = v1 then
 f_X11_ill_83 (f_X11_ill_26 n) S v1 v2 v3 v4 r6 0
 else
 (f_X11_doQuarrel S v1 v4).bind fun r8 =>
 if r8 = 0 then
 (f_X11_kind S v4).bind fun r10 =>
 if r10 = 4 then
 f_X11_ill_83 (f_X11_ill_26 n) S v1 v2 v3 v4 r6 0
 else
 if r6 = (-9) then
 f_X11_ill_83 (f_X11_ill_26 n) S v1 v2 v3 v4 r6 0
 else
 f_X11_ill_83 (f_X11_ill_26 n) S v1 v2 v3 v4 r6 1
 else
 f_X11_ill_83 (f_X11_ill_26 n) S v1 v2 v3 v4 r6 0
def f_X11_ill (S : VX11) (v1 : Int32) : Option (Int32 × VX11) :=
 (f_X11_isCell S v1).bind fun r12 =>
 if r12 = 0 then
 some ((-1), S)
 else
 (f_X11_all S).bind fun r14 =>
 (f_X11_layLeasts S r14).bind fun r16 =>
 f_X11_ill_26 4096 r16 v1 (-9) 0 0
def f_X11_jail_116  : Nat → VX11 → Int32 → Option (Int32 × VX11)
 | 0, _, _ => none
 | n + 1, S, v2 =>
 if 3 ≤ v2 then
 some (S.2.2.2.2.2.2.2.2.2.2.1, S)
 else
 if zIn v2 3 = true then
 f_X11_jail_116 n (S.1, S.2.1, S.2.2.1, S.2.2.2.1, S.2.2.2.2.1, S.2.2.2.2.2.1, S.2.2.2.2.2.2.1, S.2.2.2.2.2.2.2.1, S.2.2.2.2.2.2.2.2.1, S.2.2.2.2.2.2.2.2.2.1, S.2.2.2.2.2.2.2.2.2.2.1, S.2.2.2.2.2.2.2.2.2.2.2.1, S.2.2.2.2.2.2.2.2.2.2.2.2.1, S.2.2.2.2.2.2.2.2.2.2.2.2.2.1, S.2.2.2.2.2.2.2.2.2.2.2.2.2.2.1, S.2.2.2.2.2.2.2.2.2.2.2.2.2.2.2.1, S.2.2.2.2.2.2.2.2.2.2.2.2.2.2.2.2.1, S.2.2.2.2.2.2.2.2.2.2.2.2.2.2.2.2.2.1, S.2.2.2.2.2.2.2.2.2.2.2.2.2.2.2.2.2.2.1, S.2.2.2.2.2.2.2.2.2.2.2.2.2.2.2.2.2.2.2.1, (upd S.2.2.2.2.2.2.2.2.2.2.2.2.2.2.2.2.2.2.2.2.1 v2.toNatClampNeg (-1)), S.2.2.2.2.2.2.2.2.2.2.2.2.2.2.2.2.2.2.2.2.2.1, S.2.2.2.2.2.2.2.2.2.2.2.2.2.2.2.2.2.2.2.2.2.2.1, S.2.2.2.2.2.2.2.2.2.2.2.2.2.2.2.2.2.2.2.2.2.2.2.1, S.2.2.2.2.2.2.2.2.2.2.2.2.2.2.2.2.2.2.2.2.2.2.2.2.1, S.2.2.2.2.2.2.2.2.2.2.2.2.2.2.2.2.2.2.2.2.2.2.2.2.2.1, S.2.2.2.2.2.2.2.2.2.2.2.2.2.2.2.2.2.2.2.2.2.2.2.2.2.2.1, S.2.2.2.2.2.2.2.2.2.2.2.2.2.2.2.2.2.2.2.2.2.2.2.2.2.2.2.1, S.2.2.2.2.2.2.2.2.2.2.2.2.2.2.2.2.2.2.2.2.2.2.2.2.2.2.2.2.1, S.2.2.2.2.2.2.2.2.2.2.2.2.2.2.2.2.2.2.2.2.2.2.2.2.2.2.2.2.2.1, S.2.2.2.2.2.2.2.2.2.2.2.2.2.2.2.2.2.2.2.2.2.2.2.2.2.2.2.2.2.2) (v2 + 1)
 else none
def f_X11_jail_73  : Nat → VX11 → Int32 → Option (Int32 × VX11)
 | 0, _, _ => none
 | n + 1, S, v2 =>
 if S.2.2.2.2.2.2.2.2.2.2.1 ≤ v2 then
 f_X11_jail_116 4096 (S.1, S.2.1, S.2.2.1, S.2.2.2.1, S.2.2.2.2.1, S.2.2.2.2.2.1, S.2.2.2.2.2.2.1, S.2.2.2.2.2.2.2.1, S.2.2.2.2.2.2.2.2.1, S.2.2.2.2.2.2.2.2.2.1, S.2.2.2.2.2.2.2.2.2.2.1, S.2.2.2.2.2.2.2.2.2.2.2.1, S.2.2.2.2.2.2.2.2.2.2.2.2.1, S.2.2.2.2.2.2.2.2.2.2.2.2.2.1, S.2.2.2.2.2.2.2.2.2.2.2.2.2.2.1, S.2.2.2.2.2.2.2.2.2.2.2.2.2.2.2.1, S.2.2.2.2.2.2.2.2.2.2.2.2.2.2.2.2.1, S.2.2.2.2.2.2.2.2.2.2.2.2.2.2.2.2.2.1, 0, 0, S.2.2.2.2.2.2.2.2.2.2.2.2.2.2.2.2.2.2.2.2.1, S.2.2.2.2.2.2.2.2.2.2.2.2.2.2.2.2.2.2.2.2.2.1, S.2.2.2.2.2.2.2.2.2.2.2.2.2.2.2.2.2.2.2.2.2.2.1, S.2.2.2.2.2.2.2.2.2.2.2.2.2.2.2.2.2.2.2.2.2.2.2.1, S.2.2.2.2.2.2.2.2.2.2.2.2.2.2.2.2.2.2.2.2.2.2.2.2.1, S.2.2.2.2.2.2.2.2.2.2.2.2.2.2.2.2.2.2.2.2.2.2.2.2.2.1, S.2.2.2.2.2.2.2.2.2.2.2.2.2.2.2.2.2.2.2.2.2.2.2.2.2.2.1, 0, S.2.2.2.2.2.2.2.2.2.2.2.2.2.2.2.2.2.2.2.2.2.2.2.2.2.2.2.2.1, S.2.2.2.2.2.2.2.2.2.2.2.2.2.2.2.2.2.2.2.2.2.2.2.2.2.2.2.2.2.1, S.2.2.2.2.2.2.2.2.2.2.2.2.2.2.2.2.2.2.2.2.2.2.2.2.2.2.2.2.2.2) 0
 else
 if zIn v2 8 = true then
 if zIn v2 8 = true then
 f_X11_jail_73 n (S.1, S.2.1, S.2.2.1, S.2.2.2.1, S.2.2.2.2.1, S.2.2.2.2.2.1, S.2.2.2.2.2.2.1, S.2.2.2.2.2.2.2.1, S.2.2.2.2.2.2.2.2.1, S.2.2.2.2.2.2.2.2.2.1, S.2.2.2.2.2.2.2.2.2.2.1, S.2.2.2.2.2.2.2.2.2.2.2.1, (upd S.2.2.2.2.2.2.2.2.2.2.2.2.1 v2.toNatClampNeg (S.2.2.2.2.2.2.2.2.2.2.2.2.2.2.2.2.2.1 v2.toNatClampNeg)), S.2.2.2.2.2.2.2.2.2.2.2.2.2.1, S.2.2.2.2.2.2.2.2.2.2.2.2.2.2.1, S.2.2.2.2.2.2.2.2.2.2.2.2.2.2.2.1, S.2.2.2.2.2.2.2.2.2.2.2.2.2.2.2.2.1, S.2.2.2.2.2.2.2.2.2.2.2.2.2.2.2.2.2.1, S.2.2.2.2.2.2.2.2.2.2.2.2.2.2.2.2.2.2.1, S.2.2.2.2.2.2.2.2.2.2.2.2.2.2.2.2.2.2.2.1, S.2.2.2.2.2.2.2.2.2.2.2.2.2.2.2.2.2.2.2.2.1, S.2.2.2.2.2.2.2.2.2.2.2.2.2.2.2.2.2.2.2.2.2.1, S.2.2.2.2.2.2.2.2.2.2.2.2.2.2.2.2.2.2.2.2.2.2.1, S.2.2.2.2.2.2.2.2.2.2.2.2.2.2.2.2.2.2.2.2.2.2.2.1, S.2.2.2.2.2.2.2.2.2.2.2.2.2.2.2.2.2.2.2.2.2.2.2.2.1, S.2.2.2.2.2.2.2.2.2.2.2.2.2.2.2.2.2.2.2.2.2.2.2.2.2.1, S.2.2.2.2.2.2.2.2.2.2.2.2.2.2.2.2.2.2.2.2.2.2.2.2.2.2.1, S.2.2.2.2.2.2.2.2.2.2.2.2.2.2.2.2.2.2.2.2.2.2.2.2.2.2.2.1, S.2.2.2.2.2.2.2.2.2.2.2.2.2.2.2.2.2.2.2.2.2.2.2.2.2.2.2.2.1, S.2.2.2.2.2.2.2.2.2.2.2.2.2.2.2.2.2.2.2.2.2.2.2.2.2.2.2.2.2.1, S.2.2.2.2.2.2.2.2.2.2.2.2.2.2.2.2.2.2.2.2.2.2.2.2.2.2.2.2.2.2) (v2 + 1)
 else none
 else none
def f_X11_jail_47  : Nat → VX11 → Int32 → Option (Int32 × VX11)
 | 0, _, _ => none
 | n + 1, S, v2 =>
 if 32 ≤ v2 then
 f_X11_jail_73 4096 S 0
 else
 if zIn v2 32 = true then
 if zIn v2 32 = true then
 f_X11_jail_47 n (S.1, S.2.1, S.2.2.1, S.2.2.2.1, S.2.2.2.2.1, S.2.2.2.2.2.1, S.2.2.2.2.2.2.1, S.2.2.2.2.2.2.2.1, S.2.2.2.2.2.2.2.2.1, S.2.2.2.2.2.2.2.2.2.1, S.2.2.2.2.2.2.2.2.2.2.1, (upd S.2.2.2.2.2.2.2.2.2.2.2.1 v2.toNatClampNeg (S.2.2.2.2.2.2.2.2.2.2.2.2.2.2.2.2.1 v2.toNatClampNeg)), S.2.2.2.2.2.2.2.2.2.2.2.2.1, S.2.2.2.2.2.2.2.2.2.2.2.2.2.1, S.2.2.2.2.2.2.2.2.2.2.2.2.2.2.1, S.2.2.2.2.2.2.2.2.2.2.2.2.2.2.2.1, S.2.2.2.2.2.2.2.2.2.2.2.2.2.2.2.2.1, S.2.2.2.2.2.2.2.2.2.2.2.2.2.2.2.2.2.1, S.2.2.2.2.2.2.2.2.2.2.2.2.2.2.2.2.2.2.1, S.2.2.2.2.2.2.2.2.2.2.2.2.2.2.2.2.2.2.2.1, S.2.2.2.2.2.2.2.2.2.2.2.2.2.2.2.2.2.2.2.2.1, S.2.2.2.2.2.2.2.2.2.2.2.2.2.2.2.2.2.2.2.2.2.1, S.2.2.2.2.2.2.2.2.2.2.2.2.2.2.2.2.2.2.2.2.2.2.1, S.2.2.2.2.2.2.2.2.2.2.2.2.2.2.2.2.2.2.2.2.2.2.2.1, S.2.2.2.2.2.2.2.2.2.2.2.2.2.2.2.2.2.2.2.2.2.2.2.2.1, S.2.2.2.2.2.2.2.2.2.2.2.2.2.2.2.2.2.2.2.2.2.2.2.2.2.1, S.2.2.2.2.2.2.2.2.2.2.2.2.2.2.2.2.2.2.2.2.2.2.2.2.2.2.1, S.2.2.2.2.2.2.2.2.2.2.2.2.2.2.2.2.2.2.2.2.2.2.2.2.2.2.2.1, S.2.2.2.2.2.2.2.2.2.2.2.2.2.2.2.2.2.2.2.2.2.2.2.2.2.2.2.2.1, S.2.2.2.2.2.2.2.2.2.2.2.2.2.2.2.2.2.2.2.2.2.2.2.2.2.2.2.2.2.1, S.2.2.2.2.2.2.2.2.2.2.2.2.2.2.2.2.2.2.2.2.2.2.2.2.2.2.2.2.2.2) (v2 + 1)
 else none
 else none
def f_X11_jail (S : VX11) (v1 : Int32) : Option (Int32 × VX11) :=
 (f_X11_isText v1).bind fun r6 =>
 if r6 = 0 then
 some ((-1), S)
 else
 if zIn v1 4 = true then
 if 0 ≤ (S.2.2.2.2.2.2.2.2.1 v1.toNatClampNeg) then
 (f_X11_faultOf S v1).bind fun r9 =>
 if r9.1 = (-9) then
 f_X11_jail_47 4096 (r9.2.1, r9.2.2.1, r9.2.2.2.1, r9.2.2.2.2.1, r9.2.2.2.2.2.1, r9.2.2.2.2.2.2.1, r9.2.2.2.2.2.2.2.1, r9.2.2.2.2.2.2.2.2.1, r9.2.2.2.2.2.2.2.2.2.1, r9.2.2.2.2.2.2.2.2.2.2.1, r9.2.2.2.2.2.2.2.2.2.2.2.2.2.2.2.2.1, r9.2.2.2.2.2.2.2.2.2.2.2.2.1, r9.2.2.2.2.2.2.2.2.2.2.2.2.2.1, r9.2.2.2.2.2.2.2.2.2.2.2.2.2.2.1, r9.2.2.2.2.2.2.2.2.2.2.2.2.2.2.2.1, r9.2.2.2.2.2.2.2.2.2.2.2.2.2.2.2.2.1, r9.2.2.2.2.2.2.2.2.2.2.2.2.2.2.2.2.2.1, r9.2.2.2.2.2.2.2.2.2.2.2.2.2.2.2.2.2.2.1, r9.2.2.2.2.2.2.2.2.2.2.2.2.2.2.2.2.2.2.2.1, r9.2.2.2.2.2.2.2.2.2.2.2.2.2.2.2.2.2.2.2.2.1, r9.2.2.2.2.2.2.2.2.2.2.2.2.2.2.2.2.2.2.2.2.2.1, r9.2.2.2.2.2.2.2.2.2.2.2.2.2.2.2.2.2.2.2.2.2.2.1, r9.2.2.2.2.2.2.2.2.2.2.2.2.2.2.2.2.2.2.2.2.2.2.2.1, r9.2.2.2.2.2.2.2.2.2.2.2.2.2.2.2.2.2.2.2.2.2.2.2.2.1, r9.2.2.2.2.2.2.2.2.2.2.2.2.2.2.2.2.2.2.2.2.2.2.2.2.2.1, r9.2.2.2.2.2.2.2.2.2.2.2.2.2.2.2.2.2.2.2.2.2.2.2.2.2.2.1, r9.2.2.2.2.2.2.2.2.2.2.2.2.2.2.2.2.2.2.2.2.2.2.2.2.2.2.2.1, r9.2.2.2.2.2.2.2.2.2.2.2.2.2.2.2.2.2.2.2.2.2.2.2.2.2.2.2.2.1, r9.2.2.2.2.2.2.2.2.2.2.2.2.2.2.2.2.2.2.2.2.2.2.2.2.2.2.2.2.2.1, r9.2.2.2.2.2.2.2.2.2.2.2.2.2.2.2.2.2.2.2.2.2.2.2.2.2.2.2.2.2.2.1, r9.2.2.2.2.2.2.2.2.2.2.2.2.2.2.2.2.2.2.2.2.2.2.2.2.2.2.2.2.2.2.2) 0
 else
 some ((-4), r9.2)
 else
 (f_X11_meets S 1).bind fun r11 =>
 some (r11.1, r11.2)
 else none
def f_X11_keep (S : VX11) (v1 : Int32) : Option (Int32 × VX11) :=
 (f_X11_in v1 0 2).bind fun r1 =>
 if r1 = 0 then
 some ((-1), S)
 else
 if zIn v1 3 = true then
 if zIn v1 3 = true then
 (f_X11_bits S.2.2.2.2.2.2.2.2.2.2.2.2.2.2.2.2.2.2.1).bind fun r5 =>
 some (r5, (S.1, S.2.1, S.2.2.1, S.2.2.2.1, S.2.2.2.2.1, S.2.2.2.2.2.1, S.2.2.2.2.2.2.1, S.2.2.2.2.2.2.2.1, S.2.2.2.2.2.2.2.2.1, S.2.2.2.2.2.2.2.2.2.1, S.2.2.2.2.2.2.2.2.2.2.1, S.2.2.2.2.2.2.2.2.2.2.2.1, S.2.2.2.2.2.2.2.2.2.2.2.2.1, S.2.2.2.2.2.2.2.2.2.2.2.2.2.1, S.2.2.2.2.2.2.2.2.2.2.2.2.2.2.1, S.2.2.2.2.2.2.2.2.2.2.2.2.2.2.2.1, S.2.2.2.2.2.2.2.2.2.2.2.2.2.2.2.2.1, S.2.2.2.2.2.2.2.2.2.2.2.2.2.2.2.2.2.1, S.2.2.2.2.2.2.2.2.2.2.2.2.2.2.2.2.2.2.1, S.2.2.2.2.2.2.2.2.2.2.2.2.2.2.2.2.2.2.2.1, (upd S.2.2.2.2.2.2.2.2.2.2.2.2.2.2.2.2.2.2.2.2.1 v1.toNatClampNeg S.2.2.2.2.2.2.2.2.2.2.2.2.2.2.2.2.2.2.1), (upd S.2.2.2.2.2.2.2.2.2.2.2.2.2.2.2.2.2.2.2.2.2.1 v1.toNatClampNeg S.2.2.2.2.2.2.2.2.2.2.2.2.2.2.2.2.2.2.2.1), S.2.2.2.2.2.2.2.2.2.2.2.2.2.2.2.2.2.2.2.2.2.2.1, S.2.2.2.2.2.2.2.2.2.2.2.2.2.2.2.2.2.2.2.2.2.2.2.1, S.2.2.2.2.2.2.2.2.2.2.2.2.2.2.2.2.2.2.2.2.2.2.2.2.1, S.2.2.2.2.2.2.2.2.2.2.2.2.2.2.2.2.2.2.2.2.2.2.2.2.2.1, S.2.2.2.2.2.2.2.2.2.2.2.2.2.2.2.2.2.2.2.2.2.2.2.2.2.2.1, S.2.2.2.2.2.2.2.2.2.2.2.2.2.2.2.2.2.2.2.2.2.2.2.2.2.2.2.1, S.2.2.2.2.2.2.2.2.2.2.2.2.2.2.2.2.2.2.2.2.2.2.2.2.2.2.2.2.1, S.2.2.2.2.2.2.2.2.2.2.2.2.2.2.2.2.2.2.2.2.2.2.2.2.2.2.2.2.2.1, S.2.2.2.2.2.2.2.2.2.2.2.2.2.2.2.2.2.2.2.2.2.2.2.2.2.2.2.2.2.2))
 else none
 else none
def f_X11_key_41  (S : VX11)  : Option (Int32 × VX11) :=
 (f_X11_meets S 3).bind fun r1 =>
 some (r1.1, r1.2)
def f_X11_key (S : VX11) (v1 : Int32) (v2 : Int32) : Option (Int32 × VX11) :=
 (f_X11_isCell S v1).bind fun r3 =>
 if r3 = 0 then
 some ((-1), S)
 else
 (f_X11_isCell S v2).bind fun r5 =>
 if r5 = 0 then
 some ((-1), S)
 else
 if v1 = v2 then
 some ((-1), S)
 else
 (f_X11_kind S v1).bind fun r7 =>
 if r7 = 2 then
 f_X11_key_41 S
 else
 (f_X11_otherKeeper S v1).bind fun r9 =>
 if r9 = v2 then
 f_X11_key_41 S
 else
 (f_X11_keeper S v1).bind fun r11 =>
 if zIn (((4 : Int32) * v1) + (1 : Int32)) 32 = true then
 some (r11, (S.1, S.2.1, S.2.2.1, S.2.2.2.1, S.2.2.2.2.1, S.2.2.2.2.2.1, S.2.2.2.2.2.2.1, S.2.2.2.2.2.2.2.1, S.2.2.2.2.2.2.2.2.1, S.2.2.2.2.2.2.2.2.2.1, S.2.2.2.2.2.2.2.2.2.2.1, (upd S.2.2.2.2.2.2.2.2.2.2.2.1 (((4 : Int32) * v1) + (1 : Int32)).toNatClampNeg v2), S.2.2.2.2.2.2.2.2.2.2.2.2.1, S.2.2.2.2.2.2.2.2.2.2.2.2.2.1, S.2.2.2.2.2.2.2.2.2.2.2.2.2.2.1, S.2.2.2.2.2.2.2.2.2.2.2.2.2.2.2.1, S.2.2.2.2.2.2.2.2.2.2.2.2.2.2.2.2.1, S.2.2.2.2.2.2.2.2.2.2.2.2.2.2.2.2.2.1, S.2.2.2.2.2.2.2.2.2.2.2.2.2.2.2.2.2.2.1, S.2.2.2.2.2.2.2.2.2.2.2.2.2.2.2.2.2.2.2.1, S.2.2.2.2.2.2.2.2.2.2.2.2.2.2.2.2.2.2.2.2.1, S.2.2.2.2.2.2.2.2.2.2.2.2.2.2.2.2.2.2.2.2.2.1, S.2.2.2.2.2.2.2.2.2.2.2.2.2.2.2.2.2.2.2.2.2.2.1, S.2.2.2.2.2.2.2.2.2.2.2.2.2.2.2.2.2.2.2.2.2.2.2.1, S.2.2.2.2.2.2.2.2.2.2.2.2.2.2.2.2.2.2.2.2.2.2.2.2.1, S.2.2.2.2.2.2.2.2.2.2.2.2.2.2.2.2.2.2.2.2.2.2.2.2.2.1, S.2.2.2.2.2.2.2.2.2.2.2.2.2.2.2.2.2.2.2.2.2.2.2.2.2.2.1, S.2.2.2.2.2.2.2.2.2.2.2.2.2.2.2.2.2.2.2.2.2.2.2.2.2.2.2.1, S.2.2.2.2.2.2.2.2.2.2.2.2.2.2.2.2.2.2.2.2.2.2.2.2.2.2.2.2.1, S.2.2.2.2.2.2.2.2.2.2.2.2.2.2.2.2.2.2.2.2.2.2.2.2.2.2.2.2.2.1, S.2.2.2.2.2.2.2.2.2.2.2.2.2.2.2.2.2.2.2.2.2.2.2.2.2.2.2.2.2.2))
 else none
def f_X11_keysOf_27 (r_4 : VX11 → Int32 → Int32 → Int32 → Option (Int32)) (S : VX11) (v1 : Int32) (v3 : Int32) (t0 : Int32) (t1 : Int32) : Option (Int32) :=
 (f_X11_otherKeeper S v3).bind fun r1 =>
 if r1 = v1 then
 r_4 S v1 (t1 + (t0 + (1 : Int32))) (v3 + 1)
 else
 r_4 S v1 (t1 + (t0 + (0 : Int32))) (v3 + 1)
def f_X11_keysOf_4  : Nat → VX11 → Int32 → Int32 → Int32 → Option (Int32)
 | 0, _, _, _, _ => none
 | n + 1, S, v1, v2, v3 =>
 if S.2.2.2.2.2.2.2.2.2.2.1 ≤ v3 then
 some v2
 else
 (f_X11_keeper S v3).bind fun r3 =>
 if r3 = v1 then
 f_X11_keysOf_27 (f_X11_keysOf_4 n) S v1 v3 1 v2
 else
 f_X11_keysOf_27 (f_X11_keysOf_4 n) S v1 v3 0 v2
def f_X11_keysOf (S : VX11) (v1 : Int32) : Option (Int32) :=
 f_X11_keysOf_4 4096 S v1 0 0
def f_X11_lay (S : VX11) (v1 : Int32) (v2 : Int32) (v3 : Int32) : Option (Int32 × VX11) :=
 (f_X11_isRow v1).bind fun r1 =>
 if r1 = 0 then
 some ((-1), S)
 else
 if zIn v1 6 = true then
 if 0 ≤ (S.2.2.2.2.2.1 v1.toNatClampNeg) then
 if zIn v1 6 = true then
 (f_X11_in v2 0 ((S.2.2.2.2.2.1 v1.toNatClampNeg) - (1 : Int32))).bind fun r5 =>
 if r5 = 0 then
 (f_X11_meets S 2).bind fun r12 =>
 some (r12.1, r12.2)
 else
 (f_X11_rowAt S v1 v2).bind fun r7 =>
 if zIn (((60 : Int32) * v1) + v2) 360 = true then
 (f_X11_tells (S.1, S.2.1, S.2.2.1, S.2.2.2.1, S.2.2.2.2.1, S.2.2.2.2.2.1, (upd S.2.2.2.2.2.2.1 (((60 : Int32) * v1) + v2).toNatClampNeg v3), S.2.2.2.2.2.2.2.1, S.2.2.2.2.2.2.2.2.1, S.2.2.2.2.2.2.2.2.2.1, S.2.2.2.2.2.2.2.2.2.2.1, S.2.2.2.2.2.2.2.2.2.2.2.1, S.2.2.2.2.2.2.2.2.2.2.2.2.1, S.2.2.2.2.2.2.2.2.2.2.2.2.2.1, S.2.2.2.2.2.2.2.2.2.2.2.2.2.2.1, S.2.2.2.2.2.2.2.2.2.2.2.2.2.2.2.1, S.2.2.2.2.2.2.2.2.2.2.2.2.2.2.2.2.1, S.2.2.2.2.2.2.2.2.2.2.2.2.2.2.2.2.2.1, S.2.2.2.2.2.2.2.2.2.2.2.2.2.2.2.2.2.2.1, S.2.2.2.2.2.2.2.2.2.2.2.2.2.2.2.2.2.2.2.1, S.2.2.2.2.2.2.2.2.2.2.2.2.2.2.2.2.2.2.2.2.1, S.2.2.2.2.2.2.2.2.2.2.2.2.2.2.2.2.2.2.2.2.2.1, S.2.2.2.2.2.2.2.2.2.2.2.2.2.2.2.2.2.2.2.2.2.2.1, S.2.2.2.2.2.2.2.2.2.2.2.2.2.2.2.2.2.2.2.2.2.2.2.1, S.2.2.2.2.2.2.2.2.2.2.2.2.2.2.2.2.2.2.2.2.2.2.2.2.1, S.2.2.2.2.2.2.2.2.2.2.2.2.2.2.2.2.2.2.2.2.2.2.2.2.2.1, S.2.2.2.2.2.2.2.2.2.2.2.2.2.2.2.2.2.2.2.2.2.2.2.2.2.2.1, S.2.2.2.2.2.2.2.2.2.2.2.2.2.2.2.2.2.2.2.2.2.2.2.2.2.2.2.1, S.2.2.2.2.2.2.2.2.2.2.2.2.2.2.2.2.2.2.2.2.2.2.2.2.2.2.2.2.1, S.2.2.2.2.2.2.2.2.2.2.2.2.2.2.2.2.2.2.2.2.2.2.2.2.2.2.2.2.2.1, S.2.2.2.2.2.2.2.2.2.2.2.2.2.2.2.2.2.2.2.2.2.2.2.2.2.2.2.2.2.2) r7 1).bind fun r10 =>
 some (r10.1, r10.2)
 else none
 else none
 else
 (f_X11_meets S 1).bind fun r14 =>
 some (r14.1, r14.2)
 else none
def f_X11_least (S : VX11) (v1 : Int32) : Option (Int32 × VX11) :=
 (f_X11_isSet S v1).bind fun r1 =>
 if r1 = 0 then
 some ((-1), S)
 else
 (f_X11_all S).bind fun r3 =>
 (f_X11_layLeasts S r3).bind fun r5 =>
 (f_X11_firstWith r5 v1).bind fun r7 =>
 if r7 = (-9) then
 some ((-9), r5)
 else
 if zIn r7 256 = true then
 (f_X11_tells r5 r7 (r5.2.2.2.2.2.2.2.2.2.2.2.2.2.2.2.2.2.2.2.2.2.2.1 r7.toNatClampNeg)).bind fun r10 =>
 some (r10.1, r10.2)
 else none
def f_X11_let (S : VX11) (v1 : Int32) : Option (Int32 × VX11) :=
 (f_X11_can S v1).bind fun r1 =>
 if r1 < 0 then
 some (r1, S)
 else
 some (r1, (S.1, S.2.1, S.2.2.1, S.2.2.2.1, S.2.2.2.2.1, S.2.2.2.2.2.1, S.2.2.2.2.2.2.1, S.2.2.2.2.2.2.2.1, S.2.2.2.2.2.2.2.2.1, S.2.2.2.2.2.2.2.2.2.1, S.2.2.2.2.2.2.2.2.2.2.1, S.2.2.2.2.2.2.2.2.2.2.2.1, S.2.2.2.2.2.2.2.2.2.2.2.2.1, S.2.2.2.2.2.2.2.2.2.2.2.2.2.1, S.2.2.2.2.2.2.2.2.2.2.2.2.2.2.1, S.2.2.2.2.2.2.2.2.2.2.2.2.2.2.2.1, S.2.2.2.2.2.2.2.2.2.2.2.2.2.2.2.2.1, S.2.2.2.2.2.2.2.2.2.2.2.2.2.2.2.2.2.1, (S.2.2.2.2.2.2.2.2.2.2.2.2.2.2.2.2.2.2.1 ||| ((1 : Int32) <<< (v1 &&& 31))), (S.2.2.2.2.2.2.2.2.2.2.2.2.2.2.2.2.2.2.2.1 + r1), S.2.2.2.2.2.2.2.2.2.2.2.2.2.2.2.2.2.2.2.2.1, S.2.2.2.2.2.2.2.2.2.2.2.2.2.2.2.2.2.2.2.2.2.1, S.2.2.2.2.2.2.2.2.2.2.2.2.2.2.2.2.2.2.2.2.2.2.1, S.2.2.2.2.2.2.2.2.2.2.2.2.2.2.2.2.2.2.2.2.2.2.2.1, S.2.2.2.2.2.2.2.2.2.2.2.2.2.2.2.2.2.2.2.2.2.2.2.2.1, S.2.2.2.2.2.2.2.2.2.2.2.2.2.2.2.2.2.2.2.2.2.2.2.2.2.1, S.2.2.2.2.2.2.2.2.2.2.2.2.2.2.2.2.2.2.2.2.2.2.2.2.2.2.1, S.2.2.2.2.2.2.2.2.2.2.2.2.2.2.2.2.2.2.2.2.2.2.2.2.2.2.2.1, S.2.2.2.2.2.2.2.2.2.2.2.2.2.2.2.2.2.2.2.2.2.2.2.2.2.2.2.2.1, S.2.2.2.2.2.2.2.2.2.2.2.2.2.2.2.2.2.2.2.2.2.2.2.2.2.2.2.2.2.1, S.2.2.2.2.2.2.2.2.2.2.2.2.2.2.2.2.2.2.2.2.2.2.2.2.2.2.2.2.2.2))
def f_X11_lets_97 (r_50 : VX11 → Int32 → Int32 → Int32 → Int32 → Option (Int32 × VX11)) (S : VX11) (v1 : Int32) (v2 : Int32) (v4 : Int32) (v5 : Int32) (t0 : Int32) : Option (Int32 × VX11) :=
 if t0 = 0 then
 r_50 S v1 (v2 ||| (0 : Int32)) t0 (v4 + 1)
 else
 r_50 S v1 (v2 ||| ((1 : Int32) <<< (v5 &&& 31))) t0 (v4 + 1)
def f_X11_lets_138  : Nat → VX11 → Int32 → Int32 → Int32 → Int32 → Option (Int32 × VX11)
 | 0, _, _, _, _, _ => none
 | n + 1, S, v1, v4, v5, v6 =>
 if zIn v1 6 = true then
 if (S.2.2.2.2.2.1 v1.toNatClampNeg) ≤ v6 then
 if zIn v1 6 = true then
 (f_X11_tells S v5 (S.2.2.2.2.2.1 v1.toNatClampNeg)).bind fun r3 =>
 some (r3.1, r3.2)
 else none
 else
 (f_X11_rowAt S v1 v6).bind fun r5 =>
 (f_X11_all S).bind fun r7 =>
 (f_X11_costOf S r5 v4 r7).bind fun r9 =>
 if r9 < 1000 then
 (f_X11_rowAt S v1 v6).bind fun r11 =>
 f_X11_lets_138 n S v1 (v4 ||| ((1 : Int32) <<< (r11 &&& 31))) (v5 + r9) (v6 + 1)
 else
 (f_X11_tells S v5 v6).bind fun r13 =>
 some (r13.1, r13.2)
 else none
def f_X11_lets_50  : Nat → VX11 → Int32 → Int32 → Int32 → Int32 → Option (Int32 × VX11)
 | 0, _, _, _, _, _ => none
 | n + 1, S, v1, v2, v3, v4 =>
 if zIn v1 6 = true then
 if (S.2.2.2.2.2.1 v1.toNatClampNeg) ≤ v4 then
 if v3 = 0 then
 (f_X11_meets S 3).bind fun r16 =>
 some (r16.1, r16.2)
 else
 f_X11_lets_138 4096 S v1 0 0 0
 else
 (f_X11_rowAt S v1 v4).bind fun r18 =>
 if v3 = 0 then
 f_X11_lets_97 (f_X11_lets_50 n) S v1 v2 v4 r18 0
 else
 (f_X11_isCell S r18).bind fun r20 =>
 if r20 = 0 then
 f_X11_lets_97 (f_X11_lets_50 n) S v1 v2 v4 r18 0
 else
 (f_X11_has v2 r18).bind fun r22 =>
 if r22 = 0 then
 f_X11_lets_97 (f_X11_lets_50 n) S v1 v2 v4 r18 1
 else
 f_X11_lets_97 (f_X11_lets_50 n) S v1 v2 v4 r18 0
 else none
def f_X11_lets (S : VX11) (v1 : Int32) : Option (Int32 × VX11) :=
 (f_X11_isRow v1).bind fun r24 =>
 if r24 = 0 then
 some ((-1), S)
 else
 if zIn v1 6 = true then
 if 0 ≤ (S.2.2.2.2.2.1 v1.toNatClampNeg) then
 if zIn v1 6 = true then
 if (S.2.2.2.2.2.1 v1.toNatClampNeg) ≤ S.2.2.2.2.2.2.2.2.2.2.1 then
 f_X11_lets_50 4096 S v1 0 1 0
 else
 (f_X11_meets S 5).bind fun r28 =>
 some (r28.1, r28.2)
 else none
 else
 (f_X11_meets S 1).bind fun r30 =>
 some (r30.1, r30.2)
 else none
def f_X11_lower (S : VX11)  : Option (Int64) :=
 some S.2.2.2.2.1
def f_X11_mark_54  (S : VX11)  : Option (Int32 × VX11) :=
 (f_X11_meets S 3).bind fun r1 =>
 some (r1.1, r1.2)
def f_X11_mark_60  (S : VX11) (v1 : Int32) (v2 : Int32) : Option (Int32 × VX11) :=
 if v2 = 1 then
 (f_X11_keeper S v1).bind fun r3 =>
 (f_X11_otherKeeper S v1).bind fun r5 =>
 (f_X11_lesser r3 r5).bind fun r7 =>
 some (r7, S)
 else
 if v2 = 2 then
 (f_X11_keysOf S v1).bind fun r9 =>
 some (r9, S)
 else
 if v2 = 3 then
 if zIn (((4 : Int32) * v1) + (3 : Int32)) 32 = true then
 some ((S.2.2.2.2.2.2.2.2.2.2.2.1 (((4 : Int32) * v1) + (3 : Int32)).toNatClampNeg), S)
 else none
 else
 if v2 = 4 then
 (f_X11_keeper S v1).bind fun r12 =>
 some (r12, S)
 else
 (f_X11_keeper S v1).bind fun r14 =>
 (f_X11_otherKeeper S v1).bind fun r16 =>
 (f_X11_far r14 r16).bind fun r18 =>
 some (r18, S)
def f_X11_mark_41  (S : VX11) (v1 : Int32) (v2 : Int32) : Option (Int32 × VX11) :=
 if v2 = 3 then
 (f_X11_isLate S v1).bind fun r20 =>
 if r20 = 0 then
 f_X11_mark_54 S
 else
 f_X11_mark_60 S v1 v2
 else
 f_X11_mark_54 S
def f_X11_mark (S : VX11) (v1 : Int32) (v2 : Int32) : Option (Int32 × VX11) :=
 (f_X11_isCell S v1).bind fun r22 =>
 if r22 = 0 then
 some ((-1), S)
 else
 (f_X11_in v2 1 5).bind fun r24 =>
 if r24 = 0 then
 some ((-1), S)
 else
 (f_X11_kind S v1).bind fun r26 =>
 if r26 = v2 then
 f_X11_mark_60 S v1 v2
 else
 if v2 = 1 then
 (f_X11_isTwo S v1).bind fun r28 =>
 if r28 = 0 then
 f_X11_mark_41 S v1 v2
 else
 f_X11_mark_60 S v1 v2
 else
 f_X11_mark_41 S v1 v2
def f_X11_mean_44  : Nat → VX11 → Int32 → Int64 → Int32 → Option (Int32 × VX11)
 | 0, _, _, _, _ => none
 | n + 1, S, v1, v2, v4 =>
 if zIn v1 6 = true then
 if (S.2.2.2.2.2.1 v1.toNatClampNeg) ≤ v4 then
 if zIn v1 6 = true then
 if (S.2.2.2.2.2.1 v1.toNatClampNeg).toInt64 = 0 then none else
 (f_X11_tells S ((v2 / (S.2.2.2.2.2.1 v1.toNatClampNeg).toInt64).toInt32) 1).bind fun r4 =>
 some (r4.1, r4.2)
 else none
 else
 (f_X11_rowAt S v1 v4).bind fun r6 =>
 f_X11_mean_44 n S v1 (v2 + r6.toInt64) (v4 + 1)
 else none
def f_X11_mean (S : VX11) (v1 : Int32) : Option (Int32 × VX11) :=
 (f_X11_isRow v1).bind fun r8 =>
 if r8 = 0 then
 some ((-1), S)
 else
 if zIn v1 6 = true then
 if 0 ≤ (S.2.2.2.2.2.1 v1.toNatClampNeg) then
 if zIn v1 6 = true then
 if (S.2.2.2.2.2.1 v1.toNatClampNeg) = 0 then
 (f_X11_meets S 4).bind fun r12 =>
 some (r12.1, r12.2)
 else
 f_X11_mean_44 4096 S v1 0 0
 else none
 else
 (f_X11_meets S 1).bind fun r14 =>
 some (r14.1, r14.2)
 else none
def f_X11_most_62 (r_12 : VX11 → Int32 → Int32 → Option (Int32 × VX11)) (S : VX11) (v1 : Int32) (v2 : Int32) (t0 : Int32) : Option (Int32 × VX11) :=
 if zIn v2 256 = true then
 if (S.2.2.2.2.2.2.2.2.2.2.2.2.2.2.2.2.2.2.2.2.2.2.2.1 v2.toNatClampNeg) ≤ 0 then
 r_12 S v1 (v2 + 1)
 else
 if t0 = 0 then
 r_12 S v1 (v2 + 1)
 else
 r_12 S v2 (v2 + 1)
 else none
def f_X11_most_12  : Nat → VX11 → Int32 → Int32 → Option (Int32 × VX11)
 | 0, _, _, _ => none
 | n + 1, S, v1, v2 =>
 (f_X11_all S).bind fun r2 =>
 if r2 < v2 then
 if zIn v1 256 = true then
 (f_X11_tells S (S.2.2.2.2.2.2.2.2.2.2.2.2.2.2.2.2.2.2.2.2.2.2.1 v1.toNatClampNeg) v1).bind fun r5 =>
 some (r5.1, r5.2)
 else none
 else
 (f_X11_bits v2).bind fun r7 =>
 (f_X11_bits v1).bind fun r9 =>
 if r9 < r7 then
 f_X11_most_62 (f_X11_most_12 n) S v1 v2 1
 else
 (f_X11_bits v2).bind fun r11 =>
 (f_X11_bits v1).bind fun r13 =>
 if r11 = r13 then
 if zIn v2 256 = true then
 if zIn v1 256 = true then
 if (S.2.2.2.2.2.2.2.2.2.2.2.2.2.2.2.2.2.2.2.2.2.2.1 v1.toNatClampNeg) ≤ (S.2.2.2.2.2.2.2.2.2.2.2.2.2.2.2.2.2.2.2.2.2.2.1 v2.toNatClampNeg) then
 f_X11_most_62 (f_X11_most_12 n) S v1 v2 0
 else
 f_X11_most_62 (f_X11_most_12 n) S v1 v2 1
 else none
 else none
 else
 f_X11_most_62 (f_X11_most_12 n) S v1 v2 0
def f_X11_most (S : VX11)  : Option (Int32 × VX11) :=
 (f_X11_all S).bind fun r17 =>
 (f_X11_layLeasts S r17).bind fun r19 =>
 f_X11_most_12 4096 r19 0 0
def f_X11_odds_61 (r_36 : VX11 → Int32 → Int32 → Int32 → Int32 → Int32 → Option (Int32 × VX11)) (S : VX11) (v1 : Int32) (v2 : Int32) (v4 : Int32) (v5 : Int32) (t0 : Int32) (t1 : Int32) : Option (Int32 × VX11) :=
 (f_X11_fits S v5 v1).bind fun r1 =>
 if r1 = 0 then
 r_36 S v1 v2 (t1 + t0) (v4 + (0 : Int32)) (v5 + 1)
 else
 (f_X11_has v5 v2).bind fun r3 =>
 if r3 = 0 then
 r_36 S v1 v2 (t1 + t0) (v4 + (0 : Int32)) (v5 + 1)
 else
 r_36 S v1 v2 (t1 + t0) (v4 + (1 : Int32)) (v5 + 1)
def f_X11_odds_36  : Nat → VX11 → Int32 → Int32 → Int32 → Int32 → Int32 → Option (Int32 × VX11)
 | 0, _, _, _, _, _, _ => none
 | n + 1, S, v1, v2, v3, v4, v5 =>
 (f_X11_all S).bind fun r5 =>
 if r5 < v5 then
 if v3 = 0 then
 (f_X11_meets S 4).bind fun r9 =>
 some (r9.1, r9.2)
 else
 (f_X11_fraction S v4.toInt64 v3.toInt64 v4).bind fun r7 =>
 some (r7.1, r7.2)
 else
 (f_X11_fits S v5 v1).bind fun r11 =>
 if r11 = 0 then
 f_X11_odds_61 (f_X11_odds_36 n) S v1 v2 v4 v5 0 v3
 else
 f_X11_odds_61 (f_X11_odds_36 n) S v1 v2 v4 v5 1 v3
def f_X11_odds (S : VX11) (v1 : Int32) (v2 : Int32) : Option (Int32 × VX11) :=
 (f_X11_in v1 0 99).bind fun r13 =>
 if r13 = 0 then
 some ((-1), S)
 else
 (f_X11_isCell S v2).bind fun r15 =>
 if r15 = 0 then
 some ((-1), S)
 else
 (f_X11_all S).bind fun r17 =>
 (f_X11_layLeasts S r17).bind fun r19 =>
 f_X11_odds_36 4096 r19 v1 v2 0 0 0
def f_X11_on (S : VX11) (v1 : Int32) : Option (Int32 × VX11) :=
 (f_X11_in v1 0 2).bind fun r1 =>
 if r1 = 0 then
 some ((-1), S)
 else
 if zIn v1 3 = true then
 if 0 ≤ (S.2.2.2.2.2.2.2.2.2.2.2.2.2.2.2.2.2.2.2.2.1 v1.toNatClampNeg) then
 if zIn v1 3 = true then
 if zIn v1 3 = true then
 (f_X11_bits (S.2.2.2.2.2.2.2.2.2.2.2.2.2.2.2.2.2.2.2.2.1 v1.toNatClampNeg)).bind fun r6 =>
 some (r6, (S.1, S.2.1, S.2.2.1, S.2.2.2.1, S.2.2.2.2.1, S.2.2.2.2.2.1, S.2.2.2.2.2.2.1, S.2.2.2.2.2.2.2.1, S.2.2.2.2.2.2.2.2.1, S.2.2.2.2.2.2.2.2.2.1, S.2.2.2.2.2.2.2.2.2.2.1, S.2.2.2.2.2.2.2.2.2.2.2.1, S.2.2.2.2.2.2.2.2.2.2.2.2.1, S.2.2.2.2.2.2.2.2.2.2.2.2.2.1, S.2.2.2.2.2.2.2.2.2.2.2.2.2.2.1, S.2.2.2.2.2.2.2.2.2.2.2.2.2.2.2.1, S.2.2.2.2.2.2.2.2.2.2.2.2.2.2.2.2.1, S.2.2.2.2.2.2.2.2.2.2.2.2.2.2.2.2.2.1, (S.2.2.2.2.2.2.2.2.2.2.2.2.2.2.2.2.2.2.2.2.1 v1.toNatClampNeg), (S.2.2.2.2.2.2.2.2.2.2.2.2.2.2.2.2.2.2.2.2.2.1 v1.toNatClampNeg), S.2.2.2.2.2.2.2.2.2.2.2.2.2.2.2.2.2.2.2.2.1, S.2.2.2.2.2.2.2.2.2.2.2.2.2.2.2.2.2.2.2.2.2.1, S.2.2.2.2.2.2.2.2.2.2.2.2.2.2.2.2.2.2.2.2.2.2.1, S.2.2.2.2.2.2.2.2.2.2.2.2.2.2.2.2.2.2.2.2.2.2.2.1, S.2.2.2.2.2.2.2.2.2.2.2.2.2.2.2.2.2.2.2.2.2.2.2.2.1, S.2.2.2.2.2.2.2.2.2.2.2.2.2.2.2.2.2.2.2.2.2.2.2.2.2.1, S.2.2.2.2.2.2.2.2.2.2.2.2.2.2.2.2.2.2.2.2.2.2.2.2.2.2.1, S.2.2.2.2.2.2.2.2.2.2.2.2.2.2.2.2.2.2.2.2.2.2.2.2.2.2.2.1, S.2.2.2.2.2.2.2.2.2.2.2.2.2.2.2.2.2.2.2.2.2.2.2.2.2.2.2.2.1, S.2.2.2.2.2.2.2.2.2.2.2.2.2.2.2.2.2.2.2.2.2.2.2.2.2.2.2.2.2.1, S.2.2.2.2.2.2.2.2.2.2.2.2.2.2.2.2.2.2.2.2.2.2.2.2.2.2.2.2.2.2))
 else none
 else none
 else
 (f_X11_meets S 1).bind fun r8 =>
 some (r8.1, r8.2)
 else none
def f_X11_order_44 (r_19 : VX11 → Int32 → Int32 → Int32 → Option (Int32 × VX11)) : Nat → VX11 → Int32 → Int32 → Int32 → Int32 → Option (Int32 × VX11)
 | 0, _, _, _, _, _ => none
 | n + 1, S, v1, v2, v3, v4 =>
 if S.2.2.2.2.2.2.2.2.2.2.1 ≤ v4 then
 r_19 S v1 v2 (v3 + (-1))
 else
 if (v3 &&& (v1 ^^^ ((-1) : Int32))) = 0 then
 if v3 = v1 then
 r_19 S v1 v2 (v3 + (-1))
 else
 (f_X11_has v1 v4).bind fun r1 =>
 if r1 = 0 then
 f_X11_order_44 r_19 n S v1 v2 v3 (v4 + 1)
 else
 (f_X11_has v3 v4).bind fun r3 =>
 if r3 = 0 then
 (f_X11_all S).bind fun r5 =>
 (f_X11_costOf S v4 v3 r5).bind fun r7 =>
 if zIn (v3 ||| ((1 : Int32) <<< (v4 &&& 31))) 256 = true then
 if 1000 ≤ r7 then
 if zIn v3 256 = true then
 if zIn v3 256 = true then
 f_X11_order_44 r_19 n (S.1, S.2.1, S.2.2.1, S.2.2.2.1, S.2.2.2.2.1, S.2.2.2.2.2.1, S.2.2.2.2.2.2.1, S.2.2.2.2.2.2.2.1, S.2.2.2.2.2.2.2.2.1, S.2.2.2.2.2.2.2.2.2.1, S.2.2.2.2.2.2.2.2.2.2.1, S.2.2.2.2.2.2.2.2.2.2.2.1, S.2.2.2.2.2.2.2.2.2.2.2.2.1, S.2.2.2.2.2.2.2.2.2.2.2.2.2.1, S.2.2.2.2.2.2.2.2.2.2.2.2.2.2.1, S.2.2.2.2.2.2.2.2.2.2.2.2.2.2.2.1, S.2.2.2.2.2.2.2.2.2.2.2.2.2.2.2.2.1, S.2.2.2.2.2.2.2.2.2.2.2.2.2.2.2.2.2.1, S.2.2.2.2.2.2.2.2.2.2.2.2.2.2.2.2.2.2.1, S.2.2.2.2.2.2.2.2.2.2.2.2.2.2.2.2.2.2.2.1, S.2.2.2.2.2.2.2.2.2.2.2.2.2.2.2.2.2.2.2.2.1, S.2.2.2.2.2.2.2.2.2.2.2.2.2.2.2.2.2.2.2.2.2.1, S.2.2.2.2.2.2.2.2.2.2.2.2.2.2.2.2.2.2.2.2.2.2.1, S.2.2.2.2.2.2.2.2.2.2.2.2.2.2.2.2.2.2.2.2.2.2.2.1, (upd S.2.2.2.2.2.2.2.2.2.2.2.2.2.2.2.2.2.2.2.2.2.2.2.2.1 v3.toNatClampNeg (S.2.2.2.2.2.2.2.2.2.2.2.2.2.2.2.2.2.2.2.2.2.2.2.2.1 v3.toNatClampNeg)), S.2.2.2.2.2.2.2.2.2.2.2.2.2.2.2.2.2.2.2.2.2.2.2.2.2.1, S.2.2.2.2.2.2.2.2.2.2.2.2.2.2.2.2.2.2.2.2.2.2.2.2.2.2.1, S.2.2.2.2.2.2.2.2.2.2.2.2.2.2.2.2.2.2.2.2.2.2.2.2.2.2.2.1, S.2.2.2.2.2.2.2.2.2.2.2.2.2.2.2.2.2.2.2.2.2.2.2.2.2.2.2.2.1, S.2.2.2.2.2.2.2.2.2.2.2.2.2.2.2.2.2.2.2.2.2.2.2.2.2.2.2.2.2.1, S.2.2.2.2.2.2.2.2.2.2.2.2.2.2.2.2.2.2.2.2.2.2.2.2.2.2.2.2.2.2) v1 v2 v3 (v4 + 1)
 else none
 else none
 else
 if (S.2.2.2.2.2.2.2.2.2.2.2.2.2.2.2.2.2.2.2.2.2.2.2.2.1 (v3 ||| ((1 : Int32) <<< (v4 &&& 31))).toNatClampNeg) < 1000 then
 if zIn v3 256 = true then
 (f_X11_lesser (S.2.2.2.2.2.2.2.2.2.2.2.2.2.2.2.2.2.2.2.2.2.2.2.2.1 v3.toNatClampNeg) (r7 + (S.2.2.2.2.2.2.2.2.2.2.2.2.2.2.2.2.2.2.2.2.2.2.2.2.1 (v3 ||| ((1 : Int32) <<< (v4 &&& 31))).toNatClampNeg))).bind fun r13 =>
 if zIn v3 256 = true then
 f_X11_order_44 r_19 n (S.1, S.2.1, S.2.2.1, S.2.2.2.1, S.2.2.2.2.1, S.2.2.2.2.2.1, S.2.2.2.2.2.2.1, S.2.2.2.2.2.2.2.1, S.2.2.2.2.2.2.2.2.1, S.2.2.2.2.2.2.2.2.2.1, S.2.2.2.2.2.2.2.2.2.2.1, S.2.2.2.2.2.2.2.2.2.2.2.1, S.2.2.2.2.2.2.2.2.2.2.2.2.1, S.2.2.2.2.2.2.2.2.2.2.2.2.2.1, S.2.2.2.2.2.2.2.2.2.2.2.2.2.2.1, S.2.2.2.2.2.2.2.2.2.2.2.2.2.2.2.1, S.2.2.2.2.2.2.2.2.2.2.2.2.2.2.2.2.1, S.2.2.2.2.2.2.2.2.2.2.2.2.2.2.2.2.2.1, S.2.2.2.2.2.2.2.2.2.2.2.2.2.2.2.2.2.2.1, S.2.2.2.2.2.2.2.2.2.2.2.2.2.2.2.2.2.2.2.1, S.2.2.2.2.2.2.2.2.2.2.2.2.2.2.2.2.2.2.2.2.1, S.2.2.2.2.2.2.2.2.2.2.2.2.2.2.2.2.2.2.2.2.2.1, S.2.2.2.2.2.2.2.2.2.2.2.2.2.2.2.2.2.2.2.2.2.2.1, S.2.2.2.2.2.2.2.2.2.2.2.2.2.2.2.2.2.2.2.2.2.2.2.1, (upd S.2.2.2.2.2.2.2.2.2.2.2.2.2.2.2.2.2.2.2.2.2.2.2.2.1 v3.toNatClampNeg r13), S.2.2.2.2.2.2.2.2.2.2.2.2.2.2.2.2.2.2.2.2.2.2.2.2.2.1, S.2.2.2.2.2.2.2.2.2.2.2.2.2.2.2.2.2.2.2.2.2.2.2.2.2.2.1, S.2.2.2.2.2.2.2.2.2.2.2.2.2.2.2.2.2.2.2.2.2.2.2.2.2.2.2.1, S.2.2.2.2.2.2.2.2.2.2.2.2.2.2.2.2.2.2.2.2.2.2.2.2.2.2.2.2.1, S.2.2.2.2.2.2.2.2.2.2.2.2.2.2.2.2.2.2.2.2.2.2.2.2.2.2.2.2.2.1, S.2.2.2.2.2.2.2.2.2.2.2.2.2.2.2.2.2.2.2.2.2.2.2.2.2.2.2.2.2.2) v1 v2 v3 (v4 + 1)
 else none
 else none
 else
 if zIn v3 256 = true then
 if zIn v3 256 = true then
 f_X11_order_44 r_19 n (S.1, S.2.1, S.2.2.1, S.2.2.2.1, S.2.2.2.2.1, S.2.2.2.2.2.1, S.2.2.2.2.2.2.1, S.2.2.2.2.2.2.2.1, S.2.2.2.2.2.2.2.2.1, S.2.2.2.2.2.2.2.2.2.1, S.2.2.2.2.2.2.2.2.2.2.1, S.2.2.2.2.2.2.2.2.2.2.2.1, S.2.2.2.2.2.2.2.2.2.2.2.2.1, S.2.2.2.2.2.2.2.2.2.2.2.2.2.1, S.2.2.2.2.2.2.2.2.2.2.2.2.2.2.1, S.2.2.2.2.2.2.2.2.2.2.2.2.2.2.2.1, S.2.2.2.2.2.2.2.2.2.2.2.2.2.2.2.2.1, S.2.2.2.2.2.2.2.2.2.2.2.2.2.2.2.2.2.1, S.2.2.2.2.2.2.2.2.2.2.2.2.2.2.2.2.2.2.1, S.2.2.2.2.2.2.2.2.2.2.2.2.2.2.2.2.2.2.2.1, S.2.2.2.2.2.2.2.2.2.2.2.2.2.2.2.2.2.2.2.2.1, S.2.2.2.2.2.2.2.2.2.2.2.2.2.2.2.2.2.2.2.2.2.1, S.2.2.2.2.2.2.2.2.2.2.2.2.2.2.2.2.2.2.2.2.2.2.1, S.2.2.2.2.2.2.2.2.2.2.2.2.2.2.2.2.2.2.2.2.2.2.2.1, (upd S.2.2.2.2.2.2.2.2.2.2.2.2.2.2.2.2.2.2.2.2.2.2.2.2.1 v3.toNatClampNeg (S.2.2.2.2.2.2.2.2.2.2.2.2.2.2.2.2.2.2.2.2.2.2.2.2.1 v3.toNatClampNeg)), S.2.2.2.2.2.2.2.2.2.2.2.2.2.2.2.2.2.2.2.2.2.2.2.2.2.1, S.2.2.2.2.2.2.2.2.2.2.2.2.2.2.2.2.2.2.2.2.2.2.2.2.2.2.1, S.2.2.2.2.2.2.2.2.2.2.2.2.2.2.2.2.2.2.2.2.2.2.2.2.2.2.2.1, S.2.2.2.2.2.2.2.2.2.2.2.2.2.2.2.2.2.2.2.2.2.2.2.2.2.2.2.2.1, S.2.2.2.2.2.2.2.2.2.2.2.2.2.2.2.2.2.2.2.2.2.2.2.2.2.2.2.2.2.1, S.2.2.2.2.2.2.2.2.2.2.2.2.2.2.2.2.2.2.2.2.2.2.2.2.2.2.2.2.2.2) v1 v2 v3 (v4 + 1)
 else none
 else none
 else none
 else
 f_X11_order_44 r_19 n S v1 v2 v3 (v4 + 1)
 else
 r_19 S v1 v2 (v3 + (-1))
def f_X11_order_237 (r_223 : VX11 → Int32 → Int32 → Int32 → Int32 → Option (Int32 × VX11)) : Nat → VX11 → Int32 → Int32 → Int32 → Int32 → Int32 → Option (Int32 × VX11)
 | 0, _, _, _, _, _, _ => none
 | n + 1, S, v1, v2, v3, v4, v5 =>
 (f_X11_has v1 v5).bind fun r18 =>
 if r18 = 0 then
 f_X11_order_237 r_223 n S v1 v2 v3 v4 (v5 + 1)
 else
 (f_X11_has v3 v5).bind fun r20 =>
 if r20 = 0 then
 (f_X11_all S).bind fun r22 =>
 (f_X11_costOf S v5 v3 r22).bind fun r24 =>
 if zIn (v3 ||| ((1 : Int32) <<< (v5 &&& 31))) 256 = true then
 if zIn v3 256 = true then
 if (r24 + (S.2.2.2.2.2.2.2.2.2.2.2.2.2.2.2.2.2.2.2.2.2.2.2.2.1 (v3 ||| ((1 : Int32) <<< (v5 &&& 31))).toNatClampNeg)) = (S.2.2.2.2.2.2.2.2.2.2.2.2.2.2.2.2.2.2.2.2.2.2.2.2.1 v3.toNatClampNeg) then
 if zIn (((60 : Int32) * v2) + v4) 360 = true then
 r_223 (S.1, S.2.1, S.2.2.1, S.2.2.2.1, S.2.2.2.2.1, S.2.2.2.2.2.1, (upd S.2.2.2.2.2.2.1 (((60 : Int32) * v2) + v4).toNatClampNeg v5), S.2.2.2.2.2.2.2.1, S.2.2.2.2.2.2.2.2.1, S.2.2.2.2.2.2.2.2.2.1, S.2.2.2.2.2.2.2.2.2.2.1, S.2.2.2.2.2.2.2.2.2.2.2.1, S.2.2.2.2.2.2.2.2.2.2.2.2.1, S.2.2.2.2.2.2.2.2.2.2.2.2.2.1, S.2.2.2.2.2.2.2.2.2.2.2.2.2.2.1, S.2.2.2.2.2.2.2.2.2.2.2.2.2.2.2.1, S.2.2.2.2.2.2.2.2.2.2.2.2.2.2.2.2.1, S.2.2.2.2.2.2.2.2.2.2.2.2.2.2.2.2.2.1, S.2.2.2.2.2.2.2.2.2.2.2.2.2.2.2.2.2.2.1, S.2.2.2.2.2.2.2.2.2.2.2.2.2.2.2.2.2.2.2.1, S.2.2.2.2.2.2.2.2.2.2.2.2.2.2.2.2.2.2.2.2.1, S.2.2.2.2.2.2.2.2.2.2.2.2.2.2.2.2.2.2.2.2.2.1, S.2.2.2.2.2.2.2.2.2.2.2.2.2.2.2.2.2.2.2.2.2.2.1, S.2.2.2.2.2.2.2.2.2.2.2.2.2.2.2.2.2.2.2.2.2.2.2.1, S.2.2.2.2.2.2.2.2.2.2.2.2.2.2.2.2.2.2.2.2.2.2.2.2.1, S.2.2.2.2.2.2.2.2.2.2.2.2.2.2.2.2.2.2.2.2.2.2.2.2.2.1, S.2.2.2.2.2.2.2.2.2.2.2.2.2.2.2.2.2.2.2.2.2.2.2.2.2.2.1, S.2.2.2.2.2.2.2.2.2.2.2.2.2.2.2.2.2.2.2.2.2.2.2.2.2.2.2.1, S.2.2.2.2.2.2.2.2.2.2.2.2.2.2.2.2.2.2.2.2.2.2.2.2.2.2.2.2.1, S.2.2.2.2.2.2.2.2.2.2.2.2.2.2.2.2.2.2.2.2.2.2.2.2.2.2.2.2.2.1, S.2.2.2.2.2.2.2.2.2.2.2.2.2.2.2.2.2.2.2.2.2.2.2.2.2.2.2.2.2.2) v1 v2 (v3 ||| ((1 : Int32) <<< (v5 &&& 31))) (v4 + 1)
 else none
 else
 f_X11_order_237 r_223 n S v1 v2 v3 v4 (v5 + 1)
 else none
 else none
 else
 f_X11_order_237 r_223 n S v1 v2 v3 v4 (v5 + 1)
def f_X11_order_223  : Nat → VX11 → Int32 → Int32 → Int32 → Int32 → Option (Int32 × VX11)
 | 0, _, _, _, _, _ => none
 | n + 1, S, v1, v2, v3, v4 =>
 if zIn v2 6 = true then
 if (S.2.2.2.2.2.1 v2.toNatClampNeg) ≤ v4 then
 if zIn 0 256 = true then
 some ((S.2.2.2.2.2.2.2.2.2.2.2.2.2.2.2.2.2.2.2.2.2.2.2.2.1 (0 : Int32).toNatClampNeg), S)
 else none
 else
 f_X11_order_237 (f_X11_order_223 n) 4096 S v1 v2 v3 v4 0
 else none
def f_X11_order_194  : Nat → VX11 → Int32 → Int32 → Int32 → Option (Int32 × VX11)
 | 0, _, _, _, _ => none
 | n + 1, S, v1, v2, v3 =>
 if 60 ≤ v3 then
 f_X11_order_223 4096 S v1 v2 0 0
 else
 if zIn (((60 : Int32) * v2) + v3) 360 = true then
 f_X11_order_194 n (S.1, S.2.1, S.2.2.1, S.2.2.2.1, S.2.2.2.2.1, S.2.2.2.2.2.1, (upd S.2.2.2.2.2.2.1 (((60 : Int32) * v2) + v3).toNatClampNeg 0), S.2.2.2.2.2.2.2.1, S.2.2.2.2.2.2.2.2.1, S.2.2.2.2.2.2.2.2.2.1, S.2.2.2.2.2.2.2.2.2.2.1, S.2.2.2.2.2.2.2.2.2.2.2.1, S.2.2.2.2.2.2.2.2.2.2.2.2.1, S.2.2.2.2.2.2.2.2.2.2.2.2.2.1, S.2.2.2.2.2.2.2.2.2.2.2.2.2.2.1, S.2.2.2.2.2.2.2.2.2.2.2.2.2.2.2.1, S.2.2.2.2.2.2.2.2.2.2.2.2.2.2.2.2.1, S.2.2.2.2.2.2.2.2.2.2.2.2.2.2.2.2.2.1, S.2.2.2.2.2.2.2.2.2.2.2.2.2.2.2.2.2.2.1, S.2.2.2.2.2.2.2.2.2.2.2.2.2.2.2.2.2.2.2.1, S.2.2.2.2.2.2.2.2.2.2.2.2.2.2.2.2.2.2.2.2.1, S.2.2.2.2.2.2.2.2.2.2.2.2.2.2.2.2.2.2.2.2.2.1, S.2.2.2.2.2.2.2.2.2.2.2.2.2.2.2.2.2.2.2.2.2.2.1, S.2.2.2.2.2.2.2.2.2.2.2.2.2.2.2.2.2.2.2.2.2.2.2.1, S.2.2.2.2.2.2.2.2.2.2.2.2.2.2.2.2.2.2.2.2.2.2.2.2.1, S.2.2.2.2.2.2.2.2.2.2.2.2.2.2.2.2.2.2.2.2.2.2.2.2.2.1, S.2.2.2.2.2.2.2.2.2.2.2.2.2.2.2.2.2.2.2.2.2.2.2.2.2.2.1, S.2.2.2.2.2.2.2.2.2.2.2.2.2.2.2.2.2.2.2.2.2.2.2.2.2.2.2.1, S.2.2.2.2.2.2.2.2.2.2.2.2.2.2.2.2.2.2.2.2.2.2.2.2.2.2.2.2.1, S.2.2.2.2.2.2.2.2.2.2.2.2.2.2.2.2.2.2.2.2.2.2.2.2.2.2.2.2.2.1, S.2.2.2.2.2.2.2.2.2.2.2.2.2.2.2.2.2.2.2.2.2.2.2.2.2.2.2.2.2.2) v1 v2 (v3 + 1)
 else none
def f_X11_order_19  : Nat → VX11 → Int32 → Int32 → Int32 → Option (Int32 × VX11)
 | 0, _, _, _, _ => none
 | n + 1, S, v1, v2, v3 =>
 if v3 < 0 then
 if zIn 0 256 = true then
 if (S.2.2.2.2.2.2.2.2.2.2.2.2.2.2.2.2.2.2.2.2.2.2.2.2.1 (0 : Int32).toNatClampNeg) < 1000 then
 (f_X11_bits v1).bind fun r33 =>
 if zIn v2 6 = true then
 f_X11_order_194 4096 (S.1, S.2.1, S.2.2.1, S.2.2.2.1, S.2.2.2.2.1, (upd S.2.2.2.2.2.1 v2.toNatClampNeg r33), S.2.2.2.2.2.2.1, S.2.2.2.2.2.2.2.1, S.2.2.2.2.2.2.2.2.1, S.2.2.2.2.2.2.2.2.2.1, S.2.2.2.2.2.2.2.2.2.2.1, S.2.2.2.2.2.2.2.2.2.2.2.1, S.2.2.2.2.2.2.2.2.2.2.2.2.1, S.2.2.2.2.2.2.2.2.2.2.2.2.2.1, S.2.2.2.2.2.2.2.2.2.2.2.2.2.2.1, S.2.2.2.2.2.2.2.2.2.2.2.2.2.2.2.1, S.2.2.2.2.2.2.2.2.2.2.2.2.2.2.2.2.1, S.2.2.2.2.2.2.2.2.2.2.2.2.2.2.2.2.2.1, S.2.2.2.2.2.2.2.2.2.2.2.2.2.2.2.2.2.2.1, S.2.2.2.2.2.2.2.2.2.2.2.2.2.2.2.2.2.2.2.1, S.2.2.2.2.2.2.2.2.2.2.2.2.2.2.2.2.2.2.2.2.1, S.2.2.2.2.2.2.2.2.2.2.2.2.2.2.2.2.2.2.2.2.2.1, S.2.2.2.2.2.2.2.2.2.2.2.2.2.2.2.2.2.2.2.2.2.2.1, S.2.2.2.2.2.2.2.2.2.2.2.2.2.2.2.2.2.2.2.2.2.2.2.1, S.2.2.2.2.2.2.2.2.2.2.2.2.2.2.2.2.2.2.2.2.2.2.2.2.1, S.2.2.2.2.2.2.2.2.2.2.2.2.2.2.2.2.2.2.2.2.2.2.2.2.2.1, S.2.2.2.2.2.2.2.2.2.2.2.2.2.2.2.2.2.2.2.2.2.2.2.2.2.2.1, S.2.2.2.2.2.2.2.2.2.2.2.2.2.2.2.2.2.2.2.2.2.2.2.2.2.2.2.1, S.2.2.2.2.2.2.2.2.2.2.2.2.2.2.2.2.2.2.2.2.2.2.2.2.2.2.2.2.1, S.2.2.2.2.2.2.2.2.2.2.2.2.2.2.2.2.2.2.2.2.2.2.2.2.2.2.2.2.2.1, S.2.2.2.2.2.2.2.2.2.2.2.2.2.2.2.2.2.2.2.2.2.2.2.2.2.2.2.2.2.2) v1 v2 0
 else none
 else
 some ((-9), S)
 else none
 else
 if v3 = v1 then
 if zIn v3 256 = true then
 f_X11_order_44 (f_X11_order_19 n) 4096 (S.1, S.2.1, S.2.2.1, S.2.2.2.1, S.2.2.2.2.1, S.2.2.2.2.2.1, S.2.2.2.2.2.2.1, S.2.2.2.2.2.2.2.1, S.2.2.2.2.2.2.2.2.1, S.2.2.2.2.2.2.2.2.2.1, S.2.2.2.2.2.2.2.2.2.2.1, S.2.2.2.2.2.2.2.2.2.2.2.1, S.2.2.2.2.2.2.2.2.2.2.2.2.1, S.2.2.2.2.2.2.2.2.2.2.2.2.2.1, S.2.2.2.2.2.2.2.2.2.2.2.2.2.2.1, S.2.2.2.2.2.2.2.2.2.2.2.2.2.2.2.1, S.2.2.2.2.2.2.2.2.2.2.2.2.2.2.2.2.1, S.2.2.2.2.2.2.2.2.2.2.2.2.2.2.2.2.2.1, S.2.2.2.2.2.2.2.2.2.2.2.2.2.2.2.2.2.2.1, S.2.2.2.2.2.2.2.2.2.2.2.2.2.2.2.2.2.2.2.1, S.2.2.2.2.2.2.2.2.2.2.2.2.2.2.2.2.2.2.2.2.1, S.2.2.2.2.2.2.2.2.2.2.2.2.2.2.2.2.2.2.2.2.2.1, S.2.2.2.2.2.2.2.2.2.2.2.2.2.2.2.2.2.2.2.2.2.2.1, S.2.2.2.2.2.2.2.2.2.2.2.2.2.2.2.2.2.2.2.2.2.2.2.1, (upd S.2.2.2.2.2.2.2.2.2.2.2.2.2.2.2.2.2.2.2.2.2.2.2.2.1 v3.toNatClampNeg 0), S.2.2.2.2.2.2.2.2.2.2.2.2.2.2.2.2.2.2.2.2.2.2.2.2.2.1, S.2.2.2.2.2.2.2.2.2.2.2.2.2.2.2.2.2.2.2.2.2.2.2.2.2.2.1, S.2.2.2.2.2.2.2.2.2.2.2.2.2.2.2.2.2.2.2.2.2.2.2.2.2.2.2.1, S.2.2.2.2.2.2.2.2.2.2.2.2.2.2.2.2.2.2.2.2.2.2.2.2.2.2.2.2.1, S.2.2.2.2.2.2.2.2.2.2.2.2.2.2.2.2.2.2.2.2.2.2.2.2.2.2.2.2.2.1, S.2.2.2.2.2.2.2.2.2.2.2.2.2.2.2.2.2.2.2.2.2.2.2.2.2.2.2.2.2.2) v1 v2 v3 0
 else none
 else
 if zIn v3 256 = true then
 f_X11_order_44 (f_X11_order_19 n) 4096 (S.1, S.2.1, S.2.2.1, S.2.2.2.1, S.2.2.2.2.1, S.2.2.2.2.2.1, S.2.2.2.2.2.2.1, S.2.2.2.2.2.2.2.1, S.2.2.2.2.2.2.2.2.1, S.2.2.2.2.2.2.2.2.2.1, S.2.2.2.2.2.2.2.2.2.2.1, S.2.2.2.2.2.2.2.2.2.2.2.1, S.2.2.2.2.2.2.2.2.2.2.2.2.1, S.2.2.2.2.2.2.2.2.2.2.2.2.2.1, S.2.2.2.2.2.2.2.2.2.2.2.2.2.2.1, S.2.2.2.2.2.2.2.2.2.2.2.2.2.2.2.1, S.2.2.2.2.2.2.2.2.2.2.2.2.2.2.2.2.1, S.2.2.2.2.2.2.2.2.2.2.2.2.2.2.2.2.2.1, S.2.2.2.2.2.2.2.2.2.2.2.2.2.2.2.2.2.2.1, S.2.2.2.2.2.2.2.2.2.2.2.2.2.2.2.2.2.2.2.1, S.2.2.2.2.2.2.2.2.2.2.2.2.2.2.2.2.2.2.2.2.1, S.2.2.2.2.2.2.2.2.2.2.2.2.2.2.2.2.2.2.2.2.2.1, S.2.2.2.2.2.2.2.2.2.2.2.2.2.2.2.2.2.2.2.2.2.2.1, S.2.2.2.2.2.2.2.2.2.2.2.2.2.2.2.2.2.2.2.2.2.2.2.1, (upd S.2.2.2.2.2.2.2.2.2.2.2.2.2.2.2.2.2.2.2.2.2.2.2.2.1 v3.toNatClampNeg 1000), S.2.2.2.2.2.2.2.2.2.2.2.2.2.2.2.2.2.2.2.2.2.2.2.2.2.1, S.2.2.2.2.2.2.2.2.2.2.2.2.2.2.2.2.2.2.2.2.2.2.2.2.2.2.1, S.2.2.2.2.2.2.2.2.2.2.2.2.2.2.2.2.2.2.2.2.2.2.2.2.2.2.2.1, S.2.2.2.2.2.2.2.2.2.2.2.2.2.2.2.2.2.2.2.2.2.2.2.2.2.2.2.2.1, S.2.2.2.2.2.2.2.2.2.2.2.2.2.2.2.2.2.2.2.2.2.2.2.2.2.2.2.2.2.1, S.2.2.2.2.2.2.2.2.2.2.2.2.2.2.2.2.2.2.2.2.2.2.2.2.2.2.2.2.2.2) v1 v2 v3 0
 else none
def f_X11_order (S : VX11) (v1 : Int32) (v2 : Int32) : Option (Int32 × VX11) :=
 (f_X11_isSet S v1).bind fun r38 =>
 if r38 = 0 then
 some ((-1), S)
 else
 (f_X11_isRow v2).bind fun r40 =>
 if r40 = 0 then
 some ((-1), S)
 else
 f_X11_order_19 4096 S v1 v2 v1
def f_X11_out (S : VX11)  : Option (Int32 × VX11) :=
 (f_X11_tells S S.2.2.2.2.2.2.2.2.2.2.2.2.2.2.2.2.2.2.2.1 S.2.2.2.2.2.2.2.2.2.2.2.2.2.2.2.2.2.2.1).bind fun r1 =>
 some (r1.1, r1.2)
def f_X11_outCost (S : VX11) (v1 : Int32) : Option (Int32 × VX11) :=
 (f_X11_all S).bind fun r1 =>
 (f_X11_layLeasts S r1).bind fun r3 =>
 (f_X11_firstWith r3 ((1 : Int32) <<< (v1 &&& 31))).bind fun r5 =>
 if r5 = (-9) then
 some (99, r3)
 else
 if zIn r5 256 = true then
 some ((r3.2.2.2.2.2.2.2.2.2.2.2.2.2.2.2.2.2.2.2.2.2.2.1 r5.toNatClampNeg), r3)
 else none
def f_X11_put (S : VX11) (v1 : Int32) (v2 : Int32) (v3 : Int32) : Option (Int32 × VX11) :=
 (f_X11_isText v1).bind fun r1 =>
 if r1 = 0 then
 some ((-1), S)
 else
 if zIn v1 4 = true then
 if 0 ≤ (S.2.2.2.2.2.2.2.2.1 v1.toNatClampNeg) then
 if zIn v1 4 = true then
 (f_X11_in v2 0 ((S.2.2.2.2.2.2.2.2.1 v1.toNatClampNeg) - (1 : Int32))).bind fun r5 =>
 if r5 = 0 then
 (f_X11_meets S 2).bind fun r9 =>
 some (r9.1, r9.2)
 else
 if zIn (((100 : Int32) * v1) + v2) 400 = true then
 if zIn (((100 : Int32) * v1) + v2) 400 = true then
 some (((1000 : Int32) + (S.2.2.2.2.2.2.2.2.2.1 (((100 : Int32) * v1) + v2).toNatClampNeg)), (S.1, S.2.1, S.2.2.1, S.2.2.2.1, S.2.2.2.2.1, S.2.2.2.2.2.1, S.2.2.2.2.2.2.1, S.2.2.2.2.2.2.2.1, S.2.2.2.2.2.2.2.2.1, (upd S.2.2.2.2.2.2.2.2.2.1 (((100 : Int32) * v1) + v2).toNatClampNeg v3.toInt8.toInt32.toInt8.toInt32), S.2.2.2.2.2.2.2.2.2.2.1, S.2.2.2.2.2.2.2.2.2.2.2.1, S.2.2.2.2.2.2.2.2.2.2.2.2.1, S.2.2.2.2.2.2.2.2.2.2.2.2.2.1, S.2.2.2.2.2.2.2.2.2.2.2.2.2.2.1, S.2.2.2.2.2.2.2.2.2.2.2.2.2.2.2.1, S.2.2.2.2.2.2.2.2.2.2.2.2.2.2.2.2.1, S.2.2.2.2.2.2.2.2.2.2.2.2.2.2.2.2.2.1, S.2.2.2.2.2.2.2.2.2.2.2.2.2.2.2.2.2.2.1, S.2.2.2.2.2.2.2.2.2.2.2.2.2.2.2.2.2.2.2.1, S.2.2.2.2.2.2.2.2.2.2.2.2.2.2.2.2.2.2.2.2.1, S.2.2.2.2.2.2.2.2.2.2.2.2.2.2.2.2.2.2.2.2.2.1, S.2.2.2.2.2.2.2.2.2.2.2.2.2.2.2.2.2.2.2.2.2.2.1, S.2.2.2.2.2.2.2.2.2.2.2.2.2.2.2.2.2.2.2.2.2.2.2.1, S.2.2.2.2.2.2.2.2.2.2.2.2.2.2.2.2.2.2.2.2.2.2.2.2.1, S.2.2.2.2.2.2.2.2.2.2.2.2.2.2.2.2.2.2.2.2.2.2.2.2.2.1, S.2.2.2.2.2.2.2.2.2.2.2.2.2.2.2.2.2.2.2.2.2.2.2.2.2.2.1, S.2.2.2.2.2.2.2.2.2.2.2.2.2.2.2.2.2.2.2.2.2.2.2.2.2.2.2.1, S.2.2.2.2.2.2.2.2.2.2.2.2.2.2.2.2.2.2.2.2.2.2.2.2.2.2.2.2.1, S.2.2.2.2.2.2.2.2.2.2.2.2.2.2.2.2.2.2.2.2.2.2.2.2.2.2.2.2.2.1, S.2.2.2.2.2.2.2.2.2.2.2.2.2.2.2.2.2.2.2.2.2.2.2.2.2.2.2.2.2.2))
 else none
 else none
 else none
 else
 (f_X11_meets S 1).bind fun r11 =>
 some (r11.1, r11.2)
 else none
def f_X11_quarrel_46  (S : VX11) (v1 : Int32) (v2 : Int32) (v3 : Int32) (t0 : Int32) : Option (Int32 × VX11) :=
 if t0 = v3 then
 some (t0, S)
 else
 if zIn v1 8 = true then
 if zIn v1 8 = true then
 if zIn v2 8 = true then
 if zIn v2 8 = true then
 some (t0, (S.1, S.2.1, S.2.2.1, S.2.2.2.1, S.2.2.2.2.1, S.2.2.2.2.2.1, S.2.2.2.2.2.2.1, S.2.2.2.2.2.2.2.1, S.2.2.2.2.2.2.2.2.1, S.2.2.2.2.2.2.2.2.2.1, S.2.2.2.2.2.2.2.2.2.2.1, S.2.2.2.2.2.2.2.2.2.2.2.1, (upd (upd S.2.2.2.2.2.2.2.2.2.2.2.2.1 v1.toNatClampNeg ((S.2.2.2.2.2.2.2.2.2.2.2.2.1 v1.toNatClampNeg) ^^^ ((1 : Int32) <<< (v2 &&& 31)))) v2.toNatClampNeg (((upd S.2.2.2.2.2.2.2.2.2.2.2.2.1 v1.toNatClampNeg ((S.2.2.2.2.2.2.2.2.2.2.2.2.1 v1.toNatClampNeg) ^^^ ((1 : Int32) <<< (v2 &&& 31)))) v2.toNatClampNeg) ^^^ ((1 : Int32) <<< (v1 &&& 31)))), S.2.2.2.2.2.2.2.2.2.2.2.2.2.1, S.2.2.2.2.2.2.2.2.2.2.2.2.2.2.1, S.2.2.2.2.2.2.2.2.2.2.2.2.2.2.2.1, S.2.2.2.2.2.2.2.2.2.2.2.2.2.2.2.2.1, S.2.2.2.2.2.2.2.2.2.2.2.2.2.2.2.2.2.1, S.2.2.2.2.2.2.2.2.2.2.2.2.2.2.2.2.2.2.1, S.2.2.2.2.2.2.2.2.2.2.2.2.2.2.2.2.2.2.2.1, S.2.2.2.2.2.2.2.2.2.2.2.2.2.2.2.2.2.2.2.2.1, S.2.2.2.2.2.2.2.2.2.2.2.2.2.2.2.2.2.2.2.2.2.1, S.2.2.2.2.2.2.2.2.2.2.2.2.2.2.2.2.2.2.2.2.2.2.1, S.2.2.2.2.2.2.2.2.2.2.2.2.2.2.2.2.2.2.2.2.2.2.2.1, S.2.2.2.2.2.2.2.2.2.2.2.2.2.2.2.2.2.2.2.2.2.2.2.2.1, S.2.2.2.2.2.2.2.2.2.2.2.2.2.2.2.2.2.2.2.2.2.2.2.2.2.1, S.2.2.2.2.2.2.2.2.2.2.2.2.2.2.2.2.2.2.2.2.2.2.2.2.2.2.1, S.2.2.2.2.2.2.2.2.2.2.2.2.2.2.2.2.2.2.2.2.2.2.2.2.2.2.2.1, S.2.2.2.2.2.2.2.2.2.2.2.2.2.2.2.2.2.2.2.2.2.2.2.2.2.2.2.2.1, S.2.2.2.2.2.2.2.2.2.2.2.2.2.2.2.2.2.2.2.2.2.2.2.2.2.2.2.2.2.1, S.2.2.2.2.2.2.2.2.2.2.2.2.2.2.2.2.2.2.2.2.2.2.2.2.2.2.2.2.2.2))
 else none
 else none
 else none
 else none
def f_X11_quarrel (S : VX11) (v1 : Int32) (v2 : Int32) (v3 : Int32) : Option (Int32 × VX11) :=
 (f_X11_isCell S v1).bind fun r5 =>
 if r5 = 0 then
 some ((-1), S)
 else
 (f_X11_isCell S v2).bind fun r7 =>
 if r7 = 0 then
 some ((-1), S)
 else
 if v1 = v2 then
 some ((-1), S)
 else
 (f_X11_in v3 0 1).bind fun r9 =>
 if r9 = 0 then
 some ((-1), S)
 else
 (f_X11_doQuarrel S v1 v2).bind fun r11 =>
 if r11 = 0 then
 f_X11_quarrel_46 S v1 v2 v3 0
 else
 f_X11_quarrel_46 S v1 v2 v3 1
def f_X11_reachedMany_4  : Nat → VX11 → Int32 → Int32 → Option (Int32)
 | 0, _, _, _ => none
 | n + 1, S, v1, v2 =>
 (f_X11_all S).bind fun r1 =>
 if r1 < v2 then
 some v1
 else
 if zIn v2 256 = true then
 if (S.2.2.2.2.2.2.2.2.2.2.2.2.2.2.2.2.2.2.2.2.2.2.2.1 v2.toNatClampNeg) ≤ 0 then
 f_X11_reachedMany_4 n S (v1 + (0 : Int32)) (v2 + 1)
 else
 f_X11_reachedMany_4 n S (v1 + (1 : Int32)) (v2 + 1)
 else none
def f_X11_reachedMany (S : VX11)  : Option (Int32) :=
 f_X11_reachedMany_4 4096 S 0 0
def f_X11_reached_12  : Nat → VX11 → Int32 → Int32 → Option (Int32 × VX11)
 | 0, _, _, _ => none
 | n + 1, S, v1, v2 =>
 (f_X11_all S).bind fun r1 =>
 if r1 < v2 then
 (f_X11_reachedMany S).bind fun r3 =>
 (f_X11_tells S v1 r3).bind fun r5 =>
 some (r5.1, r5.2)
 else
 if zIn v2 256 = true then
 if (S.2.2.2.2.2.2.2.2.2.2.2.2.2.2.2.2.2.2.2.2.2.2.2.1 v2.toNatClampNeg) ≤ 0 then
 f_X11_reached_12 n S v1 (v2 + 1)
 else
 (f_X11_bits v2).bind fun r8 =>
 (f_X11_greater v1 r8).bind fun r10 =>
 f_X11_reached_12 n S r10 (v2 + 1)
 else none
def f_X11_reached (S : VX11)  : Option (Int32 × VX11) :=
 (f_X11_all S).bind fun r12 =>
 (f_X11_layLeasts S r12).bind fun r14 =>
 f_X11_reached_12 4096 r14 0 0
def f_X11_ring_80 (r_61 : VX11 → Int32 → Int32 → Int32 → Int32 → Option (Int32 × VX11)) (S : VX11) (v3 : Int32) (v4 : Int32) (v5 : Int32) (v6 : Int32) : Option (Int32 × VX11) :=
 (f_X11_keeper S v6).bind fun r1 =>
 r_61 S v3 v4 (v5 + 1) r1
def f_X11_ring_94  (S : VX11) (v3 : Int32) (v5 : Int32) : Option (Int32 × VX11) :=
 (f_X11_tells S v5 v3).bind fun r3 =>
 some (r3.1, r3.2)
def f_X11_ring_61  : Nat → VX11 → Int32 → Int32 → Int32 → Int32 → Option (Int32 × VX11)
 | 0, _, _, _, _, _ => none
 | n + 1, S, v3, v4, v5, v6 =>
 if v6 = (-9) then
 f_X11_ring_94 S v3 v5
 else
 if v5 = 0 then
 f_X11_ring_80 (f_X11_ring_61 n) S v3 v4 v5 v6
 else
 if v6 = v4 then
 f_X11_ring_94 S v3 v5
 else
 f_X11_ring_80 (f_X11_ring_61 n) S v3 v4 v5 v6
def f_X11_ring_17  : Nat → VX11 → Int32 → Int32 → Int32 → Option (Int32 × VX11)
 | 0, _, _, _, _ => none
 | n + 1, S, v2, v3, v4 =>
 if v4 = (-9) then
 f_X11_ring_61 4096 S v3 v4 0 v4
 else
 (f_X11_has v2 v4).bind fun r5 =>
 if r5 = 0 then
 (f_X11_keeper S v4).bind fun r7 =>
 f_X11_ring_17 n S (v2 ||| ((1 : Int32) <<< (v4 &&& 31))) (v3 + 1) r7
 else
 f_X11_ring_61 4096 S v3 v4 0 v4
def f_X11_ring (S : VX11) (v1 : Int32) : Option (Int32 × VX11) :=
 (f_X11_isCell S v1).bind fun r9 =>
 if r9 = 0 then
 some ((-1), S)
 else
 f_X11_ring_17 4096 S 0 0 v1
def f_X11_row_34  : Nat → VX11 → Int32 → Int32 → Int32 → Option (Int32 × VX11)
 | 0, _, _, _, _ => none
 | n + 1, S, v1, v2, v3 =>
 if 60 ≤ v3 then
 some (v2, S)
 else
 if zIn (((60 : Int32) * v1) + v3) 360 = true then
 f_X11_row_34 n (S.1, S.2.1, S.2.2.1, S.2.2.2.1, S.2.2.2.2.1, S.2.2.2.2.2.1, (upd S.2.2.2.2.2.2.1 (((60 : Int32) * v1) + v3).toNatClampNeg 0), S.2.2.2.2.2.2.2.1, S.2.2.2.2.2.2.2.2.1, S.2.2.2.2.2.2.2.2.2.1, S.2.2.2.2.2.2.2.2.2.2.1, S.2.2.2.2.2.2.2.2.2.2.2.1, S.2.2.2.2.2.2.2.2.2.2.2.2.1, S.2.2.2.2.2.2.2.2.2.2.2.2.2.1, S.2.2.2.2.2.2.2.2.2.2.2.2.2.2.1, S.2.2.2.2.2.2.2.2.2.2.2.2.2.2.2.1, S.2.2.2.2.2.2.2.2.2.2.2.2.2.2.2.2.1, S.2.2.2.2.2.2.2.2.2.2.2.2.2.2.2.2.2.1, S.2.2.2.2.2.2.2.2.2.2.2.2.2.2.2.2.2.2.1, S.2.2.2.2.2.2.2.2.2.2.2.2.2.2.2.2.2.2.2.1, S.2.2.2.2.2.2.2.2.2.2.2.2.2.2.2.2.2.2.2.2.1, S.2.2.2.2.2.2.2.2.2.2.2.2.2.2.2.2.2.2.2.2.2.1, S.2.2.2.2.2.2.2.2.2.2.2.2.2.2.2.2.2.2.2.2.2.2.1, S.2.2.2.2.2.2.2.2.2.2.2.2.2.2.2.2.2.2.2.2.2.2.2.1, S.2.2.2.2.2.2.2.2.2.2.2.2.2.2.2.2.2.2.2.2.2.2.2.2.1, S.2.2.2.2.2.2.2.2.2.2.2.2.2.2.2.2.2.2.2.2.2.2.2.2.2.1, S.2.2.2.2.2.2.2.2.2.2.2.2.2.2.2.2.2.2.2.2.2.2.2.2.2.2.1, S.2.2.2.2.2.2.2.2.2.2.2.2.2.2.2.2.2.2.2.2.2.2.2.2.2.2.2.1, S.2.2.2.2.2.2.2.2.2.2.2.2.2.2.2.2.2.2.2.2.2.2.2.2.2.2.2.2.1, S.2.2.2.2.2.2.2.2.2.2.2.2.2.2.2.2.2.2.2.2.2.2.2.2.2.2.2.2.2.1, S.2.2.2.2.2.2.2.2.2.2.2.2.2.2.2.2.2.2.2.2.2.2.2.2.2.2.2.2.2.2) v1 v2 (v3 + 1)
 else none
def f_X11_row (S : VX11) (v1 : Int32) (v2 : Int32) : Option (Int32 × VX11) :=
 (f_X11_isRow v1).bind fun r2 =>
 if r2 = 0 then
 some ((-1), S)
 else
 if v2 ≤ 60 then
 if 0 ≤ v2 then
 if zIn v1 6 = true then
 f_X11_row_34 4096 (S.1, S.2.1, S.2.2.1, S.2.2.2.1, S.2.2.2.2.1, (upd S.2.2.2.2.2.1 v1.toNatClampNeg v2), S.2.2.2.2.2.2.1, S.2.2.2.2.2.2.2.1, S.2.2.2.2.2.2.2.2.1, S.2.2.2.2.2.2.2.2.2.1, S.2.2.2.2.2.2.2.2.2.2.1, S.2.2.2.2.2.2.2.2.2.2.2.1, S.2.2.2.2.2.2.2.2.2.2.2.2.1, S.2.2.2.2.2.2.2.2.2.2.2.2.2.1, S.2.2.2.2.2.2.2.2.2.2.2.2.2.2.1, S.2.2.2.2.2.2.2.2.2.2.2.2.2.2.2.1, S.2.2.2.2.2.2.2.2.2.2.2.2.2.2.2.2.1, S.2.2.2.2.2.2.2.2.2.2.2.2.2.2.2.2.2.1, S.2.2.2.2.2.2.2.2.2.2.2.2.2.2.2.2.2.2.1, S.2.2.2.2.2.2.2.2.2.2.2.2.2.2.2.2.2.2.2.1, S.2.2.2.2.2.2.2.2.2.2.2.2.2.2.2.2.2.2.2.2.1, S.2.2.2.2.2.2.2.2.2.2.2.2.2.2.2.2.2.2.2.2.2.1, S.2.2.2.2.2.2.2.2.2.2.2.2.2.2.2.2.2.2.2.2.2.2.1, S.2.2.2.2.2.2.2.2.2.2.2.2.2.2.2.2.2.2.2.2.2.2.2.1, S.2.2.2.2.2.2.2.2.2.2.2.2.2.2.2.2.2.2.2.2.2.2.2.2.1, S.2.2.2.2.2.2.2.2.2.2.2.2.2.2.2.2.2.2.2.2.2.2.2.2.2.1, S.2.2.2.2.2.2.2.2.2.2.2.2.2.2.2.2.2.2.2.2.2.2.2.2.2.2.1, S.2.2.2.2.2.2.2.2.2.2.2.2.2.2.2.2.2.2.2.2.2.2.2.2.2.2.2.1, S.2.2.2.2.2.2.2.2.2.2.2.2.2.2.2.2.2.2.2.2.2.2.2.2.2.2.2.2.1, S.2.2.2.2.2.2.2.2.2.2.2.2.2.2.2.2.2.2.2.2.2.2.2.2.2.2.2.2.2.1, S.2.2.2.2.2.2.2.2.2.2.2.2.2.2.2.2.2.2.2.2.2.2.2.2.2.2.2.2.2.2) v1 v2 0
 else none
 else
 (f_X11_meets S 5).bind fun r5 =>
 some (r5.1, r5.2)
 else
 some ((-1), S)
def f_X11_saw (S : VX11) (v1 : Int32) (v2 : Int32) : Option (Int32 × VX11) :=
 (f_X11_isCell S v1).bind fun r1 =>
 if r1 = 0 then
 some ((-1), S)
 else
 (f_X11_in v2 0 1).bind fun r3 =>
 if r3 = 0 then
 some ((-1), S)
 else
 if S.2.2.2.2.2.2.2.2.2.2.2.2.2.2.2.2.2.2.2.2.2.2.2.2.2.2.2.1 = 8 then
 some ((-2), S)
 else
 if zIn S.2.2.2.2.2.2.2.2.2.2.2.2.2.2.2.2.2.2.2.2.2.2.2.2.2.2.2.1 8 = true then
 if zIn S.2.2.2.2.2.2.2.2.2.2.2.2.2.2.2.2.2.2.2.2.2.2.2.2.2.2.2.1 8 = true then
 some (((S.2.2.2.2.2.2.2.2.2.2.2.2.2.2.2.2.2.2.2.2.2.2.2.2.2.2.2.1 + (1 : Int32)) - (1 : Int32)), (S.1, S.2.1, S.2.2.1, S.2.2.2.1, S.2.2.2.2.1, S.2.2.2.2.2.1, S.2.2.2.2.2.2.1, S.2.2.2.2.2.2.2.1, S.2.2.2.2.2.2.2.2.1, S.2.2.2.2.2.2.2.2.2.1, S.2.2.2.2.2.2.2.2.2.2.1, S.2.2.2.2.2.2.2.2.2.2.2.1, S.2.2.2.2.2.2.2.2.2.2.2.2.1, S.2.2.2.2.2.2.2.2.2.2.2.2.2.1, S.2.2.2.2.2.2.2.2.2.2.2.2.2.2.1, S.2.2.2.2.2.2.2.2.2.2.2.2.2.2.2.1, S.2.2.2.2.2.2.2.2.2.2.2.2.2.2.2.2.1, S.2.2.2.2.2.2.2.2.2.2.2.2.2.2.2.2.2.1, S.2.2.2.2.2.2.2.2.2.2.2.2.2.2.2.2.2.2.1, S.2.2.2.2.2.2.2.2.2.2.2.2.2.2.2.2.2.2.2.1, S.2.2.2.2.2.2.2.2.2.2.2.2.2.2.2.2.2.2.2.2.1, S.2.2.2.2.2.2.2.2.2.2.2.2.2.2.2.2.2.2.2.2.2.1, S.2.2.2.2.2.2.2.2.2.2.2.2.2.2.2.2.2.2.2.2.2.2.1, S.2.2.2.2.2.2.2.2.2.2.2.2.2.2.2.2.2.2.2.2.2.2.2.1, S.2.2.2.2.2.2.2.2.2.2.2.2.2.2.2.2.2.2.2.2.2.2.2.2.1, S.2.2.2.2.2.2.2.2.2.2.2.2.2.2.2.2.2.2.2.2.2.2.2.2.2.1, S.2.2.2.2.2.2.2.2.2.2.2.2.2.2.2.2.2.2.2.2.2.2.2.2.2.2.1, (S.2.2.2.2.2.2.2.2.2.2.2.2.2.2.2.2.2.2.2.2.2.2.2.2.2.2.2.1 + (1 : Int32)), (upd S.2.2.2.2.2.2.2.2.2.2.2.2.2.2.2.2.2.2.2.2.2.2.2.2.2.2.2.2.1 S.2.2.2.2.2.2.2.2.2.2.2.2.2.2.2.2.2.2.2.2.2.2.2.2.2.2.2.1.toNatClampNeg v1), (upd S.2.2.2.2.2.2.2.2.2.2.2.2.2.2.2.2.2.2.2.2.2.2.2.2.2.2.2.2.2.1 S.2.2.2.2.2.2.2.2.2.2.2.2.2.2.2.2.2.2.2.2.2.2.2.2.2.2.2.1.toNatClampNeg v2), S.2.2.2.2.2.2.2.2.2.2.2.2.2.2.2.2.2.2.2.2.2.2.2.2.2.2.2.2.2.2))
 else none
 else none
def f_X11_tear (S : VX11) (v1 : Int32) : Option (Int32 × VX11) :=
 (f_X11_isRow v1).bind fun r1 =>
 if r1 = 0 then
 some ((-1), S)
 else
 if zIn v1 6 = true then
 if 0 ≤ (S.2.2.2.2.2.1 v1.toNatClampNeg) then
 if zIn v1 6 = true then
 some (1, (S.1, S.2.1, S.2.2.1, S.2.2.2.1, S.2.2.2.2.1, (upd S.2.2.2.2.2.1 v1.toNatClampNeg (-1)), S.2.2.2.2.2.2.1, S.2.2.2.2.2.2.2.1, S.2.2.2.2.2.2.2.2.1, S.2.2.2.2.2.2.2.2.2.1, S.2.2.2.2.2.2.2.2.2.2.1, S.2.2.2.2.2.2.2.2.2.2.2.1, S.2.2.2.2.2.2.2.2.2.2.2.2.1, S.2.2.2.2.2.2.2.2.2.2.2.2.2.1, S.2.2.2.2.2.2.2.2.2.2.2.2.2.2.1, S.2.2.2.2.2.2.2.2.2.2.2.2.2.2.2.1, S.2.2.2.2.2.2.2.2.2.2.2.2.2.2.2.2.1, S.2.2.2.2.2.2.2.2.2.2.2.2.2.2.2.2.2.1, S.2.2.2.2.2.2.2.2.2.2.2.2.2.2.2.2.2.2.1, S.2.2.2.2.2.2.2.2.2.2.2.2.2.2.2.2.2.2.2.1, S.2.2.2.2.2.2.2.2.2.2.2.2.2.2.2.2.2.2.2.2.1, S.2.2.2.2.2.2.2.2.2.2.2.2.2.2.2.2.2.2.2.2.2.1, S.2.2.2.2.2.2.2.2.2.2.2.2.2.2.2.2.2.2.2.2.2.2.1, S.2.2.2.2.2.2.2.2.2.2.2.2.2.2.2.2.2.2.2.2.2.2.2.1, S.2.2.2.2.2.2.2.2.2.2.2.2.2.2.2.2.2.2.2.2.2.2.2.2.1, S.2.2.2.2.2.2.2.2.2.2.2.2.2.2.2.2.2.2.2.2.2.2.2.2.2.1, S.2.2.2.2.2.2.2.2.2.2.2.2.2.2.2.2.2.2.2.2.2.2.2.2.2.2.1, S.2.2.2.2.2.2.2.2.2.2.2.2.2.2.2.2.2.2.2.2.2.2.2.2.2.2.2.1, S.2.2.2.2.2.2.2.2.2.2.2.2.2.2.2.2.2.2.2.2.2.2.2.2.2.2.2.2.1, S.2.2.2.2.2.2.2.2.2.2.2.2.2.2.2.2.2.2.2.2.2.2.2.2.2.2.2.2.2.1, S.2.2.2.2.2.2.2.2.2.2.2.2.2.2.2.2.2.2.2.2.2.2.2.2.2.2.2.2.2.2))
 else none
 else
 (f_X11_meets S 1).bind fun r5 =>
 some (r5.1, r5.2)
 else none
def f_X11_text_34  : Nat → VX11 → Int32 → Int32 → Int32 → Option (Int32 × VX11)
 | 0, _, _, _, _ => none
 | n + 1, S, v1, v2, v3 =>
 if 100 ≤ v3 then
 some (v2, S)
 else
 if zIn (((100 : Int32) * v1) + v3) 400 = true then
 f_X11_text_34 n (S.1, S.2.1, S.2.2.1, S.2.2.2.1, S.2.2.2.2.1, S.2.2.2.2.2.1, S.2.2.2.2.2.2.1, S.2.2.2.2.2.2.2.1, S.2.2.2.2.2.2.2.2.1, (upd S.2.2.2.2.2.2.2.2.2.1 (((100 : Int32) * v1) + v3).toNatClampNeg ((32 : Int32).toInt8.toInt32)), S.2.2.2.2.2.2.2.2.2.2.1, S.2.2.2.2.2.2.2.2.2.2.2.1, S.2.2.2.2.2.2.2.2.2.2.2.2.1, S.2.2.2.2.2.2.2.2.2.2.2.2.2.1, S.2.2.2.2.2.2.2.2.2.2.2.2.2.2.1, S.2.2.2.2.2.2.2.2.2.2.2.2.2.2.2.1, S.2.2.2.2.2.2.2.2.2.2.2.2.2.2.2.2.1, S.2.2.2.2.2.2.2.2.2.2.2.2.2.2.2.2.2.1, S.2.2.2.2.2.2.2.2.2.2.2.2.2.2.2.2.2.2.1, S.2.2.2.2.2.2.2.2.2.2.2.2.2.2.2.2.2.2.2.1, S.2.2.2.2.2.2.2.2.2.2.2.2.2.2.2.2.2.2.2.2.1, S.2.2.2.2.2.2.2.2.2.2.2.2.2.2.2.2.2.2.2.2.2.1, S.2.2.2.2.2.2.2.2.2.2.2.2.2.2.2.2.2.2.2.2.2.2.1, S.2.2.2.2.2.2.2.2.2.2.2.2.2.2.2.2.2.2.2.2.2.2.2.1, S.2.2.2.2.2.2.2.2.2.2.2.2.2.2.2.2.2.2.2.2.2.2.2.2.1, S.2.2.2.2.2.2.2.2.2.2.2.2.2.2.2.2.2.2.2.2.2.2.2.2.2.1, S.2.2.2.2.2.2.2.2.2.2.2.2.2.2.2.2.2.2.2.2.2.2.2.2.2.2.1, S.2.2.2.2.2.2.2.2.2.2.2.2.2.2.2.2.2.2.2.2.2.2.2.2.2.2.2.1, S.2.2.2.2.2.2.2.2.2.2.2.2.2.2.2.2.2.2.2.2.2.2.2.2.2.2.2.2.1, S.2.2.2.2.2.2.2.2.2.2.2.2.2.2.2.2.2.2.2.2.2.2.2.2.2.2.2.2.2.1, S.2.2.2.2.2.2.2.2.2.2.2.2.2.2.2.2.2.2.2.2.2.2.2.2.2.2.2.2.2.2) v1 v2 (v3 + 1)
 else none
def f_X11_text (S : VX11) (v1 : Int32) (v2 : Int32) : Option (Int32 × VX11) :=
 (f_X11_isText v1).bind fun r2 =>
 if r2 = 0 then
 some ((-1), S)
 else
 if v2 ≤ 100 then
 if 0 ≤ v2 then
 if zIn v1 4 = true then
 f_X11_text_34 4096 (S.1, S.2.1, S.2.2.1, S.2.2.2.1, S.2.2.2.2.1, S.2.2.2.2.2.1, S.2.2.2.2.2.2.1, S.2.2.2.2.2.2.2.1, (upd S.2.2.2.2.2.2.2.2.1 v1.toNatClampNeg v2), S.2.2.2.2.2.2.2.2.2.1, S.2.2.2.2.2.2.2.2.2.2.1, S.2.2.2.2.2.2.2.2.2.2.2.1, S.2.2.2.2.2.2.2.2.2.2.2.2.1, S.2.2.2.2.2.2.2.2.2.2.2.2.2.1, S.2.2.2.2.2.2.2.2.2.2.2.2.2.2.1, S.2.2.2.2.2.2.2.2.2.2.2.2.2.2.2.1, S.2.2.2.2.2.2.2.2.2.2.2.2.2.2.2.2.1, S.2.2.2.2.2.2.2.2.2.2.2.2.2.2.2.2.2.1, S.2.2.2.2.2.2.2.2.2.2.2.2.2.2.2.2.2.2.1, S.2.2.2.2.2.2.2.2.2.2.2.2.2.2.2.2.2.2.2.1, S.2.2.2.2.2.2.2.2.2.2.2.2.2.2.2.2.2.2.2.2.1, S.2.2.2.2.2.2.2.2.2.2.2.2.2.2.2.2.2.2.2.2.2.1, S.2.2.2.2.2.2.2.2.2.2.2.2.2.2.2.2.2.2.2.2.2.2.1, S.2.2.2.2.2.2.2.2.2.2.2.2.2.2.2.2.2.2.2.2.2.2.2.1, S.2.2.2.2.2.2.2.2.2.2.2.2.2.2.2.2.2.2.2.2.2.2.2.2.1, S.2.2.2.2.2.2.2.2.2.2.2.2.2.2.2.2.2.2.2.2.2.2.2.2.2.1, S.2.2.2.2.2.2.2.2.2.2.2.2.2.2.2.2.2.2.2.2.2.2.2.2.2.2.1, S.2.2.2.2.2.2.2.2.2.2.2.2.2.2.2.2.2.2.2.2.2.2.2.2.2.2.2.1, S.2.2.2.2.2.2.2.2.2.2.2.2.2.2.2.2.2.2.2.2.2.2.2.2.2.2.2.2.1, S.2.2.2.2.2.2.2.2.2.2.2.2.2.2.2.2.2.2.2.2.2.2.2.2.2.2.2.2.2.1, S.2.2.2.2.2.2.2.2.2.2.2.2.2.2.2.2.2.2.2.2.2.2.2.2.2.2.2.2.2.2) v1 v2 0
 else none
 else
 (f_X11_meets S 5).bind fun r5 =>
 some (r5.1, r5.2)
 else
 some ((-1), S)
def f_X11_trade_119  (S : VX11) (v1 : Int32) (v2 : Int32) (v3 : Int32) (v4 : Int32) : Option (Int32 × VX11) :=
 if zIn (((4 : Int32) * v1) + (1 : Int32)) 32 = true then
 if zIn (((4 : Int32) * v2) + (1 : Int32)) 32 = true then
 some (0, (S.1, S.2.1, S.2.2.1, S.2.2.2.1, S.2.2.2.2.1, S.2.2.2.2.2.1, S.2.2.2.2.2.2.1, S.2.2.2.2.2.2.2.1, S.2.2.2.2.2.2.2.2.1, S.2.2.2.2.2.2.2.2.2.1, S.2.2.2.2.2.2.2.2.2.2.1, (upd (upd S.2.2.2.2.2.2.2.2.2.2.2.1 (((4 : Int32) * v1) + (1 : Int32)).toNatClampNeg v3) (((4 : Int32) * v2) + (1 : Int32)).toNatClampNeg v4), S.2.2.2.2.2.2.2.2.2.2.2.2.1, S.2.2.2.2.2.2.2.2.2.2.2.2.2.1, S.2.2.2.2.2.2.2.2.2.2.2.2.2.2.1, S.2.2.2.2.2.2.2.2.2.2.2.2.2.2.2.1, S.2.2.2.2.2.2.2.2.2.2.2.2.2.2.2.2.1, S.2.2.2.2.2.2.2.2.2.2.2.2.2.2.2.2.2.1, S.2.2.2.2.2.2.2.2.2.2.2.2.2.2.2.2.2.2.1, S.2.2.2.2.2.2.2.2.2.2.2.2.2.2.2.2.2.2.2.1, S.2.2.2.2.2.2.2.2.2.2.2.2.2.2.2.2.2.2.2.2.1, S.2.2.2.2.2.2.2.2.2.2.2.2.2.2.2.2.2.2.2.2.2.1, S.2.2.2.2.2.2.2.2.2.2.2.2.2.2.2.2.2.2.2.2.2.2.1, S.2.2.2.2.2.2.2.2.2.2.2.2.2.2.2.2.2.2.2.2.2.2.2.1, S.2.2.2.2.2.2.2.2.2.2.2.2.2.2.2.2.2.2.2.2.2.2.2.2.1, S.2.2.2.2.2.2.2.2.2.2.2.2.2.2.2.2.2.2.2.2.2.2.2.2.2.1, S.2.2.2.2.2.2.2.2.2.2.2.2.2.2.2.2.2.2.2.2.2.2.2.2.2.2.1, S.2.2.2.2.2.2.2.2.2.2.2.2.2.2.2.2.2.2.2.2.2.2.2.2.2.2.2.1, S.2.2.2.2.2.2.2.2.2.2.2.2.2.2.2.2.2.2.2.2.2.2.2.2.2.2.2.2.1, S.2.2.2.2.2.2.2.2.2.2.2.2.2.2.2.2.2.2.2.2.2.2.2.2.2.2.2.2.2.1, S.2.2.2.2.2.2.2.2.2.2.2.2.2.2.2.2.2.2.2.2.2.2.2.2.2.2.2.2.2.2))
 else none
 else none
def f_X11_trade (S : VX11) (v1 : Int32) (v2 : Int32) : Option (Int32 × VX11) :=
 (f_X11_keeper S v1).bind fun r3 =>
 (f_X11_keeper S v2).bind fun r5 =>
 (f_X11_kind S v1).bind fun r7 =>
 if r7 = 2 then
 some (0, S)
 else
 (f_X11_kind S v2).bind fun r9 =>
 if r9 = 2 then
 some (0, S)
 else
 if r3 = r5 then
 some (0, S)
 else
 (f_X11_mayKeep S v1 r5).bind fun r11 =>
 if r11 = 0 then
 some (0, S)
 else
 (f_X11_mayKeep S v2 r3).bind fun r13 =>
 if r13 = 0 then
 some (0, S)
 else
 (f_X11_outCost S r3).bind fun r15 =>
 (f_X11_outCost r15.2 r5).bind fun r17 =>
 if zIn (((4 : Int32) * v1) + (1 : Int32)) 32 = true then
 if zIn (((4 : Int32) * v2) + (1 : Int32)) 32 = true then
 (f_X11_outCost (r17.2.1, r17.2.2.1, r17.2.2.2.1, r17.2.2.2.2.1, r17.2.2.2.2.2.1, r17.2.2.2.2.2.2.1, r17.2.2.2.2.2.2.2.1, r17.2.2.2.2.2.2.2.2.1, r17.2.2.2.2.2.2.2.2.2.1, r17.2.2.2.2.2.2.2.2.2.2.1, r17.2.2.2.2.2.2.2.2.2.2.2.1, (upd (upd r17.2.2.2.2.2.2.2.2.2.2.2.2.1 (((4 : Int32) * v1) + (1 : Int32)).toNatClampNeg r5) (((4 : Int32) * v2) + (1 : Int32)).toNatClampNeg r3), r17.2.2.2.2.2.2.2.2.2.2.2.2.2.1, r17.2.2.2.2.2.2.2.2.2.2.2.2.2.2.1, r17.2.2.2.2.2.2.2.2.2.2.2.2.2.2.2.1, r17.2.2.2.2.2.2.2.2.2.2.2.2.2.2.2.2.1, r17.2.2.2.2.2.2.2.2.2.2.2.2.2.2.2.2.2.1, r17.2.2.2.2.2.2.2.2.2.2.2.2.2.2.2.2.2.2.1, r17.2.2.2.2.2.2.2.2.2.2.2.2.2.2.2.2.2.2.2.1, r17.2.2.2.2.2.2.2.2.2.2.2.2.2.2.2.2.2.2.2.2.1, r17.2.2.2.2.2.2.2.2.2.2.2.2.2.2.2.2.2.2.2.2.2.1, r17.2.2.2.2.2.2.2.2.2.2.2.2.2.2.2.2.2.2.2.2.2.2.1, r17.2.2.2.2.2.2.2.2.2.2.2.2.2.2.2.2.2.2.2.2.2.2.2.1, r17.2.2.2.2.2.2.2.2.2.2.2.2.2.2.2.2.2.2.2.2.2.2.2.2.1, r17.2.2.2.2.2.2.2.2.2.2.2.2.2.2.2.2.2.2.2.2.2.2.2.2.2.1, r17.2.2.2.2.2.2.2.2.2.2.2.2.2.2.2.2.2.2.2.2.2.2.2.2.2.2.1, r17.2.2.2.2.2.2.2.2.2.2.2.2.2.2.2.2.2.2.2.2.2.2.2.2.2.2.2.1, r17.2.2.2.2.2.2.2.2.2.2.2.2.2.2.2.2.2.2.2.2.2.2.2.2.2.2.2.2.1, r17.2.2.2.2.2.2.2.2.2.2.2.2.2.2.2.2.2.2.2.2.2.2.2.2.2.2.2.2.2.1, r17.2.2.2.2.2.2.2.2.2.2.2.2.2.2.2.2.2.2.2.2.2.2.2.2.2.2.2.2.2.2.1, r17.2.2.2.2.2.2.2.2.2.2.2.2.2.2.2.2.2.2.2.2.2.2.2.2.2.2.2.2.2.2.2) r3).bind fun r21 =>
 if r15.1 ≤ r21.1 then
 f_X11_trade_119 r21.2 v1 v2 r3 r5
 else
 (f_X11_outCost r21.2 r5).bind fun r23 =>
 if r17.1 ≤ r23.1 then
 f_X11_trade_119 r23.2 v1 v2 r3 r5
 else
 some (1, r23.2)
 else none
 else none
def f_X11_tradesOnce_14 (r_2 : VX11 → Int32 → Option (Int32 × VX11)) : Nat → VX11 → Int32 → Int32 → Option (Int32 × VX11)
 | 0, _, _, _ => none
 | n + 1, S, v1, v2 =>
 if S.2.2.2.2.2.2.2.2.2.2.1 ≤ v2 then
 r_2 S (v1 + 1)
 else
 (f_X11_trade S v1 v2).bind fun r1 =>
 if r1.1 = 0 then
 f_X11_tradesOnce_14 r_2 n r1.2 v1 (v2 + 1)
 else
 some (1, r1.2)
def f_X11_tradesOnce_2  : Nat → VX11 → Int32 → Option (Int32 × VX11)
 | 0, _, _ => none
 | n + 1, S, v1 =>
 if S.2.2.2.2.2.2.2.2.2.2.1 ≤ v1 then
 some (0, S)
 else
 f_X11_tradesOnce_14 (f_X11_tradesOnce_2 n) 4096 S v1 (v1 + (1 : Int32))
def f_X11_tradesOnce (S : VX11)  : Option (Int32 × VX11) :=
 f_X11_tradesOnce_2 4096 S 0
def f_X11_trades_2  : Nat → VX11 → Int32 → Option (Int32 × VX11)
 | 0, _, _ => none
 | n + 1, S, v1 =>
 if 20 ≤ v1 then
 some (v1, S)
 else
 (f_X11_tradesOnce S).bind fun r1 =>
 if r1.1 = 0 then
 some (v1, r1.2)
 else
 f_X11_trades_2 n r1.2 (v1 + 1)
def f_X11_trades (S : VX11)  : Option (Int32 × VX11) :=
 f_X11_trades_2 4096 S 0
def f_X11_upper (S : VX11)  : Option (Int64) :=
 some S.2.2.2.1
def f_X11_ways (S : VX11) (v1 : Int32) : Option (Int32 × VX11) :=
 (f_X11_isSet S v1).bind fun r1 =>
 if r1 = 0 then
 some ((-1), S)
 else
 (f_X11_all S).bind fun r3 =>
 (f_X11_layLeasts S r3).bind fun r5 =>
 if zIn v1 256 = true then
 some ((r5.2.2.2.2.2.2.2.2.2.2.2.2.2.2.2.2.2.2.2.2.2.2.2.1 v1.toNatClampNeg), r5)
 else none
def f_X11_without (S : VX11) (v1 : Int32) : Option (Int32 × VX11) :=
 (f_X11_isCell S v1).bind fun r1 =>
 if r1 = 0 then
 some ((-1), S)
 else
 (f_X11_all S).bind fun r3 =>
 (f_X11_layLeasts S r3).bind fun r5 =>
 (f_X11_reachedMany r5).bind fun r7 =>
 (f_X11_everOut r5).bind fun r9 =>
 (f_X11_all r5).bind fun r11 =>
 (f_X11_layLeasts r5 (r11 &&& (((1 : Int32) <<< (v1 &&& 31)) ^^^ ((-1) : Int32)))).bind fun r13 =>
 (f_X11_everOut r13).bind fun r15 =>
 (f_X11_reachedMany r13).bind fun r17 =>
 (f_X11_tells r13 ((r9 &&& (r15 ^^^ ((-1) : Int32))) &&& (((1 : Int32) <<< (v1 &&& 31)) ^^^ ((-1) : Int32))) (r7 - r17)).bind fun r19 =>
 some (r19.1, r19.2)
