/-! the functions of the law -/
abbrev VSX : Type := Nat × (Nat → Int32)
abbrev VA48 : Type := Nat → Int32
abbrev VA64 : Type := Nat → Int32
abbrev VA8 : Type := Nat → Int32
def f_L_in  (v0 : Int32) (v1 : Int32) : Option (Int32) :=
 if ((v0 >>> (v1 &&& 31)) &&& (1 : Int32)) = 1 then
 some 1
 else
 some 0
def f_L_bits_4  : Nat → Int32 → Int32 → Int32 → Option (Int32)
 | 0, _, _, _ => none
 | n + 1, v0, v1, v2 =>
 if 8 ≤ v2 then
 some v1
 else
 f_L_bits_4 n v0 (v1 + ((v0 >>> (v2 &&& 31)) &&& (1 : Int32))) (v2 + 1)
def f_L_bits  (v0 : Int32) : Option (Int32) :=
 f_L_bits_4 4096 v0 0 0
def f_L_cell (SX : VSX)  (v1 : Int32) : Option (Int32) :=
 if (Int32.ofNat SX.1) ≤ v1 then
 some ((((61 : Int32) * v1) + (7 : Int32)) * (v1 + (3 : Int32)))
 else
 if zIn v1 SX.1 = true then
 some ((SX.2 v1.toNatClampNeg) &&& (268435455 : Int32))
 else none
def f_L_put (P1 : VX10) (v1 : Int32) (v2 : Int32) : Option (Int32 × VX10) :=
 if v1 < 0 then
 some ((-1000), P1)
 else
 (f_X10_put P1 3 v1 v2).bind fun r1 =>
 if r1.1 = 1032 then
 some ((v1 + (1 : Int32)), r1.2)
 else
 some ((-1000), r1.2)
def f_L_numbers_280 (SX : VSX) (r_21 : VA48 → Int32 → Int32 → Int32 → Option (VA48)) (P1 : VA48) (v1 : Int32) (v4 : Int32) (v5 : Int32) (v6 : Int32) (v7 : Int32) (t0 : Int32) (t1 : Int32) : Option (VA48) :=
 if zIn t1 48 = true then
 if v7 = 3 then
 if zIn ((4 : Int32) + ((4 : Int32) * v5)) 48 = true then
 if zIn ((33 : Int32) + v5) 48 = true then
 r_21 (upd (upd (upd P1 t1.toNatClampNeg t0) ((4 : Int32) + ((4 : Int32) * v5)).toNatClampNeg ((v6 / 4096) - (v6 / 4096) / 4 * 4)) ((33 : Int32) + v5).toNatClampNeg 0) v1 v4 (v5 + 1)
 else none
 else none
 else
 if v7 = 4 then
 if zIn ((4 : Int32) + ((4 : Int32) * v5)) 48 = true then
 if zIn ((33 : Int32) + v5) 48 = true then
 r_21 (upd (upd (upd P1 t1.toNatClampNeg t0) ((4 : Int32) + ((4 : Int32) * v5)).toNatClampNeg ((v6 / 4096) - (v6 / 4096) / 4 * 4)) ((33 : Int32) + v5).toNatClampNeg 0) v1 v4 (v5 + 1)
 else none
 else none
 else
 if zIn ((4 : Int32) + ((4 : Int32) * v5)) 48 = true then
 if zIn ((33 : Int32) + v5) 48 = true then
 r_21 (upd (upd (upd P1 t1.toNatClampNeg t0) ((4 : Int32) + ((4 : Int32) * v5)).toNatClampNeg 0) ((33 : Int32) + v5).toNatClampNeg 0) v1 v4 (v5 + 1)
 else none
 else none
 else none
def f_L_numbers_253 (SX : VSX) (r_21 : VA48 → Int32 → Int32 → Int32 → Option (VA48)) (P1 : VA48) (v1 : Int32) (v4 : Int32) (v5 : Int32) (v6 : Int32) (v7 : Int32) (v9 : Int32) (t0 : Int32) (t1 : Int32) : Option (VA48) :=
 if zIn t1 48 = true then
 if v7 = 1 then
 f_L_numbers_280 SX r_21 (upd P1 t1.toNatClampNeg t0) v1 v4 v5 v6 v7 v9 ((3 : Int32) + ((4 : Int32) * v5))
 else
 if v7 = 5 then
 f_L_numbers_280 SX r_21 (upd P1 t1.toNatClampNeg t0) v1 v4 v5 v6 v7 v9 ((3 : Int32) + ((4 : Int32) * v5))
 else
 f_L_numbers_280 SX r_21 (upd P1 t1.toNatClampNeg t0) v1 v4 v5 v6 v7 (-9) ((3 : Int32) + ((4 : Int32) * v5))
 else none
def f_L_numbers_221 (SX : VSX) (r_21 : VA48 → Int32 → Int32 → Int32 → Option (VA48)) (P1 : VA48) (v1 : Int32) (v4 : Int32) (v5 : Int32) (v6 : Int32) (v7 : Int32) (v8 : Int32) (t0 : Int32) : Option (VA48) :=
 if zIn ((1 : Int32) + ((4 : Int32) * v5)) 48 = true then
 if v7 = 2 then
 f_L_numbers_253 SX r_21 (upd P1 ((1 : Int32) + ((4 : Int32) * v5)).toNatClampNeg v7) v1 v4 v5 v6 v7 t0 (-9) ((2 : Int32) + ((4 : Int32) * v5))
 else
 f_L_numbers_253 SX r_21 (upd P1 ((1 : Int32) + ((4 : Int32) * v5)).toNatClampNeg v7) v1 v4 v5 v6 v7 t0 v8 ((2 : Int32) + ((4 : Int32) * v5))
 else none
def f_L_numbers_137 (SX : VSX) (r_21 : VA48 → Int32 → Int32 → Int32 → Option (VA48)) (P1 : VA48) (v1 : Int32) (v4 : Int32) (v5 : Int32) (v6 : Int32) (t0 : Int32) : Option (VA48) :=
 if (v4 - (1 : Int32)) = 0 then none else
 if v4 = 0 then none else
 if (v4 - (1 : Int32)) = 0 then none else
 if v4 = 0 then none else
 if ((((((v5 + (1 : Int32)) + ((v6 / 16) - (v6 / 16) / (v4 - (1 : Int32)) * (v4 - (1 : Int32)))) - ((v5 + (1 : Int32)) + ((v6 / 16) - (v6 / 16) / (v4 - (1 : Int32)) * (v4 - (1 : Int32)))) / v4 * v4) + (1 : Int32)) + ((v6 / 256) - (v6 / 256) / (v4 - (1 : Int32)) * (v4 - (1 : Int32)))) - (((((v5 + (1 : Int32)) + ((v6 / 16) - (v6 / 16) / (v4 - (1 : Int32)) * (v4 - (1 : Int32)))) - ((v5 + (1 : Int32)) + ((v6 / 16) - (v6 / 16) / (v4 - (1 : Int32)) * (v4 - (1 : Int32)))) / v4 * v4) + (1 : Int32)) + ((v6 / 256) - (v6 / 256) / (v4 - (1 : Int32)) * (v4 - (1 : Int32)))) / v4 * v4) = v5 then
 if v4 = 0 then none else
 if ((((((((v5 + (1 : Int32)) + ((v6 / 16) - (v6 / 16) / (v4 - (1 : Int32)) * (v4 - (1 : Int32)))) - ((v5 + (1 : Int32)) + ((v6 / 16) - (v6 / 16) / (v4 - (1 : Int32)) * (v4 - (1 : Int32)))) / v4 * v4) + (1 : Int32)) + ((v6 / 256) - (v6 / 256) / (v4 - (1 : Int32)) * (v4 - (1 : Int32)))) - (((((v5 + (1 : Int32)) + ((v6 / 16) - (v6 / 16) / (v4 - (1 : Int32)) * (v4 - (1 : Int32)))) - ((v5 + (1 : Int32)) + ((v6 / 16) - (v6 / 16) / (v4 - (1 : Int32)) * (v4 - (1 : Int32)))) / v4 * v4) + (1 : Int32)) + ((v6 / 256) - (v6 / 256) / (v4 - (1 : Int32)) * (v4 - (1 : Int32)))) / v4 * v4) + (1 : Int32)) - (((((((v5 + (1 : Int32)) + ((v6 / 16) - (v6 / 16) / (v4 - (1 : Int32)) * (v4 - (1 : Int32)))) - ((v5 + (1 : Int32)) + ((v6 / 16) - (v6 / 16) / (v4 - (1 : Int32)) * (v4 - (1 : Int32)))) / v4 * v4) + (1 : Int32)) + ((v6 / 256) - (v6 / 256) / (v4 - (1 : Int32)) * (v4 - (1 : Int32)))) - (((((v5 + (1 : Int32)) + ((v6 / 16) - (v6 / 16) / (v4 - (1 : Int32)) * (v4 - (1 : Int32)))) - ((v5 + (1 : Int32)) + ((v6 / 16) - (v6 / 16) / (v4 - (1 : Int32)) * (v4 - (1 : Int32)))) / v4 * v4) + (1 : Int32)) + ((v6 / 256) - (v6 / 256) / (v4 - (1 : Int32)) * (v4 - (1 : Int32)))) / v4 * v4) + (1 : Int32)) / v4 * v4) = (((v5 + (1 : Int32)) + ((v6 / 16) - (v6 / 16) / (v4 - (1 : Int32)) * (v4 - (1 : Int32)))) - ((v5 + (1 : Int32)) + ((v6 / 16) - (v6 / 16) / (v4 - (1 : Int32)) * (v4 - (1 : Int32)))) / v4 * v4) then
 if v4 = 0 then none else
 f_L_numbers_221 SX r_21 P1 v1 v4 v5 v6 t0 (((v5 + (1 : Int32)) + ((v6 / 16) - (v6 / 16) / (v4 - (1 : Int32)) * (v4 - (1 : Int32)))) - ((v5 + (1 : Int32)) + ((v6 / 16) - (v6 / 16) / (v4 - (1 : Int32)) * (v4 - (1 : Int32)))) / v4 * v4) ((((((((v5 + (1 : Int32)) + ((v6 / 16) - (v6 / 16) / (v4 - (1 : Int32)) * (v4 - (1 : Int32)))) - ((v5 + (1 : Int32)) + ((v6 / 16) - (v6 / 16) / (v4 - (1 : Int32)) * (v4 - (1 : Int32)))) / v4 * v4) + (1 : Int32)) + ((v6 / 256) - (v6 / 256) / (v4 - (1 : Int32)) * (v4 - (1 : Int32)))) - (((((v5 + (1 : Int32)) + ((v6 / 16) - (v6 / 16) / (v4 - (1 : Int32)) * (v4 - (1 : Int32)))) - ((v5 + (1 : Int32)) + ((v6 / 16) - (v6 / 16) / (v4 - (1 : Int32)) * (v4 - (1 : Int32)))) / v4 * v4) + (1 : Int32)) + ((v6 / 256) - (v6 / 256) / (v4 - (1 : Int32)) * (v4 - (1 : Int32)))) / v4 * v4) + (2 : Int32)) - (((((((v5 + (1 : Int32)) + ((v6 / 16) - (v6 / 16) / (v4 - (1 : Int32)) * (v4 - (1 : Int32)))) - ((v5 + (1 : Int32)) + ((v6 / 16) - (v6 / 16) / (v4 - (1 : Int32)) * (v4 - (1 : Int32)))) / v4 * v4) + (1 : Int32)) + ((v6 / 256) - (v6 / 256) / (v4 - (1 : Int32)) * (v4 - (1 : Int32)))) - (((((v5 + (1 : Int32)) + ((v6 / 16) - (v6 / 16) / (v4 - (1 : Int32)) * (v4 - (1 : Int32)))) - ((v5 + (1 : Int32)) + ((v6 / 16) - (v6 / 16) / (v4 - (1 : Int32)) * (v4 - (1 : Int32)))) / v4 * v4) + (1 : Int32)) + ((v6 / 256) - (v6 / 256) / (v4 - (1 : Int32)) * (v4 - (1 : Int32)))) / v4 * v4) + (2 : Int32)) / v4 * v4)
 else
 if v4 = 0 then none else
 f_L_numbers_221 SX r_21 P1 v1 v4 v5 v6 t0 (((v5 + (1 : Int32)) + ((v6 / 16) - (v6 / 16) / (v4 - (1 : Int32)) * (v4 - (1 : Int32)))) - ((v5 + (1 : Int32)) + ((v6 / 16) - (v6 / 16) / (v4 - (1 : Int32)) * (v4 - (1 : Int32)))) / v4 * v4) ((((((((v5 + (1 : Int32)) + ((v6 / 16) - (v6 / 16) / (v4 - (1 : Int32)) * (v4 - (1 : Int32)))) - ((v5 + (1 : Int32)) + ((v6 / 16) - (v6 / 16) / (v4 - (1 : Int32)) * (v4 - (1 : Int32)))) / v4 * v4) + (1 : Int32)) + ((v6 / 256) - (v6 / 256) / (v4 - (1 : Int32)) * (v4 - (1 : Int32)))) - (((((v5 + (1 : Int32)) + ((v6 / 16) - (v6 / 16) / (v4 - (1 : Int32)) * (v4 - (1 : Int32)))) - ((v5 + (1 : Int32)) + ((v6 / 16) - (v6 / 16) / (v4 - (1 : Int32)) * (v4 - (1 : Int32)))) / v4 * v4) + (1 : Int32)) + ((v6 / 256) - (v6 / 256) / (v4 - (1 : Int32)) * (v4 - (1 : Int32)))) / v4 * v4) + (1 : Int32)) - (((((((v5 + (1 : Int32)) + ((v6 / 16) - (v6 / 16) / (v4 - (1 : Int32)) * (v4 - (1 : Int32)))) - ((v5 + (1 : Int32)) + ((v6 / 16) - (v6 / 16) / (v4 - (1 : Int32)) * (v4 - (1 : Int32)))) / v4 * v4) + (1 : Int32)) + ((v6 / 256) - (v6 / 256) / (v4 - (1 : Int32)) * (v4 - (1 : Int32)))) - (((((v5 + (1 : Int32)) + ((v6 / 16) - (v6 / 16) / (v4 - (1 : Int32)) * (v4 - (1 : Int32)))) - ((v5 + (1 : Int32)) + ((v6 / 16) - (v6 / 16) / (v4 - (1 : Int32)) * (v4 - (1 : Int32)))) / v4 * v4) + (1 : Int32)) + ((v6 / 256) - (v6 / 256) / (v4 - (1 : Int32)) * (v4 - (1 : Int32)))) / v4 * v4) + (1 : Int32)) / v4 * v4)
 else
 f_L_numbers_221 SX r_21 P1 v1 v4 v5 v6 t0 (((v5 + (1 : Int32)) + ((v6 / 16) - (v6 / 16) / (v4 - (1 : Int32)) * (v4 - (1 : Int32)))) - ((v5 + (1 : Int32)) + ((v6 / 16) - (v6 / 16) / (v4 - (1 : Int32)) * (v4 - (1 : Int32)))) / v4 * v4) ((((((v5 + (1 : Int32)) + ((v6 / 16) - (v6 / 16) / (v4 - (1 : Int32)) * (v4 - (1 : Int32)))) - ((v5 + (1 : Int32)) + ((v6 / 16) - (v6 / 16) / (v4 - (1 : Int32)) * (v4 - (1 : Int32)))) / v4 * v4) + (1 : Int32)) + ((v6 / 256) - (v6 / 256) / (v4 - (1 : Int32)) * (v4 - (1 : Int32)))) - (((((v5 + (1 : Int32)) + ((v6 / 16) - (v6 / 16) / (v4 - (1 : Int32)) * (v4 - (1 : Int32)))) - ((v5 + (1 : Int32)) + ((v6 / 16) - (v6 / 16) / (v4 - (1 : Int32)) * (v4 - (1 : Int32)))) / v4 * v4) + (1 : Int32)) + ((v6 / 256) - (v6 / 256) / (v4 - (1 : Int32)) * (v4 - (1 : Int32)))) / v4 * v4)
def f_L_numbers_111 (SX : VSX) (r_21 : VA48 → Int32 → Int32 → Int32 → Option (VA48)) (P1 : VA48) (v1 : Int32) (v4 : Int32) (v5 : Int32) (v6 : Int32) (t0 : Int32) : Option (VA48) :=
 if v4 = 2 then
 if t0 = 1 then
 f_L_numbers_137 SX r_21 P1 v1 v4 v5 v6 0
 else
 if t0 = 5 then
 f_L_numbers_137 SX r_21 P1 v1 v4 v5 v6 0
 else
 f_L_numbers_137 SX r_21 P1 v1 v4 v5 v6 t0
 else
 f_L_numbers_137 SX r_21 P1 v1 v4 v5 v6 t0
def f_L_numbers_343 (SX : VSX) (r_330 : VA48 → Int32 → Int32 → Int32 → Option (VA48)) : Nat → VA48 → Int32 → Int32 → Int32 → Int32 → Option (VA48)
 | 0, _, _, _, _, _ => none
 | n + 1, P1, v1, v4, v5, v6 =>
 if v4 ≤ v6 then
 r_330 P1 v1 v4 (v5 + 1)
 else
 (f_L_cell SX (((v1 + (10 : Int32)) + ((6 : Int32) * v5)) + v6)).bind fun r17 =>
 if (r17 - r17 / 5 * 5) = 0 then
 if zIn ((33 : Int32) + v5) 48 = true then
 if zIn ((33 : Int32) + v5) 48 = true then
 if zIn ((33 : Int32) + v6) 48 = true then
 if zIn ((33 : Int32) + v6) 48 = true then
 f_L_numbers_343 SX r_330 n (upd (upd P1 ((33 : Int32) + v5).toNatClampNeg ((P1 ((33 : Int32) + v5).toNatClampNeg) ||| ((1 : Int32) <<< (v6 &&& 31)))) ((33 : Int32) + v6).toNatClampNeg (((upd P1 ((33 : Int32) + v5).toNatClampNeg ((P1 ((33 : Int32) + v5).toNatClampNeg) ||| ((1 : Int32) <<< (v6 &&& 31)))) ((33 : Int32) + v6).toNatClampNeg) ||| ((1 : Int32) <<< (v5 &&& 31)))) v1 v4 v5 (v6 + 1)
 else none
 else none
 else none
 else none
 else
 f_L_numbers_343 SX r_330 n P1 v1 v4 v5 (v6 + 1)
def f_L_numbers_330 (SX : VSX)  : Nat → VA48 → Int32 → Int32 → Int32 → Option (VA48)
 | 0, _, _, _, _ => none
 | n + 1, P1, v1, v4, v5 =>
 if v4 ≤ v5 then
 some P1
 else
 f_L_numbers_343 SX (f_L_numbers_330 SX n) 4096 P1 v1 v4 v5 (v5 + (1 : Int32))
def f_L_numbers_21 (SX : VSX)  : Nat → VA48 → Int32 → Int32 → Int32 → Option (VA48)
 | 0, _, _, _, _ => none
 | n + 1, P1, v1, v4, v5 =>
 if v4 ≤ v5 then
 f_L_numbers_330 SX 4096 P1 v1 v4 0
 else
 (f_L_cell SX ((v1 + (1 : Int32)) + v5)).bind fun r23 =>
 if 6 ≤ (r23 - r23 / 16 * 16) then
 if 8 ≤ (r23 - r23 / 16 * 16) then
 if 10 ≤ (r23 - r23 / 16 * 16) then
 if 12 ≤ (r23 - r23 / 16 * 16) then
 if 14 ≤ (r23 - r23 / 16 * 16) then
 f_L_numbers_111 SX (f_L_numbers_21 SX n) P1 v1 v4 v5 r23 5
 else
 f_L_numbers_111 SX (f_L_numbers_21 SX n) P1 v1 v4 v5 r23 4
 else
 f_L_numbers_111 SX (f_L_numbers_21 SX n) P1 v1 v4 v5 r23 3
 else
 f_L_numbers_111 SX (f_L_numbers_21 SX n) P1 v1 v4 v5 r23 2
 else
 f_L_numbers_111 SX (f_L_numbers_21 SX n) P1 v1 v4 v5 r23 1
 else
 f_L_numbers_111 SX (f_L_numbers_21 SX n) P1 v1 v4 v5 r23 0
def f_L_numbers (SX : VSX) (P1 : VA48) (v1 : Int32) (v2 : Int32) : Option (VA48) :=
 (f_L_cell SX v1).bind fun r25 =>
 if (v2 - (1 : Int32)) = 0 then none else
 if zIn 0 48 = true then
 f_L_numbers_21 SX 4096 (upd P1 (0 : Int32).toNatClampNeg ((2 : Int32) + (r25 - r25 / (v2 - (1 : Int32)) * (v2 - (1 : Int32))))) v1 ((2 : Int32) + (r25 - r25 / (v2 - (1 : Int32)) * (v2 - (1 : Int32)))) 0
 else none
def f_L_jail_160 (r_34 : VX10 → VA48 → Int32 → Int32 → Option (Int32 × VX10)) (P1 : VX10) (P2 : VA48) (v2 : Int32) (v3 : Int32) : Option (Int32 × VX10) :=
 if zIn ((3 : Int32) + ((4 : Int32) * v3)) 48 = true then
 (f_L_put P1 v2 ((65 : Int32) + (P2 ((3 : Int32) + ((4 : Int32) * v3)).toNatClampNeg))).bind fun r2 =>
 r_34 r2.2 P2 r2.1 (v3 + 1)
 else none
def f_L_jail_190 (r_34 : VX10 → VA48 → Int32 → Int32 → Option (Int32 × VX10)) (P1 : VX10) (P2 : VA48) (v2 : Int32) (v3 : Int32) : Option (Int32 × VX10) :=
 if zIn ((4 : Int32) + ((4 : Int32) * v3)) 48 = true then
 (f_L_put P1 v2 ((48 : Int32) + (P2 ((4 : Int32) + ((4 : Int32) * v3)).toNatClampNeg))).bind fun r5 =>
 r_34 r5.2 P2 r5.1 (v3 + 1)
 else none
def f_L_jail_147 (r_34 : VX10 → VA48 → Int32 → Int32 → Option (Int32 × VX10)) (P1 : VX10) (P2 : VA48) (v3 : Int32) (v4 : Int32) (t0 : Int32) : Option (Int32 × VX10) :=
 if v4 = 1 then
 f_L_jail_160 r_34 P1 P2 t0 v3
 else
 if v4 = 5 then
 f_L_jail_160 r_34 P1 P2 t0 v3
 else
 if v4 = 3 then
 f_L_jail_190 r_34 P1 P2 t0 v3
 else
 if v4 = 4 then
 f_L_jail_190 r_34 P1 P2 t0 v3
 else
 r_34 P1 P2 t0 (v3 + 1)
def f_L_jail_108 (r_34 : VX10 → VA48 → Int32 → Int32 → Option (Int32 × VX10)) (P1 : VX10) (P2 : VA48) (v3 : Int32) (v4 : Int32) (t0 : Int32) (t1 : Int32) : Option (Int32 × VX10) :=
 (f_L_put P1 t1 t0).bind fun r7 =>
 (f_L_put r7.2 r7.1 ((65 : Int32) + v3)).bind fun r9 =>
 if v4 = 2 then
 f_L_jail_147 r_34 r9.2 P2 v3 v4 r9.1
 else
 if zIn ((2 : Int32) + ((4 : Int32) * v3)) 48 = true then
 (f_L_put r9.2 r9.1 ((65 : Int32) + (P2 ((2 : Int32) + ((4 : Int32) * v3)).toNatClampNeg))).bind fun r12 =>
 f_L_jail_147 r_34 r12.2 P2 v3 v4 r12.1
 else none
def f_L_jail_230 (r_218 : VX10 → VA48 → Int32 → Int32 → Option (Int32 × VX10)) : Nat → VX10 → VA48 → Int32 → Int32 → Int32 → Option (Int32 × VX10)
 | 0, _, _, _, _, _ => none
 | n + 1, P1, P2, v2, v3, v4 =>
 if zIn 0 48 = true then
 if (P2 (0 : Int32).toNatClampNeg) ≤ v4 then
 r_218 P1 P2 v2 (v3 + 1)
 else
 if zIn ((33 : Int32) + v3) 48 = true then
 if (((P2 ((33 : Int32) + v3).toNatClampNeg) >>> (v4 &&& 31)) &&& (1 : Int32)) = 0 then
 f_L_jail_230 r_218 n P1 P2 v2 v3 (v4 + 1)
 else
 (f_L_put P1 v2 113).bind fun r16 =>
 (f_L_put r16.2 r16.1 ((65 : Int32) + v4)).bind fun r18 =>
 (f_L_put r18.2 r18.1 ((65 : Int32) + v3)).bind fun r20 =>
 f_L_jail_230 r_218 n r20.2 P2 r20.1 v3 (v4 + 1)
 else none
 else none
def f_L_jail_218  : Nat → VX10 → VA48 → Int32 → Int32 → Option (Int32 × VX10)
 | 0, _, _, _, _ => none
 | n + 1, P1, P2, v2, v3 =>
 if zIn 0 48 = true then
 if (P2 (0 : Int32).toNatClampNeg) ≤ v3 then
 if v2 ≤ 0 then
 some (0, P1)
 else
 (f_X10_fault P1 3).bind fun r23 =>
 if r23.1 = (-9) then
 (f_X10_jail r23.2 3).bind fun r25 =>
 if zIn 0 48 = true then
 if r25.1 = (P2 (0 : Int32).toNatClampNeg) then
 some (1, r25.2)
 else
 some (0, r25.2)
 else none
 else
 some (0, r23.2)
 else
 f_L_jail_230 (f_L_jail_218 n) 4096 P1 P2 v2 v3 (v3 + (1 : Int32))
 else none
def f_L_jail_34  : Nat → VX10 → VA48 → Int32 → Int32 → Option (Int32 × VX10)
 | 0, _, _, _, _ => none
 | n + 1, P1, P2, v2, v3 =>
 if zIn 0 48 = true then
 if (P2 (0 : Int32).toNatClampNeg) ≤ v3 then
 f_L_jail_218 4096 P1 P2 v2 0
 else
 if zIn ((1 : Int32) + ((4 : Int32) * v3)) 48 = true then
 if (P2 ((1 : Int32) + ((4 : Int32) * v3)).toNatClampNeg) = 0 then
 f_L_jail_108 (f_L_jail_34 n) P1 P2 v3 (P2 ((1 : Int32) + ((4 : Int32) * v3)).toNatClampNeg) 107 v2
 else
 if (P2 ((1 : Int32) + ((4 : Int32) * v3)).toNatClampNeg) = 1 then
 f_L_jail_108 (f_L_jail_34 n) P1 P2 v3 (P2 ((1 : Int32) + ((4 : Int32) * v3)).toNatClampNeg) 116 v2
 else
 if (P2 ((1 : Int32) + ((4 : Int32) * v3)).toNatClampNeg) = 2 then
 f_L_jail_108 (f_L_jail_34 n) P1 P2 v3 (P2 ((1 : Int32) + ((4 : Int32) * v3)).toNatClampNeg) 105 v2
 else
 if (P2 ((1 : Int32) + ((4 : Int32) * v3)).toNatClampNeg) = 3 then
 f_L_jail_108 (f_L_jail_34 n) P1 P2 v3 (P2 ((1 : Int32) + ((4 : Int32) * v3)).toNatClampNeg) 108 v2
 else
 if (P2 ((1 : Int32) + ((4 : Int32) * v3)).toNatClampNeg) = 4 then
 f_L_jail_108 (f_L_jail_34 n) P1 P2 v3 (P2 ((1 : Int32) + ((4 : Int32) * v3)).toNatClampNeg) 115 v2
 else
 f_L_jail_108 (f_L_jail_34 n) P1 P2 v3 (P2 ((1 : Int32) + ((4 : Int32) * v3)).toNatClampNeg) 98 v2
 else none
 else none
def f_L_jail (P1 : VX10) (P2 : VA48)  : Option (Int32 × VX10) :=
 (f_X10_text P1 3 100).bind fun r30 =>
 if r30.1 = 100 then
 (f_L_put r30.2 1 110).bind fun r32 =>
 if zIn 0 48 = true then
 (f_L_put r32.2 r32.1 ((48 : Int32) + (P2 (0 : Int32).toNatClampNeg))).bind fun r35 =>
 f_L_jail_34 4096 r35.2 P2 r35.1 0
 else none
 else
 some (0, r30.2)
def f_L_tells (P1 : VX10) (v1 : Int32) : Option (Int32) :=
 if v1 = 1 then
 (f_X10_asked P1).bind fun r1 =>
 some r1
 else
 some (-7777)
def f_L_nights_257 (SX : VSX)  (P1 : VX10) (v4 : Int32) (v5 : Int32) : Option (Int32 × VX10) :=
 (f_X10_culprits P1 99).bind fun r1 =>
 if r1.1 < (-9) then
 some (0, r1.2)
 else
 (f_X10_forget r1.2 0).bind fun r3 =>
 if r3.1 = 1 then
 (f_X10_culprits r3.2 v4).bind fun r5 =>
 if r5.1 = v5 then
 some (1, r5.2)
 else
 some (0, r5.2)
 else
 some (0, r3.2)
def f_L_nights_252 (SX : VSX)  (P1 : VX10) (v4 : Int32) (v5 : Int32) (t0 : Int32) (t1 : Int32) : Option (Int32 × VX10) :=
 if t1 = t0 then
 f_L_nights_257 SX P1 v4 v5
 else
 some (0, P1)
def f_L_nights_231 (SX : VSX)  (P1 : VX10) (v4 : Int32) (v5 : Int32) (v7 : Int32) (v8 : Int32) (v11 : Int32) (t0 : Int32) (t1 : Int32) : Option (Int32 × VX10) :=
 if t1 = t0 then
 (f_L_in v11 v7).bind fun r7 =>
 if v8 = 1 then
 f_L_nights_252 SX P1 v4 v5 1 r7
 else
 f_L_nights_252 SX P1 v4 v5 0 r7
 else
 some (0, P1)
def f_L_nights_188 (SX : VSX)  (P1 : VX10) (v4 : Int32) (v5 : Int32) (v7 : Int32) (v8 : Int32) (v10 : Int32) (v11 : Int32) : Option (Int32 × VX10) :=
 if v10 < 0 then
 f_L_nights_257 SX P1 v4 v5
 else
 if (v10 &&& (v5 ^^^ ((-1) : Int32))) = 0 then
 if (v11 &&& (v10 ^^^ ((-1) : Int32))) = 0 then
 (f_L_in v10 v7).bind fun r9 =>
 if v8 = 1 then
 f_L_nights_231 SX P1 v4 v5 v7 v8 v11 1 r9
 else
 f_L_nights_231 SX P1 v4 v5 v7 v8 v11 0 r9
 else
 some (0, P1)
 else
 some (0, P1)
def f_L_nights_178 (SX : VSX)  (P1 : VX10) (v4 : Int32) (v5 : Int32) (v7 : Int32) (v8 : Int32) (v10 : Int32) (v11 : Int32) : Option (Int32 × VX10) :=
 if v8 = 0 then
 if v10 < 0 then
 some (0, P1)
 else
 f_L_nights_188 SX P1 v4 v5 v7 v8 v10 v11
 else
 f_L_nights_188 SX P1 v4 v5 v7 v8 v10 v11
def f_L_nights_175 (SX : VSX)  (P1 : VX10) (v4 : Int32) (v5 : Int32) (v7 : Int32) (v8 : Int32) (v10 : Int32) (v11 : Int32) (t0 : Int32) (t1 : Int32) : Option (Int32 × VX10) :=
 if t1 = t0 then
 f_L_nights_178 SX P1 v4 v5 v7 v8 v10 v11
 else
 some (0, P1)
def f_L_nights_165 (SX : VSX)  (P1 : VX10) (v4 : Int32) (v5 : Int32) (v7 : Int32) (v8 : Int32) (v9 : Int32) (v10 : Int32) (v11 : Int32) (t0 : Int32) : Option (Int32 × VX10) :=
 if v9 ≤ 0 then
 f_L_nights_175 SX P1 v4 v5 v7 v8 v10 v11 0 t0
 else
 f_L_nights_175 SX P1 v4 v5 v7 v8 v10 v11 1 t0
def f_L_nights_88 (SX : VSX)  (P1 : VX10) (v4 : Int32) (v5 : Int32) (v7 : Int32) (v8 : Int32) (v9 : Int32) (t0 : Int32) : Option (Int32 × VX10) :=
 (f_L_in v5 v7).bind fun r11 =>
 if t0 = r11 then
 (f_X10_upper P1).bind fun r13 =>
 (f_X10_lower P1).bind fun r15 =>
 if 0 < (lg_cmp r13 r15) then
 some (0, P1)
 else
 (f_X10_upper P1).bind fun r17 =>
 (f_X10_lower P1).bind fun r19 =>
 if (lg_cmp r17 r19) = 0 then
 some (0, P1)
 else
 (f_X10_saw P1 v7 v8).bind fun r21 =>
 if r21.1 = 0 then
 (f_X10_culprits r21.2 v4).bind fun r23 =>
 (f_X10_asked r23.2).bind fun r25 =>
 if v8 = 1 then
 if r23.1 < 0 then
 f_L_nights_165 SX r23.2 v4 v5 v7 v8 v9 r23.1 r25 0
 else
 f_L_nights_165 SX r23.2 v4 v5 v7 v8 v9 r23.1 r25 1
 else
 f_L_nights_178 SX r23.2 v4 v5 v7 v8 r23.1 r25
 else
 some (0, r21.2)
 else
 some (0, P1)
def f_L_nights (SX : VSX) (P1 : VX10) (v2 : Int32) (v3 : Int32) : Option (Int32 × VX10) :=
 (f_L_cell SX 0).bind fun r27 =>
 (f_X10_culprits P1 (r27 - r27 / 20 * 20)).bind fun r29 =>
 (f_X10_asked r29.2).bind fun r31 =>
 if r29.1 < 0 then
 some (0, r29.2)
 else
 if r31 = 0 then
 if (r29.1 &&& (v3 ^^^ ((-1) : Int32))) = 0 then
 (f_L_cell SX 1).bind fun r33 =>
 if v2 = 0 then none else
 (f_L_cell SX 2).bind fun r36 =>
 (f_X10_odds r29.2 (r27 - r27 / 20 * 20) (r33 - r33 / v2 * v2)).bind fun r38 =>
 if r38.1 < 0 then
 some (0, r38.2)
 else
 if r38.1 ≤ 0 then
 f_L_nights_88 SX r38.2 (r27 - r27 / 20 * 20) r29.1 (r33 - r33 / v2 * v2) (r36 - r36 / 2 * 2) r38.1 0
 else
 f_L_nights_88 SX r38.2 (r27 - r27 / 20 * 20) r29.1 (r33 - r33 / v2 * v2) (r36 - r36 / 2 * 2) r38.1 1
 else
 some (0, r29.2)
 else
 some (0, r29.2)
def f_L_friends_12 (SX : VSX) (r_3 : VX10 → VA48 → Int32 → Int32 → Int32 → Option (Int32 × VX10)) : Nat → VX10 → VA48 → Int32 → Int32 → Int32 → Int32 → Option (Int32 × VX10)
 | 0, _, _, _, _, _, _ => none
 | n + 1, P1, P2, v3, v4, v5, v6 =>
 if v5 ≤ v6 then
 r_3 P1 P2 v3 v4 (v5 + 1)
 else
 (f_X10_quarrel P1 v5 v6 0).bind fun r1 =>
 if zIn ((33 : Int32) + v5) 48 = true then
 if r1.1 = (((P2 ((33 : Int32) + v5).toNatClampNeg) >>> (v6 &&& 31)) &&& (1 : Int32)) then
 (f_X10_quarrel r1.2 v6 v5 0).bind fun r4 =>
 if r4.1 = 0 then
 f_L_friends_12 SX r_3 n r4.2 P2 v3 v4 v5 (v6 + 1)
 else
 some (0, r4.2)
 else
 some (0, r1.2)
 else none
def f_L_friends_291 (SX : VSX) (r_211 : VX10 → VA48 → Int32 → Int32 → Int64 → Int32 → Int32 → Int32 → Option (Int32 × VX10)) (P1 : VX10) (P2 : VA48) (v3 : Int32) (v5 : Int32) (v6 : Int64) (v9 : Int32) (v10 : Int32) (v11 : Int32) : Option (Int32 × VX10) :=
 (f_X10_door P1 v11 0).bind fun r6 =>
 (f_L_tells r6.2 r6.1).bind fun r8 =>
 if zIn ((1 : Int32) + ((4 : Int32) * v11)) 48 = true then
 if r8 = (P2 ((1 : Int32) + ((4 : Int32) * v11)).toNatClampNeg) then
 (f_X10_door r6.2 v11 2).bind fun r11 =>
 (f_L_tells r11.2 r11.1).bind fun r13 =>
 if zIn ((3 : Int32) + ((4 : Int32) * v11)) 48 = true then
 if r13 = (P2 ((3 : Int32) + ((4 : Int32) * v11)).toNatClampNeg) then
 r_211 r11.2 P2 v3 v5 v6 v9 v10 (v11 + 1)
 else
 some (0, r11.2)
 else none
 else
 some (0, r6.2)
 else none
def f_L_friends_263 (SX : VSX) (r_211 : VX10 → VA48 → Int32 → Int32 → Int64 → Int32 → Int32 → Int32 → Option (Int32 × VX10)) (P1 : VX10) (P2 : VA48) (v3 : Int32) (v5 : Int32) (v6 : Int64) (v9 : Int32) (v11 : Int32) (v12 : Int32) (t0 : Int32) (t1 : Int32) : Option (Int32 × VX10) :=
 if v12 = v11 then
 some (0, P1)
 else
 if zIn ((3 : Int32) + ((4 : Int32) * v11)) 48 = true then
 if v12 = (P2 ((3 : Int32) + ((4 : Int32) * v11)).toNatClampNeg) then
 if 0 ≤ v12 then
 some (0, P1)
 else
 f_L_friends_291 SX r_211 P1 P2 v3 v5 v6 v9 (t1 + t0) v11
 else
 f_L_friends_291 SX r_211 P1 P2 v3 v5 v6 v9 (t1 + t0) v11
 else none
def f_L_friends_242 (SX : VSX) (r_211 : VX10 → VA48 → Int32 → Int32 → Int64 → Int32 → Int32 → Int32 → Option (Int32 × VX10)) (P1 : VX10) (P2 : VA48) (v3 : Int32) (v5 : Int32) (v6 : Int64) (v10 : Int32) (v11 : Int32) (v12 : Int32) (t0 : Int32) (t1 : Int32) : Option (Int32 × VX10) :=
 if zIn ((2 : Int32) + ((4 : Int32) * v11)) 48 = true then
 if 0 ≤ (P2 ((2 : Int32) + ((4 : Int32) * v11)).toNatClampNeg) then
 f_L_friends_263 SX r_211 P1 P2 v3 v5 v6 (t1 + t0) v11 v12 1 v10
 else
 f_L_friends_263 SX r_211 P1 P2 v3 v5 v6 (t1 + t0) v11 v12 0 v10
 else none
def f_L_friends_211 (SX : VSX)  : Nat → VX10 → VA48 → Int32 → Int32 → Int64 → Int32 → Int32 → Int32 → Option (Int32 × VX10)
 | 0, _, _, _, _, _, _, _, _ => none
 | n + 1, P1, P2, v3, v5, v6, v9, v10, v11 =>
 if v3 ≤ v11 then
 if v9 = v10 then
 (f_X10_dealt P1 4).bind fun r18 =>
 if r18.1 = 1 then
 (f_X10_digest r18.2).bind fun r20 =>
 if (lg_cmp r20 v6) = 0 then
 (f_X10_reached r18.2).bind fun r22 =>
 if r22.1 = v5 then
 some (1, r22.2)
 else
 some (0, r22.2)
 else
 some (0, r18.2)
 else
 some (0, r18.2)
 else
 some (0, P1)
 else
 (f_X10_door P1 v11 1).bind fun r24 =>
 (f_L_tells r24.2 r24.1).bind fun r26 =>
 if 0 ≤ r26 then
 f_L_friends_242 SX (f_L_friends_211 SX n) r24.2 P2 v3 v5 v6 v10 v11 r26 1 v9
 else
 f_L_friends_242 SX (f_L_friends_211 SX n) r24.2 P2 v3 v5 v6 v10 v11 r26 0 v9
def f_L_friends_181 (SX : VSX)  (P1 : VX10) (P2 : VA48) (v3 : Int32) (v5 : Int32) (v6 : Int64) (v8 : Int32) : Option (Int32 × VX10) :=
 if v8 ≤ 0 then
 f_L_friends_211 SX 4096 P1 P2 v3 v5 v6 0 0 0
 else
 if 20 ≤ v8 then
 f_L_friends_211 SX 4096 P1 P2 v3 v5 v6 0 0 0
 else
 (f_X10_trades P1).bind fun r28 =>
 if r28.1 = 0 then
 f_L_friends_211 SX 4096 r28.2 P2 v3 v5 v6 0 0 0
 else
 some (0, r28.2)
def f_L_friends_109 (SX : VSX)  : Nat → VX10 → VA48 → Int32 → Int32 → Int32 → Option (Int32 × VX10)
 | 0, _, _, _, _, _ => none
 | n + 1, P1, P2, v3, v5, v6 =>
 if v3 ≤ v6 then
 (f_X10_digest P1).bind fun r30 =>
 (f_X10_trades P1).bind fun r32 =>
 if r32.1 < 0 then
 some (0, r32.2)
 else
 if 20 < r32.1 then
 some (0, r32.2)
 else
 if r32.1 = 0 then
 (f_X10_digest r32.2).bind fun r34 =>
 if (lg_cmp r34 r30) = 0 then
 f_L_friends_181 SX r32.2 P2 v3 v5 r30 r32.1
 else
 some (0, r32.2)
 else
 f_L_friends_181 SX r32.2 P2 v3 v5 r30 r32.1
 else
 if zIn ((2 : Int32) + ((4 : Int32) * v6)) 48 = true then
 (f_X10_lay P1 4 v6 (P2 ((2 : Int32) + ((4 : Int32) * v6)).toNatClampNeg)).bind fun r37 =>
 if r37.1 = 1 then
 f_L_friends_109 SX n r37.2 P2 v3 v5 (v6 + 1)
 else
 some (0, r37.2)
 else none
def f_L_friends_3 (SX : VSX)  : Nat → VX10 → VA48 → Int32 → Int32 → Int32 → Option (Int32 × VX10)
 | 0, _, _, _, _, _ => none
 | n + 1, P1, P2, v3, v4, v5 =>
 if v3 ≤ v5 then
 (f_X10_count P1 4).bind fun r39 =>
 if r39 = 0 then
 (f_X10_reached P1).bind fun r41 =>
 if v4 ≤ r41.1 then
 (f_X10_reached r41.2).bind fun r43 =>
 (f_X10_row r43.2 4 v3).bind fun r45 =>
 if r45.1 = v3 then
 f_L_friends_109 SX 4096 r45.2 P2 v3 r43.1 0
 else
 some (0, r45.2)
 else
 some (0, r41.2)
 else
 some (0, P1)
 else
 f_L_friends_12 SX (f_L_friends_3 SX n) 4096 P1 P2 v3 v4 v5 0
def f_L_friends (SX : VSX) (P1 : VX10) (P2 : VA48) (v3 : Int32) (v4 : Int32) : Option (Int32 × VX10) :=
 f_L_friends_3 SX 4096 P1 P2 v3 v4 0
def f_L_bands_44 (r_9 : VX10 → VA64 → VA8 → Int32 → Int32 → Int32 → Option (Int32 × VX10)) (P1 : VX10) (P2 : VA64) (N1 : VA8) (v1 : Int32) (v3 : Int32) (v5 : Int32) (v6 : Int32) (t0 : Int32) (t1 : Int32) (t2 : Int32) : Option (Int32 × VX10) :=
 if zIn t2 8 = true then
 if v6 < 0 then
 r_9 P1 P2 (upd N1 t2.toNatClampNeg (t1 + t0)) v1 v3 (v5 + 1)
 else
 if zIn v5 64 = true then
 if (P2 v5.toNatClampNeg) = 0 then
 some (0, P1)
 else
 (f_X10_order P1 v5 2).bind fun r3 =>
 if r3.1 ≤ v6 then
 r_9 r3.2 P2 (upd N1 t2.toNatClampNeg (t1 + t0)) v1 v3 (v5 + 1)
 else
 some (0, r3.2)
 else none
 else none
def f_L_bands_133 (r_81 : VX10 → VA64 → VA8 → Int32 → Int32 → Int32 → Option (Int32 × VX10)) (P1 : VX10) (P2 : VA64) (N1 : VA8) (v1 : Int32) (v3 : Int32) (v5 : Int32) (v6 : Int32) (v7 : Int32) (t0 : Int32) (t1 : Int32) : Option (Int32 × VX10) :=
 if t1 = t0 then
 if v6 ≤ 0 then
 r_81 P1 P2 N1 v1 v3 (v5 + 1)
 else
 (f_L_bits v7).bind fun r5 =>
 if r5 = v5 then
 (f_X10_band P1 v7).bind fun r7 =>
 if 0 ≤ r7.1 then
 r_81 r7.2 P2 N1 v1 v3 (v5 + 1)
 else
 some (0, r7.2)
 else
 some (0, P1)
 else
 some (0, P1)
def f_L_bands_121 (r_81 : VX10 → VA64 → VA8 → Int32 → Int32 → Int32 → Option (Int32 × VX10)) (P1 : VX10) (P2 : VA64) (N1 : VA8) (v1 : Int32) (v3 : Int32) (v5 : Int32) (v6 : Int32) (v7 : Int32) (t0 : Int32) : Option (Int32 × VX10) :=
 if v7 = (-9) then
 f_L_bands_133 r_81 P1 P2 N1 v1 v3 v5 v6 v7 1 t0
 else
 f_L_bands_133 r_81 P1 P2 N1 v1 v3 v5 v6 v7 0 t0
def f_L_bands_171  : Nat → VX10 → VA64 → VA8 → Int32 → Int32 → Int32 → Option (Int32 × VX10)
 | 0, _, _, _, _, _, _ => none
 | n + 1, P1, P2, N1, v1, v3, v5 =>
 if v1 ≤ v5 then
 some (1, P1)
 else
 (f_X10_without P1 v5).bind fun r9 =>
 (f_X10_asked r9.2).bind fun r11 =>
 if r9.1 < 0 then
 some (0, r9.2)
 else
 if v3 ≤ r9.1 then
 some (0, r9.2)
 else
 (f_L_in r11 v5).bind fun r13 =>
 if r13 = 0 then
 f_L_bands_171 n r9.2 P2 N1 v1 v3 (v5 + 1)
 else
 some (0, r9.2)
def f_L_bands_81  : Nat → VX10 → VA64 → VA8 → Int32 → Int32 → Int32 → Option (Int32 × VX10)
 | 0, _, _, _, _, _, _ => none
 | n + 1, P1, P2, N1, v1, v3, v5 =>
 if v1 < v5 then
 f_L_bands_171 4096 P1 P2 N1 v1 v3 0
 else
 (f_X10_bands P1 v5).bind fun r15 =>
 (f_X10_asked r15.2).bind fun r17 =>
 if zIn v5 8 = true then
 if r15.1 = (N1 v5.toNatClampNeg) then
 if r15.1 = 0 then
 f_L_bands_121 (f_L_bands_81 n) r15.2 P2 N1 v1 v3 v5 r15.1 r17 1
 else
 f_L_bands_121 (f_L_bands_81 n) r15.2 P2 N1 v1 v3 v5 r15.1 r17 0
 else
 some (0, r15.2)
 else none
def f_L_bands_9  : Nat → VX10 → VA64 → VA8 → Int32 → Int32 → Int32 → Option (Int32 × VX10)
 | 0, _, _, _, _, _, _ => none
 | n + 1, P1, P2, N1, v1, v3, v5 =>
 if ((1 : Int32) <<< (v1 &&& 31)) ≤ v5 then
 f_L_bands_81 4096 P1 P2 N1 v1 v3 1
 else
 (f_X10_band P1 v5).bind fun r20 =>
 (f_L_bits v5).bind fun r22 =>
 if zIn r22 8 = true then
 if 0 ≤ r20.1 then
 f_L_bands_44 (f_L_bands_9 n) r20.2 P2 N1 v1 v3 v5 r20.1 1 (N1 r22.toNatClampNeg) r22
 else
 f_L_bands_44 (f_L_bands_9 n) r20.2 P2 N1 v1 v3 v5 r20.1 0 (N1 r22.toNatClampNeg) r22
 else none
def f_L_bands_6  (P1 : VX10) (P2 : VA64) (N1 : VA8) (v1 : Int32) (v3 : Int32) : Option (Int32 × VX10) :=
 f_L_bands_9 4096 P1 P2 N1 v1 v3 1
def f_L_bands (P1 : VX10) (P2 : VA64) (v1 : Int32) (v3 : Int32) : Option (Int32 × VX10) := f_L_bands_6 P1 P2 (fun _ => 0) v1 v3
def f_L_law_425 (SX : VSX) (r_97 : VX10 → VA48 → VA64 → Int32 → Int32 → Int32 → Int32 → Int32 → Int32 → Int32 → Option (Int32)) : Nat → VX10 → VA48 → VA64 → Int32 → Int32 → Int32 → Int32 → Int32 → Int32 → Int32 → Int32 → Option (Int32)
 | 0, _, _, _, _, _, _, _, _, _, _, _ => none
 | n + 1, P1, P2, P3, v3, v4, v6, v7, v8, v9, v10, v16 =>
 if v3 ≤ v16 then
 (f_X10_bell P1).bind fun r1 =>
 (f_L_bits v10).bind fun r3 =>
 if r1.1 = r3 then
 r_97 r1.2 P2 P3 v3 v4 v6 v7 v8 v9 (v10 + 1)
 else
 some 0
 else
 (f_X10_can P1 v16).bind fun r5 =>
 (f_L_in v10 v16).bind fun r7 =>
 if r7 = 0 then
 if r5 < 0 then
 f_L_law_425 SX r_97 n P1 P2 P3 v3 v4 v6 v7 v8 v9 v10 (v16 + 1)
 else
 (f_L_in v8 v16).bind fun r9 =>
 if r9 = 0 then
 some 0
 else
 f_L_law_425 SX r_97 n P1 P2 P3 v3 v4 v6 v7 v8 v9 v10 (v16 + 1)
 else
 if r5 = (-4) then
 f_L_law_425 SX r_97 n P1 P2 P3 v3 v4 v6 v7 v8 v9 v10 (v16 + 1)
 else
 some 0
def f_L_law_305 (SX : VSX) (r_97 : VX10 → VA48 → VA64 → Int32 → Int32 → Int32 → Int32 → Int32 → Int32 → Int32 → Option (Int32)) : Nat → VX10 → VA48 → VA64 → Int32 → Int32 → Int32 → Int32 → Int32 → Int32 → Int32 → Int32 → Int32 → Int32 → Option (Int32)
 | 0, _, _, _, _, _, _, _, _, _, _, _, _, _ => none
 | n + 1, P1, P2, P3, v3, v4, v6, v7, v8, v9, v10, v11, v15, v16 =>
 (f_L_bits v10).bind fun r11 =>
 if r11 ≤ v16 then
 if v15 = v11 then
 (f_X10_out P1).bind fun r13 =>
 if r13.1 = v10 then
 (f_X10_asked r13.2).bind fun r15 =>
 if r15 = v15 then
 (f_X10_lets r13.2 1).bind fun r17 =>
 (f_L_bits v10).bind fun r19 =>
 if r17.1 = r19 then
 (f_X10_asked r17.2).bind fun r21 =>
 if r21 = v15 then
 f_L_law_425 SX r_97 4096 r17.2 P2 P3 v3 v4 v6 v7 v8 v9 v10 0
 else
 some 0
 else
 some 0
 else
 some 0
 else
 some 0
 else
 some 0
 else
 (f_X10_at P1 1 v16).bind fun r23 =>
 if r23.1 = 1 then
 (f_X10_asked r23.2).bind fun r25 =>
 (f_X10_can r23.2 r25).bind fun r27 =>
 if r27 < 0 then
 some 0
 else
 (f_X10_let r23.2 r25).bind fun r29 =>
 if r29.1 = r27 then
 f_L_law_305 SX r_97 n r29.2 P2 P3 v3 v4 v6 v7 v8 v9 v10 v11 (v15 + r27) (v16 + 1)
 else
 some 0
 else
 some 0
def f_L_law_294 (SX : VSX) (r_97 : VX10 → VA48 → VA64 → Int32 → Int32 → Int32 → Int32 → Int32 → Int32 → Int32 → Option (Int32)) (P1 : VX10) (P2 : VA48) (P3 : VA64) (v3 : Int32) (v4 : Int32) (v6 : Int32) (v7 : Int32) (v8 : Int32) (v9 : Int32) (v10 : Int32) (v11 : Int32) : Option (Int32) :=
 if v11 < 0 then
 r_97 P1 P2 P3 v3 v4 v6 v7 v8 v9 (v10 + 1)
 else
 f_L_law_305 SX r_97 4096 P1 P2 P3 v3 v4 v6 v7 v8 v9 v10 v11 0 0
def f_L_law_232 (SX : VSX) (r_97 : VX10 → VA48 → VA64 → Int32 → Int32 → Int32 → Int32 → Int32 → Int32 → Int32 → Option (Int32)) (P1 : VX10) (P2 : VA48) (P3 : VA64) (v3 : Int32) (v4 : Int32) (v6 : Int32) (v7 : Int32) (v8 : Int32) (v9 : Int32) (v10 : Int32) (v11 : Int32) (v12 : Int32) (v13 : Int32) (v14 : Int32) (t0 : Int32) (t1 : Int32) : Option (Int32) :=
 if t1 = t0 then
 if v11 < 0 then
 f_L_law_294 SX r_97 P1 P2 P3 v3 v4 v6 v7 v8 v9 v10 v11
 else
 if v11 < v12 then
 some 0
 else
 if v12 < 0 then
 some 0
 else
 if (v13 &&& v10) = v10 then
 (f_L_bits v10).bind fun r31 =>
 if v7 < r31 then
 some 0
 else
 if (v10 &&& (v8 ^^^ ((-1) : Int32))) = 0 then
 if v10 ≤ 0 then
 f_L_law_294 SX r_97 P1 P2 P3 v3 v4 v6 v7 v8 v9 v10 v11
 else
 if v14 = 0 then
 some 0
 else
 f_L_law_294 SX r_97 P1 P2 P3 v3 v4 v6 v7 v8 v9 v10 v11
 else
 some 0
 else
 some 0
 else
 some 0
def f_L_law_219 (SX : VSX) (r_97 : VX10 → VA48 → VA64 → Int32 → Int32 → Int32 → Int32 → Int32 → Int32 → Int32 → Option (Int32)) (P1 : VX10) (P2 : VA48) (P3 : VA64) (v3 : Int32) (v4 : Int32) (v6 : Int32) (v7 : Int32) (v8 : Int32) (v9 : Int32) (v10 : Int32) (v11 : Int32) (v12 : Int32) (v13 : Int32) (v14 : Int32) (t0 : Int32) : Option (Int32) :=
 if zIn v10 64 = true then
 if (P3 v10.toNatClampNeg) = 0 then
 f_L_law_232 SX r_97 P1 P2 P3 v3 v4 v6 v7 v8 v9 v10 v11 v12 v13 v14 1 t0
 else
 f_L_law_232 SX r_97 P1 P2 P3 v3 v4 v6 v7 v8 v9 v10 v11 v12 v13 v14 0 t0
 else none
def f_L_law_162 (SX : VSX) (r_97 : VX10 → VA48 → VA64 → Int32 → Int32 → Int32 → Int32 → Int32 → Int32 → Int32 → Option (Int32)) : Nat → VX10 → VA48 → VA64 → Int32 → Int32 → Int32 → Int32 → Int32 → Int32 → Int32 → Int32 → Int32 → Int32 → Int32 → Int32 → Option (Int32)
 | 0, _, _, _, _, _, _, _, _, _, _, _, _, _, _, _ => none
 | n + 1, P1, P2, P3, v3, v4, v6, v7, v8, v9, v10, v11, v12, v13, v14, v15 =>
 if v3 ≤ v15 then
 if 0 ≤ v11 then
 f_L_law_219 SX r_97 P1 P2 P3 v3 v4 v6 v7 v8 v9 v10 v11 v12 v13 v14 0
 else
 f_L_law_219 SX r_97 P1 P2 P3 v3 v4 v6 v7 v8 v9 v10 v11 v12 v13 v14 1
 else
 (f_L_in v10 v15).bind fun r34 =>
 if r34 = 0 then
 f_L_law_162 SX r_97 n P1 P2 P3 v3 v4 v6 v7 v8 v9 v10 v11 v12 v13 (v14 + (0 : Int32)) (v15 + 1)
 else
 if zIn (v10 &&& (((1 : Int32) <<< (v15 &&& 31)) ^^^ ((-1) : Int32))) 64 = true then
 if (P3 (v10 &&& (((1 : Int32) <<< (v15 &&& 31)) ^^^ ((-1) : Int32))).toNatClampNeg) ≤ 0 then
 f_L_law_162 SX r_97 n P1 P2 P3 v3 v4 v6 v7 v8 v9 v10 v11 v12 v13 (v14 + (0 : Int32)) (v15 + 1)
 else
 f_L_law_162 SX r_97 n P1 P2 P3 v3 v4 v6 v7 v8 v9 v10 v11 v12 v13 (v14 + (1 : Int32)) (v15 + 1)
 else none
def f_L_law_130 (SX : VSX) (r_97 : VX10 → VA48 → VA64 → Int32 → Int32 → Int32 → Int32 → Int32 → Int32 → Int32 → Option (Int32)) (P1 : VX10) (P2 : VA48) (P3 : VA64) (v3 : Int32) (v4 : Int32) (v6 : Int32) (v7 : Int32) (v8 : Int32) (v10 : Int32) (t0 : Int32) (t1 : Int32) : Option (Int32) :=
 (f_X10_order P1 v10 1).bind fun r37 =>
 (f_X10_least r37.2 v10).bind fun r39 =>
 (f_X10_asked r39.2).bind fun r41 =>
 f_L_law_162 SX r_97 4096 r39.2 P2 P3 v3 v4 v6 v7 v8 (t1 + t0) v10 r37.1 r39.1 r41 0 0
def f_L_law_97 (SX : VSX)  : Nat → VX10 → VA48 → VA64 → Int32 → Int32 → Int32 → Int32 → Int32 → Int32 → Int32 → Option (Int32)
 | 0, _, _, _, _, _, _, _, _, _, _ => none
 | n + 1, P1, P2, P3, v3, v4, v6, v7, v8, v9, v10 =>
 if v4 < v10 then
 (f_X10_most P1).bind fun r43 =>
 if v9 = v6 then
 (f_L_bits r43.1).bind fun r45 =>
 if r45 = v7 then
 (f_X10_asked r43.2).bind fun r47 =>
 (f_X10_order r43.2 r43.1 1).bind fun r49 =>
 if r47 = r49.1 then
 (f_L_bands r49.2 P3 v3 v6).bind fun r51 =>
 if r51.1 = 0 then
 some 0
 else
 (f_L_nights SX r51.2 v3 v8).bind fun r53 =>
 if r53.1 = 0 then
 some 0
 else
 (f_L_friends SX r53.2 P2 v3 v6).bind fun r55 =>
 if r55.1 = 0 then
 some 0
 else
 some 1
 else
 some 0
 else
 some 0
 else
 some 0
 else
 (f_X10_ways P1 v10).bind fun r57 =>
 if zIn v10 64 = true then
 if zIn v10 64 = true then
 if ((upd P3 v10.toNatClampNeg r57.1) v10.toNatClampNeg) ≤ 0 then
 f_L_law_130 SX (f_L_law_97 SX n) r57.2 P2 (upd P3 v10.toNatClampNeg r57.1) v3 v4 v6 v7 v8 v10 0 v9
 else
 f_L_law_130 SX (f_L_law_97 SX n) r57.2 P2 (upd P3 v10.toNatClampNeg r57.1) v3 v4 v6 v7 v8 v10 1 v9
 else none
 else none
def f_L_law_49 (SX : VSX)  (P1 : VX10) (P2 : VA48) (P3 : VA64) (v3 : Int32) (v4 : Int32) : Option (Int32) :=
 (f_X10_reached P1).bind fun r61 =>
 (f_X10_asked r61.2).bind fun r63 =>
 (f_X10_ever r61.2).bind fun r65 =>
 (f_X10_asked r65.2).bind fun r67 =>
 if (r67 ||| r65.1) = v4 then
 (f_X10_asked r65.2).bind fun r69 =>
 if (r69 &&& r65.1) = 0 then
 f_L_law_97 SX 4096 r65.2 P2 P3 v3 v4 r61.1 r63 r65.1 0 0
 else
 some 0
 else
 some 0
