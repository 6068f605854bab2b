def f_X0_isDeal_100 (r_14 : VX0 → Int32 → Int32 → Int32 → Option (Int32 × VX0)) (S : VX0) (v2 : Int32) (v3 : Int32) (v4 : Int32) (t0 : Int32) (t1 : Int32) : Option (Int32 × VX0) :=
 (f_X2_setKeeper S.1 t1 t0).bind fun r1 =>
 r_14 (r1, S.2.1, S.2.2.1, S.2.2.2) v2 v3 (v4 + (-1))
def f_X0_isDeal_65 (r_14 : VX0 → Int32 → Int32 → Int32 → Option (Int32 × VX0)) (S : VX0) (v2 : Int32) (v3 : Int32) (v4 : Int32) (v5 : Int32) (t0 : Int32) : Option (Int32 × VX0) :=
 if t0 = 0 then
 some (0, S)
 else
 (f_X2_isOf S.1 v4 2).bind fun r3 =>
 if r3 = 0 then
 f_X0_isDeal_100 r_14 S v2 v3 v4 v5 v4
 else
 f_X0_isDeal_100 r_14 S v2 v3 v4 (-9) v4
def f_X0_isDeal_14  : Nat → VX0 → Int32 → Int32 → Int32 → Option (Int32 × VX0)
 | 0, _, _, _, _ => none
 | n + 1, S, v2, v3, v4 =>
 if v4 < 0 then
 some (1, S)
 else
 if v2 = 0 then none else
 if v2 = 0 then none else
 (f_X2_isOf S.1 v4 2).bind fun r7 =>
 if r7 = 0 then
 (f_X2_mayKeep S.1 v4 (v3 - v3 / v2 * v2)).bind fun r9 =>
 f_X0_isDeal_65 (f_X0_isDeal_14 n) S v2 (v3 / v2) v4 (v3 - v3 / v2 * v2) r9
 else
 if (v3 - v3 / v2 * v2) = 0 then
 f_X0_isDeal_65 (f_X0_isDeal_14 n) S v2 (v3 / v2) v4 (v3 - v3 / v2 * v2) 1
 else
 f_X0_isDeal_65 (f_X0_isDeal_14 n) S v2 (v3 / v2) v4 (v3 - v3 / v2 * v2) 0
def f_X0_isDeal (S : VX0) (v1 : Int32) (v2 : Int32) : Option (Int32 × VX0) :=
 if 1 ≤ v2 then
 f_X0_isDeal_14 4096 S v2 v1 (v2 - (1 : Int32))
 else
 some (0, S)
def f_X0_freesNoneOf_2  : Nat → VX0 → Int32 → Int32 → Option (Int32 × VX0)
 | 0, _, _, _ => none
 | n + 1, S, v1, v2 =>
 (f_X2_everyone S.1).bind fun r1 =>
 if r1 < v2 then
 some (1, S)
 else
 (f_J6_bitCount_0f7a4 v2).bind fun r3 =>
 if r3 = v1 then
 (f_X4_fill S.2.1 S.1 v2).bind fun r5 =>
 (f_X4_has r5 v2).bind fun r7 =>
 if r7 = 0 then
 f_X0_freesNoneOf_2 n (S.1, r5, S.2.2.1, S.2.2.2) v1 (v2 + 1)
 else
 some (0, (S.1, r5, S.2.2.1, S.2.2.2))
 else
 f_X0_freesNoneOf_2 n S v1 (v2 + 1)
def f_X0_freesNoneOf (S : VX0) (v1 : Int32) : Option (Int32 × VX0) :=
 f_X0_freesNoneOf_2 4096 S v1 1
def f_X0_rememberDeal_2  : Nat → VX0 → Int32 → Option (VX0)
 | 0, _, _ => none
 | n + 1, S, v1 =>
 if 5 ≤ v1 then
 some S
 else
 (f_X2_keeperOf S.1 v1).bind fun r1 =>
 if zIn v1 5 = true then
 f_X0_rememberDeal_2 n (S.1, S.2.1, (upd S.2.2.1 v1.toNatClampNeg r1), S.2.2.2) (v1 + 1)
 else none
def f_X0_rememberDeal (S : VX0)  : Option (VX0) :=
 f_X0_rememberDeal_2 4096 S 0
def f_X0_dealAll_50  : Nat → VX0 → VX2 → Int32 → Int32 → Int32 → Int32 → Int32 → Option (Int32 × VX0)
 | 0, _, _, _, _, _, _, _ => none
 | n + 1, S, P1, v2, v3, v4, v5, v6 =>
 if v4 ≤ v6 then
 some (v5, S)
 else
 (f_X0_isDeal S v6 v3).bind fun r1 =>
 if r1.1 = 0 then
 f_X0_dealAll_50 n r1.2 P1 v2 v3 v4 v5 (v6 + 1)
 else
 (f_X0_freesNoneOf r1.2 v2).bind fun r3 =>
 if r3.1 = 0 then
 f_X0_dealAll_50 n r3.2 P1 v2 v3 v4 v5 (v6 + 1)
 else
 if v5 = 0 then
 (f_X0_rememberDeal r3.2).bind fun r5 =>
 f_X0_dealAll_50 n r5 P1 v2 v3 v4 (v5 + 1) (v6 + 1)
 else
 f_X0_dealAll_50 n r3.2 P1 v2 v3 v4 (v5 + 1) (v6 + 1)
def f_X0_dealAll_26  : Nat → VX0 → VX2 → Int32 → Int32 → Int32 → Int32 → Option (Int32 × VX0)
 | 0, _, _, _, _, _, _ => none
 | n + 1, S, P1, v2, v3, v4, v5 =>
 if v3 ≤ v5 then
 f_X0_dealAll_50 4096 S P1 v2 v3 v4 0 0
 else
 f_X0_dealAll_26 n S P1 v2 v3 (v4 * v3) (v5 + 1)
def f_X0_dealAll (S : VX0) (P1 : VX2) (v2 : Int32) : Option (Int32 × VX0) :=
 (f_X2_cells P1).bind fun r7 =>
 if r7 ≤ 5 then
 (f_X2_become S.1 P1).bind fun r9 =>
 f_X0_dealAll_26 4096 (r9, S.2.1, S.2.2.1, S.2.2.2) P1 v2 r7 1 0
 else
 some (0, S)
def f_X0_favoursOrNever (S : VX0) (v1 : Int32) : Option (Int32) :=
 (f_X4_leastFor S.2.1 v1).bind fun r1 =>
 if r1 = (-9) then
 some 99
 else
 some r1
def f_X0_firstKeeperOf (S : VX0) (v1 : Int32) : Option (Int32) :=
 if v1 < 0 then
 some (-9)
 else
 if 5 ≤ v1 then
 some (-9)
 else
 if zIn v1 5 = true then
 some (S.2.2.1 v1.toNatClampNeg)
 else none
def f_X0_wouldTrade (S : VX0) (v1 : Int32) : Option (Int32) :=
 if v1 < 0 then
 some 0
 else
 if 8 ≤ v1 then
 some 0
 else
 (f_X0_favoursOrNever S v1).bind fun r1 =>
 if zIn v1 8 = true then
 if (S.2.2.2 v1.toNatClampNeg) ≤ r1 then
 some 0
 else
 some 1
 else none
def f_X0_helpsBoth_60  (S : VX0) (P1 : VX2) (v2 : Int32) (v3 : Int32) (v4 : Int32) (v5 : Int32) : Option (Int32 × VX0 × VX2) :=
 (f_X2_setKeeper P1 v2 v4).bind fun r1 =>
 (f_X2_setKeeper r1 v3 v5).bind fun r3 =>
 some (0, S, r3)
def f_X0_helpsBoth (S : VX0) (P1 : VX2) (v2 : Int32) (v3 : Int32) : Option (Int32 × VX0 × VX2) :=
 (f_X2_keeperOf P1 v2).bind fun r5 =>
 (f_X2_keeperOf P1 v3).bind fun r7 =>
 (f_X2_setKeeper P1 v2 r7).bind fun r9 =>
 (f_X2_setKeeper r9 v3 r5).bind fun r11 =>
 (f_X2_everyone r11).bind fun r13 =>
 (f_X4_fill S.2.1 r11 r13).bind fun r15 =>
 (f_X0_wouldTrade (S.1, r15, S.2.2.1, S.2.2.2) r5).bind fun r17 =>
 if r17 = 0 then
 f_X0_helpsBoth_60 (S.1, r15, S.2.2.1, S.2.2.2) r11 v2 v3 r5 r7
 else
 (f_X0_wouldTrade (S.1, r15, S.2.2.1, S.2.2.2) r7).bind fun r19 =>
 if r19 = 0 then
 f_X0_helpsBoth_60 (S.1, r15, S.2.2.1, S.2.2.2) r11 v2 v3 r5 r7
 else
 some (1, (S.1, r15, S.2.2.1, S.2.2.2), r11)
def f_X0_mayTrade (S : VX0) (P1 : VX2) (v2 : Int32) (v3 : Int32) : Option (Int32) :=
 (f_X2_keeperOf P1 v2).bind fun r1 =>
 (f_X2_keeperOf P1 v3).bind fun r3 =>
 if r1 = r3 then
 some 0
 else
 (f_X2_mayKeep P1 v2 r3).bind fun r5 =>
 if r5 = 0 then
 some 0
 else
 (f_X2_mayKeep P1 v3 r1).bind fun r7 =>
 if r7 = 0 then
 some 0
 else
 some 1
def f_X0_tradeOnce_51 (r_39 : VX0 → VX2 → Int32 → Option (Int32 × VX0 × VX2)) : Nat → VX0 → VX2 → Int32 → Int32 → Option (Int32 × VX0 × VX2)
 | 0, _, _, _, _ => none
 | n + 1, S, P1, v2, v3 =>
 (f_X2_cells P1).bind fun r1 =>
 if r1 ≤ v3 then
 r_39 S P1 (v2 + 1)
 else
 (f_X0_mayTrade S P1 v2 v3).bind fun r3 =>
 if r3 = 0 then
 f_X0_tradeOnce_51 r_39 n S P1 v2 (v3 + 1)
 else
 (f_X0_helpsBoth S P1 v2 v3).bind fun r5 =>
 if r5.1 = 0 then
 f_X0_tradeOnce_51 r_39 n r5.2.1 r5.2.2 v2 (v3 + 1)
 else
 some (1, r5.2.1, r5.2.2)
def f_X0_tradeOnce_39  : Nat → VX0 → VX2 → Int32 → Option (Int32 × VX0 × VX2)
 | 0, _, _, _ => none
 | n + 1, S, P1, v2 =>
 (f_X2_cells P1).bind fun r7 =>
 if r7 ≤ v2 then
 some (0, S, P1)
 else
 f_X0_tradeOnce_51 (f_X0_tradeOnce_39 n) 4096 S P1 v2 (v2 + (1 : Int32))
def f_X0_tradeOnce_14  : Nat → VX0 → VX2 → Int32 → Option (Int32 × VX0 × VX2)
 | 0, _, _, _ => none
 | n + 1, S, P1, v2 =>
 if 8 ≤ v2 then
 f_X0_tradeOnce_39 4096 S P1 0
 else
 (f_X0_favoursOrNever S v2).bind fun r9 =>
 if zIn v2 8 = true then
 f_X0_tradeOnce_14 n (S.1, S.2.1, S.2.2.1, (upd S.2.2.2 v2.toNatClampNeg r9)) P1 (v2 + 1)
 else none
def f_X0_tradeOnce (S : VX0) (P1 : VX2)  : Option (Int32 × VX0 × VX2) :=
 (f_X2_everyone P1).bind fun r12 =>
 (f_X4_fill S.2.1 P1 r12).bind fun r14 =>
 f_X0_tradeOnce_14 4096 (S.1, r14, S.2.2.1, S.2.2.2) P1 0
theorem zc_X0_isDeal : zC yX0_isDeal wsX0_isDeal cX0_isDeal 7 (some .boolean) 2 := ⟨⟨_, rfl⟩, by decide +kernel, by decide +kernel, by decide +kernel, by decide +kernel⟩
theorem m_X0_isDeal_0 : (.fieldLink RX0 12 "CellKeys$Dealer" "trial" "LCellKeys$Jail;" : Cond) ∈ wsX0_isDeal := by decide +kernel
theorem in_X0_isDeal_X0 : ∀ w ∈ u_ws RX0 TX0 4, w ∈ wsX0_isDeal := by decide +kernel
set_option maxHeartbeats 4000000 in
set_option maxRecDepth 100000 in
theorem k_X0_isDeal_100 {p : Program} {l : Launch} {e : Env} {s : State} {m : MethodId} {args : Array Value} {below : List Frame} {meth : Method} {c : Code} {A : Nat → Prop} {G : zG} {q : Nat → Nat} {o : Nat} {r_14 : VX0 → Int32 → Int32 → Int32 → Option (Int32 × VX0)} (hZ : zZ p s m args meth c A G cX0_isDeal 7 RX0 wsX0_isDeal (some .boolean)) (y : Int32 × VX0) (h_14 : ∀ (S : VX0) (v2 : Int32) (v3 : Int32) (v4 : Int32) (H : Heap) (locs : List Loc) (ls : Array Slot), r_14 S v2 v3 v4 = some y → zH G A s.heap [bX0 G q o S.2.2.1 S.2.2.2, bX2 G q (o + 3) S.1.1 S.1.2.1 S.1.2.2.1 S.1.2.2.2.1 S.1.2.2.2.2.1 S.1.2.2.2.2.2.1 S.1.2.2.2.2.2.2.1 S.1.2.2.2.2.2.2.2, bX4 G q (o + 9) S.2.1.1 S.2.1.2] H locs → lv_has ls 7 [(0, .ref (q (o + 0))), (2, .int v2), (3, .int v3), (4, .int v4)] → W p l e { frames := 2, cells := 0, slots := 0, locals := 44 } s m args below meth c H locs 0 0 (MQ below (zQ (some (.int y.1)) (zPost G [bX0 G q o y.2.2.2.1 y.2.2.2.2, bX2 G q (o + 3) y.2.1.1 y.2.1.2.1 y.2.1.2.2.1 y.2.1.2.2.2.1 y.2.1.2.2.2.2.1 y.2.1.2.2.2.2.2.1 y.2.1.2.2.2.2.2.2.1 y.2.1.2.2.2.2.2.2.2, bX4 G q (o + 9) y.2.2.1.1 y.2.2.1.2]) A) args s 0 0 A) (F0 m 14 ls [])) : ∀ (S : VX0) (v2 : Int32) (v3 : Int32) (v4 : Int32) (t0 : Int32) (t1 : Int32) (H : Heap) (locs : List Loc) (ls : Array Slot), f_X0_isDeal_100 r_14 S v2 v3 v4 t0 t1 = some y → zH G A s.heap [bX0 G q o S.2.2.1 S.2.2.2, bX2 G q (o + 3) S.1.1 S.1.2.1 S.1.2.2.1 S.1.2.2.2.1 S.1.2.2.2.2.1 S.1.2.2.2.2.2.1 S.1.2.2.2.2.2.2.1 S.1.2.2.2.2.2.2.2, bX4 G q (o + 9) S.2.1.1 S.2.1.2] H locs → lv_has ls 7 [(0, .ref (q (o + 0))), (2, .int v2), (3, .int v3), (4, .int v4)] → W p l e { frames := 2, cells := 0, slots := 0, locals := 44 } s m args below meth c H locs 0 0 (MQ below (zQ (some (.int y.1)) (zPost G [bX0 G q o y.2.2.2.1 y.2.2.2.2, bX2 G q (o + 3) y.2.1.1 y.2.1.2.1 y.2.1.2.2.1 y.2.1.2.2.2.1 y.2.1.2.2.2.2.1 y.2.1.2.2.2.2.2.1 y.2.1.2.2.2.2.2.2.1 y.2.1.2.2.2.2.2.2.2, bX4 G q (o + 9) y.2.2.1.1 y.2.2.1.2]) A) args s 0 0 A) (F0 m 100 ls [.int t0, .int t1, .ref (q ((o + 3) + 0))]) := by
  obtain ⟨hS0, hr, hlk, hK, hA⟩ := id hZ
  have hx := hS0.1
  have hb := hS0.2.1
  have hml := hS0.2.2.1
  have hown : s.vm.findClass RX0 = some m.cls := hS0.2.2.2.1
  have hts := hS0.2.2.2.2
  intro S v2 v3 v4 t0 t1 H locs ls hf hw hl
  unfold f_X0_isDeal_100 at hf
  obtain ⟨r1, e2, hf⟩ := z_bd hf
  refine z_callV0 (As := [.int t1, .int t0]) (rest := []) (bs' := [bX0 G q o S.2.2.1 S.2.2.2, bX2 G q (o + 3) r1.1 r1.2.1 r1.2.2.1 r1.2.2.2.1 r1.2.2.2.2.1 r1.2.2.2.2.2.1 r1.2.2.2.2.2.2.1 r1.2.2.2.2.2.2.2, bX4 G q (o + 9) S.2.1.1 S.2.1.2]) hS0 (c_X2_setKeeper l G q (o + 3) S.1 t1 t0 r1 e2) zc_X2_setKeeper rfl gX0_isDeal_X2_setKeeper ⟨Nat.le_of_ble_eq_true rfl, Nat.le_of_ble_eq_true rfl⟩ hK hA hw (is := [1]) rfl rfl rfl rfl rfl rfl rfl hl.1 rfl (Nat.le_of_ble_eq_true rfl) dX0_isDeal_100 (fun H locs hw => ?_)
  refine lv_iinc (v := (v4 + (-1))) (lv' := [(4, .int (v4 + (-1))), (0, .ref (q (o + 0))), (2, .int v2), (3, .int v3)]) hx hb dX0_isDeal_103 hl (k := 3) rfl rfl (by decide) rfl (fun ls hl => ?_)
  refine lv_goto (tgt := 14) hx hb dX0_isDeal_106 rfl ?_
  exact h_14 _ _ _ _ _ _ _ hf hw (lv_sub hl [1, 2, 3, 0] rfl)
set_option maxHeartbeats 4000000 in
set_option maxRecDepth 100000 in
theorem k_X0_isDeal_65 {p : Program} {l : Launch} {e : Env} {s : State} {m : MethodId} {args : Array Value} {below : List Frame} {meth : Method} {c : Code} {A : Nat → Prop} {G : zG} {q : Nat → Nat} {o : Nat} {r_14 : VX0 → Int32 → Int32 → Int32 → Option (Int32 × VX0)} (hZ : zZ p s m args meth c A G cX0_isDeal 7 RX0 wsX0_isDeal (some .boolean)) (y : Int32 × VX0) (h_14 : ∀ (S : VX0) (v2 : Int32) (v3 : Int32) (v4 : Int32) (H : Heap) (locs : List Loc) (ls : Array Slot), r_14 S v2 v3 v4 = some y → zH G A s.heap [bX0 G q o S.2.2.1 S.2.2.2, bX2 G q (o + 3) S.1.1 S.1.2.1 S.1.2.2.1 S.1.2.2.2.1 S.1.2.2.2.2.1 S.1.2.2.2.2.2.1 S.1.2.2.2.2.2.2.1 S.1.2.2.2.2.2.2.2, bX4 G q (o + 9) S.2.1.1 S.2.1.2] H locs → lv_has ls 7 [(0, .ref (q (o + 0))), (2, .int v2), (3, .int v3), (4, .int v4)] → W p l e { frames := 2, cells := 0, slots := 0, locals := 44 } s m args below meth c H locs 0 0 (MQ below (zQ (some (.int y.1)) (zPost G [bX0 G q o y.2.2.2.1 y.2.2.2.2, bX2 G q (o + 3) y.2.1.1 y.2.1.2.1 y.2.1.2.2.1 y.2.1.2.2.2.1 y.2.1.2.2.2.2.1 y.2.1.2.2.2.2.2.1 y.2.1.2.2.2.2.2.2.1 y.2.1.2.2.2.2.2.2.2, bX4 G q (o + 9) y.2.2.1.1 y.2.2.1.2]) A) args s 0 0 A) (F0 m 14 ls [])) : ∀ (S : VX0) (v2 : Int32) (v3 : Int32) (v4 : Int32) (v5 : Int32) (t0 : Int32) (H : Heap) (locs : List Loc) (ls : Array Slot), f_X0_isDeal_65 r_14 S v2 v3 v4 v5 t0 = some y → zH G A s.heap [bX0 G q o S.2.2.1 S.2.2.2, bX2 G q (o + 3) S.1.1 S.1.2.1 S.1.2.2.1 S.1.2.2.2.1 S.1.2.2.2.2.1 S.1.2.2.2.2.2.1 S.1.2.2.2.2.2.2.1 S.1.2.2.2.2.2.2.2, bX4 G q (o + 9) S.2.1.1 S.2.1.2] H locs → lv_has ls 7 [(0, .ref (q (o + 0))), (2, .int v2), (3, .int v3), (4, .int v4), (5, .int v5)] → W p l e { frames := 2, cells := 0, slots := 0, locals := 44 } s m args below meth c H locs 0 0 (MQ below (zQ (some (.int y.1)) (zPost G [bX0 G q o y.2.2.2.1 y.2.2.2.2, bX2 G q (o + 3) y.2.1.1 y.2.1.2.1 y.2.1.2.2.1 y.2.1.2.2.2.1 y.2.1.2.2.2.2.1 y.2.1.2.2.2.2.2.1 y.2.1.2.2.2.2.2.2.1 y.2.1.2.2.2.2.2.2.2, bX4 G q (o + 9) y.2.2.1.1 y.2.2.1.2]) A) args s 0 0 A) (F0 m 65 ls [.int t0]) := by
  obtain ⟨hS0, hr, hlk, hK, hA⟩ := id hZ
  have hx := hS0.1
  have hb := hS0.2.1
  have hml := hS0.2.2.1
  have hown : s.vm.findClass RX0 = some m.cls := hS0.2.2.2.1
  have hts := hS0.2.2.2.2
  intro S v2 v3 v4 v5 t0 H locs ls hf hw hl
  unfold f_X0_isDeal_65 at hf
  refine lv_istore (lv' := [(6, .int t0), (0, .ref (q (o + 0))), (2, .int v2), (3, .int v3), (4, .int v4), (5, .int v5)]) hx hb dX0_isDeal_65 hl (by decide) rfl (fun ls hl => ?_)
  refine lv_iload hx hb dX0_isDeal_67 (lv_at hl 0 rfl) ?_
  refine lv_if_ne (tgt := 74) hx hb dX0_isDeal_69 rfl (fun hc => ?_) (fun hc => ?_)
  · have hf := z_f hc hf
    refine lv_aload_n hx hb dX0_isDeal_74 rfl (lv_at hl 1 rfl) ?_
    refine z_get hS0 in_X0_isDeal_X0 hK hw 0 0 rfl rfl rfl (by decide) (hts _ m_X0_isDeal_0) (v := .ref (q ((o + 3) + 0))) rfl dX0_isDeal_75 ?_
    refine lv_iload hx hb dX0_isDeal_78 (lv_at hl 4 rfl) ?_
    refine lv_aload_n hx hb dX0_isDeal_80 rfl (lv_at hl 1 rfl) ?_
    refine z_get hS0 in_X0_isDeal_X0 hK hw 0 0 rfl rfl rfl (by decide) (hts _ m_X0_isDeal_0) (v := .ref (q ((o + 3) + 0))) rfl dX0_isDeal_81 ?_
    refine lv_iload hx hb dX0_isDeal_84 (lv_at hl 4 rfl) ?_
    refine lv_iconst (v := 2) hx hb dX0_isDeal_86 rfl ?_
    obtain ⟨r3, e4, hf⟩ := z_bd hf
    refine z_callV1 (As := [.int v4, .int 2]) (rest := [.int v4, .ref (q ((o + 3) + 0))]) (bs' := [bX0 G q o S.2.2.1 S.2.2.2, bX2 G q (o + 3) S.1.1 S.1.2.1 S.1.2.2.1 S.1.2.2.2.1 S.1.2.2.2.2.1 S.1.2.2.2.2.2.1 S.1.2.2.2.2.2.2.1 S.1.2.2.2.2.2.2.2, bX4 G q (o + 9) S.2.1.1 S.2.1.2]) hS0 (c_X2_isOf l G q (o + 3) S.1 v4 2 r3 e4) zc_X2_isOf rfl gX0_isDeal_X2_isOf ⟨Nat.le_of_ble_eq_true rfl, Nat.le_of_ble_eq_true rfl⟩ hK hA hw (is := [1]) rfl rfl rfl rfl rfl rfl rfl hl.1 rfl (Nat.le_of_ble_eq_true rfl) dX0_isDeal_87 (fun H locs hw => ?_)
    refine lv_if_eq (tgt := 98) hx hb dX0_isDeal_90 rfl (fun hc => ?_) (fun hc => ?_)
    · have hf := z_t hc hf
      refine lv_iload hx hb dX0_isDeal_98 (lv_at hl 5 rfl) ?_
      exact k_X0_isDeal_100 hZ _ h_14 _ _ _ _ _ _ _ _ _ hf hw (lv_sub hl [1, 2, 3, 4] rfl)
    · have hf := z_f hc hf
      refine lv_bipush (v := (-9)) hx hb dX0_isDeal_93 rfl ?_
      refine lv_goto (tgt := 100) hx hb dX0_isDeal_95 rfl ?_
      exact k_X0_isDeal_100 hZ _ h_14 _ _ _ _ _ _ _ _ _ hf hw (lv_sub hl [1, 2, 3, 4] rfl)
  · have hf := z_t hc hf
    refine lv_iconst (v := 0) hx hb dX0_isDeal_72 rfl ?_
    cases hf
    exact z_zret hx hb hr rfl hlk hw dX0_isDeal_73
set_option maxHeartbeats 4000000 in
set_option maxRecDepth 100000 in
theorem k_X0_isDeal_14 {p : Program} {l : Launch} {e : Env} {s : State} {m : MethodId} {args : Array Value} {below : List Frame} {meth : Method} {c : Code} {A : Nat → Prop} {G : zG} {q : Nat → Nat} {o : Nat}  (hZ : zZ p s m args meth c A G cX0_isDeal 7 RX0 wsX0_isDeal (some .boolean)) (y : Int32 × VX0)  (n : Nat) : ∀ (S : VX0) (v2 : Int32) (v3 : Int32) (v4 : Int32) (H : Heap) (locs : List Loc) (ls : Array Slot), f_X0_isDeal_14 n S v2 v3 v4 = some y → zH G A s.heap [bX0 G q o S.2.2.1 S.2.2.2, bX2 G q (o + 3) S.1.1 S.1.2.1 S.1.2.2.1 S.1.2.2.2.1 S.1.2.2.2.2.1 S.1.2.2.2.2.2.1 S.1.2.2.2.2.2.2.1 S.1.2.2.2.2.2.2.2, bX4 G q (o + 9) S.2.1.1 S.2.1.2] H locs → lv_has ls 7 [(0, .ref (q (o + 0))), (2, .int v2), (3, .int v3), (4, .int v4)] → W p l e { frames := 2, cells := 0, slots := 0, locals := 44 } s m args below meth c H locs 0 0 (MQ below (zQ (some (.int y.1)) (zPost G [bX0 G q o y.2.2.2.1 y.2.2.2.2, bX2 G q (o + 3) y.2.1.1 y.2.1.2.1 y.2.1.2.2.1 y.2.1.2.2.2.1 y.2.1.2.2.2.2.1 y.2.1.2.2.2.2.2.1 y.2.1.2.2.2.2.2.2.1 y.2.1.2.2.2.2.2.2.2, bX4 G q (o + 9) y.2.2.1.1 y.2.2.1.2]) A) args s 0 0 A) (F0 m 14 ls []) := by
  obtain ⟨hS0, hr, hlk, hK, hA⟩ := id hZ
  have hx := hS0.1
  have hb := hS0.2.1
  have hml := hS0.2.2.1
  have hown : s.vm.findClass RX0 = some m.cls := hS0.2.2.2.1
  have hts := hS0.2.2.2.2
  induction n with
  | zero =>
    intro S v2 v3 v4 H locs ls hf hw hl
    unfold f_X0_isDeal_14 at hf
    cases hf
  | succ n ih =>
    intro S v2 v3 v4 H locs ls hf hw hl
    unfold f_X0_isDeal_14 at hf
    refine lv_iload hx hb dX0_isDeal_14 (lv_at hl 3 rfl) ?_
    refine lv_if_lt (tgt := 109) hx hb dX0_isDeal_16 rfl (fun hc => ?_) (fun hc => ?_)
    · have hf := z_t hc hf
      refine lv_iconst (v := 1) hx hb dX0_isDeal_109 rfl ?_
      cases hf
      exact z_zret hx hb hr rfl hlk hw dX0_isDeal_110
    · have hf := z_f hc hf
      refine lv_iload_n hx hb dX0_isDeal_19 rfl (lv_at hl 2 rfl) ?_
      refine lv_iload_n hx hb dX0_isDeal_20 rfl (lv_at hl 1 rfl) ?_
      obtain ⟨g5, hf⟩ := z_gn hf
      refine lv_irem hx hb dX0_isDeal_21 g5 ?_
      refine lv_istore (lv' := [(5, .int (v3 - v3 / v2 * v2)), (0, .ref (q (o + 0))), (2, .int v2), (3, .int v3), (4, .int v4)]) hx hb dX0_isDeal_22 hl (by decide) rfl (fun ls hl => ?_)
      refine lv_iload_n hx hb dX0_isDeal_24 rfl (lv_at hl 3 rfl) ?_
      refine lv_iload_n hx hb dX0_isDeal_25 rfl (lv_at hl 2 rfl) ?_
      obtain ⟨g6, hf⟩ := z_gn hf
      refine lv_idiv hx hb dX0_isDeal_26 g6 ?_
      refine lv_istore_n (lv' := [(3, .int (v3 / v2)), (5, .int (v3 - v3 / v2 * v2)), (0, .ref (q (o + 0))), (2, .int v2), (4, .int v4)]) hx hb dX0_isDeal_27 rfl hl (by decide) rfl (fun ls hl => ?_)
      refine lv_aload_n hx hb dX0_isDeal_28 rfl (lv_at hl 2 rfl) ?_
      refine z_get hS0 in_X0_isDeal_X0 hK hw 0 0 rfl rfl rfl (by decide) (hts _ m_X0_isDeal_0) (v := .ref (q ((o + 3) + 0))) rfl dX0_isDeal_29 ?_
      refine lv_iload hx hb dX0_isDeal_32 (lv_at hl 4 rfl) ?_
      refine lv_iconst (v := 2) hx hb dX0_isDeal_34 rfl ?_
      obtain ⟨r7, e8, hf⟩ := z_bd hf
      refine z_callV1 (As := [.int v4, .int 2]) (rest := []) (bs' := [bX0 G q o S.2.2.1 S.2.2.2, bX2 G q (o + 3) S.1.1 S.1.2.1 S.1.2.2.1 S.1.2.2.2.1 S.1.2.2.2.2.1 S.1.2.2.2.2.2.1 S.1.2.2.2.2.2.2.1 S.1.2.2.2.2.2.2.2, bX4 G q (o + 9) S.2.1.1 S.2.1.2]) hS0 (c_X2_isOf l G q (o + 3) S.1 v4 2 r7 e8) zc_X2_isOf rfl gX0_isDeal_X2_isOf ⟨Nat.le_of_ble_eq_true rfl, Nat.le_of_ble_eq_true rfl⟩ hK hA hw (is := [1]) rfl rfl rfl rfl rfl rfl rfl hl.1 rfl (Nat.le_of_ble_eq_true rfl) dX0_isDeal_35 (fun H locs hw => ?_)
      refine lv_if_eq (tgt := 54) hx hb dX0_isDeal_38 rfl (fun hc => ?_) (fun hc => ?_)
      · have hf := z_t hc hf
        refine lv_aload_n hx hb dX0_isDeal_54 rfl (lv_at hl 2 rfl) ?_
        refine z_get hS0 in_X0_isDeal_X0 hK hw 0 0 rfl rfl rfl (by decide) (hts _ m_X0_isDeal_0) (v := .ref (q ((o + 3) + 0))) rfl dX0_isDeal_55 ?_
        refine lv_iload hx hb dX0_isDeal_58 (lv_at hl 4 rfl) ?_
        refine lv_iload hx hb dX0_isDeal_60 (lv_at hl 1 rfl) ?_
        obtain ⟨r9, e10, hf⟩ := z_bd hf
        refine z_callV1 (As := [.int v4, .int (v3 - v3 / v2 * v2)]) (rest := []) (bs' := [bX0 G q o S.2.2.1 S.2.2.2, bX2 G q (o + 3) S.1.1 S.1.2.1 S.1.2.2.1 S.1.2.2.2.1 S.1.2.2.2.2.1 S.1.2.2.2.2.2.1 S.1.2.2.2.2.2.2.1 S.1.2.2.2.2.2.2.2, bX4 G q (o + 9) S.2.1.1 S.2.1.2]) hS0 (c_X2_mayKeep l G q (o + 3) S.1 v4 (v3 - v3 / v2 * v2) r9 e10) zc_X2_mayKeep rfl gX0_isDeal_X2_mayKeep ⟨Nat.le_of_ble_eq_true rfl, Nat.le_of_ble_eq_true rfl⟩ hK hA hw (is := [1]) rfl rfl rfl rfl rfl rfl rfl hl.1 rfl (Nat.le_of_ble_eq_true rfl) dX0_isDeal_62 (fun H locs hw => ?_)
        exact k_X0_isDeal_65 hZ _ ih _ _ _ _ _ _ _ _ _ hf hw (lv_sub hl [2, 3, 0, 4, 1] rfl)
      · have hf := z_f hc hf
        refine lv_iload hx hb dX0_isDeal_41 (lv_at hl 1 rfl) ?_
        refine lv_if_ne (tgt := 50) hx hb dX0_isDeal_43 rfl (fun hc => ?_) (fun hc => ?_)
        · have hf := z_f hc hf
          refine lv_iconst (v := 0) hx hb dX0_isDeal_50 rfl ?_
          refine lv_goto (tgt := 65) hx hb dX0_isDeal_51 rfl ?_
          exact k_X0_isDeal_65 hZ _ ih _ _ _ _ _ _ _ _ _ hf hw (lv_sub hl [2, 3, 0, 4, 1] rfl)
        · have hf := z_t hc hf
          refine lv_iconst (v := 1) hx hb dX0_isDeal_46 rfl ?_
          refine lv_goto (tgt := 65) hx hb dX0_isDeal_47 rfl ?_
          exact k_X0_isDeal_65 hZ _ ih _ _ _ _ _ _ _ _ _ hf hw (lv_sub hl [2, 3, 0, 4, 1] rfl)
set_option maxHeartbeats 4000000 in
set_option maxRecDepth 100000 in
theorem c_X0_isDeal (l : Launch) (G : zG) (q : Nat → Nat) (o : Nat) (S : VX0) (v1 : Int32) (v2 : Int32) (y : Int32 × VX0) (hf : f_X0_isDeal S v1 v2 = some y) : zMet l yX0_isDeal wsX0_isDeal 2 44 G [.ref (q (o + 0)), .int v1, .int v2] [bX0 G q o S.2.2.1 S.2.2.2, bX2 G q (o + 3) S.1.1 S.1.2.1 S.1.2.2.1 S.1.2.2.2.1 S.1.2.2.2.2.1 S.1.2.2.2.2.2.1 S.1.2.2.2.2.2.2.1 S.1.2.2.2.2.2.2.2, bX4 G q (o + 9) S.2.1.1 S.2.1.2] (some (.int y.1)) [bX0 G q o y.2.2.2.1 y.2.2.2.2, bX2 G q (o + 3) y.2.1.1 y.2.1.2.1 y.2.1.2.2.1 y.2.1.2.2.2.1 y.2.1.2.2.2.2.1 y.2.1.2.2.2.2.2.1 y.2.1.2.2.2.2.2.2.1 y.2.1.2.2.2.2.2.2.2, bX4 G q (o + 9) y.2.2.1.1 y.2.2.1.2] := by
  refine z_met zc_X0_isDeal (Nat.le_of_ble_eq_true rfl) ?_
  intro p e s m below meth c A ls hZ hl hw
  have hl : lv_has ls 7 [(0, .ref (q (o + 0))), (1, .int v1), (2, .int v2)] := hl
  obtain ⟨hS0, hr, hlk, hK, hA⟩ := id hZ
  have hx := hS0.1
  have hb := hS0.2.1
  have hml := hS0.2.2.1
  have hown : s.vm.findClass RX0 = some m.cls := hS0.2.2.2.1
  have hts := hS0.2.2.2.2
  unfold f_X0_isDeal at hf
  refine lv_iload_n hx hb dX0_isDeal_0 rfl (lv_at hl 2 rfl) ?_
  refine lv_iconst (v := 1) hx hb dX0_isDeal_1 rfl ?_
  refine lv_icmp_ge (tgt := 7) hx hb dX0_isDeal_2 rfl (fun hc => ?_) (fun hc => ?_)
  · have hf := z_t hc hf
    refine lv_iload_n hx hb dX0_isDeal_7 rfl (lv_at hl 1 rfl) ?_
    refine lv_istore_n (lv' := [(3, .int v1), (0, .ref (q (o + 0))), (1, .int v1), (2, .int v2)]) hx hb dX0_isDeal_8 rfl hl (by decide) rfl (fun ls hl => ?_)
    refine lv_iload_n hx hb dX0_isDeal_9 rfl (lv_at hl 3 rfl) ?_
    refine lv_iconst (v := 1) hx hb dX0_isDeal_10 rfl ?_
    refine lv_isub hx hb dX0_isDeal_11 ?_
    refine lv_istore (lv' := [(4, .int (v2 - (1 : Int32))), (3, .int v1), (0, .ref (q (o + 0))), (1, .int v1), (2, .int v2)]) hx hb dX0_isDeal_12 hl (by decide) rfl (fun ls hl => ?_)
    exact k_X0_isDeal_14 hZ _ 4096 _ _ _ _ _ _ _ hf hw (lv_sub hl [2, 4, 1, 0] rfl)
  · have hf := z_f hc hf
    refine lv_iconst (v := 0) hx hb dX0_isDeal_5 rfl ?_
    cases hf
    exact z_zret hx hb hr rfl hlk hw dX0_isDeal_6
theorem zc_X0_freesNoneOf : zC yX0_freesNoneOf wsX0_freesNoneOf cX0_freesNoneOf 3 (some .boolean) 1 := ⟨⟨_, rfl⟩, by decide +kernel, by decide +kernel, by decide +kernel, by decide +kernel⟩
theorem m_X0_freesNoneOf_0 : (.fieldLink RX0 12 "CellKeys$Dealer" "trial" "LCellKeys$Jail;" : Cond) ∈ wsX0_freesNoneOf := by decide +kernel
theorem in_X0_freesNoneOf_X0 : ∀ w ∈ u_ws RX0 TX0 4, w ∈ wsX0_freesNoneOf := by decide +kernel
theorem m_X0_freesNoneOf_1 : (.fieldLink RX0 21 "CellKeys$Dealer" "reach" "LCellKeys$Reach;" : Cond) ∈ wsX0_freesNoneOf := by decide +kernel
set_option maxHeartbeats 4000000 in
set_option maxRecDepth 100000 in
theorem k_X0_freesNoneOf_2 {p : Program} {l : Launch} {e : Env} {s : State} {m : MethodId} {args : Array Value} {below : List Frame} {meth : Method} {c : Code} {A : Nat → Prop} {G : zG} {q : Nat → Nat} {o : Nat}  (hZ : zZ p s m args meth c A G cX0_freesNoneOf 3 RX0 wsX0_freesNoneOf (some .boolean)) (y : Int32 × VX0)  (n : Nat) : ∀ (S : VX0) (v1 : Int32) (v2 : Int32) (H : Heap) (locs : List Loc) (ls : Array Slot), f_X0_freesNoneOf_2 n S v1 v2 = some y → zH G A s.heap [bX0 G q o S.2.2.1 S.2.2.2, bX2 G q (o + 3) S.1.1 S.1.2.1 S.1.2.2.1 S.1.2.2.2.1 S.1.2.2.2.2.1 S.1.2.2.2.2.2.1 S.1.2.2.2.2.2.2.1 S.1.2.2.2.2.2.2.2, bX4 G q (o + 9) S.2.1.1 S.2.1.2] H locs → lv_has ls 3 [(0, .ref (q (o + 0))), (1, .int v1), (2, .int v2)] → W p l e { frames := 4, cells := 0, slots := 0, locals := 107 } s m args below meth c H locs 0 0 (MQ below (zQ (some (.int y.1)) (zPost G [bX0 G q o y.2.2.2.1 y.2.2.2.2, bX2 G q (o + 3) y.2.1.1 y.2.1.2.1 y.2.1.2.2.1 y.2.1.2.2.2.1 y.2.1.2.2.2.2.1 y.2.1.2.2.2.2.2.1 y.2.1.2.2.2.2.2.2.1 y.2.1.2.2.2.2.2.2.2, bX4 G q (o + 9) y.2.2.1.1 y.2.2.1.2]) A) args s 0 0 A) (F0 m 2 ls []) := by
  obtain ⟨hS0, hr, hlk, hK, hA⟩ := id hZ
  have hx := hS0.1
  have hb := hS0.2.1
  have hml := hS0.2.2.1
  have hown : s.vm.findClass RX0 = some m.cls := hS0.2.2.2.1
  have hts := hS0.2.2.2.2
  induction n with
  | zero =>
    intro S v1 v2 H locs ls hf hw hl
    unfold f_X0_freesNoneOf_2 at hf
    cases hf
  | succ n ih =>
    intro S v1 v2 H locs ls hf hw hl
    unfold f_X0_freesNoneOf_2 at hf
    refine lv_iload_n hx hb dX0_freesNoneOf_2 rfl (lv_at hl 2 rfl) ?_
    refine lv_aload_n hx hb dX0_freesNoneOf_3 rfl (lv_at hl 0 rfl) ?_
    refine z_get hS0 in_X0_freesNoneOf_X0 hK hw 0 0 rfl rfl rfl (by decide) (hts _ m_X0_freesNoneOf_0) (v := .ref (q ((o + 3) + 0))) rfl dX0_freesNoneOf_4 ?_
    obtain ⟨r1, e2, hf⟩ := z_bd hf
    refine z_callV1 (As := []) (rest := [.int v2]) (bs' := [bX0 G q o S.2.2.1 S.2.2.2, bX2 G q (o + 3) S.1.1 S.1.2.1 S.1.2.2.1 S.1.2.2.2.1 S.1.2.2.2.2.1 S.1.2.2.2.2.2.1 S.1.2.2.2.2.2.2.1 S.1.2.2.2.2.2.2.2, bX4 G q (o + 9) S.2.1.1 S.2.1.2]) hS0 (c_X2_everyone l G q (o + 3) S.1 r1 e2) zc_X2_everyone rfl gX0_freesNoneOf_X2_everyone ⟨Nat.le_of_ble_eq_true rfl, Nat.le_of_ble_eq_true rfl⟩ hK hA hw (is := [1]) rfl rfl rfl rfl rfl rfl rfl hl.1 rfl (Nat.le_of_ble_eq_true rfl) dX0_freesNoneOf_7 (fun H locs hw => ?_)
    refine lv_icmp_gt (tgt := 55) hx hb dX0_freesNoneOf_10 rfl (fun hc => ?_) (fun hc => ?_)
    · have hf := z_t hc hf
      refine lv_iconst (v := 1) hx hb dX0_freesNoneOf_55 rfl ?_
      cases hf
      exact z_zret hx hb hr rfl hlk hw dX0_freesNoneOf_56
    · have hf := z_f hc hf
      refine lv_iload_n hx hb dX0_freesNoneOf_13 rfl (lv_at hl 2 rfl) ?_
      obtain ⟨r3, e4, hf⟩ := z_bd hf
      refine z_callS1 (As := [.int v2]) (rest := []) (bs' := [bX0 G q o S.2.2.1 S.2.2.2, bX2 G q (o + 3) S.1.1 S.1.2.1 S.1.2.2.1 S.1.2.2.2.1 S.1.2.2.2.2.1 S.1.2.2.2.2.2.1 S.1.2.2.2.2.2.2.1 S.1.2.2.2.2.2.2.2, bX4 G q (o + 9) S.2.1.1 S.2.1.2]) hS0 (c_J6_bitCount_0f7a4 l G v2 r3 e4) zc_J6_bitCount_0f7a4 gX0_freesNoneOf_J6_bitCount_0f7a4 ⟨Nat.le_of_ble_eq_true rfl, Nat.le_of_ble_eq_true rfl⟩ hK hA hw (is := []) rfl rfl rfl rfl rfl hl.1 rfl (Nat.le_of_ble_eq_true rfl) dX0_freesNoneOf_14 (fun H locs hw => ?_)
      refine lv_iload_n hx hb dX0_freesNoneOf_17 rfl (lv_at hl 1 rfl) ?_
      refine lv_icmp_eq (tgt := 24) hx hb dX0_freesNoneOf_18 rfl (fun hc => ?_) (fun hc => ?_)
      · have hf := z_t hc hf
        refine lv_aload_n hx hb dX0_freesNoneOf_24 rfl (lv_at hl 0 rfl) ?_
        refine z_get hS0 in_X0_freesNoneOf_X0 hK hw 0 1 rfl rfl rfl (by decide) (hts _ m_X0_freesNoneOf_1) (v := .ref (q ((o + 9) + 0))) rfl dX0_freesNoneOf_25 ?_
        refine lv_aload_n hx hb dX0_freesNoneOf_28 rfl (lv_at hl 0 rfl) ?_
        refine z_get hS0 in_X0_freesNoneOf_X0 hK hw 0 0 rfl rfl rfl (by decide) (hts _ m_X0_freesNoneOf_0) (v := .ref (q ((o + 3) + 0))) rfl dX0_freesNoneOf_29 ?_
        refine lv_iload_n hx hb dX0_freesNoneOf_32 rfl (lv_at hl 2 rfl) ?_
        obtain ⟨r5, e6, hf⟩ := z_bd hf
        refine z_callV0 (As := [.ref (q ((o + 3) + 0)), .int v2]) (rest := []) (bs' := [bX0 G q o S.2.2.1 S.2.2.2, bX2 G q (o + 3) S.1.1 S.1.2.1 S.1.2.2.1 S.1.2.2.2.1 S.1.2.2.2.2.1 S.1.2.2.2.2.2.1 S.1.2.2.2.2.2.2.1 S.1.2.2.2.2.2.2.2, bX4 G q (o + 9) r5.1 r5.2]) hS0 (c_X4_fill l G q (o + 9) q (o + 3) S.2.1 S.1 v2 r5 e6) zc_X4_fill rfl gX0_freesNoneOf_X4_fill ⟨Nat.le_of_ble_eq_true rfl, Nat.le_of_ble_eq_true rfl⟩ hK hA hw (is := [2, 1]) rfl rfl rfl rfl rfl rfl rfl hl.1 rfl (Nat.le_of_ble_eq_true rfl) dX0_freesNoneOf_33 (fun H locs hw => ?_)
        refine lv_aload_n hx hb dX0_freesNoneOf_36 rfl (lv_at hl 0 rfl) ?_
        refine z_get hS0 in_X0_freesNoneOf_X0 hK hw 0 1 rfl rfl rfl (by decide) (hts _ m_X0_freesNoneOf_1) (v := .ref (q ((o + 9) + 0))) rfl dX0_freesNoneOf_37 ?_
        refine lv_iload_n hx hb dX0_freesNoneOf_40 rfl (lv_at hl 2 rfl) ?_
        obtain ⟨r7, e8, hf⟩ := z_bd hf
        refine z_callV1 (As := [.int v2]) (rest := []) (bs' := [bX0 G q o S.2.2.1 S.2.2.2, bX2 G q (o + 3) S.1.1 S.1.2.1 S.1.2.2.1 S.1.2.2.2.1 S.1.2.2.2.2.1 S.1.2.2.2.2.2.1 S.1.2.2.2.2.2.2.1 S.1.2.2.2.2.2.2.2, bX4 G q (o + 9) r5.1 r5.2]) hS0 (c_X4_has l G q (o + 9) r5 v2 r7 e8) zc_X4_has rfl gX0_freesNoneOf_X4_has ⟨Nat.le_of_ble_eq_true rfl, Nat.le_of_ble_eq_true rfl⟩ hK hA hw (is := [2]) rfl rfl rfl rfl rfl rfl rfl hl.1 rfl (Nat.le_of_ble_eq_true rfl) dX0_freesNoneOf_41 (fun H locs hw => ?_)
        refine lv_if_eq (tgt := 49) hx hb dX0_freesNoneOf_44 rfl (fun hc => ?_) (fun hc => ?_)
        · have hf := z_t hc hf
          refine lv_iinc (v := (v2 + 1)) (lv' := [(2, .int (v2 + 1)), (0, .ref (q (o + 0))), (1, .int v1)]) hx hb dX0_freesNoneOf_49 hl (k := 2) rfl rfl (by decide) rfl (fun ls hl => ?_)
          refine lv_goto (tgt := 2) hx hb dX0_freesNoneOf_52 rfl ?_
          exact ih _ _ _ _ _ _ hf hw (lv_sub hl [1, 2, 0] rfl)
        · have hf := z_f hc hf
          refine lv_iconst (v := 0) hx hb dX0_freesNoneOf_47 rfl ?_
          cases hf
          exact z_zret hx hb hr rfl hlk hw dX0_freesNoneOf_48
      · have hf := z_f hc hf
        refine lv_goto (tgt := 49) hx hb dX0_freesNoneOf_21 rfl ?_
        refine lv_iinc (v := (v2 + 1)) (lv' := [(2, .int (v2 + 1)), (0, .ref (q (o + 0))), (1, .int v1)]) hx hb dX0_freesNoneOf_49 hl (k := 2) rfl rfl (by decide) rfl (fun ls hl => ?_)
        refine lv_goto (tgt := 2) hx hb dX0_freesNoneOf_52 rfl ?_
        exact ih _ _ _ _ _ _ hf hw (lv_sub hl [1, 2, 0] rfl)
set_option maxHeartbeats 4000000 in
set_option maxRecDepth 100000 in
theorem c_X0_freesNoneOf (l : Launch) (G : zG) (q : Nat → Nat) (o : Nat) (S : VX0) (v1 : Int32) (y : Int32 × VX0) (hf : f_X0_freesNoneOf S v1 = some y) : zMet l yX0_freesNoneOf wsX0_freesNoneOf 4 107 G [.ref (q (o + 0)), .int v1] [bX0 G q o S.2.2.1 S.2.2.2, bX2 G q (o + 3) S.1.1 S.1.2.1 S.1.2.2.1 S.1.2.2.2.1 S.1.2.2.2.2.1 S.1.2.2.2.2.2.1 S.1.2.2.2.2.2.2.1 S.1.2.2.2.2.2.2.2, bX4 G q (o + 9) S.2.1.1 S.2.1.2] (some (.int y.1)) [bX0 G q o y.2.2.2.1 y.2.2.2.2, bX2 G q (o + 3) y.2.1.1 y.2.1.2.1 y.2.1.2.2.1 y.2.1.2.2.2.1 y.2.1.2.2.2.2.1 y.2.1.2.2.2.2.2.1 y.2.1.2.2.2.2.2.2.1 y.2.1.2.2.2.2.2.2.2, bX4 G q (o + 9) y.2.2.1.1 y.2.2.1.2] := by
  refine z_met zc_X0_freesNoneOf (Nat.le_of_ble_eq_true rfl) ?_
  intro p e s m below meth c A ls hZ hl hw
  have hl : lv_has ls 3 [(0, .ref (q (o + 0))), (1, .int v1)] := hl
  obtain ⟨hS0, hr, hlk, hK, hA⟩ := id hZ
  have hx := hS0.1
  have hb := hS0.2.1
  have hml := hS0.2.2.1
  have hown : s.vm.findClass RX0 = some m.cls := hS0.2.2.2.1
  have hts := hS0.2.2.2.2
  unfold f_X0_freesNoneOf at hf
  refine lv_iconst (v := 1) hx hb dX0_freesNoneOf_0 rfl ?_
  refine lv_istore_n (lv' := [(2, .int 1), (0, .ref (q (o + 0))), (1, .int v1)]) hx hb dX0_freesNoneOf_1 rfl hl (by decide) rfl (fun ls hl => ?_)
  exact k_X0_freesNoneOf_2 hZ _ 4096 _ _ _ _ _ _ hf hw (lv_sub hl [1, 2, 0] rfl)
theorem zc_X0_rememberDeal : zC yX0_rememberDeal wsX0_rememberDeal cX0_rememberDeal 2 none 0 := ⟨⟨_, rfl⟩, by decide +kernel, by decide +kernel, by decide +kernel, by decide +kernel⟩
theorem m_X0_rememberDeal_0 : (.fieldLink RX0 25 "CellKeys$Dealer" "firstDeal" "[I" : Cond) ∈ wsX0_rememberDeal := by decide +kernel
theorem in_X0_rememberDeal_X0 : ∀ w ∈ u_ws RX0 TX0 4, w ∈ wsX0_rememberDeal := by decide +kernel
theorem m_X0_rememberDeal_1 : (.fieldLink RX0 12 "CellKeys$Dealer" "trial" "LCellKeys$Jail;" : Cond) ∈ wsX0_rememberDeal := by decide +kernel
set_option maxHeartbeats 4000000 in
set_option maxRecDepth 100000 in
theorem k_X0_rememberDeal_2 {p : Program} {l : Launch} {e : Env} {s : State} {m : MethodId} {args : Array Value} {below : List Frame} {meth : Method} {c : Code} {A : Nat → Prop} {G : zG} {q : Nat → Nat} {o : Nat}  (hZ : zZ p s m args meth c A G cX0_rememberDeal 2 RX0 wsX0_rememberDeal none) (y : VX0)  (n : Nat) : ∀ (S : VX0) (v1 : Int32) (H : Heap) (locs : List Loc) (ls : Array Slot), f_X0_rememberDeal_2 n S v1 = some y → zH G A s.heap [bX0 G q o S.2.2.1 S.2.2.2, bX2 G q (o + 3) S.1.1 S.1.2.1 S.1.2.2.1 S.1.2.2.2.1 S.1.2.2.2.2.1 S.1.2.2.2.2.2.1 S.1.2.2.2.2.2.2.1 S.1.2.2.2.2.2.2.2, bX4 G q (o + 9) S.2.1.1 S.2.1.2] H locs → lv_has ls 2 [(0, .ref (q (o + 0))), (1, .int v1)] → W p l e { frames := 2, cells := 0, slots := 0, locals := 42 } s m args below meth c H locs 0 0 (MQ below (zQ none (zPost G [bX0 G q o y.2.2.1 y.2.2.2, bX2 G q (o + 3) y.1.1 y.1.2.1 y.1.2.2.1 y.1.2.2.2.1 y.1.2.2.2.2.1 y.1.2.2.2.2.2.1 y.1.2.2.2.2.2.2.1 y.1.2.2.2.2.2.2.2, bX4 G q (o + 9) y.2.1.1 y.2.1.2]) A) args s 0 0 A) (F0 m 2 ls []) := by
  obtain ⟨hS0, hr, hlk, hK, hA⟩ := id hZ
  have hx := hS0.1
  have hb := hS0.2.1
  have hml := hS0.2.2.1
  have hown : s.vm.findClass RX0 = some m.cls := hS0.2.2.2.1
  have hts := hS0.2.2.2.2
  induction n with
  | zero =>
    intro S v1 H locs ls hf hw hl
    unfold f_X0_rememberDeal_2 at hf
    cases hf
  | succ n ih =>
    intro S v1 H locs ls hf hw hl
    unfold f_X0_rememberDeal_2 at hf
    refine lv_iload_n hx hb dX0_rememberDeal_2 rfl (lv_at hl 1 rfl) ?_
    refine lv_iconst (v := 5) hx hb dX0_rememberDeal_3 rfl ?_
    refine lv_icmp_ge (tgt := 27) hx hb dX0_rememberDeal_4 rfl (fun hc => ?_) (fun hc => ?_)
    · have hf := z_t hc hf
      cases hf
      exact z_vret hx hb hr hlk hw dX0_rememberDeal_27
    · have hf := z_f hc hf
      refine lv_aload_n hx hb dX0_rememberDeal_7 rfl (lv_at hl 0 rfl) ?_
      refine z_get hS0 in_X0_rememberDeal_X0 hK hw 0 2 rfl rfl rfl (by decide) (hts _ m_X0_rememberDeal_0) (v := .ref (q (o + 1))) rfl dX0_rememberDeal_8 ?_
      refine lv_iload_n hx hb dX0_rememberDeal_11 rfl (lv_at hl 1 rfl) ?_
      refine lv_aload_n hx hb dX0_rememberDeal_12 rfl (lv_at hl 0 rfl) ?_
      refine z_get hS0 in_X0_rememberDeal_X0 hK hw 0 0 rfl rfl rfl (by decide) (hts _ m_X0_rememberDeal_1) (v := .ref (q ((o + 3) + 0))) rfl dX0_rememberDeal_13 ?_
      refine lv_iload_n hx hb dX0_rememberDeal_16 rfl (lv_at hl 1 rfl) ?_
      obtain ⟨r1, e2, hf⟩ := z_bd hf
      refine z_callV1 (As := [.int v1]) (rest := [.int v1, .ref (q (o + 1))]) (bs' := [bX0 G q o S.2.2.1 S.2.2.2, bX2 G q (o + 3) S.1.1 S.1.2.1 S.1.2.2.1 S.1.2.2.2.1 S.1.2.2.2.2.1 S.1.2.2.2.2.2.1 S.1.2.2.2.2.2.2.1 S.1.2.2.2.2.2.2.2, bX4 G q (o + 9) S.2.1.1 S.2.1.2]) hS0 (c_X2_keeperOf l G q (o + 3) S.1 v1 r1 e2) zc_X2_keeperOf rfl gX0_rememberDeal_X2_keeperOf ⟨Nat.le_of_ble_eq_true rfl, Nat.le_of_ble_eq_true rfl⟩ hK hA hw (is := [1]) rfl rfl rfl rfl rfl rfl rfl hl.1 rfl (Nat.le_of_ble_eq_true rfl) dX0_rememberDeal_17 (fun H locs hw => ?_)
      obtain ⟨g3, hf⟩ := z_gd hf
      refine z_iast (blk' := bX0 G q o (upd S.2.2.1 v1.toNatClampNeg r1) S.2.2.2) (bs' := [bX0 G q o (upd S.2.2.1 v1.toNatClampNeg r1) S.2.2.2, bX2 G q (o + 3) S.1.1 S.1.2.1 S.1.2.2.1 S.1.2.2.2.1 S.1.2.2.2.2.1 S.1.2.2.2.2.2.1 S.1.2.2.2.2.2.2.1 S.1.2.2.2.2.2.2.2, bX4 G q (o + 9) S.2.1.1 S.2.1.2]) hS0 hK hw 0 1 (zIn_vp g3) rfl rfl dX0_rememberDeal_20 rfl rfl (fun H locs hw => ?_)
      refine lv_iinc (v := (v1 + 1)) (lv' := [(1, .int (v1 + 1)), (0, .ref (q (o + 0)))]) hx hb dX0_rememberDeal_21 hl (k := 1) rfl rfl (by decide) rfl (fun ls hl => ?_)
      refine lv_goto (tgt := 2) hx hb dX0_rememberDeal_24 rfl ?_
      exact ih _ _ _ _ _ hf hw (lv_sub hl [1, 0] rfl)
set_option maxHeartbeats 4000000 in
set_option maxRecDepth 100000 in
theorem c_X0_rememberDeal (l : Launch) (G : zG) (q : Nat → Nat) (o : Nat) (S : VX0)  (y : VX0) (hf : f_X0_rememberDeal S = some y) : zMet l yX0_rememberDeal wsX0_rememberDeal 2 42 G [.ref (q (o + 0))] [bX0 G q o S.2.2.1 S.2.2.2, bX2 G q (o + 3) S.1.1 S.1.2.1 S.1.2.2.1 S.1.2.2.2.1 S.1.2.2.2.2.1 S.1.2.2.2.2.2.1 S.1.2.2.2.2.2.2.1 S.1.2.2.2.2.2.2.2, bX4 G q (o + 9) S.2.1.1 S.2.1.2] none [bX0 G q o y.2.2.1 y.2.2.2, bX2 G q (o + 3) y.1.1 y.1.2.1 y.1.2.2.1 y.1.2.2.2.1 y.1.2.2.2.2.1 y.1.2.2.2.2.2.1 y.1.2.2.2.2.2.2.1 y.1.2.2.2.2.2.2.2, bX4 G q (o + 9) y.2.1.1 y.2.1.2] := by
  refine z_met zc_X0_rememberDeal (Nat.le_of_ble_eq_true rfl) ?_
  intro p e s m below meth c A ls hZ hl hw
  have hl : lv_has ls 2 [(0, .ref (q (o + 0)))] := hl
  obtain ⟨hS0, hr, hlk, hK, hA⟩ := id hZ
  have hx := hS0.1
  have hb := hS0.2.1
  have hml := hS0.2.2.1
  have hown : s.vm.findClass RX0 = some m.cls := hS0.2.2.2.1
  have hts := hS0.2.2.2.2
  unfold f_X0_rememberDeal at hf
  refine lv_iconst (v := 0) hx hb dX0_rememberDeal_0 rfl ?_
  refine lv_istore_n (lv' := [(1, .int 0), (0, .ref (q (o + 0)))]) hx hb dX0_rememberDeal_1 rfl hl (by decide) rfl (fun ls hl => ?_)
  exact k_X0_rememberDeal_2 hZ _ 4096 _ _ _ _ _ hf hw (lv_sub hl [1, 0] rfl)
theorem zc_X0_dealAll : zC yX0_dealAll wsX0_dealAll cX0_dealAll 7 (some .int) 2 := ⟨⟨_, rfl⟩, by decide +kernel, by decide +kernel, by decide +kernel, by decide +kernel⟩
theorem m_X0_dealAll_0 : (.fieldLink RX0 12 "CellKeys$Dealer" "trial" "LCellKeys$Jail;" : Cond) ∈ wsX0_dealAll := by decide +kernel
theorem in_X0_dealAll_X0 : ∀ w ∈ u_ws RX0 TX0 4, w ∈ wsX0_dealAll := by decide +kernel
set_option maxHeartbeats 4000000 in
set_option maxRecDepth 100000 in
theorem k_X0_dealAll_50 {p : Program} {l : Launch} {e : Env} {s : State} {m : MethodId} {args : Array Value} {below : List Frame} {meth : Method} {c : Code} {A : Nat → Prop} {G : zG} {q : Nat → Nat} {o : Nat} {q1 : Nat → Nat} {o1 : Nat}  (hZ : zZ p s m args meth c A G cX0_dealAll 7 RX0 wsX0_dealAll (some .int)) (y : Int32 × VX0)  (n : Nat) : ∀ (S : VX0) (P1 : VX2) (v2 : Int32) (v3 : Int32) (v4 : Int32) (v5 : Int32) (v6 : Int32) (H : Heap) (locs : List Loc) (ls : Array Slot), f_X0_dealAll_50 n S P1 v2 v3 v4 v5 v6 = some y → zH G A s.heap [bX0 G q o S.2.2.1 S.2.2.2, bX2 G q (o + 3) S.1.1 S.1.2.1 S.1.2.2.1 S.1.2.2.2.1 S.1.2.2.2.2.1 S.1.2.2.2.2.2.1 S.1.2.2.2.2.2.2.1 S.1.2.2.2.2.2.2.2, bX4 G q (o + 9) S.2.1.1 S.2.1.2, bX2 G q1 o1 P1.1 P1.2.1 P1.2.2.1 P1.2.2.2.1 P1.2.2.2.2.1 P1.2.2.2.2.2.1 P1.2.2.2.2.2.2.1 P1.2.2.2.2.2.2.2] H locs → lv_has ls 7 [(0, .ref (q (o + 0))), (2, .int v2), (3, .int v3), (4, .int v4), (5, .int v5), (6, .int v6)] → W p l e { frames := 5, cells := 0, slots := 0, locals := 129 } s m args below meth c H locs 0 0 (MQ below (zQ (some (.int y.1)) (zPost G [bX0 G q o y.2.2.2.1 y.2.2.2.2, bX2 G q (o + 3) y.2.1.1 y.2.1.2.1 y.2.1.2.2.1 y.2.1.2.2.2.1 y.2.1.2.2.2.2.1 y.2.1.2.2.2.2.2.1 y.2.1.2.2.2.2.2.2.1 y.2.1.2.2.2.2.2.2.2, bX4 G q (o + 9) y.2.2.1.1 y.2.2.1.2, bX2 G q1 o1 P1.1 P1.2.1 P1.2.2.1 P1.2.2.2.1 P1.2.2.2.2.1 P1.2.2.2.2.2.1 P1.2.2.2.2.2.2.1 P1.2.2.2.2.2.2.2]) A) args s 0 0 A) (F0 m 50 ls []) := by
  obtain ⟨hS0, hr, hlk, hK, hA⟩ := id hZ
  have hx := hS0.1
  have hb := hS0.2.1
  have hml := hS0.2.2.1
  have hown : s.vm.findClass RX0 = some m.cls := hS0.2.2.2.1
  have hts := hS0.2.2.2.2
  induction n with
  | zero =>
    intro S P1 v2 v3 v4 v5 v6 H locs ls hf hw hl
    unfold f_X0_dealAll_50 at hf
    cases hf
  | succ n ih =>
    intro S P1 v2 v3 v4 v5 v6 H locs ls hf hw hl
    unfold f_X0_dealAll_50 at hf
    refine lv_iload hx hb dX0_dealAll_50 (lv_at hl 5 rfl) ?_
    refine lv_iload hx hb dX0_dealAll_52 (lv_at hl 3 rfl) ?_
    refine lv_icmp_ge (tgt := 93) hx hb dX0_dealAll_54 rfl (fun hc => ?_) (fun hc => ?_)
    · have hf := z_t hc hf
      refine lv_iload hx hb dX0_dealAll_93 (lv_at hl 4 rfl) ?_
      cases hf
      exact z_iret hx hb hr hlk hw dX0_dealAll_95
    · have hf := z_f hc hf
      refine lv_aload_n hx hb dX0_dealAll_57 rfl (lv_at hl 0 rfl) ?_
      refine lv_iload hx hb dX0_dealAll_58 (lv_at hl 5 rfl) ?_
      refine lv_iload_n hx hb dX0_dealAll_60 rfl (lv_at hl 2 rfl) ?_
      obtain ⟨r1, e2, hf⟩ := z_bd hf
      refine z_callV1 (As := [.int v6, .int v3]) (rest := []) (bs' := [bX0 G q o r1.2.2.2.1 r1.2.2.2.2, bX2 G q (o + 3) r1.2.1.1 r1.2.1.2.1 r1.2.1.2.2.1 r1.2.1.2.2.2.1 r1.2.1.2.2.2.2.1 r1.2.1.2.2.2.2.2.1 r1.2.1.2.2.2.2.2.2.1 r1.2.1.2.2.2.2.2.2.2, bX4 G q (o + 9) r1.2.2.1.1 r1.2.2.1.2, bX2 G q1 o1 P1.1 P1.2.1 P1.2.2.1 P1.2.2.2.1 P1.2.2.2.2.1 P1.2.2.2.2.2.1 P1.2.2.2.2.2.2.1 P1.2.2.2.2.2.2.2]) hS0 (c_X0_isDeal l G q o S v6 v3 r1 e2) zc_X0_isDeal rfl gX0_dealAll_X0_isDeal ⟨Nat.le_of_ble_eq_true rfl, Nat.le_of_ble_eq_true rfl⟩ hK hA hw (is := [0, 1, 2]) rfl rfl rfl rfl rfl rfl rfl hl.1 rfl (Nat.le_of_ble_eq_true rfl) dX0_dealAll_61 (fun H locs hw => ?_)
      refine lv_if_eq (tgt := 87) hx hb dX0_dealAll_64 rfl (fun hc => ?_) (fun hc => ?_)
      · have hf := z_t hc hf
        refine lv_iinc (v := (v6 + 1)) (lv' := [(6, .int (v6 + 1)), (0, .ref (q (o + 0))), (2, .int v2), (3, .int v3), (4, .int v4), (5, .int v5)]) hx hb dX0_dealAll_87 hl (k := 5) rfl rfl (by decide) rfl (fun ls hl => ?_)
        refine lv_goto (tgt := 50) hx hb dX0_dealAll_90 rfl ?_
        exact ih _ _ _ _ _ _ _ _ _ _ hf hw (lv_sub hl [1, 2, 3, 4, 5, 0] rfl)
      · have hf := z_f hc hf
        refine lv_aload_n hx hb dX0_dealAll_67 rfl (lv_at hl 0 rfl) ?_
        refine lv_iload_n hx hb dX0_dealAll_68 rfl (lv_at hl 1 rfl) ?_
        obtain ⟨r3, e4, hf⟩ := z_bd hf
        refine z_callV1 (As := [.int v2]) (rest := []) (bs' := [bX0 G q o r3.2.2.2.1 r3.2.2.2.2, bX2 G q (o + 3) r3.2.1.1 r3.2.1.2.1 r3.2.1.2.2.1 r3.2.1.2.2.2.1 r3.2.1.2.2.2.2.1 r3.2.1.2.2.2.2.2.1 r3.2.1.2.2.2.2.2.2.1 r3.2.1.2.2.2.2.2.2.2, bX4 G q (o + 9) r3.2.2.1.1 r3.2.2.1.2, bX2 G q1 o1 P1.1 P1.2.1 P1.2.2.1 P1.2.2.2.1 P1.2.2.2.2.1 P1.2.2.2.2.2.1 P1.2.2.2.2.2.2.1 P1.2.2.2.2.2.2.2]) hS0 (c_X0_freesNoneOf l G q o r1.2 v2 r3 e4) zc_X0_freesNoneOf rfl gX0_dealAll_X0_freesNoneOf ⟨Nat.le_of_ble_eq_true rfl, Nat.le_of_ble_eq_true rfl⟩ hK hA hw (is := [0, 1, 2]) rfl rfl rfl rfl rfl rfl rfl hl.1 rfl (Nat.le_of_ble_eq_true rfl) dX0_dealAll_69 (fun H locs hw => ?_)
        refine lv_if_eq (tgt := 87) hx hb dX0_dealAll_72 rfl (fun hc => ?_) (fun hc => ?_)
        · have hf := z_t hc hf
          refine lv_iinc (v := (v6 + 1)) (lv' := [(6, .int (v6 + 1)), (0, .ref (q (o + 0))), (2, .int v2), (3, .int v3), (4, .int v4), (5, .int v5)]) hx hb dX0_dealAll_87 hl (k := 5) rfl rfl (by decide) rfl (fun ls hl => ?_)
          refine lv_goto (tgt := 50) hx hb dX0_dealAll_90 rfl ?_
          exact ih _ _ _ _ _ _ _ _ _ _ hf hw (lv_sub hl [1, 2, 3, 4, 5, 0] rfl)
        · have hf := z_f hc hf
          refine lv_iload hx hb dX0_dealAll_75 (lv_at hl 4 rfl) ?_
          refine lv_if_ne (tgt := 84) hx hb dX0_dealAll_77 rfl (fun hc => ?_) (fun hc => ?_)
          · have hf := z_f hc hf
            refine lv_iinc (v := (v5 + 1)) (lv' := [(5, .int (v5 + 1)), (0, .ref (q (o + 0))), (2, .int v2), (3, .int v3), (4, .int v4), (6, .int v6)]) hx hb dX0_dealAll_84 hl (k := 4) rfl rfl (by decide) rfl (fun ls hl => ?_)
            refine lv_iinc (v := (v6 + 1)) (lv' := [(6, .int (v6 + 1)), (5, .int (v5 + 1)), (0, .ref (q (o + 0))), (2, .int v2), (3, .int v3), (4, .int v4)]) hx hb dX0_dealAll_87 hl (k := 5) rfl rfl (by decide) rfl (fun ls hl => ?_)
            refine lv_goto (tgt := 50) hx hb dX0_dealAll_90 rfl ?_
            exact ih _ _ _ _ _ _ _ _ _ _ hf hw (lv_sub hl [2, 3, 4, 5, 1, 0] rfl)
          · have hf := z_t hc hf
            refine lv_aload_n hx hb dX0_dealAll_80 rfl (lv_at hl 0 rfl) ?_
            obtain ⟨r5, e6, hf⟩ := z_bd hf
            refine z_callV0 (As := []) (rest := []) (bs' := [bX0 G q o r5.2.2.1 r5.2.2.2, bX2 G q (o + 3) r5.1.1 r5.1.2.1 r5.1.2.2.1 r5.1.2.2.2.1 r5.1.2.2.2.2.1 r5.1.2.2.2.2.2.1 r5.1.2.2.2.2.2.2.1 r5.1.2.2.2.2.2.2.2, bX4 G q (o + 9) r5.2.1.1 r5.2.1.2, bX2 G q1 o1 P1.1 P1.2.1 P1.2.2.1 P1.2.2.2.1 P1.2.2.2.2.1 P1.2.2.2.2.2.1 P1.2.2.2.2.2.2.1 P1.2.2.2.2.2.2.2]) hS0 (c_X0_rememberDeal l G q o r3.2 r5 e6) zc_X0_rememberDeal rfl gX0_dealAll_X0_rememberDeal ⟨Nat.le_of_ble_eq_true rfl, Nat.le_of_ble_eq_true rfl⟩ hK hA hw (is := [0, 1, 2]) rfl rfl rfl rfl rfl rfl rfl hl.1 rfl (Nat.le_of_ble_eq_true rfl) dX0_dealAll_81 (fun H locs hw => ?_)
            refine lv_iinc (v := (v5 + 1)) (lv' := [(5, .int (v5 + 1)), (0, .ref (q (o + 0))), (2, .int v2), (3, .int v3), (4, .int v4), (6, .int v6)]) hx hb dX0_dealAll_84 hl (k := 4) rfl rfl (by decide) rfl (fun ls hl => ?_)
            refine lv_iinc (v := (v6 + 1)) (lv' := [(6, .int (v6 + 1)), (5, .int (v5 + 1)), (0, .ref (q (o + 0))), (2, .int v2), (3, .int v3), (4, .int v4)]) hx hb dX0_dealAll_87 hl (k := 5) rfl rfl (by decide) rfl (fun ls hl => ?_)
            refine lv_goto (tgt := 50) hx hb dX0_dealAll_90 rfl ?_
            exact ih _ _ _ _ _ _ _ _ _ _ hf hw (lv_sub hl [2, 3, 4, 5, 1, 0] rfl)
set_option maxHeartbeats 4000000 in
set_option maxRecDepth 100000 in
theorem k_X0_dealAll_26 {p : Program} {l : Launch} {e : Env} {s : State} {m : MethodId} {args : Array Value} {below : List Frame} {meth : Method} {c : Code} {A : Nat → Prop} {G : zG} {q : Nat → Nat} {o : Nat} {q1 : Nat → Nat} {o1 : Nat}  (hZ : zZ p s m args meth c A G cX0_dealAll 7 RX0 wsX0_dealAll (some .int)) (y : Int32 × VX0)  (n : Nat) : ∀ (S : VX0) (P1 : VX2) (v2 : Int32) (v3 : Int32) (v4 : Int32) (v5 : Int32) (H : Heap) (locs : List Loc) (ls : Array Slot), f_X0_dealAll_26 n S P1 v2 v3 v4 v5 = some y → zH G A s.heap [bX0 G q o S.2.2.1 S.2.2.2, bX2 G q (o + 3) S.1.1 S.1.2.1 S.1.2.2.1 S.1.2.2.2.1 S.1.2.2.2.2.1 S.1.2.2.2.2.2.1 S.1.2.2.2.2.2.2.1 S.1.2.2.2.2.2.2.2, bX4 G q (o + 9) S.2.1.1 S.2.1.2, bX2 G q1 o1 P1.1 P1.2.1 P1.2.2.1 P1.2.2.2.1 P1.2.2.2.2.1 P1.2.2.2.2.2.1 P1.2.2.2.2.2.2.1 P1.2.2.2.2.2.2.2] H locs → lv_has ls 7 [(0, .ref (q (o + 0))), (2, .int v2), (3, .int v3), (4, .int v4), (5, .int v5)] → W p l e { frames := 5, cells := 0, slots := 0, locals := 129 } s m args below meth c H locs 0 0 (MQ below (zQ (some (.int y.1)) (zPost G [bX0 G q o y.2.2.2.1 y.2.2.2.2, bX2 G q (o + 3) y.2.1.1 y.2.1.2.1 y.2.1.2.2.1 y.2.1.2.2.2.1 y.2.1.2.2.2.2.1 y.2.1.2.2.2.2.2.1 y.2.1.2.2.2.2.2.2.1 y.2.1.2.2.2.2.2.2.2, bX4 G q (o + 9) y.2.2.1.1 y.2.2.1.2, bX2 G q1 o1 P1.1 P1.2.1 P1.2.2.1 P1.2.2.2.1 P1.2.2.2.2.1 P1.2.2.2.2.2.1 P1.2.2.2.2.2.2.1 P1.2.2.2.2.2.2.2]) A) args s 0 0 A) (F0 m 26 ls []) := by
  obtain ⟨hS0, hr, hlk, hK, hA⟩ := id hZ
  have hx := hS0.1
  have hb := hS0.2.1
  have hml := hS0.2.2.1
  have hown : s.vm.findClass RX0 = some m.cls := hS0.2.2.2.1
  have hts := hS0.2.2.2.2
  induction n with
  | zero =>
    intro S P1 v2 v3 v4 v5 H locs ls hf hw hl
    unfold f_X0_dealAll_26 at hf
    cases hf
  | succ n ih =>
    intro S P1 v2 v3 v4 v5 H locs ls hf hw hl
    unfold f_X0_dealAll_26 at hf
    refine lv_iload hx hb dX0_dealAll_26 (lv_at hl 4 rfl) ?_
    refine lv_iload_n hx hb dX0_dealAll_28 rfl (lv_at hl 2 rfl) ?_
    refine lv_icmp_ge (tgt := 44) hx hb dX0_dealAll_29 rfl (fun hc => ?_) (fun hc => ?_)
    · have hf := z_t hc hf
      refine lv_iconst (v := 0) hx hb dX0_dealAll_44 rfl ?_
      refine lv_istore (lv' := [(5, .int 0), (0, .ref (q (o + 0))), (2, .int v2), (3, .int v3), (4, .int v4)]) hx hb dX0_dealAll_45 hl (by decide) rfl (fun ls hl => ?_)
      refine lv_iconst (v := 0) hx hb dX0_dealAll_47 rfl ?_
      refine lv_istore (lv' := [(6, .int 0), (5, .int 0), (0, .ref (q (o + 0))), (2, .int v2), (3, .int v3), (4, .int v4)]) hx hb dX0_dealAll_48 hl (by decide) rfl (fun ls hl => ?_)
      exact k_X0_dealAll_50 hZ _ 4096 _ _ _ _ _ _ _ _ _ _ hf hw (lv_sub hl [2, 3, 4, 5, 1, 0] rfl)
    · have hf := z_f hc hf
      refine lv_iload hx hb dX0_dealAll_32 (lv_at hl 3 rfl) ?_
      refine lv_iload_n hx hb dX0_dealAll_34 rfl (lv_at hl 2 rfl) ?_
      refine lv_imul hx hb dX0_dealAll_35 ?_
      refine lv_istore (lv' := [(4, .int (v4 * v3)), (0, .ref (q (o + 0))), (2, .int v2), (3, .int v3), (5, .int v5)]) hx hb dX0_dealAll_36 hl (by decide) rfl (fun ls hl => ?_)
      refine lv_iinc (v := (v5 + 1)) (lv' := [(5, .int (v5 + 1)), (4, .int (v4 * v3)), (0, .ref (q (o + 0))), (2, .int v2), (3, .int v3)]) hx hb dX0_dealAll_38 hl (k := 4) rfl rfl (by decide) rfl (fun ls hl => ?_)
      refine lv_goto (tgt := 26) hx hb dX0_dealAll_41 rfl ?_
      exact ih _ _ _ _ _ _ _ _ _ hf hw (lv_sub hl [2, 3, 4, 1, 0] rfl)
set_option maxHeartbeats 4000000 in
set_option maxRecDepth 100000 in
theorem c_X0_dealAll (l : Launch) (G : zG) (q : Nat → Nat) (o : Nat) (q1 : Nat → Nat) (o1 : Nat) (S : VX0) (P1 : VX2) (v2 : Int32) (y : Int32 × VX0) (hf : f_X0_dealAll S P1 v2 = some y) : zMet l yX0_dealAll wsX0_dealAll 5 129 G [.ref (q (o + 0)), .ref (q1 (o1 + 0)), .int v2] [bX0 G q o S.2.2.1 S.2.2.2, bX2 G q (o + 3) S.1.1 S.1.2.1 S.1.2.2.1 S.1.2.2.2.1 S.1.2.2.2.2.1 S.1.2.2.2.2.2.1 S.1.2.2.2.2.2.2.1 S.1.2.2.2.2.2.2.2, bX4 G q (o + 9) S.2.1.1 S.2.1.2, bX2 G q1 o1 P1.1 P1.2.1 P1.2.2.1 P1.2.2.2.1 P1.2.2.2.2.1 P1.2.2.2.2.2.1 P1.2.2.2.2.2.2.1 P1.2.2.2.2.2.2.2] (some (.int y.1)) [bX0 G q o y.2.2.2.1 y.2.2.2.2, bX2 G q (o + 3) y.2.1.1 y.2.1.2.1 y.2.1.2.2.1 y.2.1.2.2.2.1 y.2.1.2.2.2.2.1 y.2.1.2.2.2.2.2.1 y.2.1.2.2.2.2.2.2.1 y.2.1.2.2.2.2.2.2.2, bX4 G q (o + 9) y.2.2.1.1 y.2.2.1.2, bX2 G q1 o1 P1.1 P1.2.1 P1.2.2.1 P1.2.2.2.1 P1.2.2.2.2.1 P1.2.2.2.2.2.1 P1.2.2.2.2.2.2.1 P1.2.2.2.2.2.2.2] := by
  refine z_met zc_X0_dealAll (Nat.le_of_ble_eq_true rfl) ?_
  intro p e s m below meth c A ls hZ hl hw
  have hl : lv_has ls 7 [(0, .ref (q (o + 0))), (1, .ref (q1 (o1 + 0))), (2, .int v2)] := hl
  obtain ⟨hS0, hr, hlk, hK, hA⟩ := id hZ
  have hx := hS0.1
  have hb := hS0.2.1
  have hml := hS0.2.2.1
  have hown : s.vm.findClass RX0 = some m.cls := hS0.2.2.2.1
  have hts := hS0.2.2.2.2
  unfold f_X0_dealAll at hf
  refine lv_aload_n hx hb dX0_dealAll_0 rfl (lv_at hl 1 rfl) ?_
  obtain ⟨r7, e8, hf⟩ := z_bd hf
  refine z_callV1 (As := []) (rest := []) (bs' := [bX0 G q o S.2.2.1 S.2.2.2, bX2 G q (o + 3) S.1.1 S.1.2.1 S.1.2.2.1 S.1.2.2.2.1 S.1.2.2.2.2.1 S.1.2.2.2.2.2.1 S.1.2.2.2.2.2.2.1 S.1.2.2.2.2.2.2.2, bX4 G q (o + 9) S.2.1.1 S.2.1.2, bX2 G q1 o1 P1.1 P1.2.1 P1.2.2.1 P1.2.2.2.1 P1.2.2.2.2.1 P1.2.2.2.2.2.1 P1.2.2.2.2.2.2.1 P1.2.2.2.2.2.2.2]) hS0 (c_X2_cells l G q1 o1 P1 r7 e8) zc_X2_cells rfl gX0_dealAll_X2_cells ⟨Nat.le_of_ble_eq_true rfl, Nat.le_of_ble_eq_true rfl⟩ hK hA hw (is := [3]) rfl rfl rfl rfl rfl rfl rfl hl.1 rfl (Nat.le_of_ble_eq_true rfl) dX0_dealAll_1 (fun H locs hw => ?_)
  refine lv_istore_n (lv' := [(3, .int r7), (0, .ref (q (o + 0))), (1, .ref (q1 (o1 + 0))), (2, .int v2)]) hx hb dX0_dealAll_4 rfl hl (by decide) rfl (fun ls hl => ?_)
  refine lv_iload_n hx hb dX0_dealAll_5 rfl (lv_at hl 0 rfl) ?_
  refine lv_iconst (v := 5) hx hb dX0_dealAll_6 rfl ?_
  refine lv_icmp_le (tgt := 12) hx hb dX0_dealAll_7 rfl (fun hc => ?_) (fun hc => ?_)
  · have hf := z_t hc hf
    refine lv_aload_n hx hb dX0_dealAll_12 rfl (lv_at hl 1 rfl) ?_
    refine z_get hS0 in_X0_dealAll_X0 hK hw 0 0 rfl rfl rfl (by decide) (hts _ m_X0_dealAll_0) (v := .ref (q ((o + 3) + 0))) rfl dX0_dealAll_13 ?_
    refine lv_aload_n hx hb dX0_dealAll_16 rfl (lv_at hl 2 rfl) ?_
    obtain ⟨r9, e10, hf⟩ := z_bd hf
    refine z_callV0 (As := [.ref (q1 (o1 + 0))]) (rest := []) (bs' := [bX0 G q o S.2.2.1 S.2.2.2, bX2 G q (o + 3) r9.1 r9.2.1 r9.2.2.1 r9.2.2.2.1 r9.2.2.2.2.1 r9.2.2.2.2.2.1 r9.2.2.2.2.2.2.1 r9.2.2.2.2.2.2.2, bX4 G q (o + 9) S.2.1.1 S.2.1.2, bX2 G q1 o1 P1.1 P1.2.1 P1.2.2.1 P1.2.2.2.1 P1.2.2.2.2.1 P1.2.2.2.2.2.1 P1.2.2.2.2.2.2.1 P1.2.2.2.2.2.2.2]) hS0 (c_X2_become l G q (o + 3) q1 o1 S.1 P1 r9 e10) zc_X2_become rfl gX0_dealAll_X2_become ⟨Nat.le_of_ble_eq_true rfl, Nat.le_of_ble_eq_true rfl⟩ hK hA hw (is := [1, 3]) rfl rfl rfl rfl rfl rfl rfl hl.1 rfl (Nat.le_of_ble_eq_true rfl) dX0_dealAll_17 (fun H locs hw => ?_)
    refine lv_iconst (v := 1) hx hb dX0_dealAll_20 rfl ?_
    refine lv_istore (lv' := [(4, .int 1), (3, .int r7), (0, .ref (q (o + 0))), (1, .ref (q1 (o1 + 0))), (2, .int v2)]) hx hb dX0_dealAll_21 hl (by decide) rfl (fun ls hl => ?_)
    refine lv_iconst (v := 0) hx hb dX0_dealAll_23 rfl ?_
    refine lv_istore (lv' := [(5, .int 0), (4, .int 1), (3, .int r7), (0, .ref (q (o + 0))), (1, .ref (q1 (o1 + 0))), (2, .int v2)]) hx hb dX0_dealAll_24 hl (by decide) rfl (fun ls hl => ?_)
    exact k_X0_dealAll_26 hZ _ 4096 _ _ _ _ _ _ _ _ _ hf hw (lv_sub hl [3, 5, 2, 1, 0] rfl)
  · have hf := z_f hc hf
    refine lv_iconst (v := 0) hx hb dX0_dealAll_10 rfl ?_
    cases hf
    exact z_iret hx hb hr hlk hw dX0_dealAll_11
theorem zc_X0_favoursOrNever : zC yX0_favoursOrNever wsX0_favoursOrNever cX0_favoursOrNever 3 (some .int) 1 := ⟨⟨_, rfl⟩, by decide +kernel, by decide +kernel, by decide +kernel, by decide +kernel⟩
theorem m_X0_favoursOrNever_0 : (.fieldLink RX0 21 "CellKeys$Dealer" "reach" "LCellKeys$Reach;" : Cond) ∈ wsX0_favoursOrNever := by decide +kernel
theorem in_X0_favoursOrNever_X0 : ∀ w ∈ u_ws RX0 TX0 4, w ∈ wsX0_favoursOrNever := by decide +kernel
set_option maxHeartbeats 4000000 in
set_option maxRecDepth 100000 in
theorem c_X0_favoursOrNever (l : Launch) (G : zG) (q : Nat → Nat) (o : Nat) (S : VX0) (v1 : Int32) (y : Int32) (hf : f_X0_favoursOrNever S v1 = some y) : zMet l yX0_favoursOrNever wsX0_favoursOrNever 2 45 G [.ref (q (o + 0)), .int v1] [bX0 G q o S.2.2.1 S.2.2.2, bX2 G q (o + 3) S.1.1 S.1.2.1 S.1.2.2.1 S.1.2.2.2.1 S.1.2.2.2.2.1 S.1.2.2.2.2.2.1 S.1.2.2.2.2.2.2.1 S.1.2.2.2.2.2.2.2, bX4 G q (o + 9) S.2.1.1 S.2.1.2] (some (.int y)) [bX0 G q o S.2.2.1 S.2.2.2, bX2 G q (o + 3) S.1.1 S.1.2.1 S.1.2.2.1 S.1.2.2.2.1 S.1.2.2.2.2.1 S.1.2.2.2.2.2.1 S.1.2.2.2.2.2.2.1 S.1.2.2.2.2.2.2.2, bX4 G q (o + 9) S.2.1.1 S.2.1.2] := by
  refine z_met zc_X0_favoursOrNever (Nat.le_of_ble_eq_true rfl) ?_
  intro p e s m below meth c A ls hZ hl hw
  have hl : lv_has ls 3 [(0, .ref (q (o + 0))), (1, .int v1)] := hl
  obtain ⟨hS0, hr, hlk, hK, hA⟩ := id hZ
  have hx := hS0.1
  have hb := hS0.2.1
  have hml := hS0.2.2.1
  have hown : s.vm.findClass RX0 = some m.cls := hS0.2.2.2.1
  have hts := hS0.2.2.2.2
  unfold f_X0_favoursOrNever at hf
  refine lv_aload_n hx hb dX0_favoursOrNever_0 rfl (lv_at hl 0 rfl) ?_
  refine z_get hS0 in_X0_favoursOrNever_X0 hK hw 0 1 rfl rfl rfl (by decide) (hts _ m_X0_favoursOrNever_0) (v := .ref (q ((o + 9) + 0))) rfl dX0_favoursOrNever_1 ?_
  refine lv_iload_n hx hb dX0_favoursOrNever_4 rfl (lv_at hl 1 rfl) ?_
  obtain ⟨r1, e2, hf⟩ := z_bd hf
  refine z_callV1 (As := [.int v1]) (rest := []) (bs' := [bX0 G q o S.2.2.1 S.2.2.2, bX2 G q (o + 3) S.1.1 S.1.2.1 S.1.2.2.1 S.1.2.2.2.1 S.1.2.2.2.2.1 S.1.2.2.2.2.2.1 S.1.2.2.2.2.2.2.1 S.1.2.2.2.2.2.2.2, bX4 G q (o + 9) S.2.1.1 S.2.1.2]) hS0 (c_X4_leastFor l G q (o + 9) S.2.1 v1 r1 e2) zc_X4_leastFor rfl gX0_favoursOrNever_X4_leastFor ⟨Nat.le_of_ble_eq_true rfl, Nat.le_of_ble_eq_true rfl⟩ hK hA hw (is := [2]) rfl rfl rfl rfl rfl rfl rfl hl.1 rfl (Nat.le_of_ble_eq_true rfl) dX0_favoursOrNever_5 (fun H locs hw => ?_)
  refine lv_istore_n (lv' := [(2, .int r1), (0, .ref (q (o + 0))), (1, .int v1)]) hx hb dX0_favoursOrNever_8 rfl hl (by decide) rfl (fun ls hl => ?_)
  refine lv_iload_n hx hb dX0_favoursOrNever_9 rfl (lv_at hl 0 rfl) ?_
  refine lv_bipush (v := (-9)) hx hb dX0_favoursOrNever_10 rfl ?_
  refine lv_icmp_ne (tgt := 20) hx hb dX0_favoursOrNever_12 rfl (fun hc => ?_) (fun hc => ?_)
  · have hf := z_f hc hf
    refine lv_iload_n hx hb dX0_favoursOrNever_20 rfl (lv_at hl 0 rfl) ?_
    cases hf
    exact z_iret hx hb hr hlk hw dX0_favoursOrNever_21
  · have hf := z_t hc hf
    refine lv_bipush (v := 99) hx hb dX0_favoursOrNever_15 rfl ?_
    refine lv_goto (tgt := 21) hx hb dX0_favoursOrNever_17 rfl ?_
    cases hf
    exact z_iret hx hb hr hlk hw dX0_favoursOrNever_21
theorem zc_X0_firstKeeperOf : zC yX0_firstKeeperOf wsX0_firstKeeperOf cX0_firstKeeperOf 2 (some .int) 1 := ⟨⟨_, rfl⟩, by decide +kernel, by decide +kernel, by decide +kernel, by decide +kernel⟩
theorem m_X0_firstKeeperOf_0 : (.fieldLink RX0 25 "CellKeys$Dealer" "firstDeal" "[I" : Cond) ∈ wsX0_firstKeeperOf := by decide +kernel
theorem in_X0_firstKeeperOf_X0 : ∀ w ∈ u_ws RX0 TX0 4, w ∈ wsX0_firstKeeperOf := by decide +kernel
set_option maxHeartbeats 4000000 in
set_option maxRecDepth 100000 in
theorem c_X0_firstKeeperOf (l : Launch) (G : zG) (q : Nat → Nat) (o : Nat) (S : VX0) (v1 : Int32) (y : Int32) (hf : f_X0_firstKeeperOf S v1 = some y) : zMet l yX0_firstKeeperOf wsX0_firstKeeperOf 0 0 G [.ref (q (o + 0)), .int v1] [bX0 G q o S.2.2.1 S.2.2.2, bX2 G q (o + 3) S.1.1 S.1.2.1 S.1.2.2.1 S.1.2.2.2.1 S.1.2.2.2.2.1 S.1.2.2.2.2.2.1 S.1.2.2.2.2.2.2.1 S.1.2.2.2.2.2.2.2, bX4 G q (o + 9) S.2.1.1 S.2.1.2] (some (.int y)) [bX0 G q o S.2.2.1 S.2.2.2, bX2 G q (o + 3) S.1.1 S.1.2.1 S.1.2.2.1 S.1.2.2.2.1 S.1.2.2.2.2.1 S.1.2.2.2.2.2.1 S.1.2.2.2.2.2.2.1 S.1.2.2.2.2.2.2.2, bX4 G q (o + 9) S.2.1.1 S.2.1.2] := by
  refine z_met zc_X0_firstKeeperOf (Nat.le_of_ble_eq_true rfl) ?_
  intro p e s m below meth c A ls hZ hl hw
  have hl : lv_has ls 2 [(0, .ref (q (o + 0))), (1, .int v1)] := hl
  obtain ⟨hS0, hr, hlk, hK, hA⟩ := id hZ
  have hx := hS0.1
  have hb := hS0.2.1
  have hml := hS0.2.2.1
  have hown : s.vm.findClass RX0 = some m.cls := hS0.2.2.2.1
  have hts := hS0.2.2.2.2
  unfold f_X0_firstKeeperOf at hf
  refine lv_iload_n hx hb dX0_firstKeeperOf_0 rfl (lv_at hl 1 rfl) ?_
  refine lv_if_lt (tgt := 18) hx hb dX0_firstKeeperOf_1 rfl (fun hc => ?_) (fun hc => ?_)
  · have hf := z_t hc hf
    refine lv_bipush (v := (-9)) hx hb dX0_firstKeeperOf_18 rfl ?_
    cases hf
    exact z_iret hx hb hr hlk hw dX0_firstKeeperOf_20
  · have hf := z_f hc hf
    refine lv_iload_n hx hb dX0_firstKeeperOf_4 rfl (lv_at hl 1 rfl) ?_
    refine lv_iconst (v := 5) hx hb dX0_firstKeeperOf_5 rfl ?_
    refine lv_icmp_ge (tgt := 18) hx hb dX0_firstKeeperOf_6 rfl (fun hc => ?_) (fun hc => ?_)
    · have hf := z_t hc hf
      refine lv_bipush (v := (-9)) hx hb dX0_firstKeeperOf_18 rfl ?_
      cases hf
      exact z_iret hx hb hr hlk hw dX0_firstKeeperOf_20
    · have hf := z_f hc hf
      refine lv_aload_n hx hb dX0_firstKeeperOf_9 rfl (lv_at hl 0 rfl) ?_
      refine z_get hS0 in_X0_firstKeeperOf_X0 hK hw 0 2 rfl rfl rfl (by decide) (hts _ m_X0_firstKeeperOf_0) (v := .ref (q (o + 1))) rfl dX0_firstKeeperOf_10 ?_
      refine lv_iload_n hx hb dX0_firstKeeperOf_13 rfl (lv_at hl 1 rfl) ?_
      obtain ⟨g1, hf⟩ := z_gd hf
      refine z_iald hS0 hK hw 0 1 (zIn_vp g1) rfl rfl dX0_firstKeeperOf_14 ?_
      refine lv_goto (tgt := 20) hx hb dX0_firstKeeperOf_15 rfl ?_
      cases hf
      exact z_iret hx hb hr hlk hw dX0_firstKeeperOf_20
theorem zc_X0_wouldTrade : zC yX0_wouldTrade wsX0_wouldTrade cX0_wouldTrade 2 (some .boolean) 1 := ⟨⟨_, rfl⟩, by decide +kernel, by decide +kernel, by decide +kernel, by decide +kernel⟩
theorem m_X0_wouldTrade_0 : (.fieldLink RX0 29 "CellKeys$Dealer" "wanted" "[I" : Cond) ∈ wsX0_wouldTrade := by decide +kernel
theorem in_X0_wouldTrade_X0 : ∀ w ∈ u_ws RX0 TX0 4, w ∈ wsX0_wouldTrade := by decide +kernel
set_option maxHeartbeats 4000000 in
set_option maxRecDepth 100000 in
theorem c_X0_wouldTrade (l : Launch) (G : zG) (q : Nat → Nat) (o : Nat) (S : VX0) (v1 : Int32) (y : Int32) (hf : f_X0_wouldTrade S v1 = some y) : zMet l yX0_wouldTrade wsX0_wouldTrade 3 67 G [.ref (q (o + 0)), .int v1] [bX0 G q o S.2.2.1 S.2.2.2, bX2 G q (o + 3) S.1.1 S.1.2.1 S.1.2.2.1 S.1.2.2.2.1 S.1.2.2.2.2.1 S.1.2.2.2.2.2.1 S.1.2.2.2.2.2.2.1 S.1.2.2.2.2.2.2.2, bX4 G q (o + 9) S.2.1.1 S.2.1.2] (some (.int y)) [bX0 G q o S.2.2.1 S.2.2.2, bX2 G q (o + 3) S.1.1 S.1.2.1 S.1.2.2.1 S.1.2.2.2.1 S.1.2.2.2.2.1 S.1.2.2.2.2.2.1 S.1.2.2.2.2.2.2.1 S.1.2.2.2.2.2.2.2, bX4 G q (o + 9) S.2.1.1 S.2.1.2] := by
  refine z_met zc_X0_wouldTrade (Nat.le_of_ble_eq_true rfl) ?_
  intro p e s m below meth c A ls hZ hl hw
  have hl : lv_has ls 2 [(0, .ref (q (o + 0))), (1, .int v1)] := hl
  obtain ⟨hS0, hr, hlk, hK, hA⟩ := id hZ
  have hx := hS0.1
  have hb := hS0.2.1
  have hml := hS0.2.2.1
  have hown : s.vm.findClass RX0 = some m.cls := hS0.2.2.2.1
  have hts := hS0.2.2.2.2
  unfold f_X0_wouldTrade at hf
  refine lv_iload_n hx hb dX0_wouldTrade_0 rfl (lv_at hl 1 rfl) ?_
  refine lv_if_lt (tgt := 28) hx hb dX0_wouldTrade_1 rfl (fun hc => ?_) (fun hc => ?_)
  · have hf := z_t hc hf
    refine lv_iconst (v := 0) hx hb dX0_wouldTrade_28 rfl ?_
    cases hf
    exact z_zret hx hb hr rfl hlk hw dX0_wouldTrade_29
  · have hf := z_f hc hf
    refine lv_iload_n hx hb dX0_wouldTrade_4 rfl (lv_at hl 1 rfl) ?_
    refine lv_bipush (v := 8) hx hb dX0_wouldTrade_5 rfl ?_
    refine lv_icmp_ge (tgt := 28) hx hb dX0_wouldTrade_7 rfl (fun hc => ?_) (fun hc => ?_)
    · have hf := z_t hc hf
      refine lv_iconst (v := 0) hx hb dX0_wouldTrade_28 rfl ?_
      cases hf
      exact z_zret hx hb hr rfl hlk hw dX0_wouldTrade_29
    · have hf := z_f hc hf
      refine lv_aload_n hx hb dX0_wouldTrade_10 rfl (lv_at hl 0 rfl) ?_
      refine lv_iload_n hx hb dX0_wouldTrade_11 rfl (lv_at hl 1 rfl) ?_
      obtain ⟨r1, e2, hf⟩ := z_bd hf
      refine z_callV1 (As := [.int v1]) (rest := []) (bs' := [bX0 G q o S.2.2.1 S.2.2.2, bX2 G q (o + 3) S.1.1 S.1.2.1 S.1.2.2.1 S.1.2.2.2.1 S.1.2.2.2.2.1 S.1.2.2.2.2.2.1 S.1.2.2.2.2.2.2.1 S.1.2.2.2.2.2.2.2, bX4 G q (o + 9) S.2.1.1 S.2.1.2]) hS0 (c_X0_favoursOrNever l G q o S v1 r1 e2) zc_X0_favoursOrNever rfl gX0_wouldTrade_X0_favoursOrNever ⟨Nat.le_of_ble_eq_true rfl, Nat.le_of_ble_eq_true rfl⟩ hK hA hw (is := [0, 1, 2]) rfl rfl rfl rfl rfl rfl rfl hl.1 rfl (Nat.le_of_ble_eq_true rfl) dX0_wouldTrade_12 (fun H locs hw => ?_)
      refine lv_aload_n hx hb dX0_wouldTrade_15 rfl (lv_at hl 0 rfl) ?_
      refine z_get hS0 in_X0_wouldTrade_X0 hK hw 0 3 rfl rfl rfl (by decide) (hts _ m_X0_wouldTrade_0) (v := .ref (q (o + 2))) rfl dX0_wouldTrade_16 ?_
      refine lv_iload_n hx hb dX0_wouldTrade_19 rfl (lv_at hl 1 rfl) ?_
      obtain ⟨g3, hf⟩ := z_gd hf
      refine z_iald hS0 hK hw 0 2 (zIn_vp g3) rfl rfl dX0_wouldTrade_20 ?_
      refine lv_icmp_ge (tgt := 28) hx hb dX0_wouldTrade_21 rfl (fun hc => ?_) (fun hc => ?_)
      · have hf := z_t hc hf
        refine lv_iconst (v := 0) hx hb dX0_wouldTrade_28 rfl ?_
        cases hf
        exact z_zret hx hb hr rfl hlk hw dX0_wouldTrade_29
      · have hf := z_f hc hf
        refine lv_iconst (v := 1) hx hb dX0_wouldTrade_24 rfl ?_
        refine lv_goto (tgt := 29) hx hb dX0_wouldTrade_25 rfl ?_
        cases hf
        exact z_zret hx hb hr rfl hlk hw dX0_wouldTrade_29
theorem zc_X0_helpsBoth : zC yX0_helpsBoth wsX0_helpsBoth cX0_helpsBoth 6 (some .boolean) 3 := ⟨⟨_, rfl⟩, by decide +kernel, by decide +kernel, by decide +kernel, by decide +kernel⟩
theorem m_X0_helpsBoth_0 : (.fieldLink RX0 21 "CellKeys$Dealer" "reach" "LCellKeys$Reach;" : Cond) ∈ wsX0_helpsBoth := by decide +kernel
theorem in_X0_helpsBoth_X0 : ∀ w ∈ u_ws RX0 TX0 4, w ∈ wsX0_helpsBoth := by decide +kernel
set_option maxHeartbeats 4000000 in
set_option maxRecDepth 100000 in
theorem k_X0_helpsBoth_60 {p : Program} {l : Launch} {e : Env} {s : State} {m : MethodId} {args : Array Value} {below : List Frame} {meth : Method} {c : Code} {A : Nat → Prop} {G : zG} {q : Nat → Nat} {o : Nat} {q1 : Nat → Nat} {o1 : Nat}  (hZ : zZ p s m args meth c A G cX0_helpsBoth 6 RX0 wsX0_helpsBoth (some .boolean)) (y : Int32 × VX0 × VX2)  : ∀ (S : VX0) (P1 : VX2) (v2 : Int32) (v3 : Int32) (v4 : Int32) (v5 : Int32) (H : Heap) (locs : List Loc) (ls : Array Slot), f_X0_helpsBoth_60 S P1 v2 v3 v4 v5 = some y → zH G A s.heap [bX0 G q o S.2.2.1 S.2.2.2, bX2 G q (o + 3) S.1.1 S.1.2.1 S.1.2.2.1 S.1.2.2.2.1 S.1.2.2.2.2.1 S.1.2.2.2.2.2.1 S.1.2.2.2.2.2.2.1 S.1.2.2.2.2.2.2.2, bX4 G q (o + 9) S.2.1.1 S.2.1.2, bX2 G q1 o1 P1.1 P1.2.1 P1.2.2.1 P1.2.2.2.1 P1.2.2.2.2.1 P1.2.2.2.2.2.1 P1.2.2.2.2.2.2.1 P1.2.2.2.2.2.2.2] H locs → lv_has ls 6 [(1, .ref (q1 (o1 + 0))), (2, .int v2), (3, .int v3), (4, .int v4), (5, .int v5)] → W p l e { frames := 4, cells := 0, slots := 0, locals := 107 } s m args below meth c H locs 0 0 (MQ below (zQ (some (.int y.1)) (zPost G [bX0 G q o y.2.1.2.2.1 y.2.1.2.2.2, bX2 G q (o + 3) y.2.1.1.1 y.2.1.1.2.1 y.2.1.1.2.2.1 y.2.1.1.2.2.2.1 y.2.1.1.2.2.2.2.1 y.2.1.1.2.2.2.2.2.1 y.2.1.1.2.2.2.2.2.2.1 y.2.1.1.2.2.2.2.2.2.2, bX4 G q (o + 9) y.2.1.2.1.1 y.2.1.2.1.2, bX2 G q1 o1 y.2.2.1 y.2.2.2.1 y.2.2.2.2.1 y.2.2.2.2.2.1 y.2.2.2.2.2.2.1 y.2.2.2.2.2.2.2.1 y.2.2.2.2.2.2.2.2.1 y.2.2.2.2.2.2.2.2.2]) A) args s 0 0 A) (F0 m 60 ls []) := by
  obtain ⟨hS0, hr, hlk, hK, hA⟩ := id hZ
  have hx := hS0.1
  have hb := hS0.2.1
  have hml := hS0.2.2.1
  have hown : s.vm.findClass RX0 = some m.cls := hS0.2.2.2.1
  have hts := hS0.2.2.2.2
  intro S P1 v2 v3 v4 v5 H locs ls hf hw hl
  unfold f_X0_helpsBoth_60 at hf
  refine lv_aload_n hx hb dX0_helpsBoth_60 rfl (lv_at hl 0 rfl) ?_
  refine lv_iload_n hx hb dX0_helpsBoth_61 rfl (lv_at hl 1 rfl) ?_
  refine lv_iload hx hb dX0_helpsBoth_62 (lv_at hl 3 rfl) ?_
  obtain ⟨r1, e2, hf⟩ := z_bd hf
  refine z_callV0 (As := [.int v2, .int v4]) (rest := []) (bs' := [bX0 G q o S.2.2.1 S.2.2.2, bX2 G q (o + 3) S.1.1 S.1.2.1 S.1.2.2.1 S.1.2.2.2.1 S.1.2.2.2.2.1 S.1.2.2.2.2.2.1 S.1.2.2.2.2.2.2.1 S.1.2.2.2.2.2.2.2, bX4 G q (o + 9) S.2.1.1 S.2.1.2, bX2 G q1 o1 r1.1 r1.2.1 r1.2.2.1 r1.2.2.2.1 r1.2.2.2.2.1 r1.2.2.2.2.2.1 r1.2.2.2.2.2.2.1 r1.2.2.2.2.2.2.2]) hS0 (c_X2_setKeeper l G q1 o1 P1 v2 v4 r1 e2) zc_X2_setKeeper rfl gX0_helpsBoth_X2_setKeeper ⟨Nat.le_of_ble_eq_true rfl, Nat.le_of_ble_eq_true rfl⟩ hK hA hw (is := [3]) rfl rfl rfl rfl rfl rfl rfl hl.1 rfl (Nat.le_of_ble_eq_true rfl) dX0_helpsBoth_64 (fun H locs hw => ?_)
  refine lv_aload_n hx hb dX0_helpsBoth_67 rfl (lv_at hl 0 rfl) ?_
  refine lv_iload_n hx hb dX0_helpsBoth_68 rfl (lv_at hl 2 rfl) ?_
  refine lv_iload hx hb dX0_helpsBoth_69 (lv_at hl 4 rfl) ?_
  obtain ⟨r3, e4, hf⟩ := z_bd hf
  refine z_callV0 (As := [.int v3, .int v5]) (rest := []) (bs' := [bX0 G q o S.2.2.1 S.2.2.2, bX2 G q (o + 3) S.1.1 S.1.2.1 S.1.2.2.1 S.1.2.2.2.1 S.1.2.2.2.2.1 S.1.2.2.2.2.2.1 S.1.2.2.2.2.2.2.1 S.1.2.2.2.2.2.2.2, bX4 G q (o + 9) S.2.1.1 S.2.1.2, bX2 G q1 o1 r3.1 r3.2.1 r3.2.2.1 r3.2.2.2.1 r3.2.2.2.2.1 r3.2.2.2.2.2.1 r3.2.2.2.2.2.2.1 r3.2.2.2.2.2.2.2]) hS0 (c_X2_setKeeper l G q1 o1 r1 v3 v5 r3 e4) zc_X2_setKeeper rfl gX0_helpsBoth_X2_setKeeper ⟨Nat.le_of_ble_eq_true rfl, Nat.le_of_ble_eq_true rfl⟩ hK hA hw (is := [3]) rfl rfl rfl rfl rfl rfl rfl hl.1 rfl (Nat.le_of_ble_eq_true rfl) dX0_helpsBoth_71 (fun H locs hw => ?_)
  refine lv_iconst (v := 0) hx hb dX0_helpsBoth_74 rfl ?_
  cases hf
  exact z_zret hx hb hr rfl hlk hw dX0_helpsBoth_75
set_option maxHeartbeats 4000000 in
set_option maxRecDepth 100000 in
theorem c_X0_helpsBoth (l : Launch) (G : zG) (q : Nat → Nat) (o : Nat) (q1 : Nat → Nat) (o1 : Nat) (S : VX0) (P1 : VX2) (v2 : Int32) (v3 : Int32) (y : Int32 × VX0 × VX2) (hf : f_X0_helpsBoth S P1 v2 v3 = some y) : zMet l yX0_helpsBoth wsX0_helpsBoth 4 107 G [.ref (q (o + 0)), .ref (q1 (o1 + 0)), .int v2, .int v3] [bX0 G q o S.2.2.1 S.2.2.2, bX2 G q (o + 3) S.1.1 S.1.2.1 S.1.2.2.1 S.1.2.2.2.1 S.1.2.2.2.2.1 S.1.2.2.2.2.2.1 S.1.2.2.2.2.2.2.1 S.1.2.2.2.2.2.2.2, bX4 G q (o + 9) S.2.1.1 S.2.1.2, bX2 G q1 o1 P1.1 P1.2.1 P1.2.2.1 P1.2.2.2.1 P1.2.2.2.2.1 P1.2.2.2.2.2.1 P1.2.2.2.2.2.2.1 P1.2.2.2.2.2.2.2] (some (.int y.1)) [bX0 G q o y.2.1.2.2.1 y.2.1.2.2.2, bX2 G q (o + 3) y.2.1.1.1 y.2.1.1.2.1 y.2.1.1.2.2.1 y.2.1.1.2.2.2.1 y.2.1.1.2.2.2.2.1 y.2.1.1.2.2.2.2.2.1 y.2.1.1.2.2.2.2.2.2.1 y.2.1.1.2.2.2.2.2.2.2, bX4 G q (o + 9) y.2.1.2.1.1 y.2.1.2.1.2, bX2 G q1 o1 y.2.2.1 y.2.2.2.1 y.2.2.2.2.1 y.2.2.2.2.2.1 y.2.2.2.2.2.2.1 y.2.2.2.2.2.2.2.1 y.2.2.2.2.2.2.2.2.1 y.2.2.2.2.2.2.2.2.2] := by
  refine z_met zc_X0_helpsBoth (Nat.le_of_ble_eq_true rfl) ?_
  intro p e s m below meth c A ls hZ hl hw
  have hl : lv_has ls 6 [(0, .ref (q (o + 0))), (1, .ref (q1 (o1 + 0))), (2, .int v2), (3, .int v3)] := hl
  obtain ⟨hS0, hr, hlk, hK, hA⟩ := id hZ
  have hx := hS0.1
  have hb := hS0.2.1
  have hml := hS0.2.2.1
  have hown : s.vm.findClass RX0 = some m.cls := hS0.2.2.2.1
  have hts := hS0.2.2.2.2
  unfold f_X0_helpsBoth at hf
  refine lv_aload_n hx hb dX0_helpsBoth_0 rfl (lv_at hl 1 rfl) ?_
  refine lv_iload_n hx hb dX0_helpsBoth_1 rfl (lv_at hl 2 rfl) ?_
  obtain ⟨r5, e6, hf⟩ := z_bd hf
  refine z_callV1 (As := [.int v2]) (rest := []) (bs' := [bX0 G q o S.2.2.1 S.2.2.2, bX2 G q (o + 3) S.1.1 S.1.2.1 S.1.2.2.1 S.1.2.2.2.1 S.1.2.2.2.2.1 S.1.2.2.2.2.2.1 S.1.2.2.2.2.2.2.1 S.1.2.2.2.2.2.2.2, bX4 G q (o + 9) S.2.1.1 S.2.1.2, bX2 G q1 o1 P1.1 P1.2.1 P1.2.2.1 P1.2.2.2.1 P1.2.2.2.2.1 P1.2.2.2.2.2.1 P1.2.2.2.2.2.2.1 P1.2.2.2.2.2.2.2]) hS0 (c_X2_keeperOf l G q1 o1 P1 v2 r5 e6) zc_X2_keeperOf rfl gX0_helpsBoth_X2_keeperOf ⟨Nat.le_of_ble_eq_true rfl, Nat.le_of_ble_eq_true rfl⟩ hK hA hw (is := [3]) rfl rfl rfl rfl rfl rfl rfl hl.1 rfl (Nat.le_of_ble_eq_true rfl) dX0_helpsBoth_2 (fun H locs hw => ?_)
  refine lv_istore (lv' := [(4, .int r5), (0, .ref (q (o + 0))), (1, .ref (q1 (o1 + 0))), (2, .int v2), (3, .int v3)]) hx hb dX0_helpsBoth_5 hl (by decide) rfl (fun ls hl => ?_)
  refine lv_aload_n hx hb dX0_helpsBoth_7 rfl (lv_at hl 2 rfl) ?_
  refine lv_iload_n hx hb dX0_helpsBoth_8 rfl (lv_at hl 4 rfl) ?_
  obtain ⟨r7, e8, hf⟩ := z_bd hf
  refine z_callV1 (As := [.int v3]) (rest := []) (bs' := [bX0 G q o S.2.2.1 S.2.2.2, bX2 G q (o + 3) S.1.1 S.1.2.1 S.1.2.2.1 S.1.2.2.2.1 S.1.2.2.2.2.1 S.1.2.2.2.2.2.1 S.1.2.2.2.2.2.2.1 S.1.2.2.2.2.2.2.2, bX4 G q (o + 9) S.2.1.1 S.2.1.2, bX2 G q1 o1 P1.1 P1.2.1 P1.2.2.1 P1.2.2.2.1 P1.2.2.2.2.1 P1.2.2.2.2.2.1 P1.2.2.2.2.2.2.1 P1.2.2.2.2.2.2.2]) hS0 (c_X2_keeperOf l G q1 o1 P1 v3 r7 e8) zc_X2_keeperOf rfl gX0_helpsBoth_X2_keeperOf ⟨Nat.le_of_ble_eq_true rfl, Nat.le_of_ble_eq_true rfl⟩ hK hA hw (is := [3]) rfl rfl rfl rfl rfl rfl rfl hl.1 rfl (Nat.le_of_ble_eq_true rfl) dX0_helpsBoth_9 (fun H locs hw => ?_)
  refine lv_istore (lv' := [(5, .int r7), (4, .int r5), (0, .ref (q (o + 0))), (1, .ref (q1 (o1 + 0))), (2, .int v2), (3, .int v3)]) hx hb dX0_helpsBoth_12 hl (by decide) rfl (fun ls hl => ?_)
  refine lv_aload_n hx hb dX0_helpsBoth_14 rfl (lv_at hl 3 rfl) ?_
  refine lv_iload_n hx hb dX0_helpsBoth_15 rfl (lv_at hl 4 rfl) ?_
  refine lv_iload hx hb dX0_helpsBoth_16 (lv_at hl 0 rfl) ?_
  obtain ⟨r9, e10, hf⟩ := z_bd hf
  refine z_callV0 (As := [.int v2, .int r7]) (rest := []) (bs' := [bX0 G q o S.2.2.1 S.2.2.2, bX2 G q (o + 3) S.1.1 S.1.2.1 S.1.2.2.1 S.1.2.2.2.1 S.1.2.2.2.2.1 S.1.2.2.2.2.2.1 S.1.2.2.2.2.2.2.1 S.1.2.2.2.2.2.2.2, bX4 G q (o + 9) S.2.1.1 S.2.1.2, bX2 G q1 o1 r9.1 r9.2.1 r9.2.2.1 r9.2.2.2.1 r9.2.2.2.2.1 r9.2.2.2.2.2.1 r9.2.2.2.2.2.2.1 r9.2.2.2.2.2.2.2]) hS0 (c_X2_setKeeper l G q1 o1 P1 v2 r7 r9 e10) zc_X2_setKeeper rfl gX0_helpsBoth_X2_setKeeper ⟨Nat.le_of_ble_eq_true rfl, Nat.le_of_ble_eq_true rfl⟩ hK hA hw (is := [3]) rfl rfl rfl rfl rfl rfl rfl hl.1 rfl (Nat.le_of_ble_eq_true rfl) dX0_helpsBoth_18 (fun H locs hw => ?_)
  refine lv_aload_n hx hb dX0_helpsBoth_21 rfl (lv_at hl 3 rfl) ?_
  refine lv_iload_n hx hb dX0_helpsBoth_22 rfl (lv_at hl 5 rfl) ?_
  refine lv_iload hx hb dX0_helpsBoth_23 (lv_at hl 1 rfl) ?_
  obtain ⟨r11, e12, hf⟩ := z_bd hf
  refine z_callV0 (As := [.int v3, .int r5]) (rest := []) (bs' := [bX0 G q o S.2.2.1 S.2.2.2, bX2 G q (o + 3) S.1.1 S.1.2.1 S.1.2.2.1 S.1.2.2.2.1 S.1.2.2.2.2.1 S.1.2.2.2.2.2.1 S.1.2.2.2.2.2.2.1 S.1.2.2.2.2.2.2.2, bX4 G q (o + 9) S.2.1.1 S.2.1.2, bX2 G q1 o1 r11.1 r11.2.1 r11.2.2.1 r11.2.2.2.1 r11.2.2.2.2.1 r11.2.2.2.2.2.1 r11.2.2.2.2.2.2.1 r11.2.2.2.2.2.2.2]) hS0 (c_X2_setKeeper l G q1 o1 r9 v3 r5 r11 e12) zc_X2_setKeeper rfl gX0_helpsBoth_X2_setKeeper ⟨Nat.le_of_ble_eq_true rfl, Nat.le_of_ble_eq_true rfl⟩ hK hA hw (is := [3]) rfl rfl rfl rfl rfl rfl rfl hl.1 rfl (Nat.le_of_ble_eq_true rfl) dX0_helpsBoth_25 (fun H locs hw => ?_)
  refine lv_aload_n hx hb dX0_helpsBoth_28 rfl (lv_at hl 2 rfl) ?_
  refine z_get hS0 in_X0_helpsBoth_X0 hK hw 0 1 rfl rfl rfl (by decide) (hts _ m_X0_helpsBoth_0) (v := .ref (q ((o + 9) + 0))) rfl dX0_helpsBoth_29 ?_
  refine lv_aload_n hx hb dX0_helpsBoth_32 rfl (lv_at hl 3 rfl) ?_
  refine lv_aload_n hx hb dX0_helpsBoth_33 rfl (lv_at hl 3 rfl) ?_
  obtain ⟨r13, e14, hf⟩ := z_bd hf
  refine z_callV1 (As := []) (rest := [.ref (q1 (o1 + 0)), .ref (q ((o + 9) + 0))]) (bs' := [bX0 G q o S.2.2.1 S.2.2.2, bX2 G q (o + 3) S.1.1 S.1.2.1 S.1.2.2.1 S.1.2.2.2.1 S.1.2.2.2.2.1 S.1.2.2.2.2.2.1 S.1.2.2.2.2.2.2.1 S.1.2.2.2.2.2.2.2, bX4 G q (o + 9) S.2.1.1 S.2.1.2, bX2 G q1 o1 r11.1 r11.2.1 r11.2.2.1 r11.2.2.2.1 r11.2.2.2.2.1 r11.2.2.2.2.2.1 r11.2.2.2.2.2.2.1 r11.2.2.2.2.2.2.2]) hS0 (c_X2_everyone l G q1 o1 r11 r13 e14) zc_X2_everyone rfl gX0_helpsBoth_X2_everyone ⟨Nat.le_of_ble_eq_true rfl, Nat.le_of_ble_eq_true rfl⟩ hK hA hw (is := [3]) rfl rfl rfl rfl rfl rfl rfl hl.1 rfl (Nat.le_of_ble_eq_true rfl) dX0_helpsBoth_34 (fun H locs hw => ?_)
  obtain ⟨r15, e16, hf⟩ := z_bd hf
  refine z_callV0 (As := [.ref (q1 (o1 + 0)), .int r13]) (rest := []) (bs' := [bX0 G q o S.2.2.1 S.2.2.2, bX2 G q (o + 3) S.1.1 S.1.2.1 S.1.2.2.1 S.1.2.2.2.1 S.1.2.2.2.2.1 S.1.2.2.2.2.2.1 S.1.2.2.2.2.2.2.1 S.1.2.2.2.2.2.2.2, bX4 G q (o + 9) r15.1 r15.2, bX2 G q1 o1 r11.1 r11.2.1 r11.2.2.1 r11.2.2.2.1 r11.2.2.2.2.1 r11.2.2.2.2.2.1 r11.2.2.2.2.2.2.1 r11.2.2.2.2.2.2.2]) hS0 (c_X4_fill l G q (o + 9) q1 o1 S.2.1 r11 r13 r15 e16) zc_X4_fill rfl gX0_helpsBoth_X4_fill ⟨Nat.le_of_ble_eq_true rfl, Nat.le_of_ble_eq_true rfl⟩ hK hA hw (is := [2, 3]) rfl rfl rfl rfl rfl rfl rfl hl.1 rfl (Nat.le_of_ble_eq_true rfl) dX0_helpsBoth_37 (fun H locs hw => ?_)
  refine lv_aload_n hx hb dX0_helpsBoth_40 rfl (lv_at hl 2 rfl) ?_
  refine lv_iload hx hb dX0_helpsBoth_41 (lv_at hl 1 rfl) ?_
  obtain ⟨r17, e18, hf⟩ := z_bd hf
  refine z_callV1 (As := [.int r5]) (rest := []) (bs' := [bX0 G q o S.2.2.1 S.2.2.2, bX2 G q (o + 3) S.1.1 S.1.2.1 S.1.2.2.1 S.1.2.2.2.1 S.1.2.2.2.2.1 S.1.2.2.2.2.2.1 S.1.2.2.2.2.2.2.1 S.1.2.2.2.2.2.2.2, bX4 G q (o + 9) r15.1 r15.2, bX2 G q1 o1 r11.1 r11.2.1 r11.2.2.1 r11.2.2.2.1 r11.2.2.2.2.1 r11.2.2.2.2.2.1 r11.2.2.2.2.2.2.1 r11.2.2.2.2.2.2.2]) hS0 (c_X0_wouldTrade l G q o (S.1, r15, S.2.2.1, S.2.2.2) r5 r17 e18) zc_X0_wouldTrade rfl gX0_helpsBoth_X0_wouldTrade ⟨Nat.le_of_ble_eq_true rfl, Nat.le_of_ble_eq_true rfl⟩ hK hA hw (is := [0, 1, 2]) rfl rfl rfl rfl rfl rfl rfl hl.1 rfl (Nat.le_of_ble_eq_true rfl) dX0_helpsBoth_43 (fun H locs hw => ?_)
  refine lv_if_eq (tgt := 60) hx hb dX0_helpsBoth_46 rfl (fun hc => ?_) (fun hc => ?_)
  · have hf := z_t hc hf
    exact k_X0_helpsBoth_60 hZ _ _ _ _ _ _ _ _ _ _ hf hw (lv_sub hl [3, 4, 5, 1, 0] rfl)
  · have hf := z_f hc hf
    refine lv_aload_n hx hb dX0_helpsBoth_49 rfl (lv_at hl 2 rfl) ?_
    refine lv_iload hx hb dX0_helpsBoth_50 (lv_at hl 0 rfl) ?_
    obtain ⟨r19, e20, hf⟩ := z_bd hf
    refine z_callV1 (As := [.int r7]) (rest := []) (bs' := [bX0 G q o S.2.2.1 S.2.2.2, bX2 G q (o + 3) S.1.1 S.1.2.1 S.1.2.2.1 S.1.2.2.2.1 S.1.2.2.2.2.1 S.1.2.2.2.2.2.1 S.1.2.2.2.2.2.2.1 S.1.2.2.2.2.2.2.2, bX4 G q (o + 9) r15.1 r15.2, bX2 G q1 o1 r11.1 r11.2.1 r11.2.2.1 r11.2.2.2.1 r11.2.2.2.2.1 r11.2.2.2.2.2.1 r11.2.2.2.2.2.2.1 r11.2.2.2.2.2.2.2]) hS0 (c_X0_wouldTrade l G q o (S.1, r15, S.2.2.1, S.2.2.2) r7 r19 e20) zc_X0_wouldTrade rfl gX0_helpsBoth_X0_wouldTrade ⟨Nat.le_of_ble_eq_true rfl, Nat.le_of_ble_eq_true rfl⟩ hK hA hw (is := [0, 1, 2]) rfl rfl rfl rfl rfl rfl rfl hl.1 rfl (Nat.le_of_ble_eq_true rfl) dX0_helpsBoth_52 (fun H locs hw => ?_)
    refine lv_if_eq (tgt := 60) hx hb dX0_helpsBoth_55 rfl (fun hc => ?_) (fun hc => ?_)
    · have hf := z_t hc hf
      exact k_X0_helpsBoth_60 hZ _ _ _ _ _ _ _ _ _ _ hf hw (lv_sub hl [3, 4, 5, 1, 0] rfl)
    · have hf := z_f hc hf
      refine lv_iconst (v := 1) hx hb dX0_helpsBoth_58 rfl ?_
      cases hf
      exact z_zret hx hb hr rfl hlk hw dX0_helpsBoth_59
theorem zc_X0_mayTrade : zC yX0_mayTrade wsX0_mayTrade cX0_mayTrade 6 (some .boolean) 3 := ⟨⟨_, rfl⟩, by decide +kernel, by decide +kernel, by decide +kernel, by decide +kernel⟩
set_option maxHeartbeats 4000000 in
set_option maxRecDepth 100000 in
theorem c_X0_mayTrade (l : Launch) (G : zG) (q : Nat → Nat) (o : Nat) (q1 : Nat → Nat) (o1 : Nat) (S : VX0) (P1 : VX2) (v2 : Int32) (v3 : Int32) (y : Int32) (hf : f_X0_mayTrade S P1 v2 v3 = some y) : zMet l yX0_mayTrade wsX0_mayTrade 2 43 G [.ref (q (o + 0)), .ref (q1 (o1 + 0)), .int v2, .int v3] [bX0 G q o S.2.2.1 S.2.2.2, bX2 G q (o + 3) S.1.1 S.1.2.1 S.1.2.2.1 S.1.2.2.2.1 S.1.2.2.2.2.1 S.1.2.2.2.2.2.1 S.1.2.2.2.2.2.2.1 S.1.2.2.2.2.2.2.2, bX4 G q (o + 9) S.2.1.1 S.2.1.2, bX2 G q1 o1 P1.1 P1.2.1 P1.2.2.1 P1.2.2.2.1 P1.2.2.2.2.1 P1.2.2.2.2.2.1 P1.2.2.2.2.2.2.1 P1.2.2.2.2.2.2.2] (some (.int y)) [bX0 G q o S.2.2.1 S.2.2.2, bX2 G q (o + 3) S.1.1 S.1.2.1 S.1.2.2.1 S.1.2.2.2.1 S.1.2.2.2.2.1 S.1.2.2.2.2.2.1 S.1.2.2.2.2.2.2.1 S.1.2.2.2.2.2.2.2, bX4 G q (o + 9) S.2.1.1 S.2.1.2, bX2 G q1 o1 P1.1 P1.2.1 P1.2.2.1 P1.2.2.2.1 P1.2.2.2.2.1 P1.2.2.2.2.2.1 P1.2.2.2.2.2.2.1 P1.2.2.2.2.2.2.2] := by
  refine z_met zc_X0_mayTrade (Nat.le_of_ble_eq_true rfl) ?_
  intro p e s m below meth c A ls hZ hl hw
  have hl : lv_has ls 6 [(0, .ref (q (o + 0))), (1, .ref (q1 (o1 + 0))), (2, .int v2), (3, .int v3)] := hl
  obtain ⟨hS0, hr, hlk, hK, hA⟩ := id hZ
  have hx := hS0.1
  have hb := hS0.2.1
  have hml := hS0.2.2.1
  have hown : s.vm.findClass RX0 = some m.cls := hS0.2.2.2.1
  have hts := hS0.2.2.2.2
  unfold f_X0_mayTrade at hf
  refine lv_aload_n hx hb dX0_mayTrade_0 rfl (lv_at hl 1 rfl) ?_
  refine lv_iload_n hx hb dX0_mayTrade_1 rfl (lv_at hl 2 rfl) ?_
  obtain ⟨r1, e2, hf⟩ := z_bd hf
  refine z_callV1 (As := [.int v2]) (rest := []) (bs' := [bX0 G q o S.2.2.1 S.2.2.2, bX2 G q (o + 3) S.1.1 S.1.2.1 S.1.2.2.1 S.1.2.2.2.1 S.1.2.2.2.2.1 S.1.2.2.2.2.2.1 S.1.2.2.2.2.2.2.1 S.1.2.2.2.2.2.2.2, bX4 G q (o + 9) S.2.1.1 S.2.1.2, bX2 G q1 o1 P1.1 P1.2.1 P1.2.2.1 P1.2.2.2.1 P1.2.2.2.2.1 P1.2.2.2.2.2.1 P1.2.2.2.2.2.2.1 P1.2.2.2.2.2.2.2]) hS0 (c_X2_keeperOf l G q1 o1 P1 v2 r1 e2) zc_X2_keeperOf rfl gX0_mayTrade_X2_keeperOf ⟨Nat.le_of_ble_eq_true rfl, Nat.le_of_ble_eq_true rfl⟩ hK hA hw (is := [3]) rfl rfl rfl rfl rfl rfl rfl hl.1 rfl (Nat.le_of_ble_eq_true rfl) dX0_mayTrade_2 (fun H locs hw => ?_)
  refine lv_istore (lv' := [(4, .int r1), (0, .ref (q (o + 0))), (1, .ref (q1 (o1 + 0))), (2, .int v2), (3, .int v3)]) hx hb dX0_mayTrade_5 hl (by decide) rfl (fun ls hl => ?_)
  refine lv_aload_n hx hb dX0_mayTrade_7 rfl (lv_at hl 2 rfl) ?_
  refine lv_iload_n hx hb dX0_mayTrade_8 rfl (lv_at hl 4 rfl) ?_
  obtain ⟨r3, e4, hf⟩ := z_bd hf
  refine z_callV1 (As := [.int v3]) (rest := []) (bs' := [bX0 G q o S.2.2.1 S.2.2.2, bX2 G q (o + 3) S.1.1 S.1.2.1 S.1.2.2.1 S.1.2.2.2.1 S.1.2.2.2.2.1 S.1.2.2.2.2.2.1 S.1.2.2.2.2.2.2.1 S.1.2.2.2.2.2.2.2, bX4 G q (o + 9) S.2.1.1 S.2.1.2, bX2 G q1 o1 P1.1 P1.2.1 P1.2.2.1 P1.2.2.2.1 P1.2.2.2.2.1 P1.2.2.2.2.2.1 P1.2.2.2.2.2.2.1 P1.2.2.2.2.2.2.2]) hS0 (c_X2_keeperOf l G q1 o1 P1 v3 r3 e4) zc_X2_keeperOf rfl gX0_mayTrade_X2_keeperOf ⟨Nat.le_of_ble_eq_true rfl, Nat.le_of_ble_eq_true rfl⟩ hK hA hw (is := [3]) rfl rfl rfl rfl rfl rfl rfl hl.1 rfl (Nat.le_of_ble_eq_true rfl) dX0_mayTrade_9 (fun H locs hw => ?_)
  refine lv_istore (lv' := [(5, .int r3), (4, .int r1), (0, .ref (q (o + 0))), (1, .ref (q1 (o1 + 0))), (2, .int v2), (3, .int v3)]) hx hb dX0_mayTrade_12 hl (by decide) rfl (fun ls hl => ?_)
  refine lv_iload hx hb dX0_mayTrade_14 (lv_at hl 1 rfl) ?_
  refine lv_iload hx hb dX0_mayTrade_16 (lv_at hl 0 rfl) ?_
  refine lv_icmp_eq (tgt := 45) hx hb dX0_mayTrade_18 rfl (fun hc => ?_) (fun hc => ?_)
  · have hf := z_t hc hf
    refine lv_iconst (v := 0) hx hb dX0_mayTrade_45 rfl ?_
    cases hf
    exact z_zret hx hb hr rfl hlk hw dX0_mayTrade_46
  · have hf := z_f hc hf
    refine lv_aload_n hx hb dX0_mayTrade_21 rfl (lv_at hl 3 rfl) ?_
    refine lv_iload_n hx hb dX0_mayTrade_22 rfl (lv_at hl 4 rfl) ?_
    refine lv_iload hx hb dX0_mayTrade_23 (lv_at hl 0 rfl) ?_
    obtain ⟨r5, e6, hf⟩ := z_bd hf
    refine z_callV1 (As := [.int v2, .int r3]) (rest := []) (bs' := [bX0 G q o S.2.2.1 S.2.2.2, bX2 G q (o + 3) S.1.1 S.1.2.1 S.1.2.2.1 S.1.2.2.2.1 S.1.2.2.2.2.1 S.1.2.2.2.2.2.1 S.1.2.2.2.2.2.2.1 S.1.2.2.2.2.2.2.2, bX4 G q (o + 9) S.2.1.1 S.2.1.2, bX2 G q1 o1 P1.1 P1.2.1 P1.2.2.1 P1.2.2.2.1 P1.2.2.2.2.1 P1.2.2.2.2.2.1 P1.2.2.2.2.2.2.1 P1.2.2.2.2.2.2.2]) hS0 (c_X2_mayKeep l G q1 o1 P1 v2 r3 r5 e6) zc_X2_mayKeep rfl gX0_mayTrade_X2_mayKeep ⟨Nat.le_of_ble_eq_true rfl, Nat.le_of_ble_eq_true rfl⟩ hK hA hw (is := [3]) rfl rfl rfl rfl rfl rfl rfl hl.1 rfl (Nat.le_of_ble_eq_true rfl) dX0_mayTrade_25 (fun H locs hw => ?_)
    refine lv_if_eq (tgt := 45) hx hb dX0_mayTrade_28 rfl (fun hc => ?_) (fun hc => ?_)
    · have hf := z_t hc hf
      refine lv_iconst (v := 0) hx hb dX0_mayTrade_45 rfl ?_
      cases hf
      exact z_zret hx hb hr rfl hlk hw dX0_mayTrade_46
    · have hf := z_f hc hf
      refine lv_aload_n hx hb dX0_mayTrade_31 rfl (lv_at hl 3 rfl) ?_
      refine lv_iload_n hx hb dX0_mayTrade_32 rfl (lv_at hl 5 rfl) ?_
      refine lv_iload hx hb dX0_mayTrade_33 (lv_at hl 1 rfl) ?_
      obtain ⟨r7, e8, hf⟩ := z_bd hf
      refine z_callV1 (As := [.int v3, .int r1]) (rest := []) (bs' := [bX0 G q o S.2.2.1 S.2.2.2, bX2 G q (o + 3) S.1.1 S.1.2.1 S.1.2.2.1 S.1.2.2.2.1 S.1.2.2.2.2.1 S.1.2.2.2.2.2.1 S.1.2.2.2.2.2.2.1 S.1.2.2.2.2.2.2.2, bX4 G q (o + 9) S.2.1.1 S.2.1.2, bX2 G q1 o1 P1.1 P1.2.1 P1.2.2.1 P1.2.2.2.1 P1.2.2.2.2.1 P1.2.2.2.2.2.1 P1.2.2.2.2.2.2.1 P1.2.2.2.2.2.2.2]) hS0 (c_X2_mayKeep l G q1 o1 P1 v3 r1 r7 e8) zc_X2_mayKeep rfl gX0_mayTrade_X2_mayKeep ⟨Nat.le_of_ble_eq_true rfl, Nat.le_of_ble_eq_true rfl⟩ hK hA hw (is := [3]) rfl rfl rfl rfl rfl rfl rfl hl.1 rfl (Nat.le_of_ble_eq_true rfl) dX0_mayTrade_35 (fun H locs hw => ?_)
      refine lv_if_eq (tgt := 45) hx hb dX0_mayTrade_38 rfl (fun hc => ?_) (fun hc => ?_)
      · have hf := z_t hc hf
        refine lv_iconst (v := 0) hx hb dX0_mayTrade_45 rfl ?_
        cases hf
        exact z_zret hx hb hr rfl hlk hw dX0_mayTrade_46
      · have hf := z_f hc hf
        refine lv_iconst (v := 1) hx hb dX0_mayTrade_41 rfl ?_
        refine lv_goto (tgt := 46) hx hb dX0_mayTrade_42 rfl ?_
        cases hf
        exact z_zret hx hb hr rfl hlk hw dX0_mayTrade_46
theorem zc_X0_tradeOnce : zC yX0_tradeOnce wsX0_tradeOnce cX0_tradeOnce 4 (some .boolean) 1 := ⟨⟨_, rfl⟩, by decide +kernel, by decide +kernel, by decide +kernel, by decide +kernel⟩
theorem m_X0_tradeOnce_0 : (.fieldLink RX0 29 "CellKeys$Dealer" "wanted" "[I" : Cond) ∈ wsX0_tradeOnce := by decide +kernel
theorem in_X0_tradeOnce_X0 : ∀ w ∈ u_ws RX0 TX0 4, w ∈ wsX0_tradeOnce := by decide +kernel
theorem m_X0_tradeOnce_1 : (.fieldLink RX0 21 "CellKeys$Dealer" "reach" "LCellKeys$Reach;" : Cond) ∈ wsX0_tradeOnce := by decide +kernel
set_option maxHeartbeats 4000000 in
set_option maxRecDepth 100000 in
theorem k_X0_tradeOnce_51 {p : Program} {l : Launch} {e : Env} {s : State} {m : MethodId} {args : Array Value} {below : List Frame} {meth : Method} {c : Code} {A : Nat → Prop} {G : zG} {q : Nat → Nat} {o : Nat} {q1 : Nat → Nat} {o1 : Nat} {r_39 : VX0 → VX2 → Int32 → Option (Int32 × VX0 × VX2)} (hZ : zZ p s m args meth c A G cX0_tradeOnce 4 RX0 wsX0_tradeOnce (some .boolean)) (y : Int32 × VX0 × VX2) (h_39 : ∀ (S : VX0) (P1 : VX2) (v2 : Int32) (H : Heap) (locs : List Loc) (ls : Array Slot), r_39 S P1 v2 = some y → zH G A s.heap [bX0 G q o S.2.2.1 S.2.2.2, bX2 G q (o + 3) S.1.1 S.1.2.1 S.1.2.2.1 S.1.2.2.2.1 S.1.2.2.2.2.1 S.1.2.2.2.2.2.1 S.1.2.2.2.2.2.2.1 S.1.2.2.2.2.2.2.2, bX4 G q (o + 9) S.2.1.1 S.2.1.2, bX2 G q1 o1 P1.1 P1.2.1 P1.2.2.1 P1.2.2.2.1 P1.2.2.2.2.1 P1.2.2.2.2.2.1 P1.2.2.2.2.2.2.1 P1.2.2.2.2.2.2.2] H locs → lv_has ls 4 [(0, .ref (q (o + 0))), (1, .ref (q1 (o1 + 0))), (2, .int v2)] → W p l e { frames := 5, cells := 0, slots := 0, locals := 132 } s m args below meth c H locs 0 0 (MQ below (zQ (some (.int y.1)) (zPost G [bX0 G q o y.2.1.2.2.1 y.2.1.2.2.2, bX2 G q (o + 3) y.2.1.1.1 y.2.1.1.2.1 y.2.1.1.2.2.1 y.2.1.1.2.2.2.1 y.2.1.1.2.2.2.2.1 y.2.1.1.2.2.2.2.2.1 y.2.1.1.2.2.2.2.2.2.1 y.2.1.1.2.2.2.2.2.2.2, bX4 G q (o + 9) y.2.1.2.1.1 y.2.1.2.1.2, bX2 G q1 o1 y.2.2.1 y.2.2.2.1 y.2.2.2.2.1 y.2.2.2.2.2.1 y.2.2.2.2.2.2.1 y.2.2.2.2.2.2.2.1 y.2.2.2.2.2.2.2.2.1 y.2.2.2.2.2.2.2.2.2]) A) args s 0 0 A) (F0 m 39 ls [])) (n : Nat) : ∀ (S : VX0) (P1 : VX2) (v2 : Int32) (v3 : Int32) (H : Heap) (locs : List Loc) (ls : Array Slot), f_X0_tradeOnce_51 r_39 n S P1 v2 v3 = some y → zH G A s.heap [bX0 G q o S.2.2.1 S.2.2.2, bX2 G q (o + 3) S.1.1 S.1.2.1 S.1.2.2.1 S.1.2.2.2.1 S.1.2.2.2.2.1 S.1.2.2.2.2.2.1 S.1.2.2.2.2.2.2.1 S.1.2.2.2.2.2.2.2, bX4 G q (o + 9) S.2.1.1 S.2.1.2, bX2 G q1 o1 P1.1 P1.2.1 P1.2.2.1 P1.2.2.2.1 P1.2.2.2.2.1 P1.2.2.2.2.2.1 P1.2.2.2.2.2.2.1 P1.2.2.2.2.2.2.2] H locs → lv_has ls 4 [(0, .ref (q (o + 0))), (1, .ref (q1 (o1 + 0))), (2, .int v2), (3, .int v3)] → W p l e { frames := 5, cells := 0, slots := 0, locals := 132 } s m args below meth c H locs 0 0 (MQ below (zQ (some (.int y.1)) (zPost G [bX0 G q o y.2.1.2.2.1 y.2.1.2.2.2, bX2 G q (o + 3) y.2.1.1.1 y.2.1.1.2.1 y.2.1.1.2.2.1 y.2.1.1.2.2.2.1 y.2.1.1.2.2.2.2.1 y.2.1.1.2.2.2.2.2.1 y.2.1.1.2.2.2.2.2.2.1 y.2.1.1.2.2.2.2.2.2.2, bX4 G q (o + 9) y.2.1.2.1.1 y.2.1.2.1.2, bX2 G q1 o1 y.2.2.1 y.2.2.2.1 y.2.2.2.2.1 y.2.2.2.2.2.1 y.2.2.2.2.2.2.1 y.2.2.2.2.2.2.2.1 y.2.2.2.2.2.2.2.2.1 y.2.2.2.2.2.2.2.2.2]) A) args s 0 0 A) (F0 m 51 ls []) := by
  obtain ⟨hS0, hr, hlk, hK, hA⟩ := id hZ
  have hx := hS0.1
  have hb := hS0.2.1
  have hml := hS0.2.2.1
  have hown : s.vm.findClass RX0 = some m.cls := hS0.2.2.2.1
  have hts := hS0.2.2.2.2
  induction n with
  | zero =>
    intro S P1 v2 v3 H locs ls hf hw hl
    unfold f_X0_tradeOnce_51 at hf
    cases hf
  | succ n ih =>
    intro S P1 v2 v3 H locs ls hf hw hl
    unfold f_X0_tradeOnce_51 at hf
    refine lv_iload_n hx hb dX0_tradeOnce_51 rfl (lv_at hl 3 rfl) ?_
    refine lv_aload_n hx hb dX0_tradeOnce_52 rfl (lv_at hl 1 rfl) ?_
    obtain ⟨r1, e2, hf⟩ := z_bd hf
    refine z_callV1 (As := []) (rest := [.int v3]) (bs' := [bX0 G q o S.2.2.1 S.2.2.2, bX2 G q (o + 3) S.1.1 S.1.2.1 S.1.2.2.1 S.1.2.2.2.1 S.1.2.2.2.2.1 S.1.2.2.2.2.2.1 S.1.2.2.2.2.2.2.1 S.1.2.2.2.2.2.2.2, bX4 G q (o + 9) S.2.1.1 S.2.1.2, bX2 G q1 o1 P1.1 P1.2.1 P1.2.2.1 P1.2.2.2.1 P1.2.2.2.2.1 P1.2.2.2.2.2.1 P1.2.2.2.2.2.2.1 P1.2.2.2.2.2.2.2]) hS0 (c_X2_cells l G q1 o1 P1 r1 e2) zc_X2_cells rfl gX0_tradeOnce_X2_cells ⟨Nat.le_of_ble_eq_true rfl, Nat.le_of_ble_eq_true rfl⟩ hK hA hw (is := [3]) rfl rfl rfl rfl rfl rfl rfl hl.1 rfl (Nat.le_of_ble_eq_true rfl) dX0_tradeOnce_53 (fun H locs hw => ?_)
    refine lv_icmp_ge (tgt := 87) hx hb dX0_tradeOnce_56 rfl (fun hc => ?_) (fun hc => ?_)
    · have hf := z_t hc hf
      refine lv_iinc (v := (v2 + 1)) (lv' := [(2, .int (v2 + 1)), (0, .ref (q (o + 0))), (1, .ref (q1 (o1 + 0))), (3, .int v3)]) hx hb dX0_tradeOnce_87 hl (k := 2) rfl rfl (by decide) rfl (fun ls hl => ?_)
      refine lv_goto (tgt := 39) hx hb dX0_tradeOnce_90 rfl ?_
      exact h_39 _ _ _ _ _ _ hf hw (lv_sub hl [1, 2, 0] rfl)
    · have hf := z_f hc hf
      refine lv_aload_n hx hb dX0_tradeOnce_59 rfl (lv_at hl 0 rfl) ?_
      refine lv_aload_n hx hb dX0_tradeOnce_60 rfl (lv_at hl 1 rfl) ?_
      refine lv_iload_n hx hb dX0_tradeOnce_61 rfl (lv_at hl 2 rfl) ?_
      refine lv_iload_n hx hb dX0_tradeOnce_62 rfl (lv_at hl 3 rfl) ?_
      obtain ⟨r3, e4, hf⟩ := z_bd hf
      refine z_callV1 (As := [.ref (q1 (o1 + 0)), .int v2, .int v3]) (rest := []) (bs' := [bX0 G q o S.2.2.1 S.2.2.2, bX2 G q (o + 3) S.1.1 S.1.2.1 S.1.2.2.1 S.1.2.2.2.1 S.1.2.2.2.2.1 S.1.2.2.2.2.2.1 S.1.2.2.2.2.2.2.1 S.1.2.2.2.2.2.2.2, bX4 G q (o + 9) S.2.1.1 S.2.1.2, bX2 G q1 o1 P1.1 P1.2.1 P1.2.2.1 P1.2.2.2.1 P1.2.2.2.2.1 P1.2.2.2.2.2.1 P1.2.2.2.2.2.2.1 P1.2.2.2.2.2.2.2]) hS0 (c_X0_mayTrade l G q o q1 o1 S P1 v2 v3 r3 e4) zc_X0_mayTrade rfl gX0_tradeOnce_X0_mayTrade ⟨Nat.le_of_ble_eq_true rfl, Nat.le_of_ble_eq_true rfl⟩ hK hA hw (is := [0, 1, 2, 3]) rfl rfl rfl rfl rfl rfl rfl hl.1 rfl (Nat.le_of_ble_eq_true rfl) dX0_tradeOnce_63 (fun H locs hw => ?_)
      refine lv_if_eq (tgt := 81) hx hb dX0_tradeOnce_66 rfl (fun hc => ?_) (fun hc => ?_)
      · have hf := z_t hc hf
        refine lv_iinc (v := (v3 + 1)) (lv' := [(3, .int (v3 + 1)), (0, .ref (q (o + 0))), (1, .ref (q1 (o1 + 0))), (2, .int v2)]) hx hb dX0_tradeOnce_81 hl (k := 3) rfl rfl (by decide) rfl (fun ls hl => ?_)
        refine lv_goto (tgt := 51) hx hb dX0_tradeOnce_84 rfl ?_
        exact ih _ _ _ _ _ _ _ hf hw (lv_sub hl [1, 2, 3, 0] rfl)
      · have hf := z_f hc hf
        refine lv_aload_n hx hb dX0_tradeOnce_69 rfl (lv_at hl 0 rfl) ?_
        refine lv_aload_n hx hb dX0_tradeOnce_70 rfl (lv_at hl 1 rfl) ?_
        refine lv_iload_n hx hb dX0_tradeOnce_71 rfl (lv_at hl 2 rfl) ?_
        refine lv_iload_n hx hb dX0_tradeOnce_72 rfl (lv_at hl 3 rfl) ?_
        obtain ⟨r5, e6, hf⟩ := z_bd hf
        refine z_callV1 (As := [.ref (q1 (o1 + 0)), .int v2, .int v3]) (rest := []) (bs' := [bX0 G q o r5.2.1.2.2.1 r5.2.1.2.2.2, bX2 G q (o + 3) r5.2.1.1.1 r5.2.1.1.2.1 r5.2.1.1.2.2.1 r5.2.1.1.2.2.2.1 r5.2.1.1.2.2.2.2.1 r5.2.1.1.2.2.2.2.2.1 r5.2.1.1.2.2.2.2.2.2.1 r5.2.1.1.2.2.2.2.2.2.2, bX4 G q (o + 9) r5.2.1.2.1.1 r5.2.1.2.1.2, bX2 G q1 o1 r5.2.2.1 r5.2.2.2.1 r5.2.2.2.2.1 r5.2.2.2.2.2.1 r5.2.2.2.2.2.2.1 r5.2.2.2.2.2.2.2.1 r5.2.2.2.2.2.2.2.2.1 r5.2.2.2.2.2.2.2.2.2]) hS0 (c_X0_helpsBoth l G q o q1 o1 S P1 v2 v3 r5 e6) zc_X0_helpsBoth rfl gX0_tradeOnce_X0_helpsBoth ⟨Nat.le_of_ble_eq_true rfl, Nat.le_of_ble_eq_true rfl⟩ hK hA hw (is := [0, 1, 2, 3]) rfl rfl rfl rfl rfl rfl rfl hl.1 rfl (Nat.le_of_ble_eq_true rfl) dX0_tradeOnce_73 (fun H locs hw => ?_)
        refine lv_if_eq (tgt := 81) hx hb dX0_tradeOnce_76 rfl (fun hc => ?_) (fun hc => ?_)
        · have hf := z_t hc hf
          refine lv_iinc (v := (v3 + 1)) (lv' := [(3, .int (v3 + 1)), (0, .ref (q (o + 0))), (1, .ref (q1 (o1 + 0))), (2, .int v2)]) hx hb dX0_tradeOnce_81 hl (k := 3) rfl rfl (by decide) rfl (fun ls hl => ?_)
          refine lv_goto (tgt := 51) hx hb dX0_tradeOnce_84 rfl ?_
          exact ih _ _ _ _ _ _ _ hf hw (lv_sub hl [1, 2, 3, 0] rfl)
        · have hf := z_f hc hf
          refine lv_iconst (v := 1) hx hb dX0_tradeOnce_79 rfl ?_
          cases hf
          exact z_zret hx hb hr rfl hlk hw dX0_tradeOnce_80
set_option maxHeartbeats 4000000 in
set_option maxRecDepth 100000 in
theorem k_X0_tradeOnce_39 {p : Program} {l : Launch} {e : Env} {s : State} {m : MethodId} {args : Array Value} {below : List Frame} {meth : Method} {c : Code} {A : Nat → Prop} {G : zG} {q : Nat → Nat} {o : Nat} {q1 : Nat → Nat} {o1 : Nat}  (hZ : zZ p s m args meth c A G cX0_tradeOnce 4 RX0 wsX0_tradeOnce (some .boolean)) (y : Int32 × VX0 × VX2)  (n : Nat) : ∀ (S : VX0) (P1 : VX2) (v2 : Int32) (H : Heap) (locs : List Loc) (ls : Array Slot), f_X0_tradeOnce_39 n S P1 v2 = some y → zH G A s.heap [bX0 G q o S.2.2.1 S.2.2.2, bX2 G q (o + 3) S.1.1 S.1.2.1 S.1.2.2.1 S.1.2.2.2.1 S.1.2.2.2.2.1 S.1.2.2.2.2.2.1 S.1.2.2.2.2.2.2.1 S.1.2.2.2.2.2.2.2, bX4 G q (o + 9) S.2.1.1 S.2.1.2, bX2 G q1 o1 P1.1 P1.2.1 P1.2.2.1 P1.2.2.2.1 P1.2.2.2.2.1 P1.2.2.2.2.2.1 P1.2.2.2.2.2.2.1 P1.2.2.2.2.2.2.2] H locs → lv_has ls 4 [(0, .ref (q (o + 0))), (1, .ref (q1 (o1 + 0))), (2, .int v2)] → W p l e { frames := 5, cells := 0, slots := 0, locals := 132 } s m args below meth c H locs 0 0 (MQ below (zQ (some (.int y.1)) (zPost G [bX0 G q o y.2.1.2.2.1 y.2.1.2.2.2, bX2 G q (o + 3) y.2.1.1.1 y.2.1.1.2.1 y.2.1.1.2.2.1 y.2.1.1.2.2.2.1 y.2.1.1.2.2.2.2.1 y.2.1.1.2.2.2.2.2.1 y.2.1.1.2.2.2.2.2.2.1 y.2.1.1.2.2.2.2.2.2.2, bX4 G q (o + 9) y.2.1.2.1.1 y.2.1.2.1.2, bX2 G q1 o1 y.2.2.1 y.2.2.2.1 y.2.2.2.2.1 y.2.2.2.2.2.1 y.2.2.2.2.2.2.1 y.2.2.2.2.2.2.2.1 y.2.2.2.2.2.2.2.2.1 y.2.2.2.2.2.2.2.2.2]) A) args s 0 0 A) (F0 m 39 ls []) := by
  obtain ⟨hS0, hr, hlk, hK, hA⟩ := id hZ
  have hx := hS0.1
  have hb := hS0.2.1
  have hml := hS0.2.2.1
  have hown : s.vm.findClass RX0 = some m.cls := hS0.2.2.2.1
  have hts := hS0.2.2.2.2
  induction n with
  | zero =>
    intro S P1 v2 H locs ls hf hw hl
    unfold f_X0_tradeOnce_39 at hf
    cases hf
  | succ n ih =>
    intro S P1 v2 H locs ls hf hw hl
    unfold f_X0_tradeOnce_39 at hf
    refine lv_iload_n hx hb dX0_tradeOnce_39 rfl (lv_at hl 2 rfl) ?_
    refine lv_aload_n hx hb dX0_tradeOnce_40 rfl (lv_at hl 1 rfl) ?_
    obtain ⟨r7, e8, hf⟩ := z_bd hf
    refine z_callV1 (As := []) (rest := [.int v2]) (bs' := [bX0 G q o S.2.2.1 S.2.2.2, bX2 G q (o + 3) S.1.1 S.1.2.1 S.1.2.2.1 S.1.2.2.2.1 S.1.2.2.2.2.1 S.1.2.2.2.2.2.1 S.1.2.2.2.2.2.2.1 S.1.2.2.2.2.2.2.2, bX4 G q (o + 9) S.2.1.1 S.2.1.2, bX2 G q1 o1 P1.1 P1.2.1 P1.2.2.1 P1.2.2.2.1 P1.2.2.2.2.1 P1.2.2.2.2.2.1 P1.2.2.2.2.2.2.1 P1.2.2.2.2.2.2.2]) hS0 (c_X2_cells l G q1 o1 P1 r7 e8) zc_X2_cells rfl gX0_tradeOnce_X2_cells ⟨Nat.le_of_ble_eq_true rfl, Nat.le_of_ble_eq_true rfl⟩ hK hA hw (is := [3]) rfl rfl rfl rfl rfl rfl rfl hl.1 rfl (Nat.le_of_ble_eq_true rfl) dX0_tradeOnce_41 (fun H locs hw => ?_)
    refine lv_icmp_ge (tgt := 93) hx hb dX0_tradeOnce_44 rfl (fun hc => ?_) (fun hc => ?_)
    · have hf := z_t hc hf
      refine lv_iconst (v := 0) hx hb dX0_tradeOnce_93 rfl ?_
      cases hf
      exact z_zret hx hb hr rfl hlk hw dX0_tradeOnce_94
    · have hf := z_f hc hf
      refine lv_iload_n hx hb dX0_tradeOnce_47 rfl (lv_at hl 2 rfl) ?_
      refine lv_iconst (v := 1) hx hb dX0_tradeOnce_48 rfl ?_
      refine lv_iadd hx hb dX0_tradeOnce_49 ?_
      refine lv_istore_n (lv' := [(3, .int (v2 + (1 : Int32))), (0, .ref (q (o + 0))), (1, .ref (q1 (o1 + 0))), (2, .int v2)]) hx hb dX0_tradeOnce_50 rfl hl (by decide) rfl (fun ls hl => ?_)
      exact k_X0_tradeOnce_51 hZ _ ih 4096 _ _ _ _ _ _ _ hf hw (lv_sub hl [1, 2, 3, 0] rfl)
set_option maxHeartbeats 4000000 in
set_option maxRecDepth 100000 in
theorem k_X0_tradeOnce_14 {p : Program} {l : Launch} {e : Env} {s : State} {m : MethodId} {args : Array Value} {below : List Frame} {meth : Method} {c : Code} {A : Nat → Prop} {G : zG} {q : Nat → Nat} {o : Nat} {q1 : Nat → Nat} {o1 : Nat}  (hZ : zZ p s m args meth c A G cX0_tradeOnce 4 RX0 wsX0_tradeOnce (some .boolean)) (y : Int32 × VX0 × VX2)  (n : Nat) : ∀ (S : VX0) (P1 : VX2) (v2 : Int32) (H : Heap) (locs : List Loc) (ls : Array Slot), f_X0_tradeOnce_14 n S P1 v2 = some y → zH G A s.heap [bX0 G q o S.2.2.1 S.2.2.2, bX2 G q (o + 3) S.1.1 S.1.2.1 S.1.2.2.1 S.1.2.2.2.1 S.1.2.2.2.2.1 S.1.2.2.2.2.2.1 S.1.2.2.2.2.2.2.1 S.1.2.2.2.2.2.2.2, bX4 G q (o + 9) S.2.1.1 S.2.1.2, bX2 G q1 o1 P1.1 P1.2.1 P1.2.2.1 P1.2.2.2.1 P1.2.2.2.2.1 P1.2.2.2.2.2.1 P1.2.2.2.2.2.2.1 P1.2.2.2.2.2.2.2] H locs → lv_has ls 4 [(0, .ref (q (o + 0))), (1, .ref (q1 (o1 + 0))), (2, .int v2)] → W p l e { frames := 5, cells := 0, slots := 0, locals := 132 } s m args below meth c H locs 0 0 (MQ below (zQ (some (.int y.1)) (zPost G [bX0 G q o y.2.1.2.2.1 y.2.1.2.2.2, bX2 G q (o + 3) y.2.1.1.1 y.2.1.1.2.1 y.2.1.1.2.2.1 y.2.1.1.2.2.2.1 y.2.1.1.2.2.2.2.1 y.2.1.1.2.2.2.2.2.1 y.2.1.1.2.2.2.2.2.2.1 y.2.1.1.2.2.2.2.2.2.2, bX4 G q (o + 9) y.2.1.2.1.1 y.2.1.2.1.2, bX2 G q1 o1 y.2.2.1 y.2.2.2.1 y.2.2.2.2.1 y.2.2.2.2.2.1 y.2.2.2.2.2.2.1 y.2.2.2.2.2.2.2.1 y.2.2.2.2.2.2.2.2.1 y.2.2.2.2.2.2.2.2.2]) A) args s 0 0 A) (F0 m 14 ls []) := by
  obtain ⟨hS0, hr, hlk, hK, hA⟩ := id hZ
  have hx := hS0.1
  have hb := hS0.2.1
  have hml := hS0.2.2.1
  have hown : s.vm.findClass RX0 = some m.cls := hS0.2.2.2.1
  have hts := hS0.2.2.2.2
  induction n with
  | zero =>
    intro S P1 v2 H locs ls hf hw hl
    unfold f_X0_tradeOnce_14 at hf
    cases hf
  | succ n ih =>
    intro S P1 v2 H locs ls hf hw hl
    unfold f_X0_tradeOnce_14 at hf
    refine lv_iload_n hx hb dX0_tradeOnce_14 rfl (lv_at hl 2 rfl) ?_
    refine lv_bipush (v := 8) hx hb dX0_tradeOnce_15 rfl ?_
    refine lv_icmp_ge (tgt := 37) hx hb dX0_tradeOnce_17 rfl (fun hc => ?_) (fun hc => ?_)
    · have hf := z_t hc hf
      refine lv_iconst (v := 0) hx hb dX0_tradeOnce_37 rfl ?_
      refine lv_istore_n (lv' := [(2, .int 0), (0, .ref (q (o + 0))), (1, .ref (q1 (o1 + 0)))]) hx hb dX0_tradeOnce_38 rfl hl (by decide) rfl (fun ls hl => ?_)
      exact k_X0_tradeOnce_39 hZ _ 4096 _ _ _ _ _ _ hf hw (lv_sub hl [1, 2, 0] rfl)
    · have hf := z_f hc hf
      refine lv_aload_n hx hb dX0_tradeOnce_20 rfl (lv_at hl 0 rfl) ?_
      refine z_get hS0 in_X0_tradeOnce_X0 hK hw 0 3 rfl rfl rfl (by decide) (hts _ m_X0_tradeOnce_0) (v := .ref (q (o + 2))) rfl dX0_tradeOnce_21 ?_
      refine lv_iload_n hx hb dX0_tradeOnce_24 rfl (lv_at hl 2 rfl) ?_
      refine lv_aload_n hx hb dX0_tradeOnce_25 rfl (lv_at hl 0 rfl) ?_
      refine lv_iload_n hx hb dX0_tradeOnce_26 rfl (lv_at hl 2 rfl) ?_
      obtain ⟨r9, e10, hf⟩ := z_bd hf
      refine z_callV1 (As := [.int v2]) (rest := [.int v2, .ref (q (o + 2))]) (bs' := [bX0 G q o S.2.2.1 S.2.2.2, bX2 G q (o + 3) S.1.1 S.1.2.1 S.1.2.2.1 S.1.2.2.2.1 S.1.2.2.2.2.1 S.1.2.2.2.2.2.1 S.1.2.2.2.2.2.2.1 S.1.2.2.2.2.2.2.2, bX4 G q (o + 9) S.2.1.1 S.2.1.2, bX2 G q1 o1 P1.1 P1.2.1 P1.2.2.1 P1.2.2.2.1 P1.2.2.2.2.1 P1.2.2.2.2.2.1 P1.2.2.2.2.2.2.1 P1.2.2.2.2.2.2.2]) hS0 (c_X0_favoursOrNever l G q o S v2 r9 e10) zc_X0_favoursOrNever rfl gX0_tradeOnce_X0_favoursOrNever ⟨Nat.le_of_ble_eq_true rfl, Nat.le_of_ble_eq_true rfl⟩ hK hA hw (is := [0, 1, 2]) rfl rfl rfl rfl rfl rfl rfl hl.1 rfl (Nat.le_of_ble_eq_true rfl) dX0_tradeOnce_27 (fun H locs hw => ?_)
      obtain ⟨g11, hf⟩ := z_gd hf
      refine z_iast (blk' := bX0 G q o S.2.2.1 (upd S.2.2.2 v2.toNatClampNeg r9)) (bs' := [bX0 G q o S.2.2.1 (upd S.2.2.2 v2.toNatClampNeg r9), bX2 G q (o + 3) S.1.1 S.1.2.1 S.1.2.2.1 S.1.2.2.2.1 S.1.2.2.2.2.1 S.1.2.2.2.2.2.1 S.1.2.2.2.2.2.2.1 S.1.2.2.2.2.2.2.2, bX4 G q (o + 9) S.2.1.1 S.2.1.2, bX2 G q1 o1 P1.1 P1.2.1 P1.2.2.1 P1.2.2.2.1 P1.2.2.2.2.1 P1.2.2.2.2.2.1 P1.2.2.2.2.2.2.1 P1.2.2.2.2.2.2.2]) hS0 hK hw 0 2 (zIn_vp g11) rfl rfl dX0_tradeOnce_30 rfl rfl (fun H locs hw => ?_)
      refine lv_iinc (v := (v2 + 1)) (lv' := [(2, .int (v2 + 1)), (0, .ref (q (o + 0))), (1, .ref (q1 (o1 + 0)))]) hx hb dX0_tradeOnce_31 hl (k := 2) rfl rfl (by decide) rfl (fun ls hl => ?_)
      refine lv_goto (tgt := 14) hx hb dX0_tradeOnce_34 rfl ?_
      exact ih _ _ _ _ _ _ hf hw (lv_sub hl [1, 2, 0] rfl)
set_option maxHeartbeats 4000000 in
set_option maxRecDepth 100000 in
theorem c_X0_tradeOnce (l : Launch) (G : zG) (q : Nat → Nat) (o : Nat) (q1 : Nat → Nat) (o1 : Nat) (S : VX0) (P1 : VX2)  (y : Int32 × VX0 × VX2) (hf : f_X0_tradeOnce S P1 = some y) : zMet l yX0_tradeOnce wsX0_tradeOnce 5 132 G [.ref (q (o + 0)), .ref (q1 (o1 + 0))] [bX0 G q o S.2.2.1 S.2.2.2, bX2 G q (o + 3) S.1.1 S.1.2.1 S.1.2.2.1 S.1.2.2.2.1 S.1.2.2.2.2.1 S.1.2.2.2.2.2.1 S.1.2.2.2.2.2.2.1 S.1.2.2.2.2.2.2.2, bX4 G q (o + 9) S.2.1.1 S.2.1.2, bX2 G q1 o1 P1.1 P1.2.1 P1.2.2.1 P1.2.2.2.1 P1.2.2.2.2.1 P1.2.2.2.2.2.1 P1.2.2.2.2.2.2.1 P1.2.2.2.2.2.2.2] (some (.int y.1)) [bX0 G q o y.2.1.2.2.1 y.2.1.2.2.2, bX2 G q (o + 3) y.2.1.1.1 y.2.1.1.2.1 y.2.1.1.2.2.1 y.2.1.1.2.2.2.1 y.2.1.1.2.2.2.2.1 y.2.1.1.2.2.2.2.2.1 y.2.1.1.2.2.2.2.2.2.1 y.2.1.1.2.2.2.2.2.2.2, bX4 G q (o + 9) y.2.1.2.1.1 y.2.1.2.1.2, bX2 G q1 o1 y.2.2.1 y.2.2.2.1 y.2.2.2.2.1 y.2.2.2.2.2.1 y.2.2.2.2.2.2.1 y.2.2.2.2.2.2.2.1 y.2.2.2.2.2.2.2.2.1 y.2.2.2.2.2.2.2.2.2] := by
  refine z_met zc_X0_tradeOnce (Nat.le_of_ble_eq_true rfl) ?_
  intro p e s m below meth c A ls hZ hl hw
  have hl : lv_has ls 4 [(0, .ref (q (o + 0))), (1, .ref (q1 (o1 + 0)))] := hl
  obtain ⟨hS0, hr, hlk, hK, hA⟩ := id hZ
  have hx := hS0.1
  have hb := hS0.2.1
  have hml := hS0.2.2.1
  have hown : s.vm.findClass RX0 = some m.cls := hS0.2.2.2.1
  have hts := hS0.2.2.2.2
  unfold f_X0_tradeOnce at hf
  refine lv_aload_n hx hb dX0_tradeOnce_0 rfl (lv_at hl 0 rfl) ?_
  refine z_get hS0 in_X0_tradeOnce_X0 hK hw 0 1 rfl rfl rfl (by decide) (hts _ m_X0_tradeOnce_1) (v := .ref (q ((o + 9) + 0))) rfl dX0_tradeOnce_1 ?_
  refine lv_aload_n hx hb dX0_tradeOnce_4 rfl (lv_at hl 1 rfl) ?_
  refine lv_aload_n hx hb dX0_tradeOnce_5 rfl (lv_at hl 1 rfl) ?_
  obtain ⟨r12, e13, hf⟩ := z_bd hf
  refine z_callV1 (As := []) (rest := [.ref (q1 (o1 + 0)), .ref (q ((o + 9) + 0))]) (bs' := [bX0 G q o S.2.2.1 S.2.2.2, bX2 G q (o + 3) S.1.1 S.1.2.1 S.1.2.2.1 S.1.2.2.2.1 S.1.2.2.2.2.1 S.1.2.2.2.2.2.1 S.1.2.2.2.2.2.2.1 S.1.2.2.2.2.2.2.2, bX4 G q (o + 9) S.2.1.1 S.2.1.2, bX2 G q1 o1 P1.1 P1.2.1 P1.2.2.1 P1.2.2.2.1 P1.2.2.2.2.1 P1.2.2.2.2.2.1 P1.2.2.2.2.2.2.1 P1.2.2.2.2.2.2.2]) hS0 (c_X2_everyone l G q1 o1 P1 r12 e13) zc_X2_everyone rfl gX0_tradeOnce_X2_everyone ⟨Nat.le_of_ble_eq_true rfl, Nat.le_of_ble_eq_true rfl⟩ hK hA hw (is := [3]) rfl rfl rfl rfl rfl rfl rfl hl.1 rfl (Nat.le_of_ble_eq_true rfl) dX0_tradeOnce_6 (fun H locs hw => ?_)
  obtain ⟨r14, e15, hf⟩ := z_bd hf
  refine z_callV0 (As := [.ref (q1 (o1 + 0)), .int r12]) (rest := []) (bs' := [bX0 G q o S.2.2.1 S.2.2.2, bX2 G q (o + 3) S.1.1 S.1.2.1 S.1.2.2.1 S.1.2.2.2.1 S.1.2.2.2.2.1 S.1.2.2.2.2.2.1 S.1.2.2.2.2.2.2.1 S.1.2.2.2.2.2.2.2, bX4 G q (o + 9) r14.1 r14.2, bX2 G q1 o1 P1.1 P1.2.1 P1.2.2.1 P1.2.2.2.1 P1.2.2.2.2.1 P1.2.2.2.2.2.1 P1.2.2.2.2.2.2.1 P1.2.2.2.2.2.2.2]) hS0 (c_X4_fill l G q (o + 9) q1 o1 S.2.1 P1 r12 r14 e15) zc_X4_fill rfl gX0_tradeOnce_X4_fill ⟨Nat.le_of_ble_eq_true rfl, Nat.le_of_ble_eq_true rfl⟩ hK hA hw (is := [2, 3]) rfl rfl rfl rfl rfl rfl rfl hl.1 rfl (Nat.le_of_ble_eq_true rfl) dX0_tradeOnce_9 (fun H locs hw => ?_)
  refine lv_iconst (v := 0) hx hb dX0_tradeOnce_12 rfl ?_
  refine lv_istore_n (lv' := [(2, .int 0), (0, .ref (q (o + 0))), (1, .ref (q1 (o1 + 0)))]) hx hb dX0_tradeOnce_13 rfl hl (by decide) rfl (fun ls hl => ?_)
  exact k_X0_tradeOnce_14 hZ _ 4096 _ _ _ _ _ _ hf hw (lv_sub hl [1, 2, 0] rfl)
