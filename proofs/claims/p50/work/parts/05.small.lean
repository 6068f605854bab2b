theorem zc_X1_addOut : zC yX1_addOut wsX1_addOut cX1_addOut 3 none 2 := ⟨⟨_, rfl⟩, by decide +kernel, by decide +kernel, by decide +kernel, by decide +kernel⟩
theorem m_X1_addOut_0 : (.fieldLink RX1 24 "CellKeys$Evenings" "gone" "I" : Cond) ∈ wsX1_addOut := by decide +kernel
theorem in_X1_addOut_X1 : ∀ w ∈ u_ws RX1 TX1 4, w ∈ wsX1_addOut := by decide +kernel
theorem m_X1_addOut_1 : (.fieldLink RX1 28 "CellKeys$Evenings" "favours" "I" : Cond) ∈ wsX1_addOut := by decide +kernel
set_option maxHeartbeats 4000000 in
set_option maxRecDepth 100000 in
theorem c_X1_addOut (l : Launch) (G : zG) (q : Nat → Nat) (o : Nat) (S : VX1) (v1 : Int32) (v2 : Int32) (y : VX1) (hf : f_X1_addOut S v1 v2 = some y) : zMet l yX1_addOut wsX1_addOut 0 0 G [.ref (q (o + 0)), .int v1, .int v2] [bX1 G q o S.1 S.2.1 S.2.2.1 S.2.2.2] none [bX1 G q o y.1 y.2.1 y.2.2.1 y.2.2.2] := by
  refine z_met zc_X1_addOut (Nat.le_of_ble_eq_true rfl) ?_
  intro p e s m below meth c A ls hZ hl hw
  have hl : lv_has ls 3 [(0, .ref (q (o + 0))), (1, .int v1), (2, .int v2)] := hl
  obtain ⟨hS0, hr, hlk, hK, hA, hT⟩ := id hZ
  have hx := hS0.1
  have hb := hS0.2.1
  have hml := hS0.2.2.1
  have hown : s.vm.findClass RX1 = some m.cls := hS0.2.2.2.1
  have hts := hS0.2.2.2.2
  unfold f_X1_addOut at hf
  refine lv_aload_n hx hb dX1_addOut_0 rfl (lv_at hl 0 rfl) ?_
  refine lv_dup hx hb dX1_addOut_1 rfl ?_
  refine z_get hS0 in_X1_addOut_X1 hK hw 0 2 rfl rfl rfl (by decide) (hts _ m_X1_addOut_0) (v := .int S.2.2.1) rfl dX1_addOut_2 ?_
  refine lv_iconst (v := 1) hx hb dX1_addOut_5 rfl ?_
  refine lv_iload_n hx hb dX1_addOut_6 rfl (lv_at hl 1 rfl) ?_
  refine lv_ishl hx hb dX1_addOut_7 ?_
  refine lv_ior hx hb dX1_addOut_8 ?_
  refine z_put (blk' := bX1 G q o S.1 S.2.1 (S.2.2.1 ||| ((1 : Int32) <<< (v1 &&& 31))) S.2.2.2) (bs' := [bX1 G q o S.1 S.2.1 (S.2.2.1 ||| ((1 : Int32) <<< (v1 &&& 31))) S.2.2.2]) hS0 in_X1_addOut_X1 tyX1 tyX1_ok nmX1 hK hw 0 2 rfl rfl rfl (by decide) (hts _ m_X1_addOut_0) rfl (ty := tyX1 2) (tyX1_ok 2 (by decide)) rfl rfl (Nat.le_of_ble_eq_true rfl) dX1_addOut_9 rfl rfl (fun H locs hw => ?_)
  refine lv_aload_n hx hb dX1_addOut_12 rfl (lv_at hl 0 rfl) ?_
  refine lv_dup hx hb dX1_addOut_13 rfl ?_
  refine z_get hS0 in_X1_addOut_X1 hK hw 0 3 rfl rfl rfl (by decide) (hts _ m_X1_addOut_1) (v := .int S.2.2.2) rfl dX1_addOut_14 ?_
  refine lv_iload_n hx hb dX1_addOut_17 rfl (lv_at hl 2 rfl) ?_
  refine lv_iadd hx hb dX1_addOut_18 ?_
  refine z_put (blk' := bX1 G q o S.1 S.2.1 (S.2.2.1 ||| ((1 : Int32) <<< (v1 &&& 31))) (S.2.2.2 + v2)) (bs' := [bX1 G q o S.1 S.2.1 (S.2.2.1 ||| ((1 : Int32) <<< (v1 &&& 31))) (S.2.2.2 + v2)]) hS0 in_X1_addOut_X1 tyX1 tyX1_ok nmX1 hK hw 0 3 rfl rfl rfl (by decide) (hts _ m_X1_addOut_1) rfl (ty := tyX1 3) (tyX1_ok 3 (by decide)) rfl rfl (Nat.le_of_ble_eq_true rfl) dX1_addOut_19 rfl rfl (fun H locs hw => ?_)
  cases hf
  exact z_vret hx hb hr hlk hw dX1_addOut_22
theorem zc_X1_allIn : zC yX1_allIn wsX1_allIn cX1_allIn 1 none 0 := ⟨⟨_, rfl⟩, by decide +kernel, by decide +kernel, by decide +kernel, by decide +kernel⟩
theorem m_X1_allIn_0 : (.fieldLink RX1 24 "CellKeys$Evenings" "gone" "I" : Cond) ∈ wsX1_allIn := by decide +kernel
theorem in_X1_allIn_X1 : ∀ w ∈ u_ws RX1 TX1 4, w ∈ wsX1_allIn := by decide +kernel
theorem m_X1_allIn_1 : (.fieldLink RX1 28 "CellKeys$Evenings" "favours" "I" : Cond) ∈ wsX1_allIn := by decide +kernel
set_option maxHeartbeats 4000000 in
set_option maxRecDepth 100000 in
theorem c_X1_allIn (l : Launch) (G : zG) (q : Nat → Nat) (o : Nat) (S : VX1)  (y : VX1) (hf : f_X1_allIn S = some y) : zMet l yX1_allIn wsX1_allIn 0 0 G [.ref (q (o + 0))] [bX1 G q o S.1 S.2.1 S.2.2.1 S.2.2.2] none [bX1 G q o y.1 y.2.1 y.2.2.1 y.2.2.2] := by
  refine z_met zc_X1_allIn (Nat.le_of_ble_eq_true rfl) ?_
  intro p e s m below meth c A ls hZ hl hw
  have hl : lv_has ls 1 [(0, .ref (q (o + 0)))] := hl
  obtain ⟨hS0, hr, hlk, hK, hA, hT⟩ := id hZ
  have hx := hS0.1
  have hb := hS0.2.1
  have hml := hS0.2.2.1
  have hown : s.vm.findClass RX1 = some m.cls := hS0.2.2.2.1
  have hts := hS0.2.2.2.2
  unfold f_X1_allIn at hf
  refine lv_aload_n hx hb dX1_allIn_0 rfl (lv_at hl 0 rfl) ?_
  refine lv_iconst (v := 0) hx hb dX1_allIn_1 rfl ?_
  refine z_put (blk' := bX1 G q o S.1 S.2.1 0 S.2.2.2) (bs' := [bX1 G q o S.1 S.2.1 0 S.2.2.2]) hS0 in_X1_allIn_X1 tyX1 tyX1_ok nmX1 hK hw 0 2 rfl rfl rfl (by decide) (hts _ m_X1_allIn_0) rfl (ty := tyX1 2) (tyX1_ok 2 (by decide)) rfl rfl (Nat.le_of_ble_eq_true rfl) dX1_allIn_2 rfl rfl (fun H locs hw => ?_)
  refine lv_aload_n hx hb dX1_allIn_5 rfl (lv_at hl 0 rfl) ?_
  refine lv_iconst (v := 0) hx hb dX1_allIn_6 rfl ?_
  refine z_put (blk' := bX1 G q o S.1 S.2.1 0 0) (bs' := [bX1 G q o S.1 S.2.1 0 0]) hS0 in_X1_allIn_X1 tyX1 tyX1_ok nmX1 hK hw 0 3 rfl rfl rfl (by decide) (hts _ m_X1_allIn_1) rfl (ty := tyX1 3) (tyX1_ok 3 (by decide)) rfl rfl (Nat.le_of_ble_eq_true rfl) dX1_allIn_7 rfl rfl (fun H locs hw => ?_)
  cases hf
  exact z_vret hx hb hr hlk hw dX1_allIn_10
theorem zc_X1_dropKept : zC yX1_dropKept wsX1_dropKept cX1_dropKept 2 none 0 := ⟨⟨_, rfl⟩, by decide +kernel, by decide +kernel, by decide +kernel, by decide +kernel⟩
theorem m_X1_dropKept_0 : (.fieldLink RX1 9 "CellKeys$Evenings" "keptOut" "[I" : Cond) ∈ wsX1_dropKept := by decide +kernel
theorem in_X1_dropKept_X1 : ∀ w ∈ u_ws RX1 TX1 4, w ∈ wsX1_dropKept := by decide +kernel
theorem m_X1_dropKept_1 : (.fieldLink RX1 15 "CellKeys$Evenings" "keptFavours" "[I" : Cond) ∈ wsX1_dropKept := by decide +kernel
set_option maxHeartbeats 4000000 in
set_option maxRecDepth 100000 in
theorem k_X1_dropKept_2 {p : Program} {l : Launch} {e : Env} {s : State} {m : MethodId} {args : Array Value} {below : List Frame} {meth : Method} {c : Code} {A : Nat → Prop} {G : zG} {q : Nat → Nat} {o : Nat}  (hZ : zZ p s m args meth c A G cX1_dropKept 2 RX1 wsX1_dropKept none) (y : VX1)  (n : Nat) : ∀ (S : VX1) (v1 : Int32) (H : Heap) (locs : List Loc) (ls : Array Slot), f_X1_dropKept_2 n S v1 = some y → zH G A s.heap [bX1 G q o S.1 S.2.1 S.2.2.1 S.2.2.2] H locs → lv_has ls 2 [(0, .ref (q (o + 0))), (1, .int v1)] → W p l e { frames := 0, cells := 0, slots := 0, locals := 0 } s m args below meth c H locs 0 0 (MQ below (zQ none (zPost G [bX1 G q o y.1 y.2.1 y.2.2.1 y.2.2.2]) A) args s 0 0 A) (F0 m 2 ls []) := by
  obtain ⟨hS0, hr, hlk, hK, hA, hT⟩ := id hZ
  have hx := hS0.1
  have hb := hS0.2.1
  have hml := hS0.2.2.1
  have hown : s.vm.findClass RX1 = some m.cls := hS0.2.2.2.1
  have hts := hS0.2.2.2.2
  induction n with
  | zero =>
    intro S v1 H locs ls hf hw hl
    unfold f_X1_dropKept_2 at hf
    cases hf
  | succ n ih =>
    intro S v1 H locs ls hf hw hl
    unfold f_X1_dropKept_2 at hf
    refine lv_iload_n hx hb dX1_dropKept_2 rfl (lv_at hl 1 rfl) ?_
    refine lv_iconst (v := 3) hx hb dX1_dropKept_3 rfl ?_
    refine lv_icmp_ge (tgt := 27) hx hb dX1_dropKept_4 rfl (fun hc => ?_) (fun hc => ?_)
    · have hf := z_t hc hf
      cases hf
      exact z_vret hx hb hr hlk hw dX1_dropKept_27
    · have hf := z_f hc hf
      refine lv_aload_n hx hb dX1_dropKept_7 rfl (lv_at hl 0 rfl) ?_
      refine z_get hS0 in_X1_dropKept_X1 hK hw 0 0 rfl rfl rfl (by decide) (hts _ m_X1_dropKept_0) (v := .ref (q (o + 1))) rfl dX1_dropKept_8 ?_
      refine lv_iload_n hx hb dX1_dropKept_11 rfl (lv_at hl 1 rfl) ?_
      refine lv_iconst (v := (-1)) hx hb dX1_dropKept_12 rfl ?_
      obtain ⟨g1, hf⟩ := z_gd hf
      refine z_iast (blk' := bX1 G q o (upd S.1 v1.toNatClampNeg (-1)) S.2.1 S.2.2.1 S.2.2.2) (bs' := [bX1 G q o (upd S.1 v1.toNatClampNeg (-1)) S.2.1 S.2.2.1 S.2.2.2]) hS0 hK hw 0 1 (zIn_vp g1) rfl rfl dX1_dropKept_13 rfl rfl (fun H locs hw => ?_)
      refine lv_aload_n hx hb dX1_dropKept_14 rfl (lv_at hl 0 rfl) ?_
      refine z_get hS0 in_X1_dropKept_X1 hK hw 0 1 rfl rfl rfl (by decide) (hts _ m_X1_dropKept_1) (v := .ref (q (o + 2))) rfl dX1_dropKept_15 ?_
      refine lv_iload_n hx hb dX1_dropKept_18 rfl (lv_at hl 1 rfl) ?_
      refine lv_iconst (v := 0) hx hb dX1_dropKept_19 rfl ?_
      obtain ⟨g2, hf⟩ := z_gd hf
      refine z_iast (blk' := bX1 G q o (upd S.1 v1.toNatClampNeg (-1)) (upd S.2.1 v1.toNatClampNeg 0) S.2.2.1 S.2.2.2) (bs' := [bX1 G q o (upd S.1 v1.toNatClampNeg (-1)) (upd S.2.1 v1.toNatClampNeg 0) S.2.2.1 S.2.2.2]) hS0 hK hw 0 2 (zIn_vp g2) rfl rfl dX1_dropKept_20 rfl rfl (fun H locs hw => ?_)
      refine lv_iinc (v := (v1 + 1)) (lv' := [(1, .int (v1 + 1)), (0, .ref (q (o + 0)))]) hx hb dX1_dropKept_21 hl (k := 1) rfl rfl (by decide) rfl (fun ls hl => ?_)
      refine lv_goto (tgt := 2) hx hb dX1_dropKept_24 rfl ?_
      exact ih _ _ _ _ _ hf hw (lv_sub hl [1, 0] rfl)
set_option maxHeartbeats 4000000 in
set_option maxRecDepth 100000 in
theorem c_X1_dropKept (l : Launch) (G : zG) (q : Nat → Nat) (o : Nat) (S : VX1)  (y : VX1) (hf : f_X1_dropKept S = some y) : zMet l yX1_dropKept wsX1_dropKept 0 0 G [.ref (q (o + 0))] [bX1 G q o S.1 S.2.1 S.2.2.1 S.2.2.2] none [bX1 G q o y.1 y.2.1 y.2.2.1 y.2.2.2] := by
  refine z_met zc_X1_dropKept (Nat.le_of_ble_eq_true rfl) ?_
  intro p e s m below meth c A ls hZ hl hw
  have hl : lv_has ls 2 [(0, .ref (q (o + 0)))] := hl
  obtain ⟨hS0, hr, hlk, hK, hA, hT⟩ := id hZ
  have hx := hS0.1
  have hb := hS0.2.1
  have hml := hS0.2.2.1
  have hown : s.vm.findClass RX1 = some m.cls := hS0.2.2.2.1
  have hts := hS0.2.2.2.2
  unfold f_X1_dropKept at hf
  refine lv_iconst (v := 0) hx hb dX1_dropKept_0 rfl ?_
  refine lv_istore_n (lv' := [(1, .int 0), (0, .ref (q (o + 0)))]) hx hb dX1_dropKept_1 rfl hl (by decide) rfl (fun ls hl => ?_)
  exact k_X1_dropKept_2 hZ _ 4096 _ _ _ _ _ hf hw (lv_sub hl [1, 0] rfl)
theorem zc_X1_clear : zC yX1_clear wsX1_clear cX1_clear 1 none 0 := ⟨⟨_, rfl⟩, by decide +kernel, by decide +kernel, by decide +kernel, by decide +kernel⟩
set_option maxHeartbeats 4000000 in
set_option maxRecDepth 100000 in
theorem c_X1_clear (l : Launch) (G : zG) (q : Nat → Nat) (o : Nat) (S : VX1)  (y : VX1) (hf : f_X1_clear S = some y) : zMet l yX1_clear wsX1_clear 1 21 G [.ref (q (o + 0))] [bX1 G q o S.1 S.2.1 S.2.2.1 S.2.2.2] none [bX1 G q o y.1 y.2.1 y.2.2.1 y.2.2.2] := by
  refine z_met zc_X1_clear (Nat.le_of_ble_eq_true rfl) ?_
  intro p e s m below meth c A ls hZ hl hw
  have hl : lv_has ls 1 [(0, .ref (q (o + 0)))] := hl
  obtain ⟨hS0, hr, hlk, hK, hA, hT⟩ := id hZ
  have hx := hS0.1
  have hb := hS0.2.1
  have hml := hS0.2.2.1
  have hown : s.vm.findClass RX1 = some m.cls := hS0.2.2.2.1
  have hts := hS0.2.2.2.2
  unfold f_X1_clear at hf
  refine lv_aload_n hx hb dX1_clear_0 rfl (lv_at hl 0 rfl) ?_
  obtain ⟨r1, e2, hf⟩ := z_bd hf
  refine z_callV0 (As := []) (rest := []) (bs' := [bX1 G q o r1.1 r1.2.1 r1.2.2.1 r1.2.2.2]) hS0 (c_X1_allIn l G q o S r1 e2) zc_X1_allIn rfl gX1_clear_X1_allIn ⟨Nat.le_of_ble_eq_true rfl, Nat.le_of_ble_eq_true rfl⟩ hK hA hT hw (is := [0]) rfl rfl rfl rfl rfl rfl rfl hl.1 rfl (Nat.le_of_ble_eq_true rfl) dX1_clear_1 (fun H locs hw => ?_)
  refine lv_aload_n hx hb dX1_clear_4 rfl (lv_at hl 0 rfl) ?_
  obtain ⟨r3, e4, hf⟩ := z_bd hf
  refine z_callV0 (As := []) (rest := []) (bs' := [bX1 G q o r3.1 r3.2.1 r3.2.2.1 r3.2.2.2]) hS0 (c_X1_dropKept l G q o r1 r3 e4) zc_X1_dropKept rfl gX1_clear_X1_dropKept ⟨Nat.le_of_ble_eq_true rfl, Nat.le_of_ble_eq_true rfl⟩ hK hA hT hw (is := [0]) rfl rfl rfl rfl rfl rfl rfl hl.1 rfl (Nat.le_of_ble_eq_true rfl) dX1_clear_5 (fun H locs hw => ?_)
  cases hf
  exact z_vret hx hb hr hlk hw dX1_clear_8
theorem zc_X1_favours : zC yX1_favours wsX1_favours cX1_favours 1 (some .int) 0 := ⟨⟨_, rfl⟩, by decide +kernel, by decide +kernel, by decide +kernel, by decide +kernel⟩
theorem m_X1_favours_0 : (.fieldLink RX1 28 "CellKeys$Evenings" "favours" "I" : Cond) ∈ wsX1_favours := by decide +kernel
theorem in_X1_favours_X1 : ∀ w ∈ u_ws RX1 TX1 4, w ∈ wsX1_favours := by decide +kernel
set_option maxHeartbeats 4000000 in
set_option maxRecDepth 100000 in
theorem c_X1_favours (l : Launch) (G : zG) (q : Nat → Nat) (o : Nat) (S : VX1)  (y : Int32) (hf : f_X1_favours S = some y) : zMet l yX1_favours wsX1_favours 0 0 G [.ref (q (o + 0))] [bX1 G q o S.1 S.2.1 S.2.2.1 S.2.2.2] (some (.int y)) [bX1 G q o S.1 S.2.1 S.2.2.1 S.2.2.2] := by
  refine z_met zc_X1_favours (Nat.le_of_ble_eq_true rfl) ?_
  intro p e s m below meth c A ls hZ hl hw
  have hl : lv_has ls 1 [(0, .ref (q (o + 0)))] := hl
  obtain ⟨hS0, hr, hlk, hK, hA, hT⟩ := id hZ
  have hx := hS0.1
  have hb := hS0.2.1
  have hml := hS0.2.2.1
  have hown : s.vm.findClass RX1 = some m.cls := hS0.2.2.2.1
  have hts := hS0.2.2.2.2
  unfold f_X1_favours at hf
  refine lv_aload_n hx hb dX1_favours_0 rfl (lv_at hl 0 rfl) ?_
  refine z_get hS0 in_X1_favours_X1 hK hw 0 3 rfl rfl rfl (by decide) (hts _ m_X1_favours_0) (v := .int S.2.2.2) rfl dX1_favours_1 ?_
  cases hf
  exact z_iret hx hb hr hlk hw dX1_favours_4
theorem zc_X1_hasOut : zC yX1_hasOut wsX1_hasOut cX1_hasOut 2 (some .boolean) 1 := ⟨⟨_, rfl⟩, by decide +kernel, by decide +kernel, by decide +kernel, by decide +kernel⟩
theorem m_X1_hasOut_0 : (.fieldLink RX1 24 "CellKeys$Evenings" "gone" "I" : Cond) ∈ wsX1_hasOut := by decide +kernel
theorem in_X1_hasOut_X1 : ∀ w ∈ u_ws RX1 TX1 4, w ∈ wsX1_hasOut := by decide +kernel
set_option maxHeartbeats 4000000 in
set_option maxRecDepth 100000 in
theorem c_X1_hasOut (l : Launch) (G : zG) (q : Nat → Nat) (o : Nat) (S : VX1) (v1 : Int32) (y : Int32) (hf : f_X1_hasOut S v1 = some y) : zMet l yX1_hasOut wsX1_hasOut 0 0 G [.ref (q (o + 0)), .int v1] [bX1 G q o S.1 S.2.1 S.2.2.1 S.2.2.2] (some (.int y)) [bX1 G q o S.1 S.2.1 S.2.2.1 S.2.2.2] := by
  refine z_met zc_X1_hasOut (Nat.le_of_ble_eq_true rfl) ?_
  intro p e s m below meth c A ls hZ hl hw
  have hl : lv_has ls 2 [(0, .ref (q (o + 0))), (1, .int v1)] := hl
  obtain ⟨hS0, hr, hlk, hK, hA, hT⟩ := id hZ
  have hx := hS0.1
  have hb := hS0.2.1
  have hml := hS0.2.2.1
  have hown : s.vm.findClass RX1 = some m.cls := hS0.2.2.2.1
  have hts := hS0.2.2.2.2
  unfold f_X1_hasOut at hf
  refine lv_aload_n hx hb dX1_hasOut_0 rfl (lv_at hl 0 rfl) ?_
  refine z_get hS0 in_X1_hasOut_X1 hK hw 0 2 rfl rfl rfl (by decide) (hts _ m_X1_hasOut_0) (v := .int S.2.2.1) rfl dX1_hasOut_1 ?_
  refine lv_iload_n hx hb dX1_hasOut_4 rfl (lv_at hl 1 rfl) ?_
  refine lv_ishr hx hb dX1_hasOut_5 ?_
  refine lv_iconst (v := 1) hx hb dX1_hasOut_6 rfl ?_
  refine lv_iand hx hb dX1_hasOut_7 ?_
  refine lv_iconst (v := 1) hx hb dX1_hasOut_8 rfl ?_
  refine lv_icmp_ne (tgt := 16) hx hb dX1_hasOut_9 rfl (fun hc => ?_) (fun hc => ?_)
  · have hf := z_f hc hf
    refine lv_iconst (v := 0) hx hb dX1_hasOut_16 rfl ?_
    cases hf
    exact z_zret hx hb hr (z_nb (Or.inl rfl)) hlk hw dX1_hasOut_17
  · have hf := z_t hc hf
    refine lv_iconst (v := 1) hx hb dX1_hasOut_12 rfl ?_
    refine lv_goto (tgt := 17) hx hb dX1_hasOut_13 rfl ?_
    cases hf
    exact z_zret hx hb hr (z_nb (Or.inr rfl)) hlk hw dX1_hasOut_17
theorem zc_X1_howManyOut : zC yX1_howManyOut wsX1_howManyOut cX1_howManyOut 1 (some .int) 0 := ⟨⟨_, rfl⟩, by decide +kernel, by decide +kernel, by decide +kernel, by decide +kernel⟩
theorem m_X1_howManyOut_0 : (.fieldLink RX1 24 "CellKeys$Evenings" "gone" "I" : Cond) ∈ wsX1_howManyOut := by decide +kernel
theorem in_X1_howManyOut_X1 : ∀ w ∈ u_ws RX1 TX1 4, w ∈ wsX1_howManyOut := by decide +kernel
set_option maxHeartbeats 4000000 in
set_option maxRecDepth 100000 in
theorem c_X1_howManyOut (l : Launch) (G : zG) (q : Nat → Nat) (o : Nat) (S : VX1)  (y : Int32) (hf : f_X1_howManyOut S = some y) : zMet l yX1_howManyOut wsX1_howManyOut 1 20 G [.ref (q (o + 0))] [bX1 G q o S.1 S.2.1 S.2.2.1 S.2.2.2] (some (.int y)) [bX1 G q o S.1 S.2.1 S.2.2.1 S.2.2.2] := by
  refine z_met zc_X1_howManyOut (Nat.le_of_ble_eq_true rfl) ?_
  intro p e s m below meth c A ls hZ hl hw
  have hl : lv_has ls 1 [(0, .ref (q (o + 0)))] := hl
  obtain ⟨hS0, hr, hlk, hK, hA, hT⟩ := id hZ
  have hx := hS0.1
  have hb := hS0.2.1
  have hml := hS0.2.2.1
  have hown : s.vm.findClass RX1 = some m.cls := hS0.2.2.2.1
  have hts := hS0.2.2.2.2
  unfold f_X1_howManyOut at hf
  refine lv_aload_n hx hb dX1_howManyOut_0 rfl (lv_at hl 0 rfl) ?_
  refine z_get hS0 in_X1_howManyOut_X1 hK hw 0 2 rfl rfl rfl (by decide) (hts _ m_X1_howManyOut_0) (v := .int S.2.2.1) rfl dX1_howManyOut_1 ?_
  obtain ⟨r1, e2, hf⟩ := z_bd hf
  refine z_callS1 (As := [.int S.2.2.1]) (rest := []) (bs' := [bX1 G q o S.1 S.2.1 S.2.2.1 S.2.2.2]) hS0 (c_J6_bitCount_0f7a4 l G S.2.2.1 r1 e2) zc_J6_bitCount_0f7a4 gX1_howManyOut_J6_bitCount_0f7a4 ⟨Nat.le_of_ble_eq_true rfl, Nat.le_of_ble_eq_true rfl⟩ hK hA hT hw (is := []) rfl rfl rfl rfl rfl hl.1 rfl (Nat.le_of_ble_eq_true rfl) dX1_howManyOut_4 (fun H locs hw => ?_)
  cases hf
  exact z_iret hx hb hr hlk hw dX1_howManyOut_7
theorem zc_X1_isNumber : zC yX1_isNumber wsX1_isNumber cX1_isNumber 2 (some .boolean) 1 := ⟨⟨_, rfl⟩, by decide +kernel, by decide +kernel, by decide +kernel, by decide +kernel⟩
set_option maxHeartbeats 4000000 in
set_option maxRecDepth 100000 in
theorem c_X1_isNumber (l : Launch) (G : zG) (q : Nat → Nat) (o : Nat) (S : VX1) (v1 : Int32) (y : Int32) (hf : f_X1_isNumber S v1 = some y) : zMet l yX1_isNumber wsX1_isNumber 0 0 G [.ref (q (o + 0)), .int v1] [bX1 G q o S.1 S.2.1 S.2.2.1 S.2.2.2] (some (.int y)) [bX1 G q o S.1 S.2.1 S.2.2.1 S.2.2.2] := by
  refine z_met zc_X1_isNumber (Nat.le_of_ble_eq_true rfl) ?_
  intro p e s m below meth c A ls hZ hl hw
  have hl : lv_has ls 2 [(0, .ref (q (o + 0))), (1, .int v1)] := hl
  obtain ⟨hS0, hr, hlk, hK, hA, hT⟩ := id hZ
  have hx := hS0.1
  have hb := hS0.2.1
  have hml := hS0.2.2.1
  have hown : s.vm.findClass RX1 = some m.cls := hS0.2.2.2.1
  have hts := hS0.2.2.2.2
  unfold f_X1_isNumber at hf
  refine lv_iload_n hx hb dX1_isNumber_0 rfl (lv_at hl 1 rfl) ?_
  refine lv_if_lt (tgt := 13) hx hb dX1_isNumber_1 rfl (fun hc => ?_) (fun hc => ?_)
  · have hf := z_t hc hf
    refine lv_iconst (v := 0) hx hb dX1_isNumber_13 rfl ?_
    cases hf
    exact z_zret hx hb hr (z_nb (Or.inl rfl)) hlk hw dX1_isNumber_14
  · have hf := z_f hc hf
    refine lv_iload_n hx hb dX1_isNumber_4 rfl (lv_at hl 1 rfl) ?_
    refine lv_iconst (v := 3) hx hb dX1_isNumber_5 rfl ?_
    refine lv_icmp_ge (tgt := 13) hx hb dX1_isNumber_6 rfl (fun hc => ?_) (fun hc => ?_)
    · have hf := z_t hc hf
      refine lv_iconst (v := 0) hx hb dX1_isNumber_13 rfl ?_
      cases hf
      exact z_zret hx hb hr (z_nb (Or.inl rfl)) hlk hw dX1_isNumber_14
    · have hf := z_f hc hf
      refine lv_iconst (v := 1) hx hb dX1_isNumber_9 rfl ?_
      refine lv_goto (tgt := 14) hx hb dX1_isNumber_10 rfl ?_
      cases hf
      exact z_zret hx hb hr (z_nb (Or.inr rfl)) hlk hw dX1_isNumber_14
theorem zc_X1_isKept : zC yX1_isKept wsX1_isKept cX1_isKept 2 (some .boolean) 1 := ⟨⟨_, rfl⟩, by decide +kernel, by decide +kernel, by decide +kernel, by decide +kernel⟩
theorem m_X1_isKept_0 : (.fieldLink RX1 9 "CellKeys$Evenings" "keptOut" "[I" : Cond) ∈ wsX1_isKept := by decide +kernel
theorem in_X1_isKept_X1 : ∀ w ∈ u_ws RX1 TX1 4, w ∈ wsX1_isKept := by decide +kernel
set_option maxHeartbeats 4000000 in
set_option maxRecDepth 100000 in
theorem c_X1_isKept (l : Launch) (G : zG) (q : Nat → Nat) (o : Nat) (S : VX1) (v1 : Int32) (y : Int32) (hf : f_X1_isKept S v1 = some y) : zMet l yX1_isKept wsX1_isKept 1 21 G [.ref (q (o + 0)), .int v1] [bX1 G q o S.1 S.2.1 S.2.2.1 S.2.2.2] (some (.int y)) [bX1 G q o S.1 S.2.1 S.2.2.1 S.2.2.2] := by
  refine z_met zc_X1_isKept (Nat.le_of_ble_eq_true rfl) ?_
  intro p e s m below meth c A ls hZ hl hw
  have hl : lv_has ls 2 [(0, .ref (q (o + 0))), (1, .int v1)] := hl
  obtain ⟨hS0, hr, hlk, hK, hA, hT⟩ := id hZ
  have hx := hS0.1
  have hb := hS0.2.1
  have hml := hS0.2.2.1
  have hown : s.vm.findClass RX1 = some m.cls := hS0.2.2.2.1
  have hts := hS0.2.2.2.2
  unfold f_X1_isKept at hf
  refine lv_aload_n hx hb dX1_isKept_0 rfl (lv_at hl 0 rfl) ?_
  refine lv_iload_n hx hb dX1_isKept_1 rfl (lv_at hl 1 rfl) ?_
  obtain ⟨r1, e2, hf⟩ := z_bd hf
  refine z_callV1 (As := [.int v1]) (rest := []) (bs' := [bX1 G q o S.1 S.2.1 S.2.2.1 S.2.2.2]) hS0 (c_X1_isNumber l G q o S v1 r1 e2) zc_X1_isNumber rfl gX1_isKept_X1_isNumber ⟨Nat.le_of_ble_eq_true rfl, Nat.le_of_ble_eq_true rfl⟩ hK hA hT hw (is := [0]) rfl rfl rfl rfl rfl rfl rfl hl.1 rfl (Nat.le_of_ble_eq_true rfl) dX1_isKept_2 (fun H locs hw => ?_)
  refine lv_if_eq (tgt := 22) hx hb dX1_isKept_5 rfl (fun hc => ?_) (fun hc => ?_)
  · have hf := z_t hc hf
    refine lv_iconst (v := 0) hx hb dX1_isKept_22 rfl ?_
    cases hf
    exact z_zret hx hb hr (z_nb (Or.inl rfl)) hlk hw dX1_isKept_23
  · have hf := z_f hc hf
    refine lv_aload_n hx hb dX1_isKept_8 rfl (lv_at hl 0 rfl) ?_
    refine z_get hS0 in_X1_isKept_X1 hK hw 0 0 rfl rfl rfl (by decide) (hts _ m_X1_isKept_0) (v := .ref (q (o + 1))) rfl dX1_isKept_9 ?_
    refine lv_iload_n hx hb dX1_isKept_12 rfl (lv_at hl 1 rfl) ?_
    obtain ⟨g3, hf⟩ := z_gd hf
    refine z_iald hS0 hK hw 0 1 (zIn_vp g3) rfl rfl dX1_isKept_13 ?_
    refine lv_iconst (v := (-1)) hx hb dX1_isKept_14 rfl ?_
    refine lv_icmp_eq (tgt := 22) hx hb dX1_isKept_15 rfl (fun hc => ?_) (fun hc => ?_)
    · have hf := z_t hc hf
      refine lv_iconst (v := 0) hx hb dX1_isKept_22 rfl ?_
      cases hf
      exact z_zret hx hb hr (z_nb (Or.inl rfl)) hlk hw dX1_isKept_23
    · have hf := z_f hc hf
      refine lv_iconst (v := 1) hx hb dX1_isKept_18 rfl ?_
      refine lv_goto (tgt := 23) hx hb dX1_isKept_19 rfl ?_
      cases hf
      exact z_zret hx hb hr (z_nb (Or.inr rfl)) hlk hw dX1_isKept_23
theorem zc_X1_mixKept : zC yX1_mixKept wsX1_mixKept cX1_mixKept 4 (some .long) 1 := ⟨⟨_, rfl⟩, by decide +kernel, by decide +kernel, by decide +kernel, by decide +kernel⟩
theorem m_X1_mixKept_0 : (.constantLong RX1 44 (31) : Cond) ∈ wsX1_mixKept := by decide +kernel
theorem m_X1_mixKept_1 : (.fieldLink RX1 9 "CellKeys$Evenings" "keptOut" "[I" : Cond) ∈ wsX1_mixKept := by decide +kernel
theorem in_X1_mixKept_X1 : ∀ w ∈ u_ws RX1 TX1 4, w ∈ wsX1_mixKept := by decide +kernel
theorem m_X1_mixKept_2 : (.fieldLink RX1 15 "CellKeys$Evenings" "keptFavours" "[I" : Cond) ∈ wsX1_mixKept := by decide +kernel
set_option maxHeartbeats 4000000 in
set_option maxRecDepth 100000 in
theorem k_X1_mixKept_2 {p : Program} {l : Launch} {e : Env} {s : State} {m : MethodId} {args : Array Value} {below : List Frame} {meth : Method} {c : Code} {A : Nat → Prop} {G : zG} {q : Nat → Nat} {o : Nat}  (hZ : zZ p s m args meth c A G cX1_mixKept 4 RX1 wsX1_mixKept (some .long)) (y : Int64)  (n : Nat) : ∀ (S : VX1) (v1 : Int64) (v3 : Int32) (H : Heap) (locs : List Loc) (ls : Array Slot), f_X1_mixKept_2 n S v1 v3 = some y → zH G A s.heap [bX1 G q o S.1 S.2.1 S.2.2.1 S.2.2.2] H locs → lv_has ls 4 [(0, .ref (q (o + 0))), (1, .long v1), (3, .int v3)] → W p l e { frames := 2, cells := 0, slots := 0, locals := 42 } s m args below meth c H locs 0 0 (MQ below (zQ (some (.long y)) (zPost G [bX1 G q o S.1 S.2.1 S.2.2.1 S.2.2.2]) A) args s 0 0 A) (F0 m 2 ls []) := by
  obtain ⟨hS0, hr, hlk, hK, hA, hT⟩ := id hZ
  have hx := hS0.1
  have hb := hS0.2.1
  have hml := hS0.2.2.1
  have hown : s.vm.findClass RX1 = some m.cls := hS0.2.2.2.1
  have hts := hS0.2.2.2.2
  induction n with
  | zero =>
    intro S v1 v3 H locs ls hf hw hl
    unfold f_X1_mixKept_2 at hf
    cases hf
  | succ n ih =>
    intro S v1 v3 H locs ls hf hw hl
    unfold f_X1_mixKept_2 at hf
    refine lv_iload_n hx hb dX1_mixKept_2 rfl (lv_at hl 2 rfl) ?_
    refine lv_iconst (v := 3) hx hb dX1_mixKept_3 rfl ?_
    refine lv_icmp_ge (tgt := 49) hx hb dX1_mixKept_4 rfl (fun hc => ?_) (fun hc => ?_)
    · have hf := z_t hc hf
      refine lv_lload_n hx hb dX1_mixKept_49 rfl (lv_at hl 1 rfl) ?_
      cases hf
      exact z_lret hx hb hr hlk hw dX1_mixKept_50
    · have hf := z_f hc hf
      refine lv_ldc2 (v := 31) hx hb hown (hts _ m_X1_mixKept_0) dX1_mixKept_7 ?_
      refine lv_lload_n hx hb dX1_mixKept_10 rfl (lv_at hl 1 rfl) ?_
      refine lv_lmul hx hb dX1_mixKept_11 ?_
      refine lv_aload_n hx hb dX1_mixKept_12 rfl (lv_at hl 0 rfl) ?_
      refine z_get hS0 in_X1_mixKept_X1 hK hw 0 0 rfl rfl rfl (by decide) (hts _ m_X1_mixKept_1) (v := .ref (q (o + 1))) rfl dX1_mixKept_13 ?_
      refine lv_iload_n hx hb dX1_mixKept_16 rfl (lv_at hl 2 rfl) ?_
      obtain ⟨g1, hf⟩ := z_gd hf
      refine z_iald hS0 hK hw 0 1 (zIn_vp g1) rfl rfl dX1_mixKept_17 ?_
      refine lv_i2l (v := (S.1 v3.toNatClampNeg).toInt64) hx hb dX1_mixKept_18 rfl ?_
      refine lv_ladd hx hb dX1_mixKept_19 ?_
      refine lv_lstore_n (lv' := [(1, .long ((31 * v1) + (S.1 v3.toNatClampNeg).toInt64)), (0, .ref (q (o + 0))), (3, .int v3)]) hx hb dX1_mixKept_20 rfl hl (by decide) rfl (fun ls hl => ?_)
      refine lv_aload_n hx hb dX1_mixKept_21 rfl (lv_at hl 1 rfl) ?_
      refine lv_iload_n hx hb dX1_mixKept_22 rfl (lv_at hl 2 rfl) ?_
      obtain ⟨r2, e3, hf⟩ := z_bd hf
      refine z_callV1 (As := [.int v3]) (rest := []) (bs' := [bX1 G q o S.1 S.2.1 S.2.2.1 S.2.2.2]) hS0 (c_X1_isKept l G q o S v3 r2 e3) zc_X1_isKept rfl gX1_mixKept_X1_isKept ⟨Nat.le_of_ble_eq_true rfl, Nat.le_of_ble_eq_true rfl⟩ hK hA hT hw (is := [0]) rfl rfl rfl rfl rfl rfl rfl hl.1 rfl (Nat.le_of_ble_eq_true rfl) dX1_mixKept_23 (fun H locs hw => ?_)
      refine lv_if_eq (tgt := 43) hx hb dX1_mixKept_26 rfl (fun hc => ?_) (fun hc => ?_)
      · have hf := z_t hc hf
        refine lv_iinc (v := (v3 + 1)) (lv' := [(3, .int (v3 + 1)), (1, .long ((31 * v1) + (S.1 v3.toNatClampNeg).toInt64)), (0, .ref (q (o + 0)))]) hx hb dX1_mixKept_43 hl (k := 2) rfl rfl (by decide) rfl (fun ls hl => ?_)
        refine lv_goto (tgt := 2) hx hb dX1_mixKept_46 rfl ?_
        exact ih _ _ _ _ _ _ hf hw (lv_sub hl [2, 1, 0] rfl)
      · have hf := z_f hc hf
        refine lv_ldc2 (v := 31) hx hb hown (hts _ m_X1_mixKept_0) dX1_mixKept_29 ?_
        refine lv_lload_n hx hb dX1_mixKept_32 rfl (lv_at hl 0 rfl) ?_
        refine lv_lmul hx hb dX1_mixKept_33 ?_
        refine lv_aload_n hx hb dX1_mixKept_34 rfl (lv_at hl 1 rfl) ?_
        refine z_get hS0 in_X1_mixKept_X1 hK hw 0 1 rfl rfl rfl (by decide) (hts _ m_X1_mixKept_2) (v := .ref (q (o + 2))) rfl dX1_mixKept_35 ?_
        refine lv_iload_n hx hb dX1_mixKept_38 rfl (lv_at hl 2 rfl) ?_
        obtain ⟨g4, hf⟩ := z_gd hf
        refine z_iald hS0 hK hw 0 2 (zIn_vp g4) rfl rfl dX1_mixKept_39 ?_
        refine lv_i2l (v := (S.2.1 v3.toNatClampNeg).toInt64) hx hb dX1_mixKept_40 rfl ?_
        refine lv_ladd hx hb dX1_mixKept_41 ?_
        refine lv_lstore_n (lv' := [(1, .long ((31 * ((31 * v1) + (S.1 v3.toNatClampNeg).toInt64)) + (S.2.1 v3.toNatClampNeg).toInt64)), (0, .ref (q (o + 0))), (3, .int v3)]) hx hb dX1_mixKept_42 rfl hl (by decide) rfl (fun ls hl => ?_)
        refine lv_iinc (v := (v3 + 1)) (lv' := [(3, .int (v3 + 1)), (1, .long ((31 * ((31 * v1) + (S.1 v3.toNatClampNeg).toInt64)) + (S.2.1 v3.toNatClampNeg).toInt64)), (0, .ref (q (o + 0)))]) hx hb dX1_mixKept_43 hl (k := 2) rfl rfl (by decide) rfl (fun ls hl => ?_)
        refine lv_goto (tgt := 2) hx hb dX1_mixKept_46 rfl ?_
        exact ih _ _ _ _ _ _ hf hw (lv_sub hl [2, 1, 0] rfl)
set_option maxHeartbeats 4000000 in
set_option maxRecDepth 100000 in
theorem c_X1_mixKept (l : Launch) (G : zG) (q : Nat → Nat) (o : Nat) (S : VX1) (v1 : Int64) (y : Int64) (hf : f_X1_mixKept S v1 = some y) : zMet l yX1_mixKept wsX1_mixKept 2 42 G [.ref (q (o + 0)), .long v1] [bX1 G q o S.1 S.2.1 S.2.2.1 S.2.2.2] (some (.long y)) [bX1 G q o S.1 S.2.1 S.2.2.1 S.2.2.2] := by
  refine z_met zc_X1_mixKept (Nat.le_of_ble_eq_true rfl) ?_
  intro p e s m below meth c A ls hZ hl hw
  have hl : lv_has ls 4 [(0, .ref (q (o + 0))), (1, .long v1)] := hl
  obtain ⟨hS0, hr, hlk, hK, hA, hT⟩ := id hZ
  have hx := hS0.1
  have hb := hS0.2.1
  have hml := hS0.2.2.1
  have hown : s.vm.findClass RX1 = some m.cls := hS0.2.2.2.1
  have hts := hS0.2.2.2.2
  unfold f_X1_mixKept at hf
  refine lv_iconst (v := 0) hx hb dX1_mixKept_0 rfl ?_
  refine lv_istore_n (lv' := [(3, .int 0), (0, .ref (q (o + 0))), (1, .long v1)]) hx hb dX1_mixKept_1 rfl hl (by decide) rfl (fun ls hl => ?_)
  exact k_X1_mixKept_2 hZ _ 4096 _ _ _ _ _ _ hf hw (lv_sub hl [1, 2, 0] rfl)
theorem zc_X1_whoIsOut : zC yX1_whoIsOut wsX1_whoIsOut cX1_whoIsOut 1 (some .int) 0 := ⟨⟨_, rfl⟩, by decide +kernel, by decide +kernel, by decide +kernel, by decide +kernel⟩
theorem m_X1_whoIsOut_0 : (.fieldLink RX1 24 "CellKeys$Evenings" "gone" "I" : Cond) ∈ wsX1_whoIsOut := by decide +kernel
theorem in_X1_whoIsOut_X1 : ∀ w ∈ u_ws RX1 TX1 4, w ∈ wsX1_whoIsOut := by decide +kernel
set_option maxHeartbeats 4000000 in
set_option maxRecDepth 100000 in
theorem c_X1_whoIsOut (l : Launch) (G : zG) (q : Nat → Nat) (o : Nat) (S : VX1)  (y : Int32) (hf : f_X1_whoIsOut S = some y) : zMet l yX1_whoIsOut wsX1_whoIsOut 0 0 G [.ref (q (o + 0))] [bX1 G q o S.1 S.2.1 S.2.2.1 S.2.2.2] (some (.int y)) [bX1 G q o S.1 S.2.1 S.2.2.1 S.2.2.2] := by
  refine z_met zc_X1_whoIsOut (Nat.le_of_ble_eq_true rfl) ?_
  intro p e s m below meth c A ls hZ hl hw
  have hl : lv_has ls 1 [(0, .ref (q (o + 0)))] := hl
  obtain ⟨hS0, hr, hlk, hK, hA, hT⟩ := id hZ
  have hx := hS0.1
  have hb := hS0.2.1
  have hml := hS0.2.2.1
  have hown : s.vm.findClass RX1 = some m.cls := hS0.2.2.2.1
  have hts := hS0.2.2.2.2
  unfold f_X1_whoIsOut at hf
  refine lv_aload_n hx hb dX1_whoIsOut_0 rfl (lv_at hl 0 rfl) ?_
  refine z_get hS0 in_X1_whoIsOut_X1 hK hw 0 2 rfl rfl rfl (by decide) (hts _ m_X1_whoIsOut_0) (v := .int S.2.2.1) rfl dX1_whoIsOut_1 ?_
  cases hf
  exact z_iret hx hb hr hlk hw dX1_whoIsOut_4
theorem zc_X6_isNumber : zC yX6_isNumber wsX6_isNumber cX6_isNumber 2 (some .boolean) 1 := ⟨⟨_, rfl⟩, by decide +kernel, by decide +kernel, by decide +kernel, by decide +kernel⟩
set_option maxHeartbeats 4000000 in
set_option maxRecDepth 100000 in
theorem c_X6_isNumber (l : Launch) (G : zG) (q : Nat → Nat) (o : Nat) (S : VX6) (v1 : Int32) (y : Int32) (hf : f_X6_isNumber S v1 = some y) : zMet l yX6_isNumber wsX6_isNumber 0 0 G [.ref (q (o + 0)), .int v1] [bX6 G q o S.1 S.2] (some (.int y)) [bX6 G q o S.1 S.2] := by
  refine z_met zc_X6_isNumber (Nat.le_of_ble_eq_true rfl) ?_
  intro p e s m below meth c A ls hZ hl hw
  have hl : lv_has ls 2 [(0, .ref (q (o + 0))), (1, .int v1)] := hl
  obtain ⟨hS0, hr, hlk, hK, hA, hT⟩ := id hZ
  have hx := hS0.1
  have hb := hS0.2.1
  have hml := hS0.2.2.1
  have hown : s.vm.findClass RX6 = some m.cls := hS0.2.2.2.1
  have hts := hS0.2.2.2.2
  unfold f_X6_isNumber at hf
  refine lv_iload_n hx hb dX6_isNumber_0 rfl (lv_at hl 1 rfl) ?_
  refine lv_if_lt (tgt := 14) hx hb dX6_isNumber_1 rfl (fun hc => ?_) (fun hc => ?_)
  · have hf := z_t hc hf
    refine lv_iconst (v := 0) hx hb dX6_isNumber_14 rfl ?_
    cases hf
    exact z_zret hx hb hr (z_nb (Or.inl rfl)) hlk hw dX6_isNumber_15
  · have hf := z_f hc hf
    refine lv_iload_n hx hb dX6_isNumber_4 rfl (lv_at hl 1 rfl) ?_
    refine lv_bipush (v := 6) hx hb dX6_isNumber_5 rfl ?_
    refine lv_icmp_ge (tgt := 14) hx hb dX6_isNumber_7 rfl (fun hc => ?_) (fun hc => ?_)
    · have hf := z_t hc hf
      refine lv_iconst (v := 0) hx hb dX6_isNumber_14 rfl ?_
      cases hf
      exact z_zret hx hb hr (z_nb (Or.inl rfl)) hlk hw dX6_isNumber_15
    · have hf := z_f hc hf
      refine lv_iconst (v := 1) hx hb dX6_isNumber_10 rfl ?_
      refine lv_goto (tgt := 15) hx hb dX6_isNumber_11 rfl ?_
      cases hf
      exact z_zret hx hb hr (z_nb (Or.inr rfl)) hlk hw dX6_isNumber_15
theorem zc_X6_sizeOf : zC yX6_sizeOf wsX6_sizeOf cX6_sizeOf 2 (some .int) 1 := ⟨⟨_, rfl⟩, by decide +kernel, by decide +kernel, by decide +kernel, by decide +kernel⟩
theorem m_X6_sizeOf_0 : (.fieldLink RX6 16 "CellKeys$Rows" "sizes" "[I" : Cond) ∈ wsX6_sizeOf := by decide +kernel
theorem in_X6_sizeOf_X6 : ∀ w ∈ u_ws RX6 TX6 2, w ∈ wsX6_sizeOf := by decide +kernel
set_option maxHeartbeats 4000000 in
set_option maxRecDepth 100000 in
theorem c_X6_sizeOf (l : Launch) (G : zG) (q : Nat → Nat) (o : Nat) (S : VX6) (v1 : Int32) (y : Int32) (hf : f_X6_sizeOf S v1 = some y) : zMet l yX6_sizeOf wsX6_sizeOf 1 21 G [.ref (q (o + 0)), .int v1] [bX6 G q o S.1 S.2] (some (.int y)) [bX6 G q o S.1 S.2] := by
  refine z_met zc_X6_sizeOf (Nat.le_of_ble_eq_true rfl) ?_
  intro p e s m below meth c A ls hZ hl hw
  have hl : lv_has ls 2 [(0, .ref (q (o + 0))), (1, .int v1)] := hl
  obtain ⟨hS0, hr, hlk, hK, hA, hT⟩ := id hZ
  have hx := hS0.1
  have hb := hS0.2.1
  have hml := hS0.2.2.1
  have hown : s.vm.findClass RX6 = some m.cls := hS0.2.2.2.1
  have hts := hS0.2.2.2.2
  unfold f_X6_sizeOf at hf
  refine lv_aload_n hx hb dX6_sizeOf_0 rfl (lv_at hl 0 rfl) ?_
  refine lv_iload_n hx hb dX6_sizeOf_1 rfl (lv_at hl 1 rfl) ?_
  obtain ⟨r1, e2, hf⟩ := z_bd hf
  refine z_callV1 (As := [.int v1]) (rest := []) (bs' := [bX6 G q o S.1 S.2]) hS0 (c_X6_isNumber l G q o S v1 r1 e2) zc_X6_isNumber rfl gX6_sizeOf_X6_isNumber ⟨Nat.le_of_ble_eq_true rfl, Nat.le_of_ble_eq_true rfl⟩ hK hA hT hw (is := [0]) rfl rfl rfl rfl rfl rfl rfl hl.1 rfl (Nat.le_of_ble_eq_true rfl) dX6_sizeOf_2 (fun H locs hw => ?_)
  refine lv_if_eq (tgt := 17) hx hb dX6_sizeOf_5 rfl (fun hc => ?_) (fun hc => ?_)
  · have hf := z_t hc hf
    refine lv_iconst (v := (-1)) hx hb dX6_sizeOf_17 rfl ?_
    cases hf
    exact z_iret hx hb hr hlk hw dX6_sizeOf_18
  · have hf := z_f hc hf
    refine lv_aload_n hx hb dX6_sizeOf_8 rfl (lv_at hl 0 rfl) ?_
    refine z_get hS0 in_X6_sizeOf_X6 hK hw 0 1 rfl rfl rfl (by decide) (hts _ m_X6_sizeOf_0) (v := .ref (q (o + 8))) rfl dX6_sizeOf_9 ?_
    refine lv_iload_n hx hb dX6_sizeOf_12 rfl (lv_at hl 1 rfl) ?_
    obtain ⟨g3, hf⟩ := z_gd hf
    refine z_iald hS0 hK hw 0 8 (zIn_vp g3) rfl rfl dX6_sizeOf_13 ?_
    refine lv_goto (tgt := 18) hx hb dX6_sizeOf_14 rfl ?_
    cases hf
    exact z_iret hx hb hr hlk hw dX6_sizeOf_18
theorem zc_X6_isPlace : zC yX6_isPlace wsX6_isPlace cX6_isPlace 3 (some .boolean) 2 := ⟨⟨_, rfl⟩, by decide +kernel, by decide +kernel, by decide +kernel, by decide +kernel⟩
set_option maxHeartbeats 4000000 in
set_option maxRecDepth 100000 in
theorem c_X6_isPlace (l : Launch) (G : zG) (q : Nat → Nat) (o : Nat) (S : VX6) (v1 : Int32) (v2 : Int32) (y : Int32) (hf : f_X6_isPlace S v1 v2 = some y) : zMet l yX6_isPlace wsX6_isPlace 2 42 G [.ref (q (o + 0)), .int v1, .int v2] [bX6 G q o S.1 S.2] (some (.int y)) [bX6 G q o S.1 S.2] := by
  refine z_met zc_X6_isPlace (Nat.le_of_ble_eq_true rfl) ?_
  intro p e s m below meth c A ls hZ hl hw
  have hl : lv_has ls 3 [(0, .ref (q (o + 0))), (1, .int v1), (2, .int v2)] := hl
  obtain ⟨hS0, hr, hlk, hK, hA, hT⟩ := id hZ
  have hx := hS0.1
  have hb := hS0.2.1
  have hml := hS0.2.2.1
  have hown : s.vm.findClass RX6 = some m.cls := hS0.2.2.2.1
  have hts := hS0.2.2.2.2
  unfold f_X6_isPlace at hf
  refine lv_iload_n hx hb dX6_isPlace_0 rfl (lv_at hl 2 rfl) ?_
  refine lv_if_lt (tgt := 17) hx hb dX6_isPlace_1 rfl (fun hc => ?_) (fun hc => ?_)
  · have hf := z_t hc hf
    refine lv_iconst (v := 0) hx hb dX6_isPlace_17 rfl ?_
    cases hf
    exact z_zret hx hb hr (z_nb (Or.inl rfl)) hlk hw dX6_isPlace_18
  · have hf := z_f hc hf
    refine lv_iload_n hx hb dX6_isPlace_4 rfl (lv_at hl 2 rfl) ?_
    refine lv_aload_n hx hb dX6_isPlace_5 rfl (lv_at hl 0 rfl) ?_
    refine lv_iload_n hx hb dX6_isPlace_6 rfl (lv_at hl 1 rfl) ?_
    obtain ⟨r1, e2, hf⟩ := z_bd hf
    refine z_callV1 (As := [.int v1]) (rest := [.int v2]) (bs' := [bX6 G q o S.1 S.2]) hS0 (c_X6_sizeOf l G q o S v1 r1 e2) zc_X6_sizeOf rfl gX6_isPlace_X6_sizeOf ⟨Nat.le_of_ble_eq_true rfl, Nat.le_of_ble_eq_true rfl⟩ hK hA hT hw (is := [0]) rfl rfl rfl rfl rfl rfl rfl hl.1 rfl (Nat.le_of_ble_eq_true rfl) dX6_isPlace_7 (fun H locs hw => ?_)
    refine lv_icmp_ge (tgt := 17) hx hb dX6_isPlace_10 rfl (fun hc => ?_) (fun hc => ?_)
    · have hf := z_t hc hf
      refine lv_iconst (v := 0) hx hb dX6_isPlace_17 rfl ?_
      cases hf
      exact z_zret hx hb hr (z_nb (Or.inl rfl)) hlk hw dX6_isPlace_18
    · have hf := z_f hc hf
      refine lv_iconst (v := 1) hx hb dX6_isPlace_13 rfl ?_
      refine lv_goto (tgt := 18) hx hb dX6_isPlace_14 rfl ?_
      cases hf
      exact z_zret hx hb hr (z_nb (Or.inr rfl)) hlk hw dX6_isPlace_18
theorem zc_X6_get : zC yX6_get wsX6_get cX6_get 3 (some .int) 2 := ⟨⟨_, rfl⟩, by decide +kernel, by decide +kernel, by decide +kernel, by decide +kernel⟩
theorem m_X6_get_0 : (.fieldLink RX6 11 "CellKeys$Rows" "places" "[[I" : Cond) ∈ wsX6_get := by decide +kernel
theorem in_X6_get_X6 : ∀ w ∈ u_ws RX6 TX6 2, w ∈ wsX6_get := by decide +kernel
set_option maxHeartbeats 4000000 in
set_option maxRecDepth 100000 in
theorem c_X6_get (l : Launch) (G : zG) (q : Nat → Nat) (o : Nat) (S : VX6) (v1 : Int32) (v2 : Int32) (y : Int32) (hf : f_X6_get S v1 v2 = some y) : zMet l yX6_get wsX6_get 3 64 G [.ref (q (o + 0)), .int v1, .int v2] [bX6 G q o S.1 S.2] (some (.int y)) [bX6 G q o S.1 S.2] := by
  refine z_met zc_X6_get (Nat.le_of_ble_eq_true rfl) ?_
  intro p e s m below meth c A ls hZ hl hw
  have hl : lv_has ls 3 [(0, .ref (q (o + 0))), (1, .int v1), (2, .int v2)] := hl
  obtain ⟨hS0, hr, hlk, hK, hA, hT⟩ := id hZ
  have hx := hS0.1
  have hb := hS0.2.1
  have hml := hS0.2.2.1
  have hown : s.vm.findClass RX6 = some m.cls := hS0.2.2.2.1
  have hts := hS0.2.2.2.2
  unfold f_X6_get at hf
  refine lv_aload_n hx hb dX6_get_0 rfl (lv_at hl 0 rfl) ?_
  refine lv_iload_n hx hb dX6_get_1 rfl (lv_at hl 1 rfl) ?_
  refine lv_iload_n hx hb dX6_get_2 rfl (lv_at hl 2 rfl) ?_
  obtain ⟨r1, e2, hf⟩ := z_bd hf
  refine z_callV1 (As := [.int v1, .int v2]) (rest := []) (bs' := [bX6 G q o S.1 S.2]) hS0 (c_X6_isPlace l G q o S v1 v2 r1 e2) zc_X6_isPlace rfl gX6_get_X6_isPlace ⟨Nat.le_of_ble_eq_true rfl, Nat.le_of_ble_eq_true rfl⟩ hK hA hT hw (is := [0]) rfl rfl rfl rfl rfl rfl rfl hl.1 rfl (Nat.le_of_ble_eq_true rfl) dX6_get_3 (fun H locs hw => ?_)
  refine lv_if_eq (tgt := 20) hx hb dX6_get_6 rfl (fun hc => ?_) (fun hc => ?_)
  · have hf := z_t hc hf
    refine lv_iconst (v := 0) hx hb dX6_get_20 rfl ?_
    cases hf
    exact z_iret hx hb hr hlk hw dX6_get_21
  · have hf := z_f hc hf
    refine lv_aload_n hx hb dX6_get_9 rfl (lv_at hl 0 rfl) ?_
    refine z_get hS0 in_X6_get_X6 hK hw 0 0 rfl rfl rfl (by decide) (hts _ m_X6_get_0) (v := .ref (q (o + 1))) rfl dX6_get_10 ?_
    refine lv_iload_n hx hb dX6_get_13 rfl (lv_at hl 1 rfl) ?_
    obtain ⟨g3, hf⟩ := z_gd hf
    refine z_aald hS0 hK hw 0 1 2 (zIn_vp g3) rfl rfl rfl dX6_get_14 (r := (q (o + 2 + v1.toNatClampNeg))) (z_grid (f := fun j => q (o + 2 + j)) (zIn_vp g3)) ?_
    refine lv_iload_n hx hb dX6_get_15 rfl (lv_at hl 2 rfl) ?_
    obtain ⟨g4, hf⟩ := z_gd hf
    obtain ⟨kr5, hr6, hs7⟩ := z_row_X6 (G := G) (q := q) (o := o) (P := S.1) (Z := S.2) (zIn_vp g3)
    refine z_iald hS0 hK hw 0 kr5 (zIn_vp g4) rfl hr6 dX6_get_16 ?_
    refine lv_goto (tgt := 21) hx hb dX6_get_17 rfl ?_
    cases hf
    exact z_iret hx hb hr hlk hw dX6_get_21
theorem zc_X6_isThere : zC yX6_isThere wsX6_isThere cX6_isThere 2 (some .boolean) 1 := ⟨⟨_, rfl⟩, by decide +kernel, by decide +kernel, by decide +kernel, by decide +kernel⟩
set_option maxHeartbeats 4000000 in
set_option maxRecDepth 100000 in
theorem c_X6_isThere (l : Launch) (G : zG) (q : Nat → Nat) (o : Nat) (S : VX6) (v1 : Int32) (y : Int32) (hf : f_X6_isThere S v1 = some y) : zMet l yX6_isThere wsX6_isThere 2 42 G [.ref (q (o + 0)), .int v1] [bX6 G q o S.1 S.2] (some (.int y)) [bX6 G q o S.1 S.2] := by
  refine z_met zc_X6_isThere (Nat.le_of_ble_eq_true rfl) ?_
  intro p e s m below meth c A ls hZ hl hw
  have hl : lv_has ls 2 [(0, .ref (q (o + 0))), (1, .int v1)] := hl
  obtain ⟨hS0, hr, hlk, hK, hA, hT⟩ := id hZ
  have hx := hS0.1
  have hb := hS0.2.1
  have hml := hS0.2.2.1
  have hown : s.vm.findClass RX6 = some m.cls := hS0.2.2.2.1
  have hts := hS0.2.2.2.2
  unfold f_X6_isThere at hf
  refine lv_aload_n hx hb dX6_isThere_0 rfl (lv_at hl 0 rfl) ?_
  refine lv_iload_n hx hb dX6_isThere_1 rfl (lv_at hl 1 rfl) ?_
  obtain ⟨r1, e2, hf⟩ := z_bd hf
  refine z_callV1 (As := [.int v1]) (rest := []) (bs' := [bX6 G q o S.1 S.2]) hS0 (c_X6_sizeOf l G q o S v1 r1 e2) zc_X6_sizeOf rfl gX6_isThere_X6_sizeOf ⟨Nat.le_of_ble_eq_true rfl, Nat.le_of_ble_eq_true rfl⟩ hK hA hT hw (is := [0]) rfl rfl rfl rfl rfl rfl rfl hl.1 rfl (Nat.le_of_ble_eq_true rfl) dX6_isThere_2 (fun H locs hw => ?_)
  refine lv_iconst (v := (-1)) hx hb dX6_isThere_5 rfl ?_
  refine lv_icmp_eq (tgt := 13) hx hb dX6_isThere_6 rfl (fun hc => ?_) (fun hc => ?_)
  · have hf := z_t hc hf
    refine lv_iconst (v := 0) hx hb dX6_isThere_13 rfl ?_
    cases hf
    exact z_zret hx hb hr (z_nb (Or.inl rfl)) hlk hw dX6_isThere_14
  · have hf := z_f hc hf
    refine lv_iconst (v := 1) hx hb dX6_isThere_9 rfl ?_
    refine lv_goto (tgt := 14) hx hb dX6_isThere_10 rfl ?_
    cases hf
    exact z_zret hx hb hr (z_nb (Or.inr rfl)) hlk hw dX6_isThere_14
theorem zc_X6_howMany : zC yX6_howMany wsX6_howMany cX6_howMany 3 (some .int) 0 := ⟨⟨_, rfl⟩, by decide +kernel, by decide +kernel, by decide +kernel, by decide +kernel⟩
set_option maxHeartbeats 4000000 in
set_option maxRecDepth 100000 in
theorem k_X6_howMany_4 {p : Program} {l : Launch} {e : Env} {s : State} {m : MethodId} {args : Array Value} {below : List Frame} {meth : Method} {c : Code} {A : Nat → Prop} {G : zG} {q : Nat → Nat} {o : Nat}  (hZ : zZ p s m args meth c A G cX6_howMany 3 RX6 wsX6_howMany (some .int)) (y : Int32)  (n : Nat) : ∀ (S : VX6) (v1 : Int32) (v2 : Int32) (H : Heap) (locs : List Loc) (ls : Array Slot), f_X6_howMany_4 n S v1 v2 = some y → zH G A s.heap [bX6 G q o S.1 S.2] H locs → lv_has ls 3 [(0, .ref (q (o + 0))), (1, .int v1), (2, .int v2)] → W p l e { frames := 3, cells := 0, slots := 0, locals := 63 } s m args below meth c H locs 0 0 (MQ below (zQ (some (.int y)) (zPost G [bX6 G q o S.1 S.2]) A) args s 0 0 A) (F0 m 4 ls []) := by
  obtain ⟨hS0, hr, hlk, hK, hA, hT⟩ := id hZ
  have hx := hS0.1
  have hb := hS0.2.1
  have hml := hS0.2.2.1
  have hown : s.vm.findClass RX6 = some m.cls := hS0.2.2.2.1
  have hts := hS0.2.2.2.2
  induction n with
  | zero =>
    intro S v1 v2 H locs ls hf hw hl
    unfold f_X6_howMany_4 at hf
    cases hf
  | succ n ih =>
    intro S v1 v2 H locs ls hf hw hl
    unfold f_X6_howMany_4 at hf
    refine lv_iload_n hx hb dX6_howMany_4 rfl (lv_at hl 2 rfl) ?_
    refine lv_bipush (v := 6) hx hb dX6_howMany_5 rfl ?_
    refine lv_icmp_ge (tgt := 32) hx hb dX6_howMany_7 rfl (fun hc => ?_) (fun hc => ?_)
    · have hf := z_t hc hf
      refine lv_iload_n hx hb dX6_howMany_32 rfl (lv_at hl 1 rfl) ?_
      cases hf
      exact z_iret hx hb hr hlk hw dX6_howMany_33
    · have hf := z_f hc hf
      refine lv_iload_n hx hb dX6_howMany_10 rfl (lv_at hl 1 rfl) ?_
      refine lv_aload_n hx hb dX6_howMany_11 rfl (lv_at hl 0 rfl) ?_
      refine lv_iload_n hx hb dX6_howMany_12 rfl (lv_at hl 2 rfl) ?_
      obtain ⟨r1, e2, hf⟩ := z_bd hf
      refine z_callV1 (As := [.int v2]) (rest := [.int v1]) (bs' := [bX6 G q o S.1 S.2]) hS0 (c_X6_isThere l G q o S v2 r1 e2) zc_X6_isThere rfl gX6_howMany_X6_isThere ⟨Nat.le_of_ble_eq_true rfl, Nat.le_of_ble_eq_true rfl⟩ hK hA hT hw (is := [0]) rfl rfl rfl rfl rfl rfl rfl hl.1 rfl (Nat.le_of_ble_eq_true rfl) dX6_howMany_13 (fun H locs hw => ?_)
      refine lv_if_eq (tgt := 23) hx hb dX6_howMany_16 rfl (fun hc => ?_) (fun hc => ?_)
      · have hf := z_t hc hf
        refine lv_iconst (v := 0) hx hb dX6_howMany_23 rfl ?_
        refine lv_iadd hx hb dX6_howMany_24 ?_
        refine lv_istore_n (lv' := [(1, .int (v1 + (0 : Int32))), (0, .ref (q (o + 0))), (2, .int v2)]) hx hb dX6_howMany_25 rfl hl (by decide) rfl (fun ls hl => ?_)
        refine lv_iinc (v := (v2 + 1)) (lv' := [(2, .int (v2 + 1)), (1, .int (v1 + (0 : Int32))), (0, .ref (q (o + 0)))]) hx hb dX6_howMany_26 hl (k := 2) rfl rfl (by decide) rfl (fun ls hl => ?_)
        refine lv_goto (tgt := 4) hx hb dX6_howMany_29 rfl ?_
        exact ih _ _ _ _ _ _ hf hw (lv_sub hl [2, 1, 0] rfl)
      · have hf := z_f hc hf
        refine lv_iconst (v := 1) hx hb dX6_howMany_19 rfl ?_
        refine lv_goto (tgt := 24) hx hb dX6_howMany_20 rfl ?_
        refine lv_iadd hx hb dX6_howMany_24 ?_
        refine lv_istore_n (lv' := [(1, .int (v1 + (1 : Int32))), (0, .ref (q (o + 0))), (2, .int v2)]) hx hb dX6_howMany_25 rfl hl (by decide) rfl (fun ls hl => ?_)
        refine lv_iinc (v := (v2 + 1)) (lv' := [(2, .int (v2 + 1)), (1, .int (v1 + (1 : Int32))), (0, .ref (q (o + 0)))]) hx hb dX6_howMany_26 hl (k := 2) rfl rfl (by decide) rfl (fun ls hl => ?_)
        refine lv_goto (tgt := 4) hx hb dX6_howMany_29 rfl ?_
        exact ih _ _ _ _ _ _ hf hw (lv_sub hl [2, 1, 0] rfl)
set_option maxHeartbeats 4000000 in
set_option maxRecDepth 100000 in
theorem c_X6_howMany (l : Launch) (G : zG) (q : Nat → Nat) (o : Nat) (S : VX6)  (y : Int32) (hf : f_X6_howMany S = some y) : zMet l yX6_howMany wsX6_howMany 3 63 G [.ref (q (o + 0))] [bX6 G q o S.1 S.2] (some (.int y)) [bX6 G q o S.1 S.2] := by
  refine z_met zc_X6_howMany (Nat.le_of_ble_eq_true rfl) ?_
  intro p e s m below meth c A ls hZ hl hw
  have hl : lv_has ls 3 [(0, .ref (q (o + 0)))] := hl
  obtain ⟨hS0, hr, hlk, hK, hA, hT⟩ := id hZ
  have hx := hS0.1
  have hb := hS0.2.1
  have hml := hS0.2.2.1
  have hown : s.vm.findClass RX6 = some m.cls := hS0.2.2.2.1
  have hts := hS0.2.2.2.2
  unfold f_X6_howMany at hf
  refine lv_iconst (v := 0) hx hb dX6_howMany_0 rfl ?_
  refine lv_istore_n (lv' := [(1, .int 0), (0, .ref (q (o + 0)))]) hx hb dX6_howMany_1 rfl hl (by decide) rfl (fun ls hl => ?_)
  refine lv_iconst (v := 0) hx hb dX6_howMany_2 rfl ?_
  refine lv_istore_n (lv' := [(2, .int 0), (1, .int 0), (0, .ref (q (o + 0)))]) hx hb dX6_howMany_3 rfl hl (by decide) rfl (fun ls hl => ?_)
  exact k_X6_howMany_4 hZ _ 4096 _ _ _ _ _ _ hf hw (lv_sub hl [2, 1, 0] rfl)
theorem zc_X6_make : zC yX6_make wsX6_make cX6_make 4 none 2 := ⟨⟨_, rfl⟩, by decide +kernel, by decide +kernel, by decide +kernel, by decide +kernel⟩
theorem m_X6_make_0 : (.fieldLink RX6 11 "CellKeys$Rows" "places" "[[I" : Cond) ∈ wsX6_make := by decide +kernel
theorem in_X6_make_X6 : ∀ w ∈ u_ws RX6 TX6 2, w ∈ wsX6_make := by decide +kernel
theorem m_X6_make_1 : (.fieldLink RX6 16 "CellKeys$Rows" "sizes" "[I" : Cond) ∈ wsX6_make := by decide +kernel
set_option maxHeartbeats 4000000 in
set_option maxRecDepth 100000 in
theorem k_X6_make_28 {p : Program} {l : Launch} {e : Env} {s : State} {m : MethodId} {args : Array Value} {below : List Frame} {meth : Method} {c : Code} {A : Nat → Prop} {G : zG} {q : Nat → Nat} {o : Nat}  (hZ : zZ p s m args meth c A G cX6_make 4 RX6 wsX6_make none) (y : VX6)  (n : Nat) : ∀ (S : VX6) (v1 : Int32) (v2 : Int32) (v3 : Int32) (H : Heap) (locs : List Loc) (ls : Array Slot), f_X6_make_28 n S v1 v2 v3 = some y → zH G A s.heap [bX6 G q o S.1 S.2] H locs → lv_has ls 4 [(0, .ref (q (o + 0))), (1, .int v1), (2, .int v2), (3, .int v3)] → W p l e { frames := 1, cells := 0, slots := 0, locals := 21 } s m args below meth c H locs 0 0 (MQ below (zQ none (zPost G [bX6 G q o y.1 y.2]) A) args s 0 0 A) (F0 m 28 ls []) := by
  obtain ⟨hS0, hr, hlk, hK, hA, hT⟩ := id hZ
  have hx := hS0.1
  have hb := hS0.2.1
  have hml := hS0.2.2.1
  have hown : s.vm.findClass RX6 = some m.cls := hS0.2.2.2.1
  have hts := hS0.2.2.2.2
  induction n with
  | zero =>
    intro S v1 v2 v3 H locs ls hf hw hl
    unfold f_X6_make_28 at hf
    cases hf
  | succ n ih =>
    intro S v1 v2 v3 H locs ls hf hw hl
    unfold f_X6_make_28 at hf
    refine lv_iload_n hx hb dX6_make_28 rfl (lv_at hl 3 rfl) ?_
    refine lv_iload_n hx hb dX6_make_29 rfl (lv_at hl 2 rfl) ?_
    refine lv_icmp_ge (tgt := 48) hx hb dX6_make_30 rfl (fun hc => ?_) (fun hc => ?_)
    · have hf := z_t hc hf
      cases hf
      exact z_vret hx hb hr hlk hw dX6_make_48
    · have hf := z_f hc hf
      refine lv_aload_n hx hb dX6_make_33 rfl (lv_at hl 0 rfl) ?_
      refine z_get hS0 in_X6_make_X6 hK hw 0 0 rfl rfl rfl (by decide) (hts _ m_X6_make_0) (v := .ref (q (o + 1))) rfl dX6_make_34 ?_
      refine lv_iload_n hx hb dX6_make_37 rfl (lv_at hl 1 rfl) ?_
      obtain ⟨g1, hf⟩ := z_gd hf
      refine z_aald hS0 hK hw 0 1 2 (zIn_vp g1) rfl rfl rfl dX6_make_38 (r := (q (o + 2 + v1.toNatClampNeg))) (z_grid (f := fun j => q (o + 2 + j)) (zIn_vp g1)) ?_
      refine lv_iload_n hx hb dX6_make_39 rfl (lv_at hl 3 rfl) ?_
      refine lv_iconst (v := 0) hx hb dX6_make_40 rfl ?_
      obtain ⟨g2, hf⟩ := z_gd hf
      obtain ⟨kr3, hr4, hs5⟩ := z_row_X6 (G := G) (q := q) (o := o) (P := S.1) (Z := S.2) (zIn_vp g1)
      refine z_iast (blk' := bX6 G q o (zg S.1 v1.toNatClampNeg (upd (S.1 v1.toNatClampNeg) v3.toNatClampNeg 0)) S.2) (bs' := [bX6 G q o (zg S.1 v1.toNatClampNeg (upd (S.1 v1.toNatClampNeg) v3.toNatClampNeg 0)) S.2]) hS0 hK hw 0 kr3 (zIn_vp g2) rfl hr4 dX6_make_41 (hs5 _) rfl (fun H locs hw => ?_)
      refine lv_iinc (v := (v3 + 1)) (lv' := [(3, .int (v3 + 1)), (0, .ref (q (o + 0))), (1, .int v1), (2, .int v2)]) hx hb dX6_make_42 hl (k := 3) rfl rfl (by decide) rfl (fun ls hl => ?_)
      refine lv_goto (tgt := 28) hx hb dX6_make_45 rfl ?_
      exact ih _ _ _ _ _ _ _ hf hw (lv_sub hl [1, 2, 3, 0] rfl)
set_option maxHeartbeats 4000000 in
set_option maxRecDepth 100000 in
theorem c_X6_make (l : Launch) (G : zG) (q : Nat → Nat) (o : Nat) (S : VX6) (v1 : Int32) (v2 : Int32) (y : VX6) (hf : f_X6_make S v1 v2 = some y) : zMet l yX6_make wsX6_make 1 21 G [.ref (q (o + 0)), .int v1, .int v2] [bX6 G q o S.1 S.2] none [bX6 G q o y.1 y.2] := by
  refine z_met zc_X6_make (Nat.le_of_ble_eq_true rfl) ?_
  intro p e s m below meth c A ls hZ hl hw
  have hl : lv_has ls 4 [(0, .ref (q (o + 0))), (1, .int v1), (2, .int v2)] := hl
  obtain ⟨hS0, hr, hlk, hK, hA, hT⟩ := id hZ
  have hx := hS0.1
  have hb := hS0.2.1
  have hml := hS0.2.2.1
  have hown : s.vm.findClass RX6 = some m.cls := hS0.2.2.2.1
  have hts := hS0.2.2.2.2
  unfold f_X6_make at hf
  refine lv_aload_n hx hb dX6_make_0 rfl (lv_at hl 0 rfl) ?_
  refine lv_iload_n hx hb dX6_make_1 rfl (lv_at hl 1 rfl) ?_
  obtain ⟨r6, e7, hf⟩ := z_bd hf
  refine z_callV1 (As := [.int v1]) (rest := []) (bs' := [bX6 G q o S.1 S.2]) hS0 (c_X6_isNumber l G q o S v1 r6 e7) zc_X6_isNumber rfl gX6_make_X6_isNumber ⟨Nat.le_of_ble_eq_true rfl, Nat.le_of_ble_eq_true rfl⟩ hK hA hT hw (is := [0]) rfl rfl rfl rfl rfl rfl rfl hl.1 rfl (Nat.le_of_ble_eq_true rfl) dX6_make_2 (fun H locs hw => ?_)
  refine lv_if_eq (tgt := 18) hx hb dX6_make_5 rfl (fun hc => ?_) (fun hc => ?_)
  · have hf := z_t hc hf
    cases hf
    exact z_vret hx hb hr hlk hw dX6_make_18
  · have hf := z_f hc hf
    refine lv_iload_n hx hb dX6_make_8 rfl (lv_at hl 2 rfl) ?_
    refine lv_if_lt (tgt := 18) hx hb dX6_make_9 rfl (fun hc => ?_) (fun hc => ?_)
    · have hf := z_t hc hf
      cases hf
      exact z_vret hx hb hr hlk hw dX6_make_18
    · have hf := z_f hc hf
      refine lv_iload_n hx hb dX6_make_12 rfl (lv_at hl 2 rfl) ?_
      refine lv_bipush (v := 60) hx hb dX6_make_13 rfl ?_
      refine lv_icmp_le (tgt := 19) hx hb dX6_make_15 rfl (fun hc => ?_) (fun hc => ?_)
      · have hf := z_t hc hf
        refine lv_aload_n hx hb dX6_make_19 rfl (lv_at hl 0 rfl) ?_
        refine z_get hS0 in_X6_make_X6 hK hw 0 1 rfl rfl rfl (by decide) (hts _ m_X6_make_1) (v := .ref (q (o + 8))) rfl dX6_make_20 ?_
        refine lv_iload_n hx hb dX6_make_23 rfl (lv_at hl 1 rfl) ?_
        refine lv_iload_n hx hb dX6_make_24 rfl (lv_at hl 2 rfl) ?_
        obtain ⟨g8, hf⟩ := z_gd hf
        refine z_iast (blk' := bX6 G q o S.1 (upd S.2 v1.toNatClampNeg v2)) (bs' := [bX6 G q o S.1 (upd S.2 v1.toNatClampNeg v2)]) hS0 hK hw 0 8 (zIn_vp g8) rfl rfl dX6_make_25 rfl rfl (fun H locs hw => ?_)
        refine lv_iconst (v := 0) hx hb dX6_make_26 rfl ?_
        refine lv_istore_n (lv' := [(3, .int 0), (0, .ref (q (o + 0))), (1, .int v1), (2, .int v2)]) hx hb dX6_make_27 rfl hl (by decide) rfl (fun ls hl => ?_)
        exact k_X6_make_28 hZ _ 4096 _ _ _ _ _ _ _ hf hw (lv_sub hl [1, 2, 3, 0] rfl)
      · have hf := z_f hc hf
        cases hf
        exact z_vret hx hb hr hlk hw dX6_make_18
theorem zc_X6_mix : zC yX6_mix wsX6_mix cX6_mix 5 (some .long) 1 := ⟨⟨_, rfl⟩, by decide +kernel, by decide +kernel, by decide +kernel, by decide +kernel⟩
theorem m_X6_mix_0 : (.constantLong RX6 49 (31) : Cond) ∈ wsX6_mix := by decide +kernel
set_option maxHeartbeats 4000000 in
set_option maxRecDepth 100000 in
theorem k_X6_mix_24 {p : Program} {l : Launch} {e : Env} {s : State} {m : MethodId} {args : Array Value} {below : List Frame} {meth : Method} {c : Code} {A : Nat → Prop} {G : zG} {q : Nat → Nat} {o : Nat} {r_2 : VX6 → Int64 → Int32 → Option (Int64)} (hZ : zZ p s m args meth c A G cX6_mix 5 RX6 wsX6_mix (some .long)) (y : Int64) (h_2 : ∀ (S : VX6) (v1 : Int64) (v3 : Int32) (H : Heap) (locs : List Loc) (ls : Array Slot), r_2 S v1 v3 = some y → zH G A s.heap [bX6 G q o S.1 S.2] H locs → lv_has ls 5 [(0, .ref (q (o + 0))), (1, .long v1), (3, .int v3)] → W p l e { frames := 4, cells := 0, slots := 0, locals := 86 } s m args below meth c H locs 0 0 (MQ below (zQ (some (.long y)) (zPost G [bX6 G q o S.1 S.2]) A) args s 0 0 A) (F0 m 2 ls [])) (n : Nat) : ∀ (S : VX6) (v1 : Int64) (v3 : Int32) (v4 : Int32) (H : Heap) (locs : List Loc) (ls : Array Slot), f_X6_mix_24 r_2 n S v1 v3 v4 = some y → zH G A s.heap [bX6 G q o S.1 S.2] H locs → lv_has ls 5 [(0, .ref (q (o + 0))), (1, .long v1), (3, .int v3), (4, .int v4)] → W p l e { frames := 4, cells := 0, slots := 0, locals := 86 } s m args below meth c H locs 0 0 (MQ below (zQ (some (.long y)) (zPost G [bX6 G q o S.1 S.2]) A) args s 0 0 A) (F0 m 24 ls []) := by
  obtain ⟨hS0, hr, hlk, hK, hA, hT⟩ := id hZ
  have hx := hS0.1
  have hb := hS0.2.1
  have hml := hS0.2.2.1
  have hown : s.vm.findClass RX6 = some m.cls := hS0.2.2.2.1
  have hts := hS0.2.2.2.2
  induction n with
  | zero =>
    intro S v1 v3 v4 H locs ls hf hw hl
    unfold f_X6_mix_24 at hf
    cases hf
  | succ n ih =>
    intro S v1 v3 v4 H locs ls hf hw hl
    unfold f_X6_mix_24 at hf
    refine lv_iload hx hb dX6_mix_24 (lv_at hl 3 rfl) ?_
    refine lv_aload_n hx hb dX6_mix_26 rfl (lv_at hl 0 rfl) ?_
    refine lv_iload_n hx hb dX6_mix_27 rfl (lv_at hl 2 rfl) ?_
    obtain ⟨r1, e2, hf⟩ := z_bd hf
    refine z_callV1 (As := [.int v3]) (rest := [.int v4]) (bs' := [bX6 G q o S.1 S.2]) hS0 (c_X6_sizeOf l G q o S v3 r1 e2) zc_X6_sizeOf rfl gX6_mix_X6_sizeOf ⟨Nat.le_of_ble_eq_true rfl, Nat.le_of_ble_eq_true rfl⟩ hK hA hT hw (is := [0]) rfl rfl rfl rfl rfl rfl rfl hl.1 rfl (Nat.le_of_ble_eq_true rfl) dX6_mix_28 (fun H locs hw => ?_)
    refine lv_icmp_ge (tgt := 55) hx hb dX6_mix_31 rfl (fun hc => ?_) (fun hc => ?_)
    · have hf := z_t hc hf
      refine lv_iinc (v := (v3 + 1)) (lv' := [(3, .int (v3 + 1)), (0, .ref (q (o + 0))), (1, .long v1), (4, .int v4)]) hx hb dX6_mix_55 hl (k := 2) rfl rfl (by decide) rfl (fun ls hl => ?_)
      refine lv_goto (tgt := 2) hx hb dX6_mix_58 rfl ?_
      exact h_2 _ _ _ _ _ _ hf hw (lv_sub hl [1, 2, 0] rfl)
    · have hf := z_f hc hf
      refine lv_ldc2 (v := 31) hx hb hown (hts _ m_X6_mix_0) dX6_mix_34 ?_
      refine lv_lload_n hx hb dX6_mix_37 rfl (lv_at hl 1 rfl) ?_
      refine lv_lmul hx hb dX6_mix_38 ?_
      refine lv_aload_n hx hb dX6_mix_39 rfl (lv_at hl 0 rfl) ?_
      refine lv_iload_n hx hb dX6_mix_40 rfl (lv_at hl 2 rfl) ?_
      refine lv_iload hx hb dX6_mix_41 (lv_at hl 3 rfl) ?_
      obtain ⟨r3, e4, hf⟩ := z_bd hf
      refine z_callV1 (As := [.int v3, .int v4]) (rest := [.long (31 * v1)]) (bs' := [bX6 G q o S.1 S.2]) hS0 (c_X6_get l G q o S v3 v4 r3 e4) zc_X6_get rfl gX6_mix_X6_get ⟨Nat.le_of_ble_eq_true rfl, Nat.le_of_ble_eq_true rfl⟩ hK hA hT hw (is := [0]) rfl rfl rfl rfl rfl rfl rfl hl.1 rfl (Nat.le_of_ble_eq_true rfl) dX6_mix_43 (fun H locs hw => ?_)
      refine lv_i2l (v := r3.toInt64) hx hb dX6_mix_46 rfl ?_
      refine lv_ladd hx hb dX6_mix_47 ?_
      refine lv_lstore_n (lv' := [(1, .long ((31 * v1) + r3.toInt64)), (0, .ref (q (o + 0))), (3, .int v3), (4, .int v4)]) hx hb dX6_mix_48 rfl hl (by decide) rfl (fun ls hl => ?_)
      refine lv_iinc (v := (v4 + 1)) (lv' := [(4, .int (v4 + 1)), (1, .long ((31 * v1) + r3.toInt64)), (0, .ref (q (o + 0))), (3, .int v3)]) hx hb dX6_mix_49 hl (k := 3) rfl rfl (by decide) rfl (fun ls hl => ?_)
      refine lv_goto (tgt := 24) hx hb dX6_mix_52 rfl ?_
      exact ih _ _ _ _ _ _ _ hf hw (lv_sub hl [2, 1, 3, 0] rfl)
set_option maxHeartbeats 4000000 in
set_option maxRecDepth 100000 in
theorem k_X6_mix_2 {p : Program} {l : Launch} {e : Env} {s : State} {m : MethodId} {args : Array Value} {below : List Frame} {meth : Method} {c : Code} {A : Nat → Prop} {G : zG} {q : Nat → Nat} {o : Nat}  (hZ : zZ p s m args meth c A G cX6_mix 5 RX6 wsX6_mix (some .long)) (y : Int64)  (n : Nat) : ∀ (S : VX6) (v1 : Int64) (v3 : Int32) (H : Heap) (locs : List Loc) (ls : Array Slot), f_X6_mix_2 n S v1 v3 = some y → zH G A s.heap [bX6 G q o S.1 S.2] H locs → lv_has ls 5 [(0, .ref (q (o + 0))), (1, .long v1), (3, .int v3)] → W p l e { frames := 4, cells := 0, slots := 0, locals := 86 } s m args below meth c H locs 0 0 (MQ below (zQ (some (.long y)) (zPost G [bX6 G q o S.1 S.2]) A) args s 0 0 A) (F0 m 2 ls []) := by
  obtain ⟨hS0, hr, hlk, hK, hA, hT⟩ := id hZ
  have hx := hS0.1
  have hb := hS0.2.1
  have hml := hS0.2.2.1
  have hown : s.vm.findClass RX6 = some m.cls := hS0.2.2.2.1
  have hts := hS0.2.2.2.2
  induction n with
  | zero =>
    intro S v1 v3 H locs ls hf hw hl
    unfold f_X6_mix_2 at hf
    cases hf
  | succ n ih =>
    intro S v1 v3 H locs ls hf hw hl
    unfold f_X6_mix_2 at hf
    refine lv_iload_n hx hb dX6_mix_2 rfl (lv_at hl 2 rfl) ?_
    refine lv_bipush (v := 6) hx hb dX6_mix_3 rfl ?_
    refine lv_icmp_ge (tgt := 61) hx hb dX6_mix_5 rfl (fun hc => ?_) (fun hc => ?_)
    · have hf := z_t hc hf
      refine lv_lload_n hx hb dX6_mix_61 rfl (lv_at hl 1 rfl) ?_
      cases hf
      exact z_lret hx hb hr hlk hw dX6_mix_62
    · have hf := z_f hc hf
      refine lv_ldc2 (v := 31) hx hb hown (hts _ m_X6_mix_0) dX6_mix_8 ?_
      refine lv_lload_n hx hb dX6_mix_11 rfl (lv_at hl 1 rfl) ?_
      refine lv_lmul hx hb dX6_mix_12 ?_
      refine lv_aload_n hx hb dX6_mix_13 rfl (lv_at hl 0 rfl) ?_
      refine lv_iload_n hx hb dX6_mix_14 rfl (lv_at hl 2 rfl) ?_
      obtain ⟨r5, e6, hf⟩ := z_bd hf
      refine z_callV1 (As := [.int v3]) (rest := [.long (31 * v1)]) (bs' := [bX6 G q o S.1 S.2]) hS0 (c_X6_sizeOf l G q o S v3 r5 e6) zc_X6_sizeOf rfl gX6_mix_X6_sizeOf ⟨Nat.le_of_ble_eq_true rfl, Nat.le_of_ble_eq_true rfl⟩ hK hA hT hw (is := [0]) rfl rfl rfl rfl rfl rfl rfl hl.1 rfl (Nat.le_of_ble_eq_true rfl) dX6_mix_15 (fun H locs hw => ?_)
      refine lv_i2l (v := r5.toInt64) hx hb dX6_mix_18 rfl ?_
      refine lv_ladd hx hb dX6_mix_19 ?_
      refine lv_lstore_n (lv' := [(1, .long ((31 * v1) + r5.toInt64)), (0, .ref (q (o + 0))), (3, .int v3)]) hx hb dX6_mix_20 rfl hl (by decide) rfl (fun ls hl => ?_)
      refine lv_iconst (v := 0) hx hb dX6_mix_21 rfl ?_
      refine lv_istore (lv' := [(4, .int 0), (1, .long ((31 * v1) + r5.toInt64)), (0, .ref (q (o + 0))), (3, .int v3)]) hx hb dX6_mix_22 hl (by decide) rfl (fun ls hl => ?_)
      exact k_X6_mix_24 hZ _ ih 4096 _ _ _ _ _ _ _ hf hw (lv_sub hl [2, 1, 3, 0] rfl)
set_option maxHeartbeats 4000000 in
set_option maxRecDepth 100000 in
theorem c_X6_mix (l : Launch) (G : zG) (q : Nat → Nat) (o : Nat) (S : VX6) (v1 : Int64) (y : Int64) (hf : f_X6_mix S v1 = some y) : zMet l yX6_mix wsX6_mix 4 86 G [.ref (q (o + 0)), .long v1] [bX6 G q o S.1 S.2] (some (.long y)) [bX6 G q o S.1 S.2] := by
  refine z_met zc_X6_mix (Nat.le_of_ble_eq_true rfl) ?_
  intro p e s m below meth c A ls hZ hl hw
  have hl : lv_has ls 5 [(0, .ref (q (o + 0))), (1, .long v1)] := hl
  obtain ⟨hS0, hr, hlk, hK, hA, hT⟩ := id hZ
  have hx := hS0.1
  have hb := hS0.2.1
  have hml := hS0.2.2.1
  have hown : s.vm.findClass RX6 = some m.cls := hS0.2.2.2.1
  have hts := hS0.2.2.2.2
  unfold f_X6_mix at hf
  refine lv_iconst (v := 0) hx hb dX6_mix_0 rfl ?_
  refine lv_istore_n (lv' := [(3, .int 0), (0, .ref (q (o + 0))), (1, .long v1)]) hx hb dX6_mix_1 rfl hl (by decide) rfl (fun ls hl => ?_)
  exact k_X6_mix_2 hZ _ 4096 _ _ _ _ _ _ hf hw (lv_sub hl [1, 2, 0] rfl)
theorem zc_X6_set : zC yX6_set wsX6_set cX6_set 4 none 3 := ⟨⟨_, rfl⟩, by decide +kernel, by decide +kernel, by decide +kernel, by decide +kernel⟩
theorem m_X6_set_0 : (.fieldLink RX6 11 "CellKeys$Rows" "places" "[[I" : Cond) ∈ wsX6_set := by decide +kernel
theorem in_X6_set_X6 : ∀ w ∈ u_ws RX6 TX6 2, w ∈ wsX6_set := by decide +kernel
set_option maxHeartbeats 4000000 in
set_option maxRecDepth 100000 in
theorem c_X6_set (l : Launch) (G : zG) (q : Nat → Nat) (o : Nat) (S : VX6) (v1 : Int32) (v2 : Int32) (v3 : Int32) (y : VX6) (hf : f_X6_set S v1 v2 v3 = some y) : zMet l yX6_set wsX6_set 3 64 G [.ref (q (o + 0)), .int v1, .int v2, .int v3] [bX6 G q o S.1 S.2] none [bX6 G q o y.1 y.2] := by
  refine z_met zc_X6_set (Nat.le_of_ble_eq_true rfl) ?_
  intro p e s m below meth c A ls hZ hl hw
  have hl : lv_has ls 4 [(0, .ref (q (o + 0))), (1, .int v1), (2, .int v2), (3, .int v3)] := hl
  obtain ⟨hS0, hr, hlk, hK, hA, hT⟩ := id hZ
  have hx := hS0.1
  have hb := hS0.2.1
  have hml := hS0.2.2.1
  have hown : s.vm.findClass RX6 = some m.cls := hS0.2.2.2.1
  have hts := hS0.2.2.2.2
  unfold f_X6_set at hf
  refine lv_aload_n hx hb dX6_set_0 rfl (lv_at hl 0 rfl) ?_
  refine lv_iload_n hx hb dX6_set_1 rfl (lv_at hl 1 rfl) ?_
  refine lv_iload_n hx hb dX6_set_2 rfl (lv_at hl 2 rfl) ?_
  obtain ⟨r1, e2, hf⟩ := z_bd hf
  refine z_callV1 (As := [.int v1, .int v2]) (rest := []) (bs' := [bX6 G q o S.1 S.2]) hS0 (c_X6_isPlace l G q o S v1 v2 r1 e2) zc_X6_isPlace rfl gX6_set_X6_isPlace ⟨Nat.le_of_ble_eq_true rfl, Nat.le_of_ble_eq_true rfl⟩ hK hA hT hw (is := [0]) rfl rfl rfl rfl rfl rfl rfl hl.1 rfl (Nat.le_of_ble_eq_true rfl) dX6_set_3 (fun H locs hw => ?_)
  refine lv_if_eq (tgt := 18) hx hb dX6_set_6 rfl (fun hc => ?_) (fun hc => ?_)
  · have hf := z_t hc hf
    cases hf
    exact z_vret hx hb hr hlk hw dX6_set_18
  · have hf := z_f hc hf
    refine lv_aload_n hx hb dX6_set_9 rfl (lv_at hl 0 rfl) ?_
    refine z_get hS0 in_X6_set_X6 hK hw 0 0 rfl rfl rfl (by decide) (hts _ m_X6_set_0) (v := .ref (q (o + 1))) rfl dX6_set_10 ?_
    refine lv_iload_n hx hb dX6_set_13 rfl (lv_at hl 1 rfl) ?_
    obtain ⟨g3, hf⟩ := z_gd hf
    refine z_aald hS0 hK hw 0 1 2 (zIn_vp g3) rfl rfl rfl dX6_set_14 (r := (q (o + 2 + v1.toNatClampNeg))) (z_grid (f := fun j => q (o + 2 + j)) (zIn_vp g3)) ?_
    refine lv_iload_n hx hb dX6_set_15 rfl (lv_at hl 2 rfl) ?_
    refine lv_iload_n hx hb dX6_set_16 rfl (lv_at hl 3 rfl) ?_
    obtain ⟨g4, hf⟩ := z_gd hf
    obtain ⟨kr5, hr6, hs7⟩ := z_row_X6 (G := G) (q := q) (o := o) (P := S.1) (Z := S.2) (zIn_vp g3)
    refine z_iast (blk' := bX6 G q o (zg S.1 v1.toNatClampNeg (upd (S.1 v1.toNatClampNeg) v2.toNatClampNeg v3)) S.2) (bs' := [bX6 G q o (zg S.1 v1.toNatClampNeg (upd (S.1 v1.toNatClampNeg) v2.toNatClampNeg v3)) S.2]) hS0 hK hw 0 kr5 (zIn_vp g4) rfl hr6 dX6_set_17 (hs7 _) rfl (fun H locs hw => ?_)
    cases hf
    exact z_vret hx hb hr hlk hw dX6_set_18
theorem zc_X7_isFull : zC yX7_isFull wsX7_isFull cX7_isFull 1 (some .boolean) 0 := ⟨⟨_, rfl⟩, by decide +kernel, by decide +kernel, by decide +kernel, by decide +kernel⟩
theorem m_X7_isFull_0 : (.fieldLink RX7 18 "CellKeys$Sightings" "size" "I" : Cond) ∈ wsX7_isFull := by decide +kernel
theorem in_X7_isFull_X7 : ∀ w ∈ u_ws RX7 TX7 3, w ∈ wsX7_isFull := by decide +kernel
set_option maxHeartbeats 4000000 in
set_option maxRecDepth 100000 in
theorem c_X7_isFull (l : Launch) (G : zG) (q : Nat → Nat) (o : Nat) (S : VX7)  (y : Int32) (hf : f_X7_isFull S = some y) : zMet l yX7_isFull wsX7_isFull 0 0 G [.ref (q (o + 0))] [bX7 G q o S.1 S.2.1 S.2.2] (some (.int y)) [bX7 G q o S.1 S.2.1 S.2.2] := by
  refine z_met zc_X7_isFull (Nat.le_of_ble_eq_true rfl) ?_
  intro p e s m below meth c A ls hZ hl hw
  have hl : lv_has ls 1 [(0, .ref (q (o + 0)))] := hl
  obtain ⟨hS0, hr, hlk, hK, hA, hT⟩ := id hZ
  have hx := hS0.1
  have hb := hS0.2.1
  have hml := hS0.2.2.1
  have hown : s.vm.findClass RX7 = some m.cls := hS0.2.2.2.1
  have hts := hS0.2.2.2.2
  unfold f_X7_isFull at hf
  refine lv_aload_n hx hb dX7_isFull_0 rfl (lv_at hl 0 rfl) ?_
  refine z_get hS0 in_X7_isFull_X7 hK hw 0 2 rfl rfl rfl (by decide) (hts _ m_X7_isFull_0) (v := .int S.2.2) rfl dX7_isFull_1 ?_
  refine lv_bipush (v := 8) hx hb dX7_isFull_4 rfl ?_
  refine lv_icmp_lt (tgt := 13) hx hb dX7_isFull_6 rfl (fun hc => ?_) (fun hc => ?_)
  · have hf := z_t hc hf
    refine lv_iconst (v := 0) hx hb dX7_isFull_13 rfl ?_
    cases hf
    exact z_zret hx hb hr (z_nb (Or.inl rfl)) hlk hw dX7_isFull_14
  · have hf := z_f hc hf
    refine lv_iconst (v := 1) hx hb dX7_isFull_9 rfl ?_
    refine lv_goto (tgt := 14) hx hb dX7_isFull_10 rfl ?_
    cases hf
    exact z_zret hx hb hr (z_nb (Or.inr rfl)) hlk hw dX7_isFull_14
theorem zc_X7_add : zC yX7_add wsX7_add cX7_add 3 (some .int) 2 := ⟨⟨_, rfl⟩, by decide +kernel, by decide +kernel, by decide +kernel, by decide +kernel⟩
theorem m_X7_add_0 : (.fieldLink RX7 18 "CellKeys$Sightings" "size" "I" : Cond) ∈ wsX7_add := by decide +kernel
theorem in_X7_add_X7 : ∀ w ∈ u_ws RX7 TX7 3, w ∈ wsX7_add := by decide +kernel
theorem m_X7_add_1 : (.fieldLink RX7 9 "CellKeys$Sightings" "who" "[I" : Cond) ∈ wsX7_add := by decide +kernel
theorem m_X7_add_2 : (.fieldLink RX7 15 "CellKeys$Sightings" "was" "[I" : Cond) ∈ wsX7_add := by decide +kernel
set_option maxHeartbeats 4000000 in
set_option maxRecDepth 100000 in
theorem c_X7_add (l : Launch) (G : zG) (q : Nat → Nat) (o : Nat) (S : VX7) (v1 : Int32) (v2 : Int32) (y : Int32 × VX7) (hf : f_X7_add S v1 v2 = some y) : zMet l yX7_add wsX7_add 1 20 G [.ref (q (o + 0)), .int v1, .int v2] [bX7 G q o S.1 S.2.1 S.2.2] (some (.int y.1)) [bX7 G q o y.2.1 y.2.2.1 y.2.2.2] := by
  refine z_met zc_X7_add (Nat.le_of_ble_eq_true rfl) ?_
  intro p e s m below meth c A ls hZ hl hw
  have hl : lv_has ls 3 [(0, .ref (q (o + 0))), (1, .int v1), (2, .int v2)] := hl
  obtain ⟨hS0, hr, hlk, hK, hA, hT⟩ := id hZ
  have hx := hS0.1
  have hb := hS0.2.1
  have hml := hS0.2.2.1
  have hown : s.vm.findClass RX7 = some m.cls := hS0.2.2.2.1
  have hts := hS0.2.2.2.2
  unfold f_X7_add at hf
  refine lv_aload_n hx hb dX7_add_0 rfl (lv_at hl 0 rfl) ?_
  obtain ⟨r1, e2, hf⟩ := z_bd hf
  refine z_callV1 (As := []) (rest := []) (bs' := [bX7 G q o S.1 S.2.1 S.2.2]) hS0 (c_X7_isFull l G q o S r1 e2) zc_X7_isFull rfl gX7_add_X7_isFull ⟨Nat.le_of_ble_eq_true rfl, Nat.le_of_ble_eq_true rfl⟩ hK hA hT hw (is := [0]) rfl rfl rfl rfl rfl rfl rfl hl.1 rfl (Nat.le_of_ble_eq_true rfl) dX7_add_1 (fun H locs hw => ?_)
  refine lv_if_ne (tgt := 14) hx hb dX7_add_4 rfl (fun hc => ?_) (fun hc => ?_)
  · have hf := z_f hc hf
    refine lv_bipush (v := (-2)) hx hb dX7_add_14 rfl ?_
    cases hf
    exact z_iret hx hb hr hlk hw dX7_add_16
  · have hf := z_t hc hf
    refine lv_aload_n hx hb dX7_add_7 rfl (lv_at hl 0 rfl) ?_
    refine z_get hS0 in_X7_add_X7 hK hw 0 2 rfl rfl rfl (by decide) (hts _ m_X7_add_0) (v := .int S.2.2) rfl dX7_add_8 ?_
    refine lv_if_ge (tgt := 17) hx hb dX7_add_11 rfl (fun hc => ?_) (fun hc => ?_)
    · have hf := z_t hc hf
      refine lv_aload_n hx hb dX7_add_17 rfl (lv_at hl 0 rfl) ?_
      refine z_get hS0 in_X7_add_X7 hK hw 0 0 rfl rfl rfl (by decide) (hts _ m_X7_add_1) (v := .ref (q (o + 1))) rfl dX7_add_18 ?_
      refine lv_aload_n hx hb dX7_add_21 rfl (lv_at hl 0 rfl) ?_
      refine z_get hS0 in_X7_add_X7 hK hw 0 2 rfl rfl rfl (by decide) (hts _ m_X7_add_0) (v := .int S.2.2) rfl dX7_add_22 ?_
      refine lv_iload_n hx hb dX7_add_25 rfl (lv_at hl 1 rfl) ?_
      obtain ⟨g3, hf⟩ := z_gd hf
      refine z_iast (blk' := bX7 G q o (upd S.1 S.2.2.toNatClampNeg v1) S.2.1 S.2.2) (bs' := [bX7 G q o (upd S.1 S.2.2.toNatClampNeg v1) S.2.1 S.2.2]) hS0 hK hw 0 1 (zIn_vp g3) rfl rfl dX7_add_26 rfl rfl (fun H locs hw => ?_)
      refine lv_aload_n hx hb dX7_add_27 rfl (lv_at hl 0 rfl) ?_
      refine z_get hS0 in_X7_add_X7 hK hw 0 1 rfl rfl rfl (by decide) (hts _ m_X7_add_2) (v := .ref (q (o + 2))) rfl dX7_add_28 ?_
      refine lv_aload_n hx hb dX7_add_31 rfl (lv_at hl 0 rfl) ?_
      refine z_get hS0 in_X7_add_X7 hK hw 0 2 rfl rfl rfl (by decide) (hts _ m_X7_add_0) (v := .int S.2.2) rfl dX7_add_32 ?_
      refine lv_iload_n hx hb dX7_add_35 rfl (lv_at hl 2 rfl) ?_
      obtain ⟨g4, hf⟩ := z_gd hf
      refine z_iast (blk' := bX7 G q o (upd S.1 S.2.2.toNatClampNeg v1) (upd S.2.1 S.2.2.toNatClampNeg v2) S.2.2) (bs' := [bX7 G q o (upd S.1 S.2.2.toNatClampNeg v1) (upd S.2.1 S.2.2.toNatClampNeg v2) S.2.2]) hS0 hK hw 0 2 (zIn_vp g4) rfl rfl dX7_add_36 rfl rfl (fun H locs hw => ?_)
      refine lv_aload_n hx hb dX7_add_37 rfl (lv_at hl 0 rfl) ?_
      refine lv_dup hx hb dX7_add_38 rfl ?_
      refine z_get hS0 in_X7_add_X7 hK hw 0 2 rfl rfl rfl (by decide) (hts _ m_X7_add_0) (v := .int S.2.2) rfl dX7_add_39 ?_
      refine lv_iconst (v := 1) hx hb dX7_add_42 rfl ?_
      refine lv_iadd hx hb dX7_add_43 ?_
      refine z_put (blk' := bX7 G q o (upd S.1 S.2.2.toNatClampNeg v1) (upd S.2.1 S.2.2.toNatClampNeg v2) (S.2.2 + (1 : Int32))) (bs' := [bX7 G q o (upd S.1 S.2.2.toNatClampNeg v1) (upd S.2.1 S.2.2.toNatClampNeg v2) (S.2.2 + (1 : Int32))]) hS0 in_X7_add_X7 tyX7 tyX7_ok nmX7 hK hw 0 2 rfl rfl rfl (by decide) (hts _ m_X7_add_0) rfl (ty := tyX7 2) (tyX7_ok 2 (by decide)) rfl rfl (Nat.le_of_ble_eq_true rfl) dX7_add_44 rfl rfl (fun H locs hw => ?_)
      refine lv_aload_n hx hb dX7_add_47 rfl (lv_at hl 0 rfl) ?_
      refine z_get hS0 in_X7_add_X7 hK hw 0 2 rfl rfl rfl (by decide) (hts _ m_X7_add_0) (v := .int (S.2.2 + (1 : Int32))) rfl dX7_add_48 ?_
      refine lv_iconst (v := 1) hx hb dX7_add_51 rfl ?_
      refine lv_isub hx hb dX7_add_52 ?_
      cases hf
      exact z_iret hx hb hr hlk hw dX7_add_53
    · have hf := z_f hc hf
      refine lv_bipush (v := (-2)) hx hb dX7_add_14 rfl ?_
      cases hf
      exact z_iret hx hb hr hlk hw dX7_add_16
theorem zc_X7_dropFrom : zC yX7_dropFrom wsX7_dropFrom cX7_dropFrom 3 (some .int) 1 := ⟨⟨_, rfl⟩, by decide +kernel, by decide +kernel, by decide +kernel, by decide +kernel⟩
theorem m_X7_dropFrom_0 : (.fieldLink RX7 18 "CellKeys$Sightings" "size" "I" : Cond) ∈ wsX7_dropFrom := by decide +kernel
theorem in_X7_dropFrom_X7 : ∀ w ∈ u_ws RX7 TX7 3, w ∈ wsX7_dropFrom := by decide +kernel
set_option maxHeartbeats 4000000 in
set_option maxRecDepth 100000 in
theorem c_X7_dropFrom (l : Launch) (G : zG) (q : Nat → Nat) (o : Nat) (S : VX7) (v1 : Int32) (y : Int32 × VX7) (hf : f_X7_dropFrom S v1 = some y) : zMet l yX7_dropFrom wsX7_dropFrom 0 0 G [.ref (q (o + 0)), .int v1] [bX7 G q o S.1 S.2.1 S.2.2] (some (.int y.1)) [bX7 G q o y.2.1 y.2.2.1 y.2.2.2] := by
  refine z_met zc_X7_dropFrom (Nat.le_of_ble_eq_true rfl) ?_
  intro p e s m below meth c A ls hZ hl hw
  have hl : lv_has ls 3 [(0, .ref (q (o + 0))), (1, .int v1)] := hl
  obtain ⟨hS0, hr, hlk, hK, hA, hT⟩ := id hZ
  have hx := hS0.1
  have hb := hS0.2.1
  have hml := hS0.2.2.1
  have hown : s.vm.findClass RX7 = some m.cls := hS0.2.2.2.1
  have hts := hS0.2.2.2.2
  unfold f_X7_dropFrom at hf
  refine lv_aload_n hx hb dX7_dropFrom_0 rfl (lv_at hl 0 rfl) ?_
  refine z_get hS0 in_X7_dropFrom_X7 hK hw 0 2 rfl rfl rfl (by decide) (hts _ m_X7_dropFrom_0) (v := .int S.2.2) rfl dX7_dropFrom_1 ?_
  refine lv_iload_n hx hb dX7_dropFrom_4 rfl (lv_at hl 1 rfl) ?_
  refine lv_isub hx hb dX7_dropFrom_5 ?_
  refine lv_istore_n (lv' := [(2, .int (S.2.2 - v1)), (0, .ref (q (o + 0))), (1, .int v1)]) hx hb dX7_dropFrom_6 rfl hl (by decide) rfl (fun ls hl => ?_)
  refine lv_iload_n hx hb dX7_dropFrom_7 rfl (lv_at hl 2 rfl) ?_
  refine lv_if_lt (tgt := 15) hx hb dX7_dropFrom_8 rfl (fun hc => ?_) (fun hc => ?_)
  · have hf := z_t hc hf
    refine lv_iconst (v := 0) hx hb dX7_dropFrom_15 rfl ?_
    cases hf
    exact z_iret hx hb hr hlk hw dX7_dropFrom_16
  · have hf := z_f hc hf
    refine lv_iload_n hx hb dX7_dropFrom_11 rfl (lv_at hl 0 rfl) ?_
    refine lv_if_ge (tgt := 17) hx hb dX7_dropFrom_12 rfl (fun hc => ?_) (fun hc => ?_)
    · have hf := z_t hc hf
      refine lv_aload_n hx hb dX7_dropFrom_17 rfl (lv_at hl 1 rfl) ?_
      refine lv_iload_n hx hb dX7_dropFrom_18 rfl (lv_at hl 2 rfl) ?_
      refine z_put (blk' := bX7 G q o S.1 S.2.1 v1) (bs' := [bX7 G q o S.1 S.2.1 v1]) hS0 in_X7_dropFrom_X7 tyX7 tyX7_ok nmX7 hK hw 0 2 rfl rfl rfl (by decide) (hts _ m_X7_dropFrom_0) rfl (ty := tyX7 2) (tyX7_ok 2 (by decide)) rfl rfl (Nat.le_of_ble_eq_true rfl) dX7_dropFrom_19 rfl rfl (fun H locs hw => ?_)
      refine lv_iload_n hx hb dX7_dropFrom_22 rfl (lv_at hl 0 rfl) ?_
      cases hf
      exact z_iret hx hb hr hlk hw dX7_dropFrom_23
    · have hf := z_f hc hf
      refine lv_iconst (v := 0) hx hb dX7_dropFrom_15 rfl ?_
      cases hf
      exact z_iret hx hb hr hlk hw dX7_dropFrom_16
theorem zc_X7_fit : zC yX7_fit wsX7_fit cX7_fit 3 (some .boolean) 1 := ⟨⟨_, rfl⟩, by decide +kernel, by decide +kernel, by decide +kernel, by decide +kernel⟩
theorem m_X7_fit_0 : (.fieldLink RX7 18 "CellKeys$Sightings" "size" "I" : Cond) ∈ wsX7_fit := by decide +kernel
theorem in_X7_fit_X7 : ∀ w ∈ u_ws RX7 TX7 3, w ∈ wsX7_fit := by decide +kernel
theorem m_X7_fit_1 : (.fieldLink RX7 9 "CellKeys$Sightings" "who" "[I" : Cond) ∈ wsX7_fit := by decide +kernel
theorem m_X7_fit_2 : (.fieldLink RX7 15 "CellKeys$Sightings" "was" "[I" : Cond) ∈ wsX7_fit := by decide +kernel
set_option maxHeartbeats 4000000 in
set_option maxRecDepth 100000 in
theorem k_X7_fit_2 {p : Program} {l : Launch} {e : Env} {s : State} {m : MethodId} {args : Array Value} {below : List Frame} {meth : Method} {c : Code} {A : Nat → Prop} {G : zG} {q : Nat → Nat} {o : Nat}  (hZ : zZ p s m args meth c A G cX7_fit 3 RX7 wsX7_fit (some .boolean)) (y : Int32)  (n : Nat) : ∀ (S : VX7) (v1 : Int32) (v2 : Int32) (H : Heap) (locs : List Loc) (ls : Array Slot), f_X7_fit_2 n S v1 v2 = some y → zH G A s.heap [bX7 G q o S.1 S.2.1 S.2.2] H locs → lv_has ls 3 [(0, .ref (q (o + 0))), (1, .int v1), (2, .int v2)] → W p l e { frames := 0, cells := 0, slots := 0, locals := 0 } s m args below meth c H locs 0 0 (MQ below (zQ (some (.int y)) (zPost G [bX7 G q o S.1 S.2.1 S.2.2]) A) args s 0 0 A) (F0 m 2 ls []) := by
  obtain ⟨hS0, hr, hlk, hK, hA, hT⟩ := id hZ
  have hx := hS0.1
  have hb := hS0.2.1
  have hml := hS0.2.2.1
  have hown : s.vm.findClass RX7 = some m.cls := hS0.2.2.2.1
  have hts := hS0.2.2.2.2
  induction n with
  | zero =>
    intro S v1 v2 H locs ls hf hw hl
    unfold f_X7_fit_2 at hf
    cases hf
  | succ n ih =>
    intro S v1 v2 H locs ls hf hw hl
    unfold f_X7_fit_2 at hf
    refine lv_iload_n hx hb dX7_fit_2 rfl (lv_at hl 2 rfl) ?_
    refine lv_aload_n hx hb dX7_fit_3 rfl (lv_at hl 0 rfl) ?_
    refine z_get hS0 in_X7_fit_X7 hK hw 0 2 rfl rfl rfl (by decide) (hts _ m_X7_fit_0) (v := .int S.2.2) rfl dX7_fit_4 ?_
    refine lv_icmp_ge (tgt := 43) hx hb dX7_fit_7 rfl (fun hc => ?_) (fun hc => ?_)
    · have hf := z_t hc hf
      refine lv_iconst (v := 1) hx hb dX7_fit_43 rfl ?_
      cases hf
      exact z_zret hx hb hr (z_nb (Or.inr rfl)) hlk hw dX7_fit_44
    · have hf := z_f hc hf
      refine lv_iload_n hx hb dX7_fit_10 rfl (lv_at hl 2 rfl) ?_
      refine lv_bipush (v := 8) hx hb dX7_fit_11 rfl ?_
      refine lv_icmp_ge (tgt := 43) hx hb dX7_fit_13 rfl (fun hc => ?_) (fun hc => ?_)
      · have hf := z_t hc hf
        refine lv_iconst (v := 1) hx hb dX7_fit_43 rfl ?_
        cases hf
        exact z_zret hx hb hr (z_nb (Or.inr rfl)) hlk hw dX7_fit_44
      · have hf := z_f hc hf
        refine lv_iload_n hx hb dX7_fit_16 rfl (lv_at hl 1 rfl) ?_
        refine lv_aload_n hx hb dX7_fit_17 rfl (lv_at hl 0 rfl) ?_
        refine z_get hS0 in_X7_fit_X7 hK hw 0 0 rfl rfl rfl (by decide) (hts _ m_X7_fit_1) (v := .ref (q (o + 1))) rfl dX7_fit_18 ?_
        refine lv_iload_n hx hb dX7_fit_21 rfl (lv_at hl 2 rfl) ?_
        obtain ⟨g1, hf⟩ := z_gd hf
        refine z_iald hS0 hK hw 0 1 (zIn_vp g1) rfl rfl dX7_fit_22 ?_
        refine lv_ishr hx hb dX7_fit_23 ?_
        refine lv_iconst (v := 1) hx hb dX7_fit_24 rfl ?_
        refine lv_iand hx hb dX7_fit_25 ?_
        refine lv_aload_n hx hb dX7_fit_26 rfl (lv_at hl 0 rfl) ?_
        refine z_get hS0 in_X7_fit_X7 hK hw 0 1 rfl rfl rfl (by decide) (hts _ m_X7_fit_2) (v := .ref (q (o + 2))) rfl dX7_fit_27 ?_
        refine lv_iload_n hx hb dX7_fit_30 rfl (lv_at hl 2 rfl) ?_
        obtain ⟨g2, hf⟩ := z_gd hf
        refine z_iald hS0 hK hw 0 2 (zIn_vp g2) rfl rfl dX7_fit_31 ?_
        refine lv_icmp_eq (tgt := 37) hx hb dX7_fit_32 rfl (fun hc => ?_) (fun hc => ?_)
        · have hf := z_t hc hf
          refine lv_iinc (v := (v2 + 1)) (lv' := [(2, .int (v2 + 1)), (0, .ref (q (o + 0))), (1, .int v1)]) hx hb dX7_fit_37 hl (k := 2) rfl rfl (by decide) rfl (fun ls hl => ?_)
          refine lv_goto (tgt := 2) hx hb dX7_fit_40 rfl ?_
          exact ih _ _ _ _ _ _ hf hw (lv_sub hl [1, 2, 0] rfl)
        · have hf := z_f hc hf
          refine lv_iconst (v := 0) hx hb dX7_fit_35 rfl ?_
          cases hf
          exact z_zret hx hb hr (z_nb (Or.inl rfl)) hlk hw dX7_fit_36
set_option maxHeartbeats 4000000 in
set_option maxRecDepth 100000 in
theorem c_X7_fit (l : Launch) (G : zG) (q : Nat → Nat) (o : Nat) (S : VX7) (v1 : Int32) (y : Int32) (hf : f_X7_fit S v1 = some y) : zMet l yX7_fit wsX7_fit 0 0 G [.ref (q (o + 0)), .int v1] [bX7 G q o S.1 S.2.1 S.2.2] (some (.int y)) [bX7 G q o S.1 S.2.1 S.2.2] := by
  refine z_met zc_X7_fit (Nat.le_of_ble_eq_true rfl) ?_
  intro p e s m below meth c A ls hZ hl hw
  have hl : lv_has ls 3 [(0, .ref (q (o + 0))), (1, .int v1)] := hl
  obtain ⟨hS0, hr, hlk, hK, hA, hT⟩ := id hZ
  have hx := hS0.1
  have hb := hS0.2.1
  have hml := hS0.2.2.1
  have hown : s.vm.findClass RX7 = some m.cls := hS0.2.2.2.1
  have hts := hS0.2.2.2.2
  unfold f_X7_fit at hf
  refine lv_iconst (v := 0) hx hb dX7_fit_0 rfl ?_
  refine lv_istore_n (lv' := [(2, .int 0), (0, .ref (q (o + 0))), (1, .int v1)]) hx hb dX7_fit_1 rfl hl (by decide) rfl (fun ls hl => ?_)
  exact k_X7_fit_2 hZ _ 4096 _ _ _ _ _ _ hf hw (lv_sub hl [1, 2, 0] rfl)
theorem zc_X7_mix : zC yX7_mix wsX7_mix cX7_mix 4 (some .long) 1 := ⟨⟨_, rfl⟩, by decide +kernel, by decide +kernel, by decide +kernel, by decide +kernel⟩
theorem m_X7_mix_0 : (.fieldLink RX7 18 "CellKeys$Sightings" "size" "I" : Cond) ∈ wsX7_mix := by decide +kernel
theorem in_X7_mix_X7 : ∀ w ∈ u_ws RX7 TX7 3, w ∈ wsX7_mix := by decide +kernel
theorem m_X7_mix_1 : (.constantLong RX7 26 (31) : Cond) ∈ wsX7_mix := by decide +kernel
theorem m_X7_mix_2 : (.fieldLink RX7 9 "CellKeys$Sightings" "who" "[I" : Cond) ∈ wsX7_mix := by decide +kernel
theorem m_X7_mix_3 : (.fieldLink RX7 15 "CellKeys$Sightings" "was" "[I" : Cond) ∈ wsX7_mix := by decide +kernel
set_option maxHeartbeats 4000000 in
set_option maxRecDepth 100000 in
theorem k_X7_mix_2 {p : Program} {l : Launch} {e : Env} {s : State} {m : MethodId} {args : Array Value} {below : List Frame} {meth : Method} {c : Code} {A : Nat → Prop} {G : zG} {q : Nat → Nat} {o : Nat}  (hZ : zZ p s m args meth c A G cX7_mix 4 RX7 wsX7_mix (some .long)) (y : Int64)  (n : Nat) : ∀ (S : VX7) (v1 : Int64) (v3 : Int32) (H : Heap) (locs : List Loc) (ls : Array Slot), f_X7_mix_2 n S v1 v3 = some y → zH G A s.heap [bX7 G q o S.1 S.2.1 S.2.2] H locs → lv_has ls 4 [(0, .ref (q (o + 0))), (1, .long v1), (3, .int v3)] → W p l e { frames := 0, cells := 0, slots := 0, locals := 0 } s m args below meth c H locs 0 0 (MQ below (zQ (some (.long y)) (zPost G [bX7 G q o S.1 S.2.1 S.2.2]) A) args s 0 0 A) (F0 m 2 ls []) := by
  obtain ⟨hS0, hr, hlk, hK, hA, hT⟩ := id hZ
  have hx := hS0.1
  have hb := hS0.2.1
  have hml := hS0.2.2.1
  have hown : s.vm.findClass RX7 = some m.cls := hS0.2.2.2.1
  have hts := hS0.2.2.2.2
  induction n with
  | zero =>
    intro S v1 v3 H locs ls hf hw hl
    unfold f_X7_mix_2 at hf
    cases hf
  | succ n ih =>
    intro S v1 v3 H locs ls hf hw hl
    unfold f_X7_mix_2 at hf
    refine lv_iload_n hx hb dX7_mix_2 rfl (lv_at hl 2 rfl) ?_
    refine lv_aload_n hx hb dX7_mix_3 rfl (lv_at hl 0 rfl) ?_
    refine z_get hS0 in_X7_mix_X7 hK hw 0 2 rfl rfl rfl (by decide) (hts _ m_X7_mix_0) (v := .int S.2.2) rfl dX7_mix_4 ?_
    refine lv_icmp_ge (tgt := 50) hx hb dX7_mix_7 rfl (fun hc => ?_) (fun hc => ?_)
    · have hf := z_t hc hf
      refine lv_lload_n hx hb dX7_mix_50 rfl (lv_at hl 1 rfl) ?_
      cases hf
      exact z_lret hx hb hr hlk hw dX7_mix_51
    · have hf := z_f hc hf
      refine lv_iload_n hx hb dX7_mix_10 rfl (lv_at hl 2 rfl) ?_
      refine lv_bipush (v := 8) hx hb dX7_mix_11 rfl ?_
      refine lv_icmp_ge (tgt := 50) hx hb dX7_mix_13 rfl (fun hc => ?_) (fun hc => ?_)
      · have hf := z_t hc hf
        refine lv_lload_n hx hb dX7_mix_50 rfl (lv_at hl 1 rfl) ?_
        cases hf
        exact z_lret hx hb hr hlk hw dX7_mix_51
      · have hf := z_f hc hf
        refine lv_ldc2 (v := 31) hx hb hown (hts _ m_X7_mix_1) dX7_mix_16 ?_
        refine lv_lload_n hx hb dX7_mix_19 rfl (lv_at hl 1 rfl) ?_
        refine lv_lmul hx hb dX7_mix_20 ?_
        refine lv_aload_n hx hb dX7_mix_21 rfl (lv_at hl 0 rfl) ?_
        refine z_get hS0 in_X7_mix_X7 hK hw 0 0 rfl rfl rfl (by decide) (hts _ m_X7_mix_2) (v := .ref (q (o + 1))) rfl dX7_mix_22 ?_
        refine lv_iload_n hx hb dX7_mix_25 rfl (lv_at hl 2 rfl) ?_
        obtain ⟨g1, hf⟩ := z_gd hf
        refine z_iald hS0 hK hw 0 1 (zIn_vp g1) rfl rfl dX7_mix_26 ?_
        refine lv_i2l (v := (S.1 v3.toNatClampNeg).toInt64) hx hb dX7_mix_27 rfl ?_
        refine lv_ladd hx hb dX7_mix_28 ?_
        refine lv_lstore_n (lv' := [(1, .long ((31 * v1) + (S.1 v3.toNatClampNeg).toInt64)), (0, .ref (q (o + 0))), (3, .int v3)]) hx hb dX7_mix_29 rfl hl (by decide) rfl (fun ls hl => ?_)
        refine lv_ldc2 (v := 31) hx hb hown (hts _ m_X7_mix_1) dX7_mix_30 ?_
        refine lv_lload_n hx hb dX7_mix_33 rfl (lv_at hl 0 rfl) ?_
        refine lv_lmul hx hb dX7_mix_34 ?_
        refine lv_aload_n hx hb dX7_mix_35 rfl (lv_at hl 1 rfl) ?_
        refine z_get hS0 in_X7_mix_X7 hK hw 0 1 rfl rfl rfl (by decide) (hts _ m_X7_mix_3) (v := .ref (q (o + 2))) rfl dX7_mix_36 ?_
        refine lv_iload_n hx hb dX7_mix_39 rfl (lv_at hl 2 rfl) ?_
        obtain ⟨g2, hf⟩ := z_gd hf
        refine z_iald hS0 hK hw 0 2 (zIn_vp g2) rfl rfl dX7_mix_40 ?_
        refine lv_i2l (v := (S.2.1 v3.toNatClampNeg).toInt64) hx hb dX7_mix_41 rfl ?_
        refine lv_ladd hx hb dX7_mix_42 ?_
        refine lv_lstore_n (lv' := [(1, .long ((31 * ((31 * v1) + (S.1 v3.toNatClampNeg).toInt64)) + (S.2.1 v3.toNatClampNeg).toInt64)), (0, .ref (q (o + 0))), (3, .int v3)]) hx hb dX7_mix_43 rfl hl (by decide) rfl (fun ls hl => ?_)
        refine lv_iinc (v := (v3 + 1)) (lv' := [(3, .int (v3 + 1)), (1, .long ((31 * ((31 * v1) + (S.1 v3.toNatClampNeg).toInt64)) + (S.2.1 v3.toNatClampNeg).toInt64)), (0, .ref (q (o + 0)))]) hx hb dX7_mix_44 hl (k := 2) rfl rfl (by decide) rfl (fun ls hl => ?_)
        refine lv_goto (tgt := 2) hx hb dX7_mix_47 rfl ?_
        exact ih _ _ _ _ _ _ hf hw (lv_sub hl [2, 1, 0] rfl)
set_option maxHeartbeats 4000000 in
set_option maxRecDepth 100000 in
theorem c_X7_mix (l : Launch) (G : zG) (q : Nat → Nat) (o : Nat) (S : VX7) (v1 : Int64) (y : Int64) (hf : f_X7_mix S v1 = some y) : zMet l yX7_mix wsX7_mix 0 0 G [.ref (q (o + 0)), .long v1] [bX7 G q o S.1 S.2.1 S.2.2] (some (.long y)) [bX7 G q o S.1 S.2.1 S.2.2] := by
  refine z_met zc_X7_mix (Nat.le_of_ble_eq_true rfl) ?_
  intro p e s m below meth c A ls hZ hl hw
  have hl : lv_has ls 4 [(0, .ref (q (o + 0))), (1, .long v1)] := hl
  obtain ⟨hS0, hr, hlk, hK, hA, hT⟩ := id hZ
  have hx := hS0.1
  have hb := hS0.2.1
  have hml := hS0.2.2.1
  have hown : s.vm.findClass RX7 = some m.cls := hS0.2.2.2.1
  have hts := hS0.2.2.2.2
  unfold f_X7_mix at hf
  refine lv_iconst (v := 0) hx hb dX7_mix_0 rfl ?_
  refine lv_istore_n (lv' := [(3, .int 0), (0, .ref (q (o + 0))), (1, .long v1)]) hx hb dX7_mix_1 rfl hl (by decide) rfl (fun ls hl => ?_)
  exact k_X7_mix_2 hZ _ 4096 _ _ _ _ _ _ hf hw (lv_sub hl [1, 2, 0] rfl)
theorem zc_X7_size : zC yX7_size wsX7_size cX7_size 1 (some .int) 0 := ⟨⟨_, rfl⟩, by decide +kernel, by decide +kernel, by decide +kernel, by decide +kernel⟩
theorem m_X7_size_0 : (.fieldLink RX7 18 "CellKeys$Sightings" "size" "I" : Cond) ∈ wsX7_size := by decide +kernel
theorem in_X7_size_X7 : ∀ w ∈ u_ws RX7 TX7 3, w ∈ wsX7_size := by decide +kernel
set_option maxHeartbeats 4000000 in
set_option maxRecDepth 100000 in
theorem c_X7_size (l : Launch) (G : zG) (q : Nat → Nat) (o : Nat) (S : VX7)  (y : Int32) (hf : f_X7_size S = some y) : zMet l yX7_size wsX7_size 0 0 G [.ref (q (o + 0))] [bX7 G q o S.1 S.2.1 S.2.2] (some (.int y)) [bX7 G q o S.1 S.2.1 S.2.2] := by
  refine z_met zc_X7_size (Nat.le_of_ble_eq_true rfl) ?_
  intro p e s m below meth c A ls hZ hl hw
  have hl : lv_has ls 1 [(0, .ref (q (o + 0)))] := hl
  obtain ⟨hS0, hr, hlk, hK, hA, hT⟩ := id hZ
  have hx := hS0.1
  have hb := hS0.2.1
  have hml := hS0.2.2.1
  have hown : s.vm.findClass RX7 = some m.cls := hS0.2.2.2.1
  have hts := hS0.2.2.2.2
  unfold f_X7_size at hf
  refine lv_aload_n hx hb dX7_size_0 rfl (lv_at hl 0 rfl) ?_
  refine z_get hS0 in_X7_size_X7 hK hw 0 2 rfl rfl rfl (by decide) (hts _ m_X7_size_0) (v := .int S.2.2) rfl dX7_size_1 ?_
  cases hf
  exact z_iret hx hb hr hlk hw dX7_size_4
theorem zc_X8_isNumber : zC yX8_isNumber wsX8_isNumber cX8_isNumber 2 (some .boolean) 1 := ⟨⟨_, rfl⟩, by decide +kernel, by decide +kernel, by decide +kernel, by decide +kernel⟩
set_option maxHeartbeats 4000000 in
set_option maxRecDepth 100000 in
theorem c_X8_isNumber (l : Launch) (G : zG) (q : Nat → Nat) (o : Nat) (S : VX8) (v1 : Int32) (y : Int32) (hf : f_X8_isNumber S v1 = some y) : zMet l yX8_isNumber wsX8_isNumber 0 0 G [.ref (q (o + 0)), .int v1] [bX8 G q o S.1 S.2] (some (.int y)) [bX8 G q o S.1 S.2] := by
  refine z_met zc_X8_isNumber (Nat.le_of_ble_eq_true rfl) ?_
  intro p e s m below meth c A ls hZ hl hw
  have hl : lv_has ls 2 [(0, .ref (q (o + 0))), (1, .int v1)] := hl
  obtain ⟨hS0, hr, hlk, hK, hA, hT⟩ := id hZ
  have hx := hS0.1
  have hb := hS0.2.1
  have hml := hS0.2.2.1
  have hown : s.vm.findClass RX8 = some m.cls := hS0.2.2.2.1
  have hts := hS0.2.2.2.2
  unfold f_X8_isNumber at hf
  refine lv_iload_n hx hb dX8_isNumber_0 rfl (lv_at hl 1 rfl) ?_
  refine lv_if_lt (tgt := 13) hx hb dX8_isNumber_1 rfl (fun hc => ?_) (fun hc => ?_)
  · have hf := z_t hc hf
    refine lv_iconst (v := 0) hx hb dX8_isNumber_13 rfl ?_
    cases hf
    exact z_zret hx hb hr (z_nb (Or.inl rfl)) hlk hw dX8_isNumber_14
  · have hf := z_f hc hf
    refine lv_iload_n hx hb dX8_isNumber_4 rfl (lv_at hl 1 rfl) ?_
    refine lv_iconst (v := 4) hx hb dX8_isNumber_5 rfl ?_
    refine lv_icmp_ge (tgt := 13) hx hb dX8_isNumber_6 rfl (fun hc => ?_) (fun hc => ?_)
    · have hf := z_t hc hf
      refine lv_iconst (v := 0) hx hb dX8_isNumber_13 rfl ?_
      cases hf
      exact z_zret hx hb hr (z_nb (Or.inl rfl)) hlk hw dX8_isNumber_14
    · have hf := z_f hc hf
      refine lv_iconst (v := 1) hx hb dX8_isNumber_9 rfl ?_
      refine lv_goto (tgt := 14) hx hb dX8_isNumber_10 rfl ?_
      cases hf
      exact z_zret hx hb hr (z_nb (Or.inr rfl)) hlk hw dX8_isNumber_14
theorem zc_X8_sizeOf : zC yX8_sizeOf wsX8_sizeOf cX8_sizeOf 2 (some .int) 1 := ⟨⟨_, rfl⟩, by decide +kernel, by decide +kernel, by decide +kernel, by decide +kernel⟩
theorem m_X8_sizeOf_0 : (.fieldLink RX8 16 "CellKeys$Texts" "sizes" "[I" : Cond) ∈ wsX8_sizeOf := by decide +kernel
theorem in_X8_sizeOf_X8 : ∀ w ∈ u_ws RX8 TX8 2, w ∈ wsX8_sizeOf := by decide +kernel
set_option maxHeartbeats 4000000 in
set_option maxRecDepth 100000 in
theorem c_X8_sizeOf (l : Launch) (G : zG) (q : Nat → Nat) (o : Nat) (S : VX8) (v1 : Int32) (y : Int32) (hf : f_X8_sizeOf S v1 = some y) : zMet l yX8_sizeOf wsX8_sizeOf 1 21 G [.ref (q (o + 0)), .int v1] [bX8 G q o S.1 S.2] (some (.int y)) [bX8 G q o S.1 S.2] := by
  refine z_met zc_X8_sizeOf (Nat.le_of_ble_eq_true rfl) ?_
  intro p e s m below meth c A ls hZ hl hw
  have hl : lv_has ls 2 [(0, .ref (q (o + 0))), (1, .int v1)] := hl
  obtain ⟨hS0, hr, hlk, hK, hA, hT⟩ := id hZ
  have hx := hS0.1
  have hb := hS0.2.1
  have hml := hS0.2.2.1
  have hown : s.vm.findClass RX8 = some m.cls := hS0.2.2.2.1
  have hts := hS0.2.2.2.2
  unfold f_X8_sizeOf at hf
  refine lv_aload_n hx hb dX8_sizeOf_0 rfl (lv_at hl 0 rfl) ?_
  refine lv_iload_n hx hb dX8_sizeOf_1 rfl (lv_at hl 1 rfl) ?_
  obtain ⟨r1, e2, hf⟩ := z_bd hf
  refine z_callV1 (As := [.int v1]) (rest := []) (bs' := [bX8 G q o S.1 S.2]) hS0 (c_X8_isNumber l G q o S v1 r1 e2) zc_X8_isNumber rfl gX8_sizeOf_X8_isNumber ⟨Nat.le_of_ble_eq_true rfl, Nat.le_of_ble_eq_true rfl⟩ hK hA hT hw (is := [0]) rfl rfl rfl rfl rfl rfl rfl hl.1 rfl (Nat.le_of_ble_eq_true rfl) dX8_sizeOf_2 (fun H locs hw => ?_)
  refine lv_if_eq (tgt := 17) hx hb dX8_sizeOf_5 rfl (fun hc => ?_) (fun hc => ?_)
  · have hf := z_t hc hf
    refine lv_iconst (v := (-1)) hx hb dX8_sizeOf_17 rfl ?_
    cases hf
    exact z_iret hx hb hr hlk hw dX8_sizeOf_18
  · have hf := z_f hc hf
    refine lv_aload_n hx hb dX8_sizeOf_8 rfl (lv_at hl 0 rfl) ?_
    refine z_get hS0 in_X8_sizeOf_X8 hK hw 0 1 rfl rfl rfl (by decide) (hts _ m_X8_sizeOf_0) (v := .ref (q (o + 6))) rfl dX8_sizeOf_9 ?_
    refine lv_iload_n hx hb dX8_sizeOf_12 rfl (lv_at hl 1 rfl) ?_
    obtain ⟨g3, hf⟩ := z_gd hf
    refine z_iald hS0 hK hw 0 6 (zIn_vp g3) rfl rfl dX8_sizeOf_13 ?_
    refine lv_goto (tgt := 18) hx hb dX8_sizeOf_14 rfl ?_
    cases hf
    exact z_iret hx hb hr hlk hw dX8_sizeOf_18
theorem zc_X8_isPlace : zC yX8_isPlace wsX8_isPlace cX8_isPlace 3 (some .boolean) 2 := ⟨⟨_, rfl⟩, by decide +kernel, by decide +kernel, by decide +kernel, by decide +kernel⟩
set_option maxHeartbeats 4000000 in
set_option maxRecDepth 100000 in
theorem c_X8_isPlace (l : Launch) (G : zG) (q : Nat → Nat) (o : Nat) (S : VX8) (v1 : Int32) (v2 : Int32) (y : Int32) (hf : f_X8_isPlace S v1 v2 = some y) : zMet l yX8_isPlace wsX8_isPlace 2 42 G [.ref (q (o + 0)), .int v1, .int v2] [bX8 G q o S.1 S.2] (some (.int y)) [bX8 G q o S.1 S.2] := by
  refine z_met zc_X8_isPlace (Nat.le_of_ble_eq_true rfl) ?_
  intro p e s m below meth c A ls hZ hl hw
  have hl : lv_has ls 3 [(0, .ref (q (o + 0))), (1, .int v1), (2, .int v2)] := hl
  obtain ⟨hS0, hr, hlk, hK, hA, hT⟩ := id hZ
  have hx := hS0.1
  have hb := hS0.2.1
  have hml := hS0.2.2.1
  have hown : s.vm.findClass RX8 = some m.cls := hS0.2.2.2.1
  have hts := hS0.2.2.2.2
  unfold f_X8_isPlace at hf
  refine lv_iload_n hx hb dX8_isPlace_0 rfl (lv_at hl 2 rfl) ?_
  refine lv_if_lt (tgt := 17) hx hb dX8_isPlace_1 rfl (fun hc => ?_) (fun hc => ?_)
  · have hf := z_t hc hf
    refine lv_iconst (v := 0) hx hb dX8_isPlace_17 rfl ?_
    cases hf
    exact z_zret hx hb hr (z_nb (Or.inl rfl)) hlk hw dX8_isPlace_18
  · have hf := z_f hc hf
    refine lv_iload_n hx hb dX8_isPlace_4 rfl (lv_at hl 2 rfl) ?_
    refine lv_aload_n hx hb dX8_isPlace_5 rfl (lv_at hl 0 rfl) ?_
    refine lv_iload_n hx hb dX8_isPlace_6 rfl (lv_at hl 1 rfl) ?_
    obtain ⟨r1, e2, hf⟩ := z_bd hf
    refine z_callV1 (As := [.int v1]) (rest := [.int v2]) (bs' := [bX8 G q o S.1 S.2]) hS0 (c_X8_sizeOf l G q o S v1 r1 e2) zc_X8_sizeOf rfl gX8_isPlace_X8_sizeOf ⟨Nat.le_of_ble_eq_true rfl, Nat.le_of_ble_eq_true rfl⟩ hK hA hT hw (is := [0]) rfl rfl rfl rfl rfl rfl rfl hl.1 rfl (Nat.le_of_ble_eq_true rfl) dX8_isPlace_7 (fun H locs hw => ?_)
    refine lv_icmp_ge (tgt := 17) hx hb dX8_isPlace_10 rfl (fun hc => ?_) (fun hc => ?_)
    · have hf := z_t hc hf
      refine lv_iconst (v := 0) hx hb dX8_isPlace_17 rfl ?_
      cases hf
      exact z_zret hx hb hr (z_nb (Or.inl rfl)) hlk hw dX8_isPlace_18
    · have hf := z_f hc hf
      refine lv_iconst (v := 1) hx hb dX8_isPlace_13 rfl ?_
      refine lv_goto (tgt := 18) hx hb dX8_isPlace_14 rfl ?_
      cases hf
      exact z_zret hx hb hr (z_nb (Or.inr rfl)) hlk hw dX8_isPlace_18
theorem zc_X8_get : zC yX8_get wsX8_get cX8_get 3 (some .int) 2 := ⟨⟨_, rfl⟩, by decide +kernel, by decide +kernel, by decide +kernel, by decide +kernel⟩
theorem m_X8_get_0 : (.fieldLink RX8 11 "CellKeys$Texts" "places" "[[B" : Cond) ∈ wsX8_get := by decide +kernel
theorem in_X8_get_X8 : ∀ w ∈ u_ws RX8 TX8 2, w ∈ wsX8_get := by decide +kernel
set_option maxHeartbeats 4000000 in
set_option maxRecDepth 100000 in
theorem c_X8_get (l : Launch) (G : zG) (q : Nat → Nat) (o : Nat) (S : VX8) (v1 : Int32) (v2 : Int32) (y : Int32) (hf : f_X8_get S v1 v2 = some y) : zMet l yX8_get wsX8_get 3 64 G [.ref (q (o + 0)), .int v1, .int v2] [bX8 G q o S.1 S.2] (some (.int y)) [bX8 G q o S.1 S.2] := by
  refine z_met zc_X8_get (Nat.le_of_ble_eq_true rfl) ?_
  intro p e s m below meth c A ls hZ hl hw
  have hl : lv_has ls 3 [(0, .ref (q (o + 0))), (1, .int v1), (2, .int v2)] := hl
  obtain ⟨hS0, hr, hlk, hK, hA, hT⟩ := id hZ
  have hx := hS0.1
  have hb := hS0.2.1
  have hml := hS0.2.2.1
  have hown : s.vm.findClass RX8 = some m.cls := hS0.2.2.2.1
  have hts := hS0.2.2.2.2
  unfold f_X8_get at hf
  refine lv_aload_n hx hb dX8_get_0 rfl (lv_at hl 0 rfl) ?_
  refine lv_iload_n hx hb dX8_get_1 rfl (lv_at hl 1 rfl) ?_
  refine lv_iload_n hx hb dX8_get_2 rfl (lv_at hl 2 rfl) ?_
  obtain ⟨r1, e2, hf⟩ := z_bd hf
  refine z_callV1 (As := [.int v1, .int v2]) (rest := []) (bs' := [bX8 G q o S.1 S.2]) hS0 (c_X8_isPlace l G q o S v1 v2 r1 e2) zc_X8_isPlace rfl gX8_get_X8_isPlace ⟨Nat.le_of_ble_eq_true rfl, Nat.le_of_ble_eq_true rfl⟩ hK hA hT hw (is := [0]) rfl rfl rfl rfl rfl rfl rfl hl.1 rfl (Nat.le_of_ble_eq_true rfl) dX8_get_3 (fun H locs hw => ?_)
  refine lv_if_eq (tgt := 20) hx hb dX8_get_6 rfl (fun hc => ?_) (fun hc => ?_)
  · have hf := z_t hc hf
    refine lv_bipush (v := 32) hx hb dX8_get_20 rfl ?_
    cases hf
    exact z_iret hx hb hr hlk hw dX8_get_22
  · have hf := z_f hc hf
    refine lv_aload_n hx hb dX8_get_9 rfl (lv_at hl 0 rfl) ?_
    refine z_get hS0 in_X8_get_X8 hK hw 0 0 rfl rfl rfl (by decide) (hts _ m_X8_get_0) (v := .ref (q (o + 1))) rfl dX8_get_10 ?_
    refine lv_iload_n hx hb dX8_get_13 rfl (lv_at hl 1 rfl) ?_
    obtain ⟨g3, hf⟩ := z_gd hf
    refine z_aald hS0 hK hw 0 1 3 (zIn_vp g3) rfl rfl rfl dX8_get_14 (r := (q (o + 2 + v1.toNatClampNeg))) (z_grid (f := fun j => q (o + 2 + j)) (zIn_vp g3)) ?_
    refine lv_iload_n hx hb dX8_get_15 rfl (lv_at hl 2 rfl) ?_
    obtain ⟨g4, hf⟩ := z_gd hf
    obtain ⟨kr5, hr6, hs7⟩ := z_row_X8 (G := G) (q := q) (o := o) (P := S.1) (Z := S.2) (zIn_vp g3)
    refine z_bald hS0 hK hw 0 kr5 (zIn_vp g4) rfl hr6 dX8_get_16 ?_
    refine lv_goto (tgt := 22) hx hb dX8_get_17 rfl ?_
    cases hf
    exact z_iret hx hb hr hlk hw dX8_get_22
theorem zc_X8_isThere : zC yX8_isThere wsX8_isThere cX8_isThere 2 (some .boolean) 1 := ⟨⟨_, rfl⟩, by decide +kernel, by decide +kernel, by decide +kernel, by decide +kernel⟩
set_option maxHeartbeats 4000000 in
set_option maxRecDepth 100000 in
theorem c_X8_isThere (l : Launch) (G : zG) (q : Nat → Nat) (o : Nat) (S : VX8) (v1 : Int32) (y : Int32) (hf : f_X8_isThere S v1 = some y) : zMet l yX8_isThere wsX8_isThere 2 42 G [.ref (q (o + 0)), .int v1] [bX8 G q o S.1 S.2] (some (.int y)) [bX8 G q o S.1 S.2] := by
  refine z_met zc_X8_isThere (Nat.le_of_ble_eq_true rfl) ?_
  intro p e s m below meth c A ls hZ hl hw
  have hl : lv_has ls 2 [(0, .ref (q (o + 0))), (1, .int v1)] := hl
  obtain ⟨hS0, hr, hlk, hK, hA, hT⟩ := id hZ
  have hx := hS0.1
  have hb := hS0.2.1
  have hml := hS0.2.2.1
  have hown : s.vm.findClass RX8 = some m.cls := hS0.2.2.2.1
  have hts := hS0.2.2.2.2
  unfold f_X8_isThere at hf
  refine lv_aload_n hx hb dX8_isThere_0 rfl (lv_at hl 0 rfl) ?_
  refine lv_iload_n hx hb dX8_isThere_1 rfl (lv_at hl 1 rfl) ?_
  obtain ⟨r1, e2, hf⟩ := z_bd hf
  refine z_callV1 (As := [.int v1]) (rest := []) (bs' := [bX8 G q o S.1 S.2]) hS0 (c_X8_sizeOf l G q o S v1 r1 e2) zc_X8_sizeOf rfl gX8_isThere_X8_sizeOf ⟨Nat.le_of_ble_eq_true rfl, Nat.le_of_ble_eq_true rfl⟩ hK hA hT hw (is := [0]) rfl rfl rfl rfl rfl rfl rfl hl.1 rfl (Nat.le_of_ble_eq_true rfl) dX8_isThere_2 (fun H locs hw => ?_)
  refine lv_iconst (v := (-1)) hx hb dX8_isThere_5 rfl ?_
  refine lv_icmp_eq (tgt := 13) hx hb dX8_isThere_6 rfl (fun hc => ?_) (fun hc => ?_)
  · have hf := z_t hc hf
    refine lv_iconst (v := 0) hx hb dX8_isThere_13 rfl ?_
    cases hf
    exact z_zret hx hb hr (z_nb (Or.inl rfl)) hlk hw dX8_isThere_14
  · have hf := z_f hc hf
    refine lv_iconst (v := 1) hx hb dX8_isThere_9 rfl ?_
    refine lv_goto (tgt := 14) hx hb dX8_isThere_10 rfl ?_
    cases hf
    exact z_zret hx hb hr (z_nb (Or.inr rfl)) hlk hw dX8_isThere_14
theorem zc_X8_howMany : zC yX8_howMany wsX8_howMany cX8_howMany 3 (some .int) 0 := ⟨⟨_, rfl⟩, by decide +kernel, by decide +kernel, by decide +kernel, by decide +kernel⟩
set_option maxHeartbeats 4000000 in
set_option maxRecDepth 100000 in
theorem k_X8_howMany_4 {p : Program} {l : Launch} {e : Env} {s : State} {m : MethodId} {args : Array Value} {below : List Frame} {meth : Method} {c : Code} {A : Nat → Prop} {G : zG} {q : Nat → Nat} {o : Nat}  (hZ : zZ p s m args meth c A G cX8_howMany 3 RX8 wsX8_howMany (some .int)) (y : Int32)  (n : Nat) : ∀ (S : VX8) (v1 : Int32) (v2 : Int32) (H : Heap) (locs : List Loc) (ls : Array Slot), f_X8_howMany_4 n S v1 v2 = some y → zH G A s.heap [bX8 G q o S.1 S.2] H locs → lv_has ls 3 [(0, .ref (q (o + 0))), (1, .int v1), (2, .int v2)] → W p l e { frames := 3, cells := 0, slots := 0, locals := 63 } s m args below meth c H locs 0 0 (MQ below (zQ (some (.int y)) (zPost G [bX8 G q o S.1 S.2]) A) args s 0 0 A) (F0 m 4 ls []) := by
  obtain ⟨hS0, hr, hlk, hK, hA, hT⟩ := id hZ
  have hx := hS0.1
  have hb := hS0.2.1
  have hml := hS0.2.2.1
  have hown : s.vm.findClass RX8 = some m.cls := hS0.2.2.2.1
  have hts := hS0.2.2.2.2
  induction n with
  | zero =>
    intro S v1 v2 H locs ls hf hw hl
    unfold f_X8_howMany_4 at hf
    cases hf
  | succ n ih =>
    intro S v1 v2 H locs ls hf hw hl
    unfold f_X8_howMany_4 at hf
    refine lv_iload_n hx hb dX8_howMany_4 rfl (lv_at hl 2 rfl) ?_
    refine lv_iconst (v := 4) hx hb dX8_howMany_5 rfl ?_
    refine lv_icmp_ge (tgt := 31) hx hb dX8_howMany_6 rfl (fun hc => ?_) (fun hc => ?_)
    · have hf := z_t hc hf
      refine lv_iload_n hx hb dX8_howMany_31 rfl (lv_at hl 1 rfl) ?_
      cases hf
      exact z_iret hx hb hr hlk hw dX8_howMany_32
    · have hf := z_f hc hf
      refine lv_iload_n hx hb dX8_howMany_9 rfl (lv_at hl 1 rfl) ?_
      refine lv_aload_n hx hb dX8_howMany_10 rfl (lv_at hl 0 rfl) ?_
      refine lv_iload_n hx hb dX8_howMany_11 rfl (lv_at hl 2 rfl) ?_
      obtain ⟨r1, e2, hf⟩ := z_bd hf
      refine z_callV1 (As := [.int v2]) (rest := [.int v1]) (bs' := [bX8 G q o S.1 S.2]) hS0 (c_X8_isThere l G q o S v2 r1 e2) zc_X8_isThere rfl gX8_howMany_X8_isThere ⟨Nat.le_of_ble_eq_true rfl, Nat.le_of_ble_eq_true rfl⟩ hK hA hT hw (is := [0]) rfl rfl rfl rfl rfl rfl rfl hl.1 rfl (Nat.le_of_ble_eq_true rfl) dX8_howMany_12 (fun H locs hw => ?_)
      refine lv_if_eq (tgt := 22) hx hb dX8_howMany_15 rfl (fun hc => ?_) (fun hc => ?_)
      · have hf := z_t hc hf
        refine lv_iconst (v := 0) hx hb dX8_howMany_22 rfl ?_
        refine lv_iadd hx hb dX8_howMany_23 ?_
        refine lv_istore_n (lv' := [(1, .int (v1 + (0 : Int32))), (0, .ref (q (o + 0))), (2, .int v2)]) hx hb dX8_howMany_24 rfl hl (by decide) rfl (fun ls hl => ?_)
        refine lv_iinc (v := (v2 + 1)) (lv' := [(2, .int (v2 + 1)), (1, .int (v1 + (0 : Int32))), (0, .ref (q (o + 0)))]) hx hb dX8_howMany_25 hl (k := 2) rfl rfl (by decide) rfl (fun ls hl => ?_)
        refine lv_goto (tgt := 4) hx hb dX8_howMany_28 rfl ?_
        exact ih _ _ _ _ _ _ hf hw (lv_sub hl [2, 1, 0] rfl)
      · have hf := z_f hc hf
        refine lv_iconst (v := 1) hx hb dX8_howMany_18 rfl ?_
        refine lv_goto (tgt := 23) hx hb dX8_howMany_19 rfl ?_
        refine lv_iadd hx hb dX8_howMany_23 ?_
        refine lv_istore_n (lv' := [(1, .int (v1 + (1 : Int32))), (0, .ref (q (o + 0))), (2, .int v2)]) hx hb dX8_howMany_24 rfl hl (by decide) rfl (fun ls hl => ?_)
        refine lv_iinc (v := (v2 + 1)) (lv' := [(2, .int (v2 + 1)), (1, .int (v1 + (1 : Int32))), (0, .ref (q (o + 0)))]) hx hb dX8_howMany_25 hl (k := 2) rfl rfl (by decide) rfl (fun ls hl => ?_)
        refine lv_goto (tgt := 4) hx hb dX8_howMany_28 rfl ?_
        exact ih _ _ _ _ _ _ hf hw (lv_sub hl [2, 1, 0] rfl)
set_option maxHeartbeats 4000000 in
set_option maxRecDepth 100000 in
theorem c_X8_howMany (l : Launch) (G : zG) (q : Nat → Nat) (o : Nat) (S : VX8)  (y : Int32) (hf : f_X8_howMany S = some y) : zMet l yX8_howMany wsX8_howMany 3 63 G [.ref (q (o + 0))] [bX8 G q o S.1 S.2] (some (.int y)) [bX8 G q o S.1 S.2] := by
  refine z_met zc_X8_howMany (Nat.le_of_ble_eq_true rfl) ?_
  intro p e s m below meth c A ls hZ hl hw
  have hl : lv_has ls 3 [(0, .ref (q (o + 0)))] := hl
  obtain ⟨hS0, hr, hlk, hK, hA, hT⟩ := id hZ
  have hx := hS0.1
  have hb := hS0.2.1
  have hml := hS0.2.2.1
  have hown : s.vm.findClass RX8 = some m.cls := hS0.2.2.2.1
  have hts := hS0.2.2.2.2
  unfold f_X8_howMany at hf
  refine lv_iconst (v := 0) hx hb dX8_howMany_0 rfl ?_
  refine lv_istore_n (lv' := [(1, .int 0), (0, .ref (q (o + 0)))]) hx hb dX8_howMany_1 rfl hl (by decide) rfl (fun ls hl => ?_)
  refine lv_iconst (v := 0) hx hb dX8_howMany_2 rfl ?_
  refine lv_istore_n (lv' := [(2, .int 0), (1, .int 0), (0, .ref (q (o + 0)))]) hx hb dX8_howMany_3 rfl hl (by decide) rfl (fun ls hl => ?_)
  exact k_X8_howMany_4 hZ _ 4096 _ _ _ _ _ _ hf hw (lv_sub hl [2, 1, 0] rfl)
theorem zc_X8_make : zC yX8_make wsX8_make cX8_make 4 none 2 := ⟨⟨_, rfl⟩, by decide +kernel, by decide +kernel, by decide +kernel, by decide +kernel⟩
theorem m_X8_make_0 : (.fieldLink RX8 11 "CellKeys$Texts" "places" "[[B" : Cond) ∈ wsX8_make := by decide +kernel
theorem in_X8_make_X8 : ∀ w ∈ u_ws RX8 TX8 2, w ∈ wsX8_make := by decide +kernel
theorem m_X8_make_1 : (.fieldLink RX8 16 "CellKeys$Texts" "sizes" "[I" : Cond) ∈ wsX8_make := by decide +kernel
set_option maxHeartbeats 4000000 in
set_option maxRecDepth 100000 in
theorem k_X8_make_28 {p : Program} {l : Launch} {e : Env} {s : State} {m : MethodId} {args : Array Value} {below : List Frame} {meth : Method} {c : Code} {A : Nat → Prop} {G : zG} {q : Nat → Nat} {o : Nat}  (hZ : zZ p s m args meth c A G cX8_make 4 RX8 wsX8_make none) (y : VX8)  (n : Nat) : ∀ (S : VX8) (v1 : Int32) (v2 : Int32) (v3 : Int32) (H : Heap) (locs : List Loc) (ls : Array Slot), f_X8_make_28 n S v1 v2 v3 = some y → zH G A s.heap [bX8 G q o S.1 S.2] H locs → lv_has ls 4 [(0, .ref (q (o + 0))), (1, .int v1), (2, .int v2), (3, .int v3)] → W p l e { frames := 1, cells := 0, slots := 0, locals := 21 } s m args below meth c H locs 0 0 (MQ below (zQ none (zPost G [bX8 G q o y.1 y.2]) A) args s 0 0 A) (F0 m 28 ls []) := by
  obtain ⟨hS0, hr, hlk, hK, hA, hT⟩ := id hZ
  have hx := hS0.1
  have hb := hS0.2.1
  have hml := hS0.2.2.1
  have hown : s.vm.findClass RX8 = some m.cls := hS0.2.2.2.1
  have hts := hS0.2.2.2.2
  induction n with
  | zero =>
    intro S v1 v2 v3 H locs ls hf hw hl
    unfold f_X8_make_28 at hf
    cases hf
  | succ n ih =>
    intro S v1 v2 v3 H locs ls hf hw hl
    unfold f_X8_make_28 at hf
    refine lv_iload_n hx hb dX8_make_28 rfl (lv_at hl 3 rfl) ?_
    refine lv_iload_n hx hb dX8_make_29 rfl (lv_at hl 2 rfl) ?_
    refine lv_icmp_ge (tgt := 49) hx hb dX8_make_30 rfl (fun hc => ?_) (fun hc => ?_)
    · have hf := z_t hc hf
      cases hf
      exact z_vret hx hb hr hlk hw dX8_make_49
    · have hf := z_f hc hf
      refine lv_aload_n hx hb dX8_make_33 rfl (lv_at hl 0 rfl) ?_
      refine z_get hS0 in_X8_make_X8 hK hw 0 0 rfl rfl rfl (by decide) (hts _ m_X8_make_0) (v := .ref (q (o + 1))) rfl dX8_make_34 ?_
      refine lv_iload_n hx hb dX8_make_37 rfl (lv_at hl 1 rfl) ?_
      obtain ⟨g1, hf⟩ := z_gd hf
      refine z_aald hS0 hK hw 0 1 3 (zIn_vp g1) rfl rfl rfl dX8_make_38 (r := (q (o + 2 + v1.toNatClampNeg))) (z_grid (f := fun j => q (o + 2 + j)) (zIn_vp g1)) ?_
      refine lv_iload_n hx hb dX8_make_39 rfl (lv_at hl 3 rfl) ?_
      refine lv_bipush (v := 32) hx hb dX8_make_40 rfl ?_
      obtain ⟨g2, hf⟩ := z_gd hf
      obtain ⟨kr3, hr4, hs5⟩ := z_row_X8 (G := G) (q := q) (o := o) (P := S.1) (Z := S.2) (zIn_vp g1)
      refine z_bast (blk' := bX8 G q o (zg S.1 v1.toNatClampNeg (upd (S.1 v1.toNatClampNeg) v3.toNatClampNeg ((32 : Int32).toInt8.toInt32))) S.2) (bs' := [bX8 G q o (zg S.1 v1.toNatClampNeg (upd (S.1 v1.toNatClampNeg) v3.toNatClampNeg ((32 : Int32).toInt8.toInt32))) S.2]) hS0 hK hw 0 kr3 (zIn_vp g2) rfl hr4 dX8_make_42 (hs5 _) rfl (fun H locs hw => ?_)
      refine lv_iinc (v := (v3 + 1)) (lv' := [(3, .int (v3 + 1)), (0, .ref (q (o + 0))), (1, .int v1), (2, .int v2)]) hx hb dX8_make_43 hl (k := 3) rfl rfl (by decide) rfl (fun ls hl => ?_)
      refine lv_goto (tgt := 28) hx hb dX8_make_46 rfl ?_
      exact ih _ _ _ _ _ _ _ hf hw (lv_sub hl [1, 2, 3, 0] rfl)
set_option maxHeartbeats 4000000 in
set_option maxRecDepth 100000 in
theorem c_X8_make (l : Launch) (G : zG) (q : Nat → Nat) (o : Nat) (S : VX8) (v1 : Int32) (v2 : Int32) (y : VX8) (hf : f_X8_make S v1 v2 = some y) : zMet l yX8_make wsX8_make 1 21 G [.ref (q (o + 0)), .int v1, .int v2] [bX8 G q o S.1 S.2] none [bX8 G q o y.1 y.2] := by
  refine z_met zc_X8_make (Nat.le_of_ble_eq_true rfl) ?_
  intro p e s m below meth c A ls hZ hl hw
  have hl : lv_has ls 4 [(0, .ref (q (o + 0))), (1, .int v1), (2, .int v2)] := hl
  obtain ⟨hS0, hr, hlk, hK, hA, hT⟩ := id hZ
  have hx := hS0.1
  have hb := hS0.2.1
  have hml := hS0.2.2.1
  have hown : s.vm.findClass RX8 = some m.cls := hS0.2.2.2.1
  have hts := hS0.2.2.2.2
  unfold f_X8_make at hf
  refine lv_aload_n hx hb dX8_make_0 rfl (lv_at hl 0 rfl) ?_
  refine lv_iload_n hx hb dX8_make_1 rfl (lv_at hl 1 rfl) ?_
  obtain ⟨r6, e7, hf⟩ := z_bd hf
  refine z_callV1 (As := [.int v1]) (rest := []) (bs' := [bX8 G q o S.1 S.2]) hS0 (c_X8_isNumber l G q o S v1 r6 e7) zc_X8_isNumber rfl gX8_make_X8_isNumber ⟨Nat.le_of_ble_eq_true rfl, Nat.le_of_ble_eq_true rfl⟩ hK hA hT hw (is := [0]) rfl rfl rfl rfl rfl rfl rfl hl.1 rfl (Nat.le_of_ble_eq_true rfl) dX8_make_2 (fun H locs hw => ?_)
  refine lv_if_eq (tgt := 18) hx hb dX8_make_5 rfl (fun hc => ?_) (fun hc => ?_)
  · have hf := z_t hc hf
    cases hf
    exact z_vret hx hb hr hlk hw dX8_make_18
  · have hf := z_f hc hf
    refine lv_iload_n hx hb dX8_make_8 rfl (lv_at hl 2 rfl) ?_
    refine lv_if_lt (tgt := 18) hx hb dX8_make_9 rfl (fun hc => ?_) (fun hc => ?_)
    · have hf := z_t hc hf
      cases hf
      exact z_vret hx hb hr hlk hw dX8_make_18
    · have hf := z_f hc hf
      refine lv_iload_n hx hb dX8_make_12 rfl (lv_at hl 2 rfl) ?_
      refine lv_bipush (v := 100) hx hb dX8_make_13 rfl ?_
      refine lv_icmp_le (tgt := 19) hx hb dX8_make_15 rfl (fun hc => ?_) (fun hc => ?_)
      · have hf := z_t hc hf
        refine lv_aload_n hx hb dX8_make_19 rfl (lv_at hl 0 rfl) ?_
        refine z_get hS0 in_X8_make_X8 hK hw 0 1 rfl rfl rfl (by decide) (hts _ m_X8_make_1) (v := .ref (q (o + 6))) rfl dX8_make_20 ?_
        refine lv_iload_n hx hb dX8_make_23 rfl (lv_at hl 1 rfl) ?_
        refine lv_iload_n hx hb dX8_make_24 rfl (lv_at hl 2 rfl) ?_
        obtain ⟨g8, hf⟩ := z_gd hf
        refine z_iast (blk' := bX8 G q o S.1 (upd S.2 v1.toNatClampNeg v2)) (bs' := [bX8 G q o S.1 (upd S.2 v1.toNatClampNeg v2)]) hS0 hK hw 0 6 (zIn_vp g8) rfl rfl dX8_make_25 rfl rfl (fun H locs hw => ?_)
        refine lv_iconst (v := 0) hx hb dX8_make_26 rfl ?_
        refine lv_istore_n (lv' := [(3, .int 0), (0, .ref (q (o + 0))), (1, .int v1), (2, .int v2)]) hx hb dX8_make_27 rfl hl (by decide) rfl (fun ls hl => ?_)
        exact k_X8_make_28 hZ _ 4096 _ _ _ _ _ _ _ hf hw (lv_sub hl [1, 2, 3, 0] rfl)
      · have hf := z_f hc hf
        cases hf
        exact z_vret hx hb hr hlk hw dX8_make_18
theorem zc_X8_mix : zC yX8_mix wsX8_mix cX8_mix 5 (some .long) 1 := ⟨⟨_, rfl⟩, by decide +kernel, by decide +kernel, by decide +kernel, by decide +kernel⟩
theorem m_X8_mix_0 : (.constantLong RX8 35 (31) : Cond) ∈ wsX8_mix := by decide +kernel
set_option maxHeartbeats 4000000 in
set_option maxRecDepth 100000 in
theorem k_X8_mix_23 {p : Program} {l : Launch} {e : Env} {s : State} {m : MethodId} {args : Array Value} {below : List Frame} {meth : Method} {c : Code} {A : Nat → Prop} {G : zG} {q : Nat → Nat} {o : Nat} {r_2 : VX8 → Int64 → Int32 → Option (Int64)} (hZ : zZ p s m args meth c A G cX8_mix 5 RX8 wsX8_mix (some .long)) (y : Int64) (h_2 : ∀ (S : VX8) (v1 : Int64) (v3 : Int32) (H : Heap) (locs : List Loc) (ls : Array Slot), r_2 S v1 v3 = some y → zH G A s.heap [bX8 G q o S.1 S.2] H locs → lv_has ls 5 [(0, .ref (q (o + 0))), (1, .long v1), (3, .int v3)] → W p l e { frames := 4, cells := 0, slots := 0, locals := 86 } s m args below meth c H locs 0 0 (MQ below (zQ (some (.long y)) (zPost G [bX8 G q o S.1 S.2]) A) args s 0 0 A) (F0 m 2 ls [])) (n : Nat) : ∀ (S : VX8) (v1 : Int64) (v3 : Int32) (v4 : Int32) (H : Heap) (locs : List Loc) (ls : Array Slot), f_X8_mix_23 r_2 n S v1 v3 v4 = some y → zH G A s.heap [bX8 G q o S.1 S.2] H locs → lv_has ls 5 [(0, .ref (q (o + 0))), (1, .long v1), (3, .int v3), (4, .int v4)] → W p l e { frames := 4, cells := 0, slots := 0, locals := 86 } s m args below meth c H locs 0 0 (MQ below (zQ (some (.long y)) (zPost G [bX8 G q o S.1 S.2]) A) args s 0 0 A) (F0 m 23 ls []) := by
  obtain ⟨hS0, hr, hlk, hK, hA, hT⟩ := id hZ
  have hx := hS0.1
  have hb := hS0.2.1
  have hml := hS0.2.2.1
  have hown : s.vm.findClass RX8 = some m.cls := hS0.2.2.2.1
  have hts := hS0.2.2.2.2
  induction n with
  | zero =>
    intro S v1 v3 v4 H locs ls hf hw hl
    unfold f_X8_mix_23 at hf
    cases hf
  | succ n ih =>
    intro S v1 v3 v4 H locs ls hf hw hl
    unfold f_X8_mix_23 at hf
    refine lv_iload hx hb dX8_mix_23 (lv_at hl 3 rfl) ?_
    refine lv_aload_n hx hb dX8_mix_25 rfl (lv_at hl 0 rfl) ?_
    refine lv_iload_n hx hb dX8_mix_26 rfl (lv_at hl 2 rfl) ?_
    obtain ⟨r1, e2, hf⟩ := z_bd hf
    refine z_callV1 (As := [.int v3]) (rest := [.int v4]) (bs' := [bX8 G q o S.1 S.2]) hS0 (c_X8_sizeOf l G q o S v3 r1 e2) zc_X8_sizeOf rfl gX8_mix_X8_sizeOf ⟨Nat.le_of_ble_eq_true rfl, Nat.le_of_ble_eq_true rfl⟩ hK hA hT hw (is := [0]) rfl rfl rfl rfl rfl rfl rfl hl.1 rfl (Nat.le_of_ble_eq_true rfl) dX8_mix_27 (fun H locs hw => ?_)
    refine lv_icmp_ge (tgt := 54) hx hb dX8_mix_30 rfl (fun hc => ?_) (fun hc => ?_)
    · have hf := z_t hc hf
      refine lv_iinc (v := (v3 + 1)) (lv' := [(3, .int (v3 + 1)), (0, .ref (q (o + 0))), (1, .long v1), (4, .int v4)]) hx hb dX8_mix_54 hl (k := 2) rfl rfl (by decide) rfl (fun ls hl => ?_)
      refine lv_goto (tgt := 2) hx hb dX8_mix_57 rfl ?_
      exact h_2 _ _ _ _ _ _ hf hw (lv_sub hl [1, 2, 0] rfl)
    · have hf := z_f hc hf
      refine lv_ldc2 (v := 31) hx hb hown (hts _ m_X8_mix_0) dX8_mix_33 ?_
      refine lv_lload_n hx hb dX8_mix_36 rfl (lv_at hl 1 rfl) ?_
      refine lv_lmul hx hb dX8_mix_37 ?_
      refine lv_aload_n hx hb dX8_mix_38 rfl (lv_at hl 0 rfl) ?_
      refine lv_iload_n hx hb dX8_mix_39 rfl (lv_at hl 2 rfl) ?_
      refine lv_iload hx hb dX8_mix_40 (lv_at hl 3 rfl) ?_
      obtain ⟨r3, e4, hf⟩ := z_bd hf
      refine z_callV1 (As := [.int v3, .int v4]) (rest := [.long (31 * v1)]) (bs' := [bX8 G q o S.1 S.2]) hS0 (c_X8_get l G q o S v3 v4 r3 e4) zc_X8_get rfl gX8_mix_X8_get ⟨Nat.le_of_ble_eq_true rfl, Nat.le_of_ble_eq_true rfl⟩ hK hA hT hw (is := [0]) rfl rfl rfl rfl rfl rfl rfl hl.1 rfl (Nat.le_of_ble_eq_true rfl) dX8_mix_42 (fun H locs hw => ?_)
      refine lv_i2l (v := r3.toInt64) hx hb dX8_mix_45 rfl ?_
      refine lv_ladd hx hb dX8_mix_46 ?_
      refine lv_lstore_n (lv' := [(1, .long ((31 * v1) + r3.toInt64)), (0, .ref (q (o + 0))), (3, .int v3), (4, .int v4)]) hx hb dX8_mix_47 rfl hl (by decide) rfl (fun ls hl => ?_)
      refine lv_iinc (v := (v4 + 1)) (lv' := [(4, .int (v4 + 1)), (1, .long ((31 * v1) + r3.toInt64)), (0, .ref (q (o + 0))), (3, .int v3)]) hx hb dX8_mix_48 hl (k := 3) rfl rfl (by decide) rfl (fun ls hl => ?_)
      refine lv_goto (tgt := 23) hx hb dX8_mix_51 rfl ?_
      exact ih _ _ _ _ _ _ _ hf hw (lv_sub hl [2, 1, 3, 0] rfl)
set_option maxHeartbeats 4000000 in
set_option maxRecDepth 100000 in
theorem k_X8_mix_2 {p : Program} {l : Launch} {e : Env} {s : State} {m : MethodId} {args : Array Value} {below : List Frame} {meth : Method} {c : Code} {A : Nat → Prop} {G : zG} {q : Nat → Nat} {o : Nat}  (hZ : zZ p s m args meth c A G cX8_mix 5 RX8 wsX8_mix (some .long)) (y : Int64)  (n : Nat) : ∀ (S : VX8) (v1 : Int64) (v3 : Int32) (H : Heap) (locs : List Loc) (ls : Array Slot), f_X8_mix_2 n S v1 v3 = some y → zH G A s.heap [bX8 G q o S.1 S.2] H locs → lv_has ls 5 [(0, .ref (q (o + 0))), (1, .long v1), (3, .int v3)] → W p l e { frames := 4, cells := 0, slots := 0, locals := 86 } s m args below meth c H locs 0 0 (MQ below (zQ (some (.long y)) (zPost G [bX8 G q o S.1 S.2]) A) args s 0 0 A) (F0 m 2 ls []) := by
  obtain ⟨hS0, hr, hlk, hK, hA, hT⟩ := id hZ
  have hx := hS0.1
  have hb := hS0.2.1
  have hml := hS0.2.2.1
  have hown : s.vm.findClass RX8 = some m.cls := hS0.2.2.2.1
  have hts := hS0.2.2.2.2
  induction n with
  | zero =>
    intro S v1 v3 H locs ls hf hw hl
    unfold f_X8_mix_2 at hf
    cases hf
  | succ n ih =>
    intro S v1 v3 H locs ls hf hw hl
    unfold f_X8_mix_2 at hf
    refine lv_iload_n hx hb dX8_mix_2 rfl (lv_at hl 2 rfl) ?_
    refine lv_iconst (v := 4) hx hb dX8_mix_3 rfl ?_
    refine lv_icmp_ge (tgt := 60) hx hb dX8_mix_4 rfl (fun hc => ?_) (fun hc => ?_)
    · have hf := z_t hc hf
      refine lv_lload_n hx hb dX8_mix_60 rfl (lv_at hl 1 rfl) ?_
      cases hf
      exact z_lret hx hb hr hlk hw dX8_mix_61
    · have hf := z_f hc hf
      refine lv_ldc2 (v := 31) hx hb hown (hts _ m_X8_mix_0) dX8_mix_7 ?_
      refine lv_lload_n hx hb dX8_mix_10 rfl (lv_at hl 1 rfl) ?_
      refine lv_lmul hx hb dX8_mix_11 ?_
      refine lv_aload_n hx hb dX8_mix_12 rfl (lv_at hl 0 rfl) ?_
      refine lv_iload_n hx hb dX8_mix_13 rfl (lv_at hl 2 rfl) ?_
      obtain ⟨r5, e6, hf⟩ := z_bd hf
      refine z_callV1 (As := [.int v3]) (rest := [.long (31 * v1)]) (bs' := [bX8 G q o S.1 S.2]) hS0 (c_X8_sizeOf l G q o S v3 r5 e6) zc_X8_sizeOf rfl gX8_mix_X8_sizeOf ⟨Nat.le_of_ble_eq_true rfl, Nat.le_of_ble_eq_true rfl⟩ hK hA hT hw (is := [0]) rfl rfl rfl rfl rfl rfl rfl hl.1 rfl (Nat.le_of_ble_eq_true rfl) dX8_mix_14 (fun H locs hw => ?_)
      refine lv_i2l (v := r5.toInt64) hx hb dX8_mix_17 rfl ?_
      refine lv_ladd hx hb dX8_mix_18 ?_
      refine lv_lstore_n (lv' := [(1, .long ((31 * v1) + r5.toInt64)), (0, .ref (q (o + 0))), (3, .int v3)]) hx hb dX8_mix_19 rfl hl (by decide) rfl (fun ls hl => ?_)
      refine lv_iconst (v := 0) hx hb dX8_mix_20 rfl ?_
      refine lv_istore (lv' := [(4, .int 0), (1, .long ((31 * v1) + r5.toInt64)), (0, .ref (q (o + 0))), (3, .int v3)]) hx hb dX8_mix_21 hl (by decide) rfl (fun ls hl => ?_)
      exact k_X8_mix_23 hZ _ ih 4096 _ _ _ _ _ _ _ hf hw (lv_sub hl [2, 1, 3, 0] rfl)
set_option maxHeartbeats 4000000 in
set_option maxRecDepth 100000 in
theorem c_X8_mix (l : Launch) (G : zG) (q : Nat → Nat) (o : Nat) (S : VX8) (v1 : Int64) (y : Int64) (hf : f_X8_mix S v1 = some y) : zMet l yX8_mix wsX8_mix 4 86 G [.ref (q (o + 0)), .long v1] [bX8 G q o S.1 S.2] (some (.long y)) [bX8 G q o S.1 S.2] := by
  refine z_met zc_X8_mix (Nat.le_of_ble_eq_true rfl) ?_
  intro p e s m below meth c A ls hZ hl hw
  have hl : lv_has ls 5 [(0, .ref (q (o + 0))), (1, .long v1)] := hl
  obtain ⟨hS0, hr, hlk, hK, hA, hT⟩ := id hZ
  have hx := hS0.1
  have hb := hS0.2.1
  have hml := hS0.2.2.1
  have hown : s.vm.findClass RX8 = some m.cls := hS0.2.2.2.1
  have hts := hS0.2.2.2.2
  unfold f_X8_mix at hf
  refine lv_iconst (v := 0) hx hb dX8_mix_0 rfl ?_
  refine lv_istore_n (lv' := [(3, .int 0), (0, .ref (q (o + 0))), (1, .long v1)]) hx hb dX8_mix_1 rfl hl (by decide) rfl (fun ls hl => ?_)
  exact k_X8_mix_2 hZ _ 4096 _ _ _ _ _ _ hf hw (lv_sub hl [1, 2, 0] rfl)
theorem zc_X8_set : zC yX8_set wsX8_set cX8_set 4 none 3 := ⟨⟨_, rfl⟩, by decide +kernel, by decide +kernel, by decide +kernel, by decide +kernel⟩
theorem m_X8_set_0 : (.fieldLink RX8 11 "CellKeys$Texts" "places" "[[B" : Cond) ∈ wsX8_set := by decide +kernel
theorem in_X8_set_X8 : ∀ w ∈ u_ws RX8 TX8 2, w ∈ wsX8_set := by decide +kernel
set_option maxHeartbeats 4000000 in
set_option maxRecDepth 100000 in
theorem c_X8_set (l : Launch) (G : zG) (q : Nat → Nat) (o : Nat) (S : VX8) (v1 : Int32) (v2 : Int32) (v3 : Int32) (y : VX8) (hf : f_X8_set S v1 v2 v3 = some y) : zMet l yX8_set wsX8_set 3 64 G [.ref (q (o + 0)), .int v1, .int v2, .int v3] [bX8 G q o S.1 S.2] none [bX8 G q o y.1 y.2] := by
  refine z_met zc_X8_set (Nat.le_of_ble_eq_true rfl) ?_
  intro p e s m below meth c A ls hZ hl hw
  have hl : lv_has ls 4 [(0, .ref (q (o + 0))), (1, .int v1), (2, .int v2), (3, .int v3)] := hl
  obtain ⟨hS0, hr, hlk, hK, hA, hT⟩ := id hZ
  have hx := hS0.1
  have hb := hS0.2.1
  have hml := hS0.2.2.1
  have hown : s.vm.findClass RX8 = some m.cls := hS0.2.2.2.1
  have hts := hS0.2.2.2.2
  unfold f_X8_set at hf
  refine lv_aload_n hx hb dX8_set_0 rfl (lv_at hl 0 rfl) ?_
  refine lv_iload_n hx hb dX8_set_1 rfl (lv_at hl 1 rfl) ?_
  refine lv_iload_n hx hb dX8_set_2 rfl (lv_at hl 2 rfl) ?_
  obtain ⟨r1, e2, hf⟩ := z_bd hf
  refine z_callV1 (As := [.int v1, .int v2]) (rest := []) (bs' := [bX8 G q o S.1 S.2]) hS0 (c_X8_isPlace l G q o S v1 v2 r1 e2) zc_X8_isPlace rfl gX8_set_X8_isPlace ⟨Nat.le_of_ble_eq_true rfl, Nat.le_of_ble_eq_true rfl⟩ hK hA hT hw (is := [0]) rfl rfl rfl rfl rfl rfl rfl hl.1 rfl (Nat.le_of_ble_eq_true rfl) dX8_set_3 (fun H locs hw => ?_)
  refine lv_if_eq (tgt := 18) hx hb dX8_set_6 rfl (fun hc => ?_) (fun hc => ?_)
  · have hf := z_t hc hf
    cases hf
    exact z_vret hx hb hr hlk hw dX8_set_18
  · have hf := z_f hc hf
    refine lv_aload_n hx hb dX8_set_9 rfl (lv_at hl 0 rfl) ?_
    refine z_get hS0 in_X8_set_X8 hK hw 0 0 rfl rfl rfl (by decide) (hts _ m_X8_set_0) (v := .ref (q (o + 1))) rfl dX8_set_10 ?_
    refine lv_iload_n hx hb dX8_set_13 rfl (lv_at hl 1 rfl) ?_
    obtain ⟨g3, hf⟩ := z_gd hf
    refine z_aald hS0 hK hw 0 1 3 (zIn_vp g3) rfl rfl rfl dX8_set_14 (r := (q (o + 2 + v1.toNatClampNeg))) (z_grid (f := fun j => q (o + 2 + j)) (zIn_vp g3)) ?_
    refine lv_iload_n hx hb dX8_set_15 rfl (lv_at hl 2 rfl) ?_
    refine lv_iload_n hx hb dX8_set_16 rfl (lv_at hl 3 rfl) ?_
    obtain ⟨g4, hf⟩ := z_gd hf
    obtain ⟨kr5, hr6, hs7⟩ := z_row_X8 (G := G) (q := q) (o := o) (P := S.1) (Z := S.2) (zIn_vp g3)
    refine z_bast (blk' := bX8 G q o (zg S.1 v1.toNatClampNeg (upd (S.1 v1.toNatClampNeg) v2.toNatClampNeg v3.toInt8.toInt32)) S.2) (bs' := [bX8 G q o (zg S.1 v1.toNatClampNeg (upd (S.1 v1.toNatClampNeg) v2.toNatClampNeg v3.toInt8.toInt32)) S.2]) hS0 hK hw 0 kr5 (zIn_vp g4) rfl hr6 dX8_set_17 (hs7 _) rfl (fun H locs hw => ?_)
    cases hf
    exact z_vret hx hb hr hlk hw dX8_set_18
theorem zc_X9_found : zC yX9_found wsX9_found cX9_found 2 (some .int) 1 := ⟨⟨_, rfl⟩, by decide +kernel, by decide +kernel, by decide +kernel, by decide +kernel⟩
theorem m_X9_found_0 : (.fieldLink RX9 23 "CellKeys$Told" "latestFinding" "I" : Cond) ∈ wsX9_found := by decide +kernel
theorem in_X9_found_X9 : ∀ w ∈ u_ws RX9 TX9 5, w ∈ wsX9_found := by decide +kernel
theorem m_X9_found_1 : (.fieldLink RX9 9 "CellKeys$Told" "often" "[I" : Cond) ∈ wsX9_found := by decide +kernel
set_option maxHeartbeats 4000000 in
set_option maxRecDepth 100000 in
theorem c_X9_found (l : Launch) (G : zG) (q : Nat → Nat) (o : Nat) (S : VX9) (v1 : Int32) (y : Int32 × VX9) (hf : f_X9_found S v1 = some y) : zMet l yX9_found wsX9_found 0 0 G [.ref (q (o + 0)), .int v1] [bX9 G q o S.1 S.2.1 S.2.2.1 S.2.2.2.1 S.2.2.2.2] (some (.int y.1)) [bX9 G q o y.2.1 y.2.2.1 y.2.2.2.1 y.2.2.2.2.1 y.2.2.2.2.2] := by
  refine z_met zc_X9_found (Nat.le_of_ble_eq_true rfl) ?_
  intro p e s m below meth c A ls hZ hl hw
  have hl : lv_has ls 2 [(0, .ref (q (o + 0))), (1, .int v1)] := hl
  obtain ⟨hS0, hr, hlk, hK, hA, hT⟩ := id hZ
  have hx := hS0.1
  have hb := hS0.2.1
  have hml := hS0.2.2.1
  have hown : s.vm.findClass RX9 = some m.cls := hS0.2.2.2.1
  have hts := hS0.2.2.2.2
  unfold f_X9_found at hf
  refine lv_iload_n hx hb dX9_found_0 rfl (lv_at hl 1 rfl) ?_
  refine lv_iconst (v := 1) hx hb dX9_found_1 rfl ?_
  refine lv_icmp_lt (tgt := 25) hx hb dX9_found_2 rfl (fun hc => ?_) (fun hc => ?_)
  · have hf := z_t hc hf
    refine lv_bipush (v := (-3)) hx hb dX9_found_25 rfl ?_
    cases hf
    exact z_iret hx hb hr hlk hw dX9_found_27
  · have hf := z_f hc hf
    refine lv_iload_n hx hb dX9_found_5 rfl (lv_at hl 1 rfl) ?_
    refine lv_iconst (v := 5) hx hb dX9_found_6 rfl ?_
    refine lv_icmp_gt (tgt := 25) hx hb dX9_found_7 rfl (fun hc => ?_) (fun hc => ?_)
    · have hf := z_t hc hf
      refine lv_bipush (v := (-3)) hx hb dX9_found_25 rfl ?_
      cases hf
      exact z_iret hx hb hr hlk hw dX9_found_27
    · have hf := z_f hc hf
      refine lv_aload_n hx hb dX9_found_10 rfl (lv_at hl 0 rfl) ?_
      refine lv_iload_n hx hb dX9_found_11 rfl (lv_at hl 1 rfl) ?_
      refine z_put (blk' := bX9 G q o S.1 S.2.1 S.2.2.1 S.2.2.2.1 v1) (bs' := [bX9 G q o S.1 S.2.1 S.2.2.1 S.2.2.2.1 v1]) hS0 in_X9_found_X9 tyX9 tyX9_ok nmX9 hK hw 0 4 rfl rfl rfl (by decide) (hts _ m_X9_found_0) rfl (ty := tyX9 4) (tyX9_ok 4 (by decide)) rfl rfl (Nat.le_of_ble_eq_true rfl) dX9_found_12 rfl rfl (fun H locs hw => ?_)
      refine lv_aload_n hx hb dX9_found_15 rfl (lv_at hl 0 rfl) ?_
      refine z_get hS0 in_X9_found_X9 hK hw 0 0 rfl rfl rfl (by decide) (hts _ m_X9_found_1) (v := .ref (q (o + 1))) rfl dX9_found_16 ?_
      refine lv_iload_n hx hb dX9_found_19 rfl (lv_at hl 1 rfl) ?_
      refine lv_dup2_11 hx hb dX9_found_20 rfl rfl ?_
      obtain ⟨g1, hf⟩ := z_gd hf
      refine z_iald hS0 hK hw 0 1 (zIn_vp g1) rfl rfl dX9_found_21 ?_
      refine lv_iconst (v := 1) hx hb dX9_found_22 rfl ?_
      refine lv_iadd hx hb dX9_found_23 ?_
      obtain ⟨g2, hf⟩ := z_gd hf
      refine z_iast (blk' := bX9 G q o (upd S.1 v1.toNatClampNeg ((S.1 v1.toNatClampNeg) + (1 : Int32))) S.2.1 S.2.2.1 S.2.2.2.1 v1) (bs' := [bX9 G q o (upd S.1 v1.toNatClampNeg ((S.1 v1.toNatClampNeg) + (1 : Int32))) S.2.1 S.2.2.1 S.2.2.2.1 v1]) hS0 hK hw 0 1 (zIn_vp g2) rfl rfl dX9_found_24 rfl rfl (fun H locs hw => ?_)
      refine lv_bipush (v := (-3)) hx hb dX9_found_25 rfl ?_
      cases hf
      exact z_iret hx hb hr hlk hw dX9_found_27
theorem zc_X9_latest : zC yX9_latest wsX9_latest cX9_latest 1 (some .int) 0 := ⟨⟨_, rfl⟩, by decide +kernel, by decide +kernel, by decide +kernel, by decide +kernel⟩
theorem m_X9_latest_0 : (.fieldLink RX9 19 "CellKeys$Told" "latest" "I" : Cond) ∈ wsX9_latest := by decide +kernel
theorem in_X9_latest_X9 : ∀ w ∈ u_ws RX9 TX9 5, w ∈ wsX9_latest := by decide +kernel
set_option maxHeartbeats 4000000 in
set_option maxRecDepth 100000 in
theorem c_X9_latest (l : Launch) (G : zG) (q : Nat → Nat) (o : Nat) (S : VX9)  (y : Int32) (hf : f_X9_latest S = some y) : zMet l yX9_latest wsX9_latest 0 0 G [.ref (q (o + 0))] [bX9 G q o S.1 S.2.1 S.2.2.1 S.2.2.2.1 S.2.2.2.2] (some (.int y)) [bX9 G q o S.1 S.2.1 S.2.2.1 S.2.2.2.1 S.2.2.2.2] := by
  refine z_met zc_X9_latest (Nat.le_of_ble_eq_true rfl) ?_
  intro p e s m below meth c A ls hZ hl hw
  have hl : lv_has ls 1 [(0, .ref (q (o + 0)))] := hl
  obtain ⟨hS0, hr, hlk, hK, hA, hT⟩ := id hZ
  have hx := hS0.1
  have hb := hS0.2.1
  have hml := hS0.2.2.1
  have hown : s.vm.findClass RX9 = some m.cls := hS0.2.2.2.1
  have hts := hS0.2.2.2.2
  unfold f_X9_latest at hf
  refine lv_aload_n hx hb dX9_latest_0 rfl (lv_at hl 0 rfl) ?_
  refine z_get hS0 in_X9_latest_X9 hK hw 0 1 rfl rfl rfl (by decide) (hts _ m_X9_latest_0) (v := .int S.2.1) rfl dX9_latest_1 ?_
  cases hf
  exact z_iret hx hb hr hlk hw dX9_latest_4
theorem zc_X9_lowerNumber : zC yX9_lowerNumber wsX9_lowerNumber cX9_lowerNumber 1 (some .long) 0 := ⟨⟨_, rfl⟩, by decide +kernel, by decide +kernel, by decide +kernel, by decide +kernel⟩
theorem m_X9_lowerNumber_0 : (.fieldLink RX9 15 "CellKeys$Told" "lowerNumber" "J" : Cond) ∈ wsX9_lowerNumber := by decide +kernel
theorem in_X9_lowerNumber_X9 : ∀ w ∈ u_ws RX9 TX9 5, w ∈ wsX9_lowerNumber := by decide +kernel
set_option maxHeartbeats 4000000 in
set_option maxRecDepth 100000 in
theorem c_X9_lowerNumber (l : Launch) (G : zG) (q : Nat → Nat) (o : Nat) (S : VX9)  (y : Int64) (hf : f_X9_lowerNumber S = some y) : zMet l yX9_lowerNumber wsX9_lowerNumber 0 0 G [.ref (q (o + 0))] [bX9 G q o S.1 S.2.1 S.2.2.1 S.2.2.2.1 S.2.2.2.2] (some (.long y)) [bX9 G q o S.1 S.2.1 S.2.2.1 S.2.2.2.1 S.2.2.2.2] := by
  refine z_met zc_X9_lowerNumber (Nat.le_of_ble_eq_true rfl) ?_
  intro p e s m below meth c A ls hZ hl hw
  have hl : lv_has ls 1 [(0, .ref (q (o + 0)))] := hl
  obtain ⟨hS0, hr, hlk, hK, hA, hT⟩ := id hZ
  have hx := hS0.1
  have hb := hS0.2.1
  have hml := hS0.2.2.1
  have hown : s.vm.findClass RX9 = some m.cls := hS0.2.2.2.1
  have hts := hS0.2.2.2.2
  unfold f_X9_lowerNumber at hf
  refine lv_aload_n hx hb dX9_lowerNumber_0 rfl (lv_at hl 0 rfl) ?_
  refine z_get hS0 in_X9_lowerNumber_X9 hK hw 0 3 rfl rfl rfl (by decide) (hts _ m_X9_lowerNumber_0) (v := .long S.2.2.2.1) rfl dX9_lowerNumber_1 ?_
  cases hf
  exact z_lret hx hb hr hlk hw dX9_lowerNumber_4
theorem zc_X9_tell : zC yX9_tell wsX9_tell cX9_tell 2 none 1 := ⟨⟨_, rfl⟩, by decide +kernel, by decide +kernel, by decide +kernel, by decide +kernel⟩
theorem m_X9_tell_0 : (.fieldLink RX9 19 "CellKeys$Told" "latest" "I" : Cond) ∈ wsX9_tell := by decide +kernel
theorem in_X9_tell_X9 : ∀ w ∈ u_ws RX9 TX9 5, w ∈ wsX9_tell := by decide +kernel
set_option maxHeartbeats 4000000 in
set_option maxRecDepth 100000 in
theorem c_X9_tell (l : Launch) (G : zG) (q : Nat → Nat) (o : Nat) (S : VX9) (v1 : Int32) (y : VX9) (hf : f_X9_tell S v1 = some y) : zMet l yX9_tell wsX9_tell 0 0 G [.ref (q (o + 0)), .int v1] [bX9 G q o S.1 S.2.1 S.2.2.1 S.2.2.2.1 S.2.2.2.2] none [bX9 G q o y.1 y.2.1 y.2.2.1 y.2.2.2.1 y.2.2.2.2] := by
  refine z_met zc_X9_tell (Nat.le_of_ble_eq_true rfl) ?_
  intro p e s m below meth c A ls hZ hl hw
  have hl : lv_has ls 2 [(0, .ref (q (o + 0))), (1, .int v1)] := hl
  obtain ⟨hS0, hr, hlk, hK, hA, hT⟩ := id hZ
  have hx := hS0.1
  have hb := hS0.2.1
  have hml := hS0.2.2.1
  have hown : s.vm.findClass RX9 = some m.cls := hS0.2.2.2.1
  have hts := hS0.2.2.2.2
  unfold f_X9_tell at hf
  refine lv_aload_n hx hb dX9_tell_0 rfl (lv_at hl 0 rfl) ?_
  refine lv_iload_n hx hb dX9_tell_1 rfl (lv_at hl 1 rfl) ?_
  refine z_put (blk' := bX9 G q o S.1 v1 S.2.2.1 S.2.2.2.1 S.2.2.2.2) (bs' := [bX9 G q o S.1 v1 S.2.2.1 S.2.2.2.1 S.2.2.2.2]) hS0 in_X9_tell_X9 tyX9 tyX9_ok nmX9 hK hw 0 1 rfl rfl rfl (by decide) (hts _ m_X9_tell_0) rfl (ty := tyX9 1) (tyX9_ok 1 (by decide)) rfl rfl (Nat.le_of_ble_eq_true rfl) dX9_tell_2 rfl rfl (fun H locs hw => ?_)
  cases hf
  exact z_vret hx hb hr hlk hw dX9_tell_5
theorem zc_X9_tellFraction : zC yX9_tellFraction wsX9_tellFraction cX9_tellFraction 4 none 2 := ⟨⟨_, rfl⟩, by decide +kernel, by decide +kernel, by decide +kernel, by decide +kernel⟩
theorem m_X9_tellFraction_0 : (.fieldLink RX9 26 "CellKeys$Told" "upperNumber" "J" : Cond) ∈ wsX9_tellFraction := by decide +kernel
theorem in_X9_tellFraction_X9 : ∀ w ∈ u_ws RX9 TX9 5, w ∈ wsX9_tellFraction := by decide +kernel
theorem m_X9_tellFraction_1 : (.fieldLink RX9 15 "CellKeys$Told" "lowerNumber" "J" : Cond) ∈ wsX9_tellFraction := by decide +kernel
set_option maxHeartbeats 4000000 in
set_option maxRecDepth 100000 in
theorem k_X9_tellFraction_14 {p : Program} {l : Launch} {e : Env} {s : State} {m : MethodId} {args : Array Value} {below : List Frame} {meth : Method} {c : Code} {A : Nat → Prop} {G : zG} {q : Nat → Nat} {o : Nat}  (hZ : zZ p s m args meth c A G cX9_tellFraction 4 RX9 wsX9_tellFraction none) (y : VX9)  (n : Nat) : ∀ (S : VX9) (v1 : Int32) (v2 : Int32) (v3 : Int32) (H : Heap) (locs : List Loc) (ls : Array Slot), f_X9_tellFraction_14 n S v1 v2 v3 = some y → zH G A s.heap [bX9 G q o S.1 S.2.1 S.2.2.1 S.2.2.2.1 S.2.2.2.2] H locs → lv_has ls 4 [(0, .ref (q (o + 0))), (1, .int v1), (2, .int v2), (3, .int v3)] → W p l e { frames := 0, cells := 0, slots := 0, locals := 0 } s m args below meth c H locs 0 0 (MQ below (zQ none (zPost G [bX9 G q o y.1 y.2.1 y.2.2.1 y.2.2.2.1 y.2.2.2.2]) A) args s 0 0 A) (F0 m 14 ls []) := by
  obtain ⟨hS0, hr, hlk, hK, hA, hT⟩ := id hZ
  have hx := hS0.1
  have hb := hS0.2.1
  have hml := hS0.2.2.1
  have hown : s.vm.findClass RX9 = some m.cls := hS0.2.2.2.1
  have hts := hS0.2.2.2.2
  induction n with
  | zero =>
    intro S v1 v2 v3 H locs ls hf hw hl
    unfold f_X9_tellFraction_14 at hf
    cases hf
  | succ n ih =>
    intro S v1 v2 v3 H locs ls hf hw hl
    unfold f_X9_tellFraction_14 at hf
    refine lv_iload_n hx hb dX9_tellFraction_14 rfl (lv_at hl 3 rfl) ?_
    refine lv_iconst (v := 1) hx hb dX9_tellFraction_15 rfl ?_
    refine lv_icmp_le (tgt := 54) hx hb dX9_tellFraction_16 rfl (fun hc => ?_) (fun hc => ?_)
    · have hf := z_t hc hf
      cases hf
      exact z_vret hx hb hr hlk hw dX9_tellFraction_54
    · have hf := z_f hc hf
      refine lv_iload_n hx hb dX9_tellFraction_19 rfl (lv_at hl 1 rfl) ?_
      refine lv_iload_n hx hb dX9_tellFraction_20 rfl (lv_at hl 3 rfl) ?_
      obtain ⟨g1, hf⟩ := z_gn hf
      refine lv_irem hx hb dX9_tellFraction_21 g1 ?_
      refine lv_if_ne (tgt := 48) hx hb dX9_tellFraction_22 rfl (fun hc => ?_) (fun hc => ?_)
      · have hf := z_f hc hf
        refine lv_iinc (v := (v3 + (-1))) (lv' := [(3, .int (v3 + (-1))), (0, .ref (q (o + 0))), (1, .int v1), (2, .int v2)]) hx hb dX9_tellFraction_48 hl (k := 3) rfl rfl (by decide) rfl (fun ls hl => ?_)
        refine lv_goto (tgt := 14) hx hb dX9_tellFraction_51 rfl ?_
        exact ih _ _ _ _ _ _ _ hf hw (lv_sub hl [1, 2, 3, 0] rfl)
      · have hf := z_t hc hf
        refine lv_iload_n hx hb dX9_tellFraction_25 rfl (lv_at hl 2 rfl) ?_
        refine lv_iload_n hx hb dX9_tellFraction_26 rfl (lv_at hl 3 rfl) ?_
        obtain ⟨g2, hf⟩ := z_gn hf
        refine lv_irem hx hb dX9_tellFraction_27 g2 ?_
        refine lv_if_ne (tgt := 48) hx hb dX9_tellFraction_28 rfl (fun hc => ?_) (fun hc => ?_)
        · have hf := z_f hc hf
          refine lv_iinc (v := (v3 + (-1))) (lv' := [(3, .int (v3 + (-1))), (0, .ref (q (o + 0))), (1, .int v1), (2, .int v2)]) hx hb dX9_tellFraction_48 hl (k := 3) rfl rfl (by decide) rfl (fun ls hl => ?_)
          refine lv_goto (tgt := 14) hx hb dX9_tellFraction_51 rfl ?_
          exact ih _ _ _ _ _ _ _ hf hw (lv_sub hl [1, 2, 3, 0] rfl)
        · have hf := z_t hc hf
          refine lv_aload_n hx hb dX9_tellFraction_31 rfl (lv_at hl 0 rfl) ?_
          refine lv_iload_n hx hb dX9_tellFraction_32 rfl (lv_at hl 1 rfl) ?_
          refine lv_iload_n hx hb dX9_tellFraction_33 rfl (lv_at hl 3 rfl) ?_
          obtain ⟨g3, hf⟩ := z_gn hf
          refine lv_idiv hx hb dX9_tellFraction_34 g3 ?_
          refine lv_i2l (v := (v1 / v3).toInt64) hx hb dX9_tellFraction_35 rfl ?_
          refine z_put (blk' := bX9 G q o S.1 S.2.1 ((v1 / v3).toInt64) S.2.2.2.1 S.2.2.2.2) (bs' := [bX9 G q o S.1 S.2.1 ((v1 / v3).toInt64) S.2.2.2.1 S.2.2.2.2]) hS0 in_X9_tellFraction_X9 tyX9 tyX9_ok nmX9 hK hw 0 2 rfl rfl rfl (by decide) (hts _ m_X9_tellFraction_0) rfl (ty := tyX9 2) (tyX9_ok 2 (by decide)) rfl rfl (Nat.le_of_ble_eq_true rfl) dX9_tellFraction_36 rfl rfl (fun H locs hw => ?_)
          refine lv_aload_n hx hb dX9_tellFraction_39 rfl (lv_at hl 0 rfl) ?_
          refine lv_iload_n hx hb dX9_tellFraction_40 rfl (lv_at hl 2 rfl) ?_
          refine lv_iload_n hx hb dX9_tellFraction_41 rfl (lv_at hl 3 rfl) ?_
          obtain ⟨g4, hf⟩ := z_gn hf
          refine lv_idiv hx hb dX9_tellFraction_42 g4 ?_
          refine lv_i2l (v := (v2 / v3).toInt64) hx hb dX9_tellFraction_43 rfl ?_
          refine z_put (blk' := bX9 G q o S.1 S.2.1 ((v1 / v3).toInt64) ((v2 / v3).toInt64) S.2.2.2.2) (bs' := [bX9 G q o S.1 S.2.1 ((v1 / v3).toInt64) ((v2 / v3).toInt64) S.2.2.2.2]) hS0 in_X9_tellFraction_X9 tyX9 tyX9_ok nmX9 hK hw 0 3 rfl rfl rfl (by decide) (hts _ m_X9_tellFraction_1) rfl (ty := tyX9 3) (tyX9_ok 3 (by decide)) rfl rfl (Nat.le_of_ble_eq_true rfl) dX9_tellFraction_44 rfl rfl (fun H locs hw => ?_)
          cases hf
          exact z_vret hx hb hr hlk hw dX9_tellFraction_47
set_option maxHeartbeats 4000000 in
set_option maxRecDepth 100000 in
theorem c_X9_tellFraction (l : Launch) (G : zG) (q : Nat → Nat) (o : Nat) (S : VX9) (v1 : Int32) (v2 : Int32) (y : VX9) (hf : f_X9_tellFraction S v1 v2 = some y) : zMet l yX9_tellFraction wsX9_tellFraction 0 0 G [.ref (q (o + 0)), .int v1, .int v2] [bX9 G q o S.1 S.2.1 S.2.2.1 S.2.2.2.1 S.2.2.2.2] none [bX9 G q o y.1 y.2.1 y.2.2.1 y.2.2.2.1 y.2.2.2.2] := by
  refine z_met zc_X9_tellFraction (Nat.le_of_ble_eq_true rfl) ?_
  intro p e s m below meth c A ls hZ hl hw
  have hl : lv_has ls 4 [(0, .ref (q (o + 0))), (1, .int v1), (2, .int v2)] := hl
  obtain ⟨hS0, hr, hlk, hK, hA, hT⟩ := id hZ
  have hx := hS0.1
  have hb := hS0.2.1
  have hml := hS0.2.2.1
  have hown : s.vm.findClass RX9 = some m.cls := hS0.2.2.2.1
  have hts := hS0.2.2.2.2
  unfold f_X9_tellFraction at hf
  refine lv_aload_n hx hb dX9_tellFraction_0 rfl (lv_at hl 0 rfl) ?_
  refine lv_iload_n hx hb dX9_tellFraction_1 rfl (lv_at hl 1 rfl) ?_
  refine lv_i2l (v := v1.toInt64) hx hb dX9_tellFraction_2 rfl ?_
  refine z_put (blk' := bX9 G q o S.1 S.2.1 v1.toInt64 S.2.2.2.1 S.2.2.2.2) (bs' := [bX9 G q o S.1 S.2.1 v1.toInt64 S.2.2.2.1 S.2.2.2.2]) hS0 in_X9_tellFraction_X9 tyX9 tyX9_ok nmX9 hK hw 0 2 rfl rfl rfl (by decide) (hts _ m_X9_tellFraction_0) rfl (ty := tyX9 2) (tyX9_ok 2 (by decide)) rfl rfl (Nat.le_of_ble_eq_true rfl) dX9_tellFraction_3 rfl rfl (fun H locs hw => ?_)
  refine lv_aload_n hx hb dX9_tellFraction_6 rfl (lv_at hl 0 rfl) ?_
  refine lv_iload_n hx hb dX9_tellFraction_7 rfl (lv_at hl 2 rfl) ?_
  refine lv_i2l (v := v2.toInt64) hx hb dX9_tellFraction_8 rfl ?_
  refine z_put (blk' := bX9 G q o S.1 S.2.1 v1.toInt64 v2.toInt64 S.2.2.2.2) (bs' := [bX9 G q o S.1 S.2.1 v1.toInt64 v2.toInt64 S.2.2.2.2]) hS0 in_X9_tellFraction_X9 tyX9 tyX9_ok nmX9 hK hw 0 3 rfl rfl rfl (by decide) (hts _ m_X9_tellFraction_1) rfl (ty := tyX9 3) (tyX9_ok 3 (by decide)) rfl rfl (Nat.le_of_ble_eq_true rfl) dX9_tellFraction_9 rfl rfl (fun H locs hw => ?_)
  refine lv_iload_n hx hb dX9_tellFraction_12 rfl (lv_at hl 2 rfl) ?_
  refine lv_istore_n (lv' := [(3, .int v2), (0, .ref (q (o + 0))), (1, .int v1), (2, .int v2)]) hx hb dX9_tellFraction_13 rfl hl (by decide) rfl (fun ls hl => ?_)
  exact k_X9_tellFraction_14 hZ _ 4096 _ _ _ _ _ _ _ hf hw (lv_sub hl [1, 2, 3, 0] rfl)
theorem zc_X9_upperNumber : zC yX9_upperNumber wsX9_upperNumber cX9_upperNumber 1 (some .long) 0 := ⟨⟨_, rfl⟩, by decide +kernel, by decide +kernel, by decide +kernel, by decide +kernel⟩
theorem m_X9_upperNumber_0 : (.fieldLink RX9 26 "CellKeys$Told" "upperNumber" "J" : Cond) ∈ wsX9_upperNumber := by decide +kernel
theorem in_X9_upperNumber_X9 : ∀ w ∈ u_ws RX9 TX9 5, w ∈ wsX9_upperNumber := by decide +kernel
set_option maxHeartbeats 4000000 in
set_option maxRecDepth 100000 in
theorem c_X9_upperNumber (l : Launch) (G : zG) (q : Nat → Nat) (o : Nat) (S : VX9)  (y : Int64) (hf : f_X9_upperNumber S = some y) : zMet l yX9_upperNumber wsX9_upperNumber 0 0 G [.ref (q (o + 0))] [bX9 G q o S.1 S.2.1 S.2.2.1 S.2.2.2.1 S.2.2.2.2] (some (.long y)) [bX9 G q o S.1 S.2.1 S.2.2.1 S.2.2.2.1 S.2.2.2.2] := by
  refine z_met zc_X9_upperNumber (Nat.le_of_ble_eq_true rfl) ?_
  intro p e s m below meth c A ls hZ hl hw
  have hl : lv_has ls 1 [(0, .ref (q (o + 0)))] := hl
  obtain ⟨hS0, hr, hlk, hK, hA, hT⟩ := id hZ
  have hx := hS0.1
  have hb := hS0.2.1
  have hml := hS0.2.2.1
  have hown : s.vm.findClass RX9 = some m.cls := hS0.2.2.2.1
  have hts := hS0.2.2.2.2
  unfold f_X9_upperNumber at hf
  refine lv_aload_n hx hb dX9_upperNumber_0 rfl (lv_at hl 0 rfl) ?_
  refine z_get hS0 in_X9_upperNumber_X9 hK hw 0 2 rfl rfl rfl (by decide) (hts _ m_X9_upperNumber_0) (v := .long S.2.2.1) rfl dX9_upperNumber_1 ?_
  cases hf
  exact z_lret hx hb hr hlk hw dX9_upperNumber_4
