theorem zc_X4_cheapestWith : zC yX4_cheapestWith wsX4_cheapestWith cX4_cheapestWith 5 (some .int) 1 := ⟨⟨_, rfl⟩, by decide +kernel, by decide +kernel, by decide +kernel, by decide +kernel⟩
theorem m_X4_cheapestWith_0 : (.fieldLink RX4 9 "CellKeys$Reach" "fewest" "[I" : Cond) ∈ wsX4_cheapestWith := by decide +kernel
theorem in_X4_cheapestWith_X4 : ∀ w ∈ u_ws RX4 TX4 2, w ∈ wsX4_cheapestWith := by decide +kernel
theorem m_X4_cheapestWith_1 : (.fieldLink RX4 15 "CellKeys$Reach" "active" "I" : Cond) ∈ wsX4_cheapestWith := by decide +kernel
set_option maxHeartbeats 4000000 in
set_option maxRecDepth 100000 in
theorem k_X4_cheapestWith_37 {p : Program} {l : Launch} {e : Env} {s : State} {m : MethodId} {args : Array Value} {below : List Frame} {meth : Method} {c : Code} {A : Nat → Prop} {G : zG} {q : Nat → Nat} {o : Nat} {r_5 : VX4 → Int32 → Int32 → Int32 → Option (Int32)} (hZ : zZ p s m args meth c A G cX4_cheapestWith 5 RX4 wsX4_cheapestWith (some .int)) (y : Int32) (h_5 : ∀ (S : VX4) (v1 : Int32) (v2 : Int32) (v3 : Int32) (H : Heap) (locs : List Loc) (ls : Array Slot), r_5 S v1 v2 v3 = some y → zH G A s.heap [bX4 G q o S.1 S.2] H locs → lv_has ls 5 [(0, .ref (q (o + 0))), (1, .int v1), (2, .int v2), (3, .int v3)] → W p l e { frames := 0, cells := 0, slots := 0, locals := 0 } s m args below meth c H locs 0 0 (MQ below (zQ (some (.int y)) (zPost G [bX4 G q o S.1 S.2]) A) args s 0 0 A) (F0 m 5 ls [])) : ∀ (S : VX4) (v1 : Int32) (v2 : Int32) (v3 : Int32) (t0 : Int32) (H : Heap) (locs : List Loc) (ls : Array Slot), f_X4_cheapestWith_37 r_5 S v1 v2 v3 t0 = some y → zH G A s.heap [bX4 G q o S.1 S.2] H locs → lv_has ls 5 [(0, .ref (q (o + 0))), (1, .int v1), (2, .int v2), (3, .int v3)] → W p l e { frames := 0, cells := 0, slots := 0, locals := 0 } s m args below meth c H locs 0 0 (MQ below (zQ (some (.int y)) (zPost G [bX4 G q o S.1 S.2]) A) args s 0 0 A) (F0 m 37 ls [.int t0]) := by
  obtain ⟨hS0, hr, hlk, hK, hA, hT⟩ := id hZ
  have hx := hS0.1
  have hb := hS0.2.1
  have hml := hS0.2.2.1
  have hown : s.vm.findClass RX4 = some m.cls := hS0.2.2.2.1
  have hts := hS0.2.2.2.2
  intro S v1 v2 v3 t0 H locs ls hf hw hl
  unfold f_X4_cheapestWith_37 at hf
  refine lv_istore (lv' := [(4, .int t0), (0, .ref (q (o + 0))), (1, .int v1), (2, .int v2), (3, .int v3)]) hx hb dX4_cheapestWith_37 hl (by decide) rfl (fun ls hl => ?_)
  refine lv_iload hx hb dX4_cheapestWith_39 (lv_at hl 0 rfl) ?_
  refine lv_if_eq (tgt := 67) hx hb dX4_cheapestWith_41 rfl (fun hc => ?_) (fun hc => ?_)
  · have hf := z_t hc hf
    refine lv_iinc (v := (v3 + 1)) (lv' := [(3, .int (v3 + 1)), (4, .int t0), (0, .ref (q (o + 0))), (1, .int v1), (2, .int v2)]) hx hb dX4_cheapestWith_67 hl (k := 4) rfl rfl (by decide) rfl (fun ls hl => ?_)
    refine lv_goto (tgt := 5) hx hb dX4_cheapestWith_70 rfl ?_
    exact h_5 _ _ _ _ _ _ _ hf hw (lv_sub hl [2, 3, 4, 0] rfl)
  · have hf := z_f hc hf
    refine lv_iload_n hx hb dX4_cheapestWith_44 rfl (lv_at hl 3 rfl) ?_
    refine lv_bipush (v := (-9)) hx hb dX4_cheapestWith_45 rfl ?_
    refine lv_icmp_eq (tgt := 65) hx hb dX4_cheapestWith_47 rfl (fun hc => ?_) (fun hc => ?_)
    · have hf := z_t hc hf
      refine lv_iload_n hx hb dX4_cheapestWith_65 rfl (lv_at hl 4 rfl) ?_
      refine lv_istore_n (lv' := [(2, .int v3), (4, .int t0), (0, .ref (q (o + 0))), (1, .int v1), (3, .int v3)]) hx hb dX4_cheapestWith_66 rfl hl (by decide) rfl (fun ls hl => ?_)
      refine lv_iinc (v := (v3 + 1)) (lv' := [(3, .int (v3 + 1)), (2, .int v3), (4, .int t0), (0, .ref (q (o + 0))), (1, .int v1)]) hx hb dX4_cheapestWith_67 hl (k := 4) rfl rfl (by decide) rfl (fun ls hl => ?_)
      refine lv_goto (tgt := 5) hx hb dX4_cheapestWith_70 rfl ?_
      exact h_5 _ _ _ _ _ _ _ hf hw (lv_sub hl [3, 4, 1, 0] rfl)
    · have hf := z_f hc hf
      refine lv_aload_n hx hb dX4_cheapestWith_50 rfl (lv_at hl 1 rfl) ?_
      refine z_get hS0 in_X4_cheapestWith_X4 hK hw 0 0 rfl rfl rfl (by decide) (hts _ m_X4_cheapestWith_0) (v := .ref (q (o + 1))) rfl dX4_cheapestWith_51 ?_
      refine lv_iload_n hx hb dX4_cheapestWith_54 rfl (lv_at hl 4 rfl) ?_
      obtain ⟨g1, hf⟩ := z_gd hf
      refine z_iald hS0 hK hw 0 1 (zIn_vp g1) rfl rfl dX4_cheapestWith_55 ?_
      refine lv_aload_n hx hb dX4_cheapestWith_56 rfl (lv_at hl 1 rfl) ?_
      refine z_get hS0 in_X4_cheapestWith_X4 hK hw 0 0 rfl rfl rfl (by decide) (hts _ m_X4_cheapestWith_0) (v := .ref (q (o + 1))) rfl dX4_cheapestWith_57 ?_
      refine lv_iload_n hx hb dX4_cheapestWith_60 rfl (lv_at hl 3 rfl) ?_
      obtain ⟨g2, hf⟩ := z_gd hf
      refine z_iald hS0 hK hw 0 1 (zIn_vp g2) rfl rfl dX4_cheapestWith_61 ?_
      refine lv_icmp_ge (tgt := 67) hx hb dX4_cheapestWith_62 rfl (fun hc => ?_) (fun hc => ?_)
      · have hf := z_t hc hf
        refine lv_iinc (v := (v3 + 1)) (lv' := [(3, .int (v3 + 1)), (4, .int t0), (0, .ref (q (o + 0))), (1, .int v1), (2, .int v2)]) hx hb dX4_cheapestWith_67 hl (k := 4) rfl rfl (by decide) rfl (fun ls hl => ?_)
        refine lv_goto (tgt := 5) hx hb dX4_cheapestWith_70 rfl ?_
        exact h_5 _ _ _ _ _ _ _ hf hw (lv_sub hl [2, 3, 4, 0] rfl)
      · have hf := z_f hc hf
        refine lv_iload_n hx hb dX4_cheapestWith_65 rfl (lv_at hl 4 rfl) ?_
        refine lv_istore_n (lv' := [(2, .int v3), (4, .int t0), (0, .ref (q (o + 0))), (1, .int v1), (3, .int v3)]) hx hb dX4_cheapestWith_66 rfl hl (by decide) rfl (fun ls hl => ?_)
        refine lv_iinc (v := (v3 + 1)) (lv' := [(3, .int (v3 + 1)), (2, .int v3), (4, .int t0), (0, .ref (q (o + 0))), (1, .int v1)]) hx hb dX4_cheapestWith_67 hl (k := 4) rfl rfl (by decide) rfl (fun ls hl => ?_)
        refine lv_goto (tgt := 5) hx hb dX4_cheapestWith_70 rfl ?_
        exact h_5 _ _ _ _ _ _ _ hf hw (lv_sub hl [3, 4, 1, 0] rfl)
set_option maxHeartbeats 4000000 in
set_option maxRecDepth 100000 in
theorem k_X4_cheapestWith_5 {p : Program} {l : Launch} {e : Env} {s : State} {m : MethodId} {args : Array Value} {below : List Frame} {meth : Method} {c : Code} {A : Nat → Prop} {G : zG} {q : Nat → Nat} {o : Nat}  (hZ : zZ p s m args meth c A G cX4_cheapestWith 5 RX4 wsX4_cheapestWith (some .int)) (y : Int32)  (n : Nat) : ∀ (S : VX4) (v1 : Int32) (v2 : Int32) (v3 : Int32) (H : Heap) (locs : List Loc) (ls : Array Slot), f_X4_cheapestWith_5 n S v1 v2 v3 = some y → zH G A s.heap [bX4 G q o S.1 S.2] H locs → lv_has ls 5 [(0, .ref (q (o + 0))), (1, .int v1), (2, .int v2), (3, .int v3)] → W p l e { frames := 0, cells := 0, slots := 0, locals := 0 } s m args below meth c H locs 0 0 (MQ below (zQ (some (.int y)) (zPost G [bX4 G q o S.1 S.2]) A) args s 0 0 A) (F0 m 5 ls []) := by
  obtain ⟨hS0, hr, hlk, hK, hA, hT⟩ := id hZ
  have hx := hS0.1
  have hb := hS0.2.1
  have hml := hS0.2.2.1
  have hown : s.vm.findClass RX4 = some m.cls := hS0.2.2.2.1
  have hts := hS0.2.2.2.2
  induction n with
  | zero =>
    intro S v1 v2 v3 H locs ls hf hw hl
    unfold f_X4_cheapestWith_5 at hf
    cases hf
  | succ n ih =>
    intro S v1 v2 v3 H locs ls hf hw hl
    unfold f_X4_cheapestWith_5 at hf
    refine lv_iload_n hx hb dX4_cheapestWith_5 rfl (lv_at hl 3 rfl) ?_
    refine lv_aload_n hx hb dX4_cheapestWith_6 rfl (lv_at hl 0 rfl) ?_
    refine z_get hS0 in_X4_cheapestWith_X4 hK hw 0 1 rfl rfl rfl (by decide) (hts _ m_X4_cheapestWith_1) (v := .int S.2) rfl dX4_cheapestWith_7 ?_
    refine lv_icmp_gt (tgt := 73) hx hb dX4_cheapestWith_10 rfl (fun hc => ?_) (fun hc => ?_)
    · have hf := z_t hc hf
      refine lv_iload_n hx hb dX4_cheapestWith_73 rfl (lv_at hl 2 rfl) ?_
      cases hf
      exact z_iret hx hb hr hlk hw dX4_cheapestWith_74
    · have hf := z_f hc hf
      refine lv_aload_n hx hb dX4_cheapestWith_13 rfl (lv_at hl 0 rfl) ?_
      refine z_get hS0 in_X4_cheapestWith_X4 hK hw 0 0 rfl rfl rfl (by decide) (hts _ m_X4_cheapestWith_0) (v := .ref (q (o + 1))) rfl dX4_cheapestWith_14 ?_
      refine lv_iload_n hx hb dX4_cheapestWith_17 rfl (lv_at hl 3 rfl) ?_
      obtain ⟨g3, hf⟩ := z_gd hf
      refine z_iald hS0 hK hw 0 1 (zIn_vp g3) rfl rfl dX4_cheapestWith_18 ?_
      refine lv_bipush (v := (-9)) hx hb dX4_cheapestWith_19 rfl ?_
      refine lv_icmp_eq (tgt := 36) hx hb dX4_cheapestWith_21 rfl (fun hc => ?_) (fun hc => ?_)
      · have hf := z_t hc hf
        refine lv_iconst (v := 0) hx hb dX4_cheapestWith_36 rfl ?_
        exact k_X4_cheapestWith_37 hZ _ ih _ _ _ _ _ _ _ _ hf hw (lv_sub hl [0, 1, 2, 3] rfl)
      · have hf := z_f hc hf
        refine lv_iload_n hx hb dX4_cheapestWith_24 rfl (lv_at hl 1 rfl) ?_
        refine lv_iload_n hx hb dX4_cheapestWith_25 rfl (lv_at hl 3 rfl) ?_
        refine lv_iconst (v := (-1)) hx hb dX4_cheapestWith_26 rfl ?_
        refine lv_ixor hx hb dX4_cheapestWith_27 ?_
        refine lv_iand hx hb dX4_cheapestWith_28 ?_
        refine lv_if_ne (tgt := 36) hx hb dX4_cheapestWith_29 rfl (fun hc => ?_) (fun hc => ?_)
        · have hf := z_f hc hf
          refine lv_iconst (v := 0) hx hb dX4_cheapestWith_36 rfl ?_
          exact k_X4_cheapestWith_37 hZ _ ih _ _ _ _ _ _ _ _ hf hw (lv_sub hl [0, 1, 2, 3] rfl)
        · have hf := z_t hc hf
          refine lv_iconst (v := 1) hx hb dX4_cheapestWith_32 rfl ?_
          refine lv_goto (tgt := 37) hx hb dX4_cheapestWith_33 rfl ?_
          exact k_X4_cheapestWith_37 hZ _ ih _ _ _ _ _ _ _ _ hf hw (lv_sub hl [0, 1, 2, 3] rfl)
set_option maxHeartbeats 4000000 in
set_option maxRecDepth 100000 in
theorem c_X4_cheapestWith (l : Launch) (G : zG) (q : Nat → Nat) (o : Nat) (S : VX4) (v1 : Int32) (y : Int32) (hf : f_X4_cheapestWith S v1 = some y) : zMet l yX4_cheapestWith wsX4_cheapestWith 0 0 G [.ref (q (o + 0)), .int v1] [bX4 G q o S.1 S.2] (some (.int y)) [bX4 G q o S.1 S.2] := by
  refine z_met zc_X4_cheapestWith (Nat.le_of_ble_eq_true rfl) ?_
  intro p e s m below meth c A ls hZ hl hw
  have hl : lv_has ls 5 [(0, .ref (q (o + 0))), (1, .int v1)] := hl
  obtain ⟨hS0, hr, hlk, hK, hA, hT⟩ := id hZ
  have hx := hS0.1
  have hb := hS0.2.1
  have hml := hS0.2.2.1
  have hown : s.vm.findClass RX4 = some m.cls := hS0.2.2.2.1
  have hts := hS0.2.2.2.2
  unfold f_X4_cheapestWith at hf
  refine lv_bipush (v := (-9)) hx hb dX4_cheapestWith_0 rfl ?_
  refine lv_istore_n (lv' := [(2, .int (-9)), (0, .ref (q (o + 0))), (1, .int v1)]) hx hb dX4_cheapestWith_2 rfl hl (by decide) rfl (fun ls hl => ?_)
  refine lv_iconst (v := 0) hx hb dX4_cheapestWith_3 rfl ?_
  refine lv_istore_n (lv' := [(3, .int 0), (2, .int (-9)), (0, .ref (q (o + 0))), (1, .int v1)]) hx hb dX4_cheapestWith_4 rfl hl (by decide) rfl (fun ls hl => ?_)
  exact k_X4_cheapestWith_5 hZ _ 4096 _ _ _ _ _ _ _ hf hw (lv_sub hl [2, 3, 1, 0] rfl)
theorem zc_X4_favoursOf : zC yX4_favoursOf wsX4_favoursOf cX4_favoursOf 2 (some .int) 1 := ⟨⟨_, rfl⟩, by decide +kernel, by decide +kernel, by decide +kernel, by decide +kernel⟩
theorem m_X4_favoursOf_0 : (.fieldLink RX4 15 "CellKeys$Reach" "active" "I" : Cond) ∈ wsX4_favoursOf := by decide +kernel
theorem in_X4_favoursOf_X4 : ∀ w ∈ u_ws RX4 TX4 2, w ∈ wsX4_favoursOf := by decide +kernel
theorem m_X4_favoursOf_1 : (.fieldLink RX4 9 "CellKeys$Reach" "fewest" "[I" : Cond) ∈ wsX4_favoursOf := by decide +kernel
set_option maxHeartbeats 4000000 in
set_option maxRecDepth 100000 in
theorem c_X4_favoursOf (l : Launch) (G : zG) (q : Nat → Nat) (o : Nat) (S : VX4) (v1 : Int32) (y : Int32) (hf : f_X4_favoursOf S v1 = some y) : zMet l yX4_favoursOf wsX4_favoursOf 0 0 G [.ref (q (o + 0)), .int v1] [bX4 G q o S.1 S.2] (some (.int y)) [bX4 G q o S.1 S.2] := by
  refine z_met zc_X4_favoursOf (Nat.le_of_ble_eq_true rfl) ?_
  intro p e s m below meth c A ls hZ hl hw
  have hl : lv_has ls 2 [(0, .ref (q (o + 0))), (1, .int v1)] := hl
  obtain ⟨hS0, hr, hlk, hK, hA, hT⟩ := id hZ
  have hx := hS0.1
  have hb := hS0.2.1
  have hml := hS0.2.2.1
  have hown : s.vm.findClass RX4 = some m.cls := hS0.2.2.2.1
  have hts := hS0.2.2.2.2
  unfold f_X4_favoursOf at hf
  refine lv_iload_n hx hb dX4_favoursOf_0 rfl (lv_at hl 1 rfl) ?_
  refine lv_if_lt (tgt := 21) hx hb dX4_favoursOf_1 rfl (fun hc => ?_) (fun hc => ?_)
  · have hf := z_t hc hf
    refine lv_bipush (v := (-9)) hx hb dX4_favoursOf_21 rfl ?_
    cases hf
    exact z_iret hx hb hr hlk hw dX4_favoursOf_23
  · have hf := z_f hc hf
    refine lv_iload_n hx hb dX4_favoursOf_4 rfl (lv_at hl 1 rfl) ?_
    refine lv_aload_n hx hb dX4_favoursOf_5 rfl (lv_at hl 0 rfl) ?_
    refine z_get hS0 in_X4_favoursOf_X4 hK hw 0 1 rfl rfl rfl (by decide) (hts _ m_X4_favoursOf_0) (v := .int S.2) rfl dX4_favoursOf_6 ?_
    refine lv_icmp_gt (tgt := 21) hx hb dX4_favoursOf_9 rfl (fun hc => ?_) (fun hc => ?_)
    · have hf := z_t hc hf
      refine lv_bipush (v := (-9)) hx hb dX4_favoursOf_21 rfl ?_
      cases hf
      exact z_iret hx hb hr hlk hw dX4_favoursOf_23
    · have hf := z_f hc hf
      refine lv_aload_n hx hb dX4_favoursOf_12 rfl (lv_at hl 0 rfl) ?_
      refine z_get hS0 in_X4_favoursOf_X4 hK hw 0 0 rfl rfl rfl (by decide) (hts _ m_X4_favoursOf_1) (v := .ref (q (o + 1))) rfl dX4_favoursOf_13 ?_
      refine lv_iload_n hx hb dX4_favoursOf_16 rfl (lv_at hl 1 rfl) ?_
      obtain ⟨g1, hf⟩ := z_gd hf
      refine z_iald hS0 hK hw 0 1 (zIn_vp g1) rfl rfl dX4_favoursOf_17 ?_
      refine lv_goto (tgt := 23) hx hb dX4_favoursOf_18 rfl ?_
      cases hf
      exact z_iret hx hb hr hlk hw dX4_favoursOf_23
theorem zc_X4_fill : zC yX4_fill wsX4_fill cX4_fill 8 none 2 := ⟨⟨_, rfl⟩, by decide +kernel, by decide +kernel, by decide +kernel, by decide +kernel⟩
theorem m_X4_fill_0 : (.fieldLink RX4 9 "CellKeys$Reach" "fewest" "[I" : Cond) ∈ wsX4_fill := by decide +kernel
theorem in_X4_fill_X4 : ∀ w ∈ u_ws RX4 TX4 2, w ∈ wsX4_fill := by decide +kernel
theorem m_X4_fill_1 : (.fieldLink RX4 15 "CellKeys$Reach" "active" "I" : Cond) ∈ wsX4_fill := by decide +kernel
set_option maxHeartbeats 4000000 in
set_option maxRecDepth 100000 in
theorem k_X4_fill_64 {p : Program} {l : Launch} {e : Env} {s : State} {m : MethodId} {args : Array Value} {below : List Frame} {meth : Method} {c : Code} {A : Nat → Prop} {G : zG} {q : Nat → Nat} {o : Nat} {q1 : Nat → Nat} {o1 : Nat} {r_53 : VX4 → VX2 → Int32 → Option (VX4)} (hZ : zZ p s m args meth c A G cX4_fill 8 RX4 wsX4_fill none) (y : VX4) (h_53 : ∀ (S : VX4) (P1 : VX2) (v3 : Int32) (H : Heap) (locs : List Loc) (ls : Array Slot), r_53 S P1 v3 = some y → zH G A s.heap [bX4 G q o S.1 S.2, bX2 G q1 o1 P1.1 P1.2.1 P1.2.2.1 P1.2.2.2.1 P1.2.2.2.2.1 P1.2.2.2.2.2.1 P1.2.2.2.2.2.2.1 P1.2.2.2.2.2.2.2] H locs → lv_has ls 8 [(0, .ref (q (o + 0))), (1, .ref (q1 (o1 + 0))), (3, .int v3)] → W p l e { frames := 3, cells := 0, slots := 0, locals := 80 } s m args below meth c H locs 0 0 (MQ below (zQ none (zPost G [bX4 G q o y.1 y.2, bX2 G q1 o1 P1.1 P1.2.1 P1.2.2.1 P1.2.2.2.1 P1.2.2.2.2.1 P1.2.2.2.2.2.1 P1.2.2.2.2.2.2.1 P1.2.2.2.2.2.2.2]) A) args s 0 0 A) (F0 m 53 ls [])) (n : Nat) : ∀ (S : VX4) (P1 : VX2) (v3 : Int32) (v4 : Int32) (H : Heap) (locs : List Loc) (ls : Array Slot), f_X4_fill_64 r_53 n S P1 v3 v4 = some y → zH G A s.heap [bX4 G q o S.1 S.2, bX2 G q1 o1 P1.1 P1.2.1 P1.2.2.1 P1.2.2.2.1 P1.2.2.2.2.1 P1.2.2.2.2.2.1 P1.2.2.2.2.2.2.1 P1.2.2.2.2.2.2.2] H locs → lv_has ls 8 [(0, .ref (q (o + 0))), (1, .ref (q1 (o1 + 0))), (3, .int v3), (4, .int v4)] → W p l e { frames := 3, cells := 0, slots := 0, locals := 80 } s m args below meth c H locs 0 0 (MQ below (zQ none (zPost G [bX4 G q o y.1 y.2, bX2 G q1 o1 P1.1 P1.2.1 P1.2.2.1 P1.2.2.2.1 P1.2.2.2.2.1 P1.2.2.2.2.2.1 P1.2.2.2.2.2.2.1 P1.2.2.2.2.2.2.2]) A) args s 0 0 A) (F0 m 64 ls []) := by
  obtain ⟨hS0, hr, hlk, hK, hA, hT⟩ := id hZ
  have hx := hS0.1
  have hb := hS0.2.1
  have hml := hS0.2.2.1
  have hown : s.vm.findClass RX4 = some m.cls := hS0.2.2.2.1
  have hts := hS0.2.2.2.2
  induction n with
  | zero =>
    intro S P1 v3 v4 H locs ls hf hw hl
    unfold f_X4_fill_64 at hf
    cases hf
  | succ n ih =>
    intro S P1 v3 v4 H locs ls hf hw hl
    unfold f_X4_fill_64 at hf
    refine lv_iload hx hb dX4_fill_64 (lv_at hl 3 rfl) ?_
    refine lv_bipush (v := 8) hx hb dX4_fill_66 rfl ?_
    refine lv_icmp_ge (tgt := 181) hx hb dX4_fill_68 rfl (fun hc => ?_) (fun hc => ?_)
    · have hf := z_t hc hf
      refine lv_iinc (v := (v3 + 1)) (lv' := [(3, .int (v3 + 1)), (0, .ref (q (o + 0))), (1, .ref (q1 (o1 + 0))), (4, .int v4)]) hx hb dX4_fill_181 hl (k := 2) rfl rfl (by decide) rfl (fun ls hl => ?_)
      refine lv_goto (tgt := 53) hx hb dX4_fill_184 rfl ?_
      exact h_53 _ _ _ _ _ _ hf hw (lv_sub hl [1, 2, 0] rfl)
    · have hf := z_f hc hf
      refine lv_aload_n hx hb dX4_fill_71 rfl (lv_at hl 0 rfl) ?_
      refine z_get hS0 in_X4_fill_X4 hK hw 0 0 rfl rfl rfl (by decide) (hts _ m_X4_fill_0) (v := .ref (q (o + 1))) rfl dX4_fill_72 ?_
      refine lv_iload_n hx hb dX4_fill_75 rfl (lv_at hl 2 rfl) ?_
      obtain ⟨g1, hf⟩ := z_gd hf
      refine z_iald hS0 hK hw 0 1 (zIn_vp g1) rfl rfl dX4_fill_76 ?_
      refine lv_bipush (v := (-9)) hx hb dX4_fill_77 rfl ?_
      refine lv_icmp_eq (tgt := 181) hx hb dX4_fill_79 rfl (fun hc => ?_) (fun hc => ?_)
      · have hf := z_t hc hf
        refine lv_iinc (v := (v3 + 1)) (lv' := [(3, .int (v3 + 1)), (0, .ref (q (o + 0))), (1, .ref (q1 (o1 + 0))), (4, .int v4)]) hx hb dX4_fill_181 hl (k := 2) rfl rfl (by decide) rfl (fun ls hl => ?_)
        refine lv_goto (tgt := 53) hx hb dX4_fill_184 rfl ?_
        exact h_53 _ _ _ _ _ _ hf hw (lv_sub hl [1, 2, 0] rfl)
      · have hf := z_f hc hf
        refine lv_iload_n hx hb dX4_fill_82 rfl (lv_at hl 2 rfl) ?_
        refine lv_iconst (v := 1) hx hb dX4_fill_83 rfl ?_
        refine lv_iload hx hb dX4_fill_84 (lv_at hl 3 rfl) ?_
        refine lv_ishl hx hb dX4_fill_86 ?_
        refine lv_ior hx hb dX4_fill_87 ?_
        refine lv_istore (lv' := [(5, .int (v3 ||| ((1 : Int32) <<< (v4 &&& 31)))), (0, .ref (q (o + 0))), (1, .ref (q1 (o1 + 0))), (3, .int v3), (4, .int v4)]) hx hb dX4_fill_88 hl (by decide) rfl (fun ls hl => ?_)
        refine lv_iload hx hb dX4_fill_90 (lv_at hl 0 rfl) ?_
        refine lv_iload_n hx hb dX4_fill_92 rfl (lv_at hl 3 rfl) ?_
        refine lv_icmp_eq (tgt := 175) hx hb dX4_fill_93 rfl (fun hc => ?_) (fun hc => ?_)
        · have hf := z_t hc hf
          refine lv_iinc (v := (v4 + 1)) (lv' := [(4, .int (v4 + 1)), (5, .int (v3 ||| ((1 : Int32) <<< (v4 &&& 31)))), (0, .ref (q (o + 0))), (1, .ref (q1 (o1 + 0))), (3, .int v3)]) hx hb dX4_fill_175 hl (k := 4) rfl rfl (by decide) rfl (fun ls hl => ?_)
          refine lv_goto (tgt := 64) hx hb dX4_fill_178 rfl ?_
          exact ih _ _ _ _ _ _ _ hf hw (lv_sub hl [2, 3, 4, 0] rfl)
        · have hf := z_f hc hf
          refine lv_iload hx hb dX4_fill_96 (lv_at hl 0 rfl) ?_
          refine lv_aload_n hx hb dX4_fill_98 rfl (lv_at hl 1 rfl) ?_
          refine z_get hS0 in_X4_fill_X4 hK hw 0 1 rfl rfl rfl (by decide) (hts _ m_X4_fill_1) (v := .int S.2) rfl dX4_fill_99 ?_
          refine lv_iconst (v := (-1)) hx hb dX4_fill_102 rfl ?_
          refine lv_ixor hx hb dX4_fill_103 ?_
          refine lv_iand hx hb dX4_fill_104 ?_
          refine lv_if_eq (tgt := 111) hx hb dX4_fill_105 rfl (fun hc => ?_) (fun hc => ?_)
          · have hf := z_t hc hf
            refine lv_aload_n hx hb dX4_fill_111 rfl (lv_at hl 2 rfl) ?_
            refine lv_iload hx hb dX4_fill_112 (lv_at hl 4 rfl) ?_
            refine lv_iload_n hx hb dX4_fill_114 rfl (lv_at hl 3 rfl) ?_
            refine lv_aload_n hx hb dX4_fill_115 rfl (lv_at hl 1 rfl) ?_
            refine z_get hS0 in_X4_fill_X4 hK hw 0 1 rfl rfl rfl (by decide) (hts _ m_X4_fill_1) (v := .int S.2) rfl dX4_fill_116 ?_
            obtain ⟨r2, e3, hf⟩ := z_bd hf
            refine z_callV1 (As := [.int v4, .int v3, .int S.2]) (rest := []) (bs' := [bX4 G q o S.1 S.2, bX2 G q1 o1 P1.1 P1.2.1 P1.2.2.1 P1.2.2.2.1 P1.2.2.2.2.1 P1.2.2.2.2.2.1 P1.2.2.2.2.2.2.1 P1.2.2.2.2.2.2.2]) hS0 (c_X2_favoursFor l G q1 o1 P1 v4 v3 S.2 r2 e3) zc_X2_favoursFor rfl gX4_fill_X2_favoursFor ⟨Nat.le_of_ble_eq_true rfl, Nat.le_of_ble_eq_true rfl⟩ hK hA hT hw (is := [1]) rfl rfl rfl rfl rfl rfl rfl hl.1 rfl (Nat.le_of_ble_eq_true rfl) dX4_fill_119 (fun H locs hw => ?_)
            refine lv_istore (lv' := [(6, .int r2), (5, .int (v3 ||| ((1 : Int32) <<< (v4 &&& 31)))), (0, .ref (q (o + 0))), (1, .ref (q1 (o1 + 0))), (3, .int v3), (4, .int v4)]) hx hb dX4_fill_122 hl (by decide) rfl (fun ls hl => ?_)
            refine lv_aload_n hx hb dX4_fill_124 rfl (lv_at hl 2 rfl) ?_
            refine z_get hS0 in_X4_fill_X4 hK hw 0 0 rfl rfl rfl (by decide) (hts _ m_X4_fill_0) (v := .ref (q (o + 1))) rfl dX4_fill_125 ?_
            refine lv_iload_n hx hb dX4_fill_128 rfl (lv_at hl 4 rfl) ?_
            obtain ⟨g4, hf⟩ := z_gd hf
            refine z_iald hS0 hK hw 0 1 (zIn_vp g4) rfl rfl dX4_fill_129 ?_
            refine lv_iload hx hb dX4_fill_130 (lv_at hl 0 rfl) ?_
            refine lv_iadd hx hb dX4_fill_132 ?_
            refine lv_istore (lv' := [(7, .int ((S.1 v3.toNatClampNeg) + r2)), (6, .int r2), (5, .int (v3 ||| ((1 : Int32) <<< (v4 &&& 31)))), (0, .ref (q (o + 0))), (1, .ref (q1 (o1 + 0))), (3, .int v3), (4, .int v4)]) hx hb dX4_fill_133 hl (by decide) rfl (fun ls hl => ?_)
            refine lv_iload hx hb dX4_fill_135 (lv_at hl 1 rfl) ?_
            refine lv_bipush (v := (-9)) hx hb dX4_fill_137 rfl ?_
            refine lv_icmp_eq (tgt := 175) hx hb dX4_fill_139 rfl (fun hc => ?_) (fun hc => ?_)
            · have hf := z_t hc hf
              refine lv_iinc (v := (v4 + 1)) (lv' := [(4, .int (v4 + 1)), (7, .int ((S.1 v3.toNatClampNeg) + r2)), (6, .int r2), (5, .int (v3 ||| ((1 : Int32) <<< (v4 &&& 31)))), (0, .ref (q (o + 0))), (1, .ref (q1 (o1 + 0))), (3, .int v3)]) hx hb dX4_fill_175 hl (k := 6) rfl rfl (by decide) rfl (fun ls hl => ?_)
              refine lv_goto (tgt := 64) hx hb dX4_fill_178 rfl ?_
              exact ih _ _ _ _ _ _ _ hf hw (lv_sub hl [4, 5, 6, 0] rfl)
            · have hf := z_f hc hf
              refine lv_aload_n hx hb dX4_fill_142 rfl (lv_at hl 3 rfl) ?_
              refine z_get hS0 in_X4_fill_X4 hK hw 0 0 rfl rfl rfl (by decide) (hts _ m_X4_fill_0) (v := .ref (q (o + 1))) rfl dX4_fill_143 ?_
              refine lv_iload hx hb dX4_fill_146 (lv_at hl 2 rfl) ?_
              obtain ⟨g5, hf⟩ := z_gd hf
              refine z_iald hS0 hK hw 0 1 (zIn_vp g5) rfl rfl dX4_fill_148 ?_
              refine lv_bipush (v := (-9)) hx hb dX4_fill_149 rfl ?_
              refine lv_icmp_eq (tgt := 166) hx hb dX4_fill_151 rfl (fun hc => ?_) (fun hc => ?_)
              · have hf := z_t hc hf
                refine lv_aload_n hx hb dX4_fill_166 rfl (lv_at hl 3 rfl) ?_
                refine z_get hS0 in_X4_fill_X4 hK hw 0 0 rfl rfl rfl (by decide) (hts _ m_X4_fill_0) (v := .ref (q (o + 1))) rfl dX4_fill_167 ?_
                refine lv_iload hx hb dX4_fill_170 (lv_at hl 2 rfl) ?_
                refine lv_iload hx hb dX4_fill_172 (lv_at hl 0 rfl) ?_
                obtain ⟨g6, hf⟩ := z_gd hf
                refine z_iast (blk' := bX4 G q o (upd S.1 (v3 ||| ((1 : Int32) <<< (v4 &&& 31))).toNatClampNeg ((S.1 v3.toNatClampNeg) + r2)) S.2) (bs' := [bX4 G q o (upd S.1 (v3 ||| ((1 : Int32) <<< (v4 &&& 31))).toNatClampNeg ((S.1 v3.toNatClampNeg) + r2)) S.2, bX2 G q1 o1 P1.1 P1.2.1 P1.2.2.1 P1.2.2.2.1 P1.2.2.2.2.1 P1.2.2.2.2.2.1 P1.2.2.2.2.2.2.1 P1.2.2.2.2.2.2.2]) hS0 hK hw 0 1 (zIn_vp g6) rfl rfl dX4_fill_174 rfl rfl (fun H locs hw => ?_)
                refine lv_iinc (v := (v4 + 1)) (lv' := [(4, .int (v4 + 1)), (7, .int ((S.1 v3.toNatClampNeg) + r2)), (6, .int r2), (5, .int (v3 ||| ((1 : Int32) <<< (v4 &&& 31)))), (0, .ref (q (o + 0))), (1, .ref (q1 (o1 + 0))), (3, .int v3)]) hx hb dX4_fill_175 hl (k := 6) rfl rfl (by decide) rfl (fun ls hl => ?_)
                refine lv_goto (tgt := 64) hx hb dX4_fill_178 rfl ?_
                exact ih _ _ _ _ _ _ _ hf hw (lv_sub hl [4, 5, 6, 0] rfl)
              · have hf := z_f hc hf
                refine lv_iload hx hb dX4_fill_154 (lv_at hl 0 rfl) ?_
                refine lv_aload_n hx hb dX4_fill_156 rfl (lv_at hl 3 rfl) ?_
                refine z_get hS0 in_X4_fill_X4 hK hw 0 0 rfl rfl rfl (by decide) (hts _ m_X4_fill_0) (v := .ref (q (o + 1))) rfl dX4_fill_157 ?_
                refine lv_iload hx hb dX4_fill_160 (lv_at hl 2 rfl) ?_
                obtain ⟨g7, hf⟩ := z_gd hf
                refine z_iald hS0 hK hw 0 1 (zIn_vp g7) rfl rfl dX4_fill_162 ?_
                refine lv_icmp_ge (tgt := 175) hx hb dX4_fill_163 rfl (fun hc => ?_) (fun hc => ?_)
                · have hf := z_t hc hf
                  refine lv_iinc (v := (v4 + 1)) (lv' := [(4, .int (v4 + 1)), (7, .int ((S.1 v3.toNatClampNeg) + r2)), (6, .int r2), (5, .int (v3 ||| ((1 : Int32) <<< (v4 &&& 31)))), (0, .ref (q (o + 0))), (1, .ref (q1 (o1 + 0))), (3, .int v3)]) hx hb dX4_fill_175 hl (k := 6) rfl rfl (by decide) rfl (fun ls hl => ?_)
                  refine lv_goto (tgt := 64) hx hb dX4_fill_178 rfl ?_
                  exact ih _ _ _ _ _ _ _ hf hw (lv_sub hl [4, 5, 6, 0] rfl)
                · have hf := z_f hc hf
                  refine lv_aload_n hx hb dX4_fill_166 rfl (lv_at hl 3 rfl) ?_
                  refine z_get hS0 in_X4_fill_X4 hK hw 0 0 rfl rfl rfl (by decide) (hts _ m_X4_fill_0) (v := .ref (q (o + 1))) rfl dX4_fill_167 ?_
                  refine lv_iload hx hb dX4_fill_170 (lv_at hl 2 rfl) ?_
                  refine lv_iload hx hb dX4_fill_172 (lv_at hl 0 rfl) ?_
                  obtain ⟨g8, hf⟩ := z_gd hf
                  refine z_iast (blk' := bX4 G q o (upd S.1 (v3 ||| ((1 : Int32) <<< (v4 &&& 31))).toNatClampNeg ((S.1 v3.toNatClampNeg) + r2)) S.2) (bs' := [bX4 G q o (upd S.1 (v3 ||| ((1 : Int32) <<< (v4 &&& 31))).toNatClampNeg ((S.1 v3.toNatClampNeg) + r2)) S.2, bX2 G q1 o1 P1.1 P1.2.1 P1.2.2.1 P1.2.2.2.1 P1.2.2.2.2.1 P1.2.2.2.2.2.1 P1.2.2.2.2.2.2.1 P1.2.2.2.2.2.2.2]) hS0 hK hw 0 1 (zIn_vp g8) rfl rfl dX4_fill_174 rfl rfl (fun H locs hw => ?_)
                  refine lv_iinc (v := (v4 + 1)) (lv' := [(4, .int (v4 + 1)), (7, .int ((S.1 v3.toNatClampNeg) + r2)), (6, .int r2), (5, .int (v3 ||| ((1 : Int32) <<< (v4 &&& 31)))), (0, .ref (q (o + 0))), (1, .ref (q1 (o1 + 0))), (3, .int v3)]) hx hb dX4_fill_175 hl (k := 6) rfl rfl (by decide) rfl (fun ls hl => ?_)
                  refine lv_goto (tgt := 64) hx hb dX4_fill_178 rfl ?_
                  exact ih _ _ _ _ _ _ _ hf hw (lv_sub hl [4, 5, 6, 0] rfl)
          · have hf := z_f hc hf
            refine lv_goto (tgt := 175) hx hb dX4_fill_108 rfl ?_
            refine lv_iinc (v := (v4 + 1)) (lv' := [(4, .int (v4 + 1)), (5, .int (v3 ||| ((1 : Int32) <<< (v4 &&& 31)))), (0, .ref (q (o + 0))), (1, .ref (q1 (o1 + 0))), (3, .int v3)]) hx hb dX4_fill_175 hl (k := 4) rfl rfl (by decide) rfl (fun ls hl => ?_)
            refine lv_goto (tgt := 64) hx hb dX4_fill_178 rfl ?_
            exact ih _ _ _ _ _ _ _ hf hw (lv_sub hl [2, 3, 4, 0] rfl)
set_option maxHeartbeats 4000000 in
set_option maxRecDepth 100000 in
theorem k_X4_fill_53 {p : Program} {l : Launch} {e : Env} {s : State} {m : MethodId} {args : Array Value} {below : List Frame} {meth : Method} {c : Code} {A : Nat → Prop} {G : zG} {q : Nat → Nat} {o : Nat} {q1 : Nat → Nat} {o1 : Nat}  (hZ : zZ p s m args meth c A G cX4_fill 8 RX4 wsX4_fill none) (y : VX4)  (n : Nat) : ∀ (S : VX4) (P1 : VX2) (v3 : Int32) (H : Heap) (locs : List Loc) (ls : Array Slot), f_X4_fill_53 n S P1 v3 = some y → zH G A s.heap [bX4 G q o S.1 S.2, bX2 G q1 o1 P1.1 P1.2.1 P1.2.2.1 P1.2.2.2.1 P1.2.2.2.2.1 P1.2.2.2.2.2.1 P1.2.2.2.2.2.2.1 P1.2.2.2.2.2.2.2] H locs → lv_has ls 8 [(0, .ref (q (o + 0))), (1, .ref (q1 (o1 + 0))), (3, .int v3)] → W p l e { frames := 3, cells := 0, slots := 0, locals := 80 } s m args below meth c H locs 0 0 (MQ below (zQ none (zPost G [bX4 G q o y.1 y.2, bX2 G q1 o1 P1.1 P1.2.1 P1.2.2.1 P1.2.2.2.1 P1.2.2.2.2.1 P1.2.2.2.2.2.1 P1.2.2.2.2.2.2.1 P1.2.2.2.2.2.2.2]) A) args s 0 0 A) (F0 m 53 ls []) := by
  obtain ⟨hS0, hr, hlk, hK, hA, hT⟩ := id hZ
  have hx := hS0.1
  have hb := hS0.2.1
  have hml := hS0.2.2.1
  have hown : s.vm.findClass RX4 = some m.cls := hS0.2.2.2.1
  have hts := hS0.2.2.2.2
  induction n with
  | zero =>
    intro S P1 v3 H locs ls hf hw hl
    unfold f_X4_fill_53 at hf
    cases hf
  | succ n ih =>
    intro S P1 v3 H locs ls hf hw hl
    unfold f_X4_fill_53 at hf
    refine lv_iload_n hx hb dX4_fill_53 rfl (lv_at hl 2 rfl) ?_
    refine lv_aload_n hx hb dX4_fill_54 rfl (lv_at hl 0 rfl) ?_
    refine z_get hS0 in_X4_fill_X4 hK hw 0 1 rfl rfl rfl (by decide) (hts _ m_X4_fill_1) (v := .int S.2) rfl dX4_fill_55 ?_
    refine lv_icmp_ge (tgt := 187) hx hb dX4_fill_58 rfl (fun hc => ?_) (fun hc => ?_)
    · have hf := z_t hc hf
      cases hf
      exact z_vret hx hb hr hlk hw dX4_fill_187
    · have hf := z_f hc hf
      refine lv_iconst (v := 0) hx hb dX4_fill_61 rfl ?_
      refine lv_istore (lv' := [(4, .int 0), (0, .ref (q (o + 0))), (1, .ref (q1 (o1 + 0))), (3, .int v3)]) hx hb dX4_fill_62 hl (by decide) rfl (fun ls hl => ?_)
      exact k_X4_fill_64 hZ _ ih 4096 _ _ _ _ _ _ _ hf hw (lv_sub hl [1, 2, 3, 0] rfl)
set_option maxHeartbeats 4000000 in
set_option maxRecDepth 100000 in
theorem k_X4_fill_29 {p : Program} {l : Launch} {e : Env} {s : State} {m : MethodId} {args : Array Value} {below : List Frame} {meth : Method} {c : Code} {A : Nat → Prop} {G : zG} {q : Nat → Nat} {o : Nat} {q1 : Nat → Nat} {o1 : Nat}  (hZ : zZ p s m args meth c A G cX4_fill 8 RX4 wsX4_fill none) (y : VX4)  (n : Nat) : ∀ (S : VX4) (P1 : VX2) (v3 : Int32) (H : Heap) (locs : List Loc) (ls : Array Slot), f_X4_fill_29 n S P1 v3 = some y → zH G A s.heap [bX4 G q o S.1 S.2, bX2 G q1 o1 P1.1 P1.2.1 P1.2.2.1 P1.2.2.2.1 P1.2.2.2.2.1 P1.2.2.2.2.2.1 P1.2.2.2.2.2.2.1 P1.2.2.2.2.2.2.2] H locs → lv_has ls 8 [(0, .ref (q (o + 0))), (1, .ref (q1 (o1 + 0))), (3, .int v3)] → W p l e { frames := 3, cells := 0, slots := 0, locals := 80 } s m args below meth c H locs 0 0 (MQ below (zQ none (zPost G [bX4 G q o y.1 y.2, bX2 G q1 o1 P1.1 P1.2.1 P1.2.2.1 P1.2.2.2.1 P1.2.2.2.2.1 P1.2.2.2.2.2.1 P1.2.2.2.2.2.2.1 P1.2.2.2.2.2.2.2]) A) args s 0 0 A) (F0 m 29 ls []) := by
  obtain ⟨hS0, hr, hlk, hK, hA, hT⟩ := id hZ
  have hx := hS0.1
  have hb := hS0.2.1
  have hml := hS0.2.2.1
  have hown : s.vm.findClass RX4 = some m.cls := hS0.2.2.2.1
  have hts := hS0.2.2.2.2
  induction n with
  | zero =>
    intro S P1 v3 H locs ls hf hw hl
    unfold f_X4_fill_29 at hf
    cases hf
  | succ n ih =>
    intro S P1 v3 H locs ls hf hw hl
    unfold f_X4_fill_29 at hf
    refine lv_iload_n hx hb dX4_fill_29 rfl (lv_at hl 2 rfl) ?_
    refine lv_aload_n hx hb dX4_fill_30 rfl (lv_at hl 0 rfl) ?_
    refine z_get hS0 in_X4_fill_X4 hK hw 0 1 rfl rfl rfl (by decide) (hts _ m_X4_fill_1) (v := .int S.2) rfl dX4_fill_31 ?_
    refine lv_icmp_gt (tgt := 51) hx hb dX4_fill_34 rfl (fun hc => ?_) (fun hc => ?_)
    · have hf := z_t hc hf
      refine lv_iconst (v := 0) hx hb dX4_fill_51 rfl ?_
      refine lv_istore_n (lv' := [(3, .int 0), (0, .ref (q (o + 0))), (1, .ref (q1 (o1 + 0)))]) hx hb dX4_fill_52 rfl hl (by decide) rfl (fun ls hl => ?_)
      exact k_X4_fill_53 hZ _ 4096 _ _ _ _ _ _ hf hw (lv_sub hl [1, 2, 0] rfl)
    · have hf := z_f hc hf
      refine lv_aload_n hx hb dX4_fill_37 rfl (lv_at hl 0 rfl) ?_
      refine z_get hS0 in_X4_fill_X4 hK hw 0 0 rfl rfl rfl (by decide) (hts _ m_X4_fill_0) (v := .ref (q (o + 1))) rfl dX4_fill_38 ?_
      refine lv_iload_n hx hb dX4_fill_41 rfl (lv_at hl 2 rfl) ?_
      refine lv_bipush (v := (-9)) hx hb dX4_fill_42 rfl ?_
      obtain ⟨g9, hf⟩ := z_gd hf
      refine z_iast (blk' := bX4 G q o (upd S.1 v3.toNatClampNeg (-9)) S.2) (bs' := [bX4 G q o (upd S.1 v3.toNatClampNeg (-9)) S.2, bX2 G q1 o1 P1.1 P1.2.1 P1.2.2.1 P1.2.2.2.1 P1.2.2.2.2.1 P1.2.2.2.2.2.1 P1.2.2.2.2.2.2.1 P1.2.2.2.2.2.2.2]) hS0 hK hw 0 1 (zIn_vp g9) rfl rfl dX4_fill_44 rfl rfl (fun H locs hw => ?_)
      refine lv_iinc (v := (v3 + 1)) (lv' := [(3, .int (v3 + 1)), (0, .ref (q (o + 0))), (1, .ref (q1 (o1 + 0)))]) hx hb dX4_fill_45 hl (k := 2) rfl rfl (by decide) rfl (fun ls hl => ?_)
      refine lv_goto (tgt := 29) hx hb dX4_fill_48 rfl ?_
      exact ih _ _ _ _ _ _ hf hw (lv_sub hl [1, 2, 0] rfl)
set_option maxHeartbeats 4000000 in
set_option maxRecDepth 100000 in
theorem c_X4_fill (l : Launch) (G : zG) (q : Nat → Nat) (o : Nat) (q1 : Nat → Nat) (o1 : Nat) (S : VX4) (P1 : VX2) (v2 : Int32) (y : VX4) (hf : f_X4_fill S P1 v2 = some y) : zMet l yX4_fill wsX4_fill 3 80 G [.ref (q (o + 0)), .ref (q1 (o1 + 0)), .int v2] [bX4 G q o S.1 S.2, bX2 G q1 o1 P1.1 P1.2.1 P1.2.2.1 P1.2.2.2.1 P1.2.2.2.2.1 P1.2.2.2.2.2.1 P1.2.2.2.2.2.2.1 P1.2.2.2.2.2.2.2] none [bX4 G q o y.1 y.2, bX2 G q1 o1 P1.1 P1.2.1 P1.2.2.1 P1.2.2.2.1 P1.2.2.2.2.1 P1.2.2.2.2.2.1 P1.2.2.2.2.2.2.1 P1.2.2.2.2.2.2.2] := by
  refine z_met zc_X4_fill (Nat.le_of_ble_eq_true rfl) ?_
  intro p e s m below meth c A ls hZ hl hw
  have hl : lv_has ls 8 [(0, .ref (q (o + 0))), (1, .ref (q1 (o1 + 0))), (2, .int v2)] := hl
  obtain ⟨hS0, hr, hlk, hK, hA, hT⟩ := id hZ
  have hx := hS0.1
  have hb := hS0.2.1
  have hml := hS0.2.2.1
  have hown : s.vm.findClass RX4 = some m.cls := hS0.2.2.2.1
  have hts := hS0.2.2.2.2
  unfold f_X4_fill at hf
  refine lv_aload_n hx hb dX4_fill_0 rfl (lv_at hl 0 rfl) ?_
  refine lv_iload_n hx hb dX4_fill_1 rfl (lv_at hl 2 rfl) ?_
  refine lv_if_lt (tgt := 16) hx hb dX4_fill_2 rfl (fun hc => ?_) (fun hc => ?_)
  · have hf := z_t hc hf
    refine lv_iconst (v := 0) hx hb dX4_fill_16 rfl ?_
    refine z_put (blk' := bX4 G q o S.1 0) (bs' := [bX4 G q o S.1 0, bX2 G q1 o1 P1.1 P1.2.1 P1.2.2.1 P1.2.2.2.1 P1.2.2.2.2.1 P1.2.2.2.2.2.1 P1.2.2.2.2.2.2.1 P1.2.2.2.2.2.2.2]) hS0 in_X4_fill_X4 tyX4 tyX4_ok nmX4 hK hw 0 1 rfl rfl rfl (by decide) (hts _ m_X4_fill_1) rfl (ty := tyX4 1) (tyX4_ok 1 (by decide)) rfl rfl (Nat.le_of_ble_eq_true rfl) dX4_fill_17 rfl rfl (fun H locs hw => ?_)
    refine lv_aload_n hx hb dX4_fill_20 rfl (lv_at hl 0 rfl) ?_
    refine z_get hS0 in_X4_fill_X4 hK hw 0 0 rfl rfl rfl (by decide) (hts _ m_X4_fill_0) (v := .ref (q (o + 1))) rfl dX4_fill_21 ?_
    refine lv_iconst (v := 0) hx hb dX4_fill_24 rfl ?_
    refine lv_iconst (v := 0) hx hb dX4_fill_25 rfl ?_
    obtain ⟨g10, hf⟩ := z_gd hf
    refine z_iast (blk' := bX4 G q o (upd S.1 (0 : Int32).toNatClampNeg 0) 0) (bs' := [bX4 G q o (upd S.1 (0 : Int32).toNatClampNeg 0) 0, bX2 G q1 o1 P1.1 P1.2.1 P1.2.2.1 P1.2.2.2.1 P1.2.2.2.2.1 P1.2.2.2.2.2.1 P1.2.2.2.2.2.2.1 P1.2.2.2.2.2.2.2]) hS0 hK hw 0 1 (zIn_vp g10) rfl rfl dX4_fill_26 rfl rfl (fun H locs hw => ?_)
    refine lv_iconst (v := 1) hx hb dX4_fill_27 rfl ?_
    refine lv_istore_n (lv' := [(3, .int 1), (0, .ref (q (o + 0))), (1, .ref (q1 (o1 + 0))), (2, .int v2)]) hx hb dX4_fill_28 rfl hl (by decide) rfl (fun ls hl => ?_)
    exact k_X4_fill_29 hZ _ 4096 _ _ _ _ _ _ hf hw (lv_sub hl [1, 2, 0] rfl)
  · have hf := z_f hc hf
    refine lv_iload_n hx hb dX4_fill_5 rfl (lv_at hl 2 rfl) ?_
    refine lv_sipush (v := 256) hx hb dX4_fill_6 rfl ?_
    refine lv_icmp_ge (tgt := 16) hx hb dX4_fill_9 rfl (fun hc => ?_) (fun hc => ?_)
    · have hf := z_t hc hf
      refine lv_iconst (v := 0) hx hb dX4_fill_16 rfl ?_
      refine z_put (blk' := bX4 G q o S.1 0) (bs' := [bX4 G q o S.1 0, bX2 G q1 o1 P1.1 P1.2.1 P1.2.2.1 P1.2.2.2.1 P1.2.2.2.2.1 P1.2.2.2.2.2.1 P1.2.2.2.2.2.2.1 P1.2.2.2.2.2.2.2]) hS0 in_X4_fill_X4 tyX4 tyX4_ok nmX4 hK hw 0 1 rfl rfl rfl (by decide) (hts _ m_X4_fill_1) rfl (ty := tyX4 1) (tyX4_ok 1 (by decide)) rfl rfl (Nat.le_of_ble_eq_true rfl) dX4_fill_17 rfl rfl (fun H locs hw => ?_)
      refine lv_aload_n hx hb dX4_fill_20 rfl (lv_at hl 0 rfl) ?_
      refine z_get hS0 in_X4_fill_X4 hK hw 0 0 rfl rfl rfl (by decide) (hts _ m_X4_fill_0) (v := .ref (q (o + 1))) rfl dX4_fill_21 ?_
      refine lv_iconst (v := 0) hx hb dX4_fill_24 rfl ?_
      refine lv_iconst (v := 0) hx hb dX4_fill_25 rfl ?_
      obtain ⟨g11, hf⟩ := z_gd hf
      refine z_iast (blk' := bX4 G q o (upd S.1 (0 : Int32).toNatClampNeg 0) 0) (bs' := [bX4 G q o (upd S.1 (0 : Int32).toNatClampNeg 0) 0, bX2 G q1 o1 P1.1 P1.2.1 P1.2.2.1 P1.2.2.2.1 P1.2.2.2.2.1 P1.2.2.2.2.2.1 P1.2.2.2.2.2.2.1 P1.2.2.2.2.2.2.2]) hS0 hK hw 0 1 (zIn_vp g11) rfl rfl dX4_fill_26 rfl rfl (fun H locs hw => ?_)
      refine lv_iconst (v := 1) hx hb dX4_fill_27 rfl ?_
      refine lv_istore_n (lv' := [(3, .int 1), (0, .ref (q (o + 0))), (1, .ref (q1 (o1 + 0))), (2, .int v2)]) hx hb dX4_fill_28 rfl hl (by decide) rfl (fun ls hl => ?_)
      exact k_X4_fill_29 hZ _ 4096 _ _ _ _ _ _ hf hw (lv_sub hl [1, 2, 0] rfl)
    · have hf := z_f hc hf
      refine lv_iload_n hx hb dX4_fill_12 rfl (lv_at hl 2 rfl) ?_
      refine lv_goto (tgt := 17) hx hb dX4_fill_13 rfl ?_
      refine z_put (blk' := bX4 G q o S.1 v2) (bs' := [bX4 G q o S.1 v2, bX2 G q1 o1 P1.1 P1.2.1 P1.2.2.1 P1.2.2.2.1 P1.2.2.2.2.1 P1.2.2.2.2.2.1 P1.2.2.2.2.2.2.1 P1.2.2.2.2.2.2.2]) hS0 in_X4_fill_X4 tyX4 tyX4_ok nmX4 hK hw 0 1 rfl rfl rfl (by decide) (hts _ m_X4_fill_1) rfl (ty := tyX4 1) (tyX4_ok 1 (by decide)) rfl rfl (Nat.le_of_ble_eq_true rfl) dX4_fill_17 rfl rfl (fun H locs hw => ?_)
      refine lv_aload_n hx hb dX4_fill_20 rfl (lv_at hl 0 rfl) ?_
      refine z_get hS0 in_X4_fill_X4 hK hw 0 0 rfl rfl rfl (by decide) (hts _ m_X4_fill_0) (v := .ref (q (o + 1))) rfl dX4_fill_21 ?_
      refine lv_iconst (v := 0) hx hb dX4_fill_24 rfl ?_
      refine lv_iconst (v := 0) hx hb dX4_fill_25 rfl ?_
      obtain ⟨g12, hf⟩ := z_gd hf
      refine z_iast (blk' := bX4 G q o (upd S.1 (0 : Int32).toNatClampNeg 0) v2) (bs' := [bX4 G q o (upd S.1 (0 : Int32).toNatClampNeg 0) v2, bX2 G q1 o1 P1.1 P1.2.1 P1.2.2.1 P1.2.2.2.1 P1.2.2.2.2.1 P1.2.2.2.2.2.1 P1.2.2.2.2.2.2.1 P1.2.2.2.2.2.2.2]) hS0 hK hw 0 1 (zIn_vp g12) rfl rfl dX4_fill_26 rfl rfl (fun H locs hw => ?_)
      refine lv_iconst (v := 1) hx hb dX4_fill_27 rfl ?_
      refine lv_istore_n (lv' := [(3, .int 1), (0, .ref (q (o + 0))), (1, .ref (q1 (o1 + 0))), (2, .int v2)]) hx hb dX4_fill_28 rfl hl (by decide) rfl (fun ls hl => ?_)
      exact k_X4_fill_29 hZ _ 4096 _ _ _ _ _ _ hf hw (lv_sub hl [1, 2, 0] rfl)
theorem zc_X4_has : zC yX4_has wsX4_has cX4_has 2 (some .boolean) 1 := ⟨⟨_, rfl⟩, by decide +kernel, by decide +kernel, by decide +kernel, by decide +kernel⟩
set_option maxHeartbeats 4000000 in
set_option maxRecDepth 100000 in
theorem c_X4_has (l : Launch) (G : zG) (q : Nat → Nat) (o : Nat) (S : VX4) (v1 : Int32) (y : Int32) (hf : f_X4_has S v1 = some y) : zMet l yX4_has wsX4_has 1 21 G [.ref (q (o + 0)), .int v1] [bX4 G q o S.1 S.2] (some (.int y)) [bX4 G q o S.1 S.2] := by
  refine z_met zc_X4_has (Nat.le_of_ble_eq_true rfl) ?_
  intro p e s m below meth c A ls hZ hl hw
  have hl : lv_has ls 2 [(0, .ref (q (o + 0))), (1, .int v1)] := hl
  obtain ⟨hS0, hr, hlk, hK, hA, hT⟩ := id hZ
  have hx := hS0.1
  have hb := hS0.2.1
  have hml := hS0.2.2.1
  have hown : s.vm.findClass RX4 = some m.cls := hS0.2.2.2.1
  have hts := hS0.2.2.2.2
  unfold f_X4_has at hf
  refine lv_aload_n hx hb dX4_has_0 rfl (lv_at hl 0 rfl) ?_
  refine lv_iload_n hx hb dX4_has_1 rfl (lv_at hl 1 rfl) ?_
  obtain ⟨r1, e2, hf⟩ := z_bd hf
  refine z_callV1 (As := [.int v1]) (rest := []) (bs' := [bX4 G q o S.1 S.2]) hS0 (c_X4_favoursOf l G q o S v1 r1 e2) zc_X4_favoursOf rfl gX4_has_X4_favoursOf ⟨Nat.le_of_ble_eq_true rfl, Nat.le_of_ble_eq_true rfl⟩ hK hA hT hw (is := [0]) rfl rfl rfl rfl rfl rfl rfl hl.1 rfl (Nat.le_of_ble_eq_true rfl) dX4_has_2 (fun H locs hw => ?_)
  refine lv_bipush (v := (-9)) hx hb dX4_has_5 rfl ?_
  refine lv_icmp_eq (tgt := 14) hx hb dX4_has_7 rfl (fun hc => ?_) (fun hc => ?_)
  · have hf := z_t hc hf
    refine lv_iconst (v := 0) hx hb dX4_has_14 rfl ?_
    cases hf
    exact z_zret hx hb hr (z_nb (Or.inl rfl)) hlk hw dX4_has_15
  · have hf := z_f hc hf
    refine lv_iconst (v := 1) hx hb dX4_has_10 rfl ?_
    refine lv_goto (tgt := 15) hx hb dX4_has_11 rfl ?_
    cases hf
    exact z_zret hx hb hr (z_nb (Or.inr rfl)) hlk hw dX4_has_15
theorem zc_X4_isGreater : zC yX4_isGreater wsX4_isGreater cX4_isGreater 4 (some .boolean) 2 := ⟨⟨_, rfl⟩, by decide +kernel, by decide +kernel, by decide +kernel, by decide +kernel⟩
set_option maxHeartbeats 4000000 in
set_option maxRecDepth 100000 in
theorem c_X4_isGreater (l : Launch) (G : zG) (q : Nat → Nat) (o : Nat) (S : VX4) (v1 : Int32) (v2 : Int32) (y : Int32) (hf : f_X4_isGreater S v1 v2 = some y) : zMet l yX4_isGreater wsX4_isGreater 1 21 G [.ref (q (o + 0)), .int v1, .int v2] [bX4 G q o S.1 S.2] (some (.int y)) [bX4 G q o S.1 S.2] := by
  refine z_met zc_X4_isGreater (Nat.le_of_ble_eq_true rfl) ?_
  intro p e s m below meth c A ls hZ hl hw
  have hl : lv_has ls 4 [(0, .ref (q (o + 0))), (1, .int v1), (2, .int v2)] := hl
  obtain ⟨hS0, hr, hlk, hK, hA, hT⟩ := id hZ
  have hx := hS0.1
  have hb := hS0.2.1
  have hml := hS0.2.2.1
  have hown : s.vm.findClass RX4 = some m.cls := hS0.2.2.2.1
  have hts := hS0.2.2.2.2
  unfold f_X4_isGreater at hf
  refine lv_iload_n hx hb dX4_isGreater_0 rfl (lv_at hl 1 rfl) ?_
  obtain ⟨r1, e2, hf⟩ := z_bd hf
  refine z_callS1 (As := [.int v1]) (rest := []) (bs' := [bX4 G q o S.1 S.2]) hS0 (c_J6_bitCount_0f7a4 l G v1 r1 e2) zc_J6_bitCount_0f7a4 gX4_isGreater_J6_bitCount_0f7a4 ⟨Nat.le_of_ble_eq_true rfl, Nat.le_of_ble_eq_true rfl⟩ hK hA hT hw (is := []) rfl rfl rfl rfl rfl hl.1 rfl (Nat.le_of_ble_eq_true rfl) dX4_isGreater_1 (fun H locs hw => ?_)
  refine lv_iload_n hx hb dX4_isGreater_4 rfl (lv_at hl 2 rfl) ?_
  obtain ⟨r3, e4, hf⟩ := z_bd hf
  refine z_callS1 (As := [.int v2]) (rest := [.int r1]) (bs' := [bX4 G q o S.1 S.2]) hS0 (c_J6_bitCount_0f7a4 l G v2 r3 e4) zc_J6_bitCount_0f7a4 gX4_isGreater_J6_bitCount_0f7a4 ⟨Nat.le_of_ble_eq_true rfl, Nat.le_of_ble_eq_true rfl⟩ hK hA hT hw (is := []) rfl rfl rfl rfl rfl hl.1 rfl (Nat.le_of_ble_eq_true rfl) dX4_isGreater_5 (fun H locs hw => ?_)
  refine lv_isub hx hb dX4_isGreater_8 ?_
  refine lv_istore_n (lv' := [(3, .int (r1 - r3)), (0, .ref (q (o + 0))), (1, .int v1), (2, .int v2)]) hx hb dX4_isGreater_9 rfl hl (by decide) rfl (fun ls hl => ?_)
  refine lv_iload_n hx hb dX4_isGreater_10 rfl (lv_at hl 0 rfl) ?_
  refine lv_if_gt (tgt := 31) hx hb dX4_isGreater_11 rfl (fun hc => ?_) (fun hc => ?_)
  · have hf := z_t hc hf
    refine lv_iconst (v := 1) hx hb dX4_isGreater_31 rfl ?_
    refine lv_goto (tgt := 36) hx hb dX4_isGreater_32 rfl ?_
    cases hf
    exact z_zret hx hb hr (z_nb (Or.inr rfl)) hlk hw dX4_isGreater_36
  · have hf := z_f hc hf
    refine lv_iload_n hx hb dX4_isGreater_14 rfl (lv_at hl 0 rfl) ?_
    refine lv_if_ne (tgt := 35) hx hb dX4_isGreater_15 rfl (fun hc => ?_) (fun hc => ?_)
    · have hf := z_f hc hf
      refine lv_iconst (v := 0) hx hb dX4_isGreater_35 rfl ?_
      cases hf
      exact z_zret hx hb hr (z_nb (Or.inl rfl)) hlk hw dX4_isGreater_36
    · have hf := z_t hc hf
      refine lv_aload_n hx hb dX4_isGreater_18 rfl (lv_at hl 1 rfl) ?_
      refine lv_iload_n hx hb dX4_isGreater_19 rfl (lv_at hl 2 rfl) ?_
      obtain ⟨r5, e6, hf⟩ := z_bd hf
      refine z_callV1 (As := [.int v1]) (rest := []) (bs' := [bX4 G q o S.1 S.2]) hS0 (c_X4_favoursOf l G q o S v1 r5 e6) zc_X4_favoursOf rfl gX4_isGreater_X4_favoursOf ⟨Nat.le_of_ble_eq_true rfl, Nat.le_of_ble_eq_true rfl⟩ hK hA hT hw (is := [0]) rfl rfl rfl rfl rfl rfl rfl hl.1 rfl (Nat.le_of_ble_eq_true rfl) dX4_isGreater_20 (fun H locs hw => ?_)
      refine lv_aload_n hx hb dX4_isGreater_23 rfl (lv_at hl 1 rfl) ?_
      refine lv_iload_n hx hb dX4_isGreater_24 rfl (lv_at hl 3 rfl) ?_
      obtain ⟨r7, e8, hf⟩ := z_bd hf
      refine z_callV1 (As := [.int v2]) (rest := [.int r5]) (bs' := [bX4 G q o S.1 S.2]) hS0 (c_X4_favoursOf l G q o S v2 r7 e8) zc_X4_favoursOf rfl gX4_isGreater_X4_favoursOf ⟨Nat.le_of_ble_eq_true rfl, Nat.le_of_ble_eq_true rfl⟩ hK hA hT hw (is := [0]) rfl rfl rfl rfl rfl rfl rfl hl.1 rfl (Nat.le_of_ble_eq_true rfl) dX4_isGreater_25 (fun H locs hw => ?_)
      refine lv_icmp_ge (tgt := 35) hx hb dX4_isGreater_28 rfl (fun hc => ?_) (fun hc => ?_)
      · have hf := z_t hc hf
        refine lv_iconst (v := 0) hx hb dX4_isGreater_35 rfl ?_
        cases hf
        exact z_zret hx hb hr (z_nb (Or.inl rfl)) hlk hw dX4_isGreater_36
      · have hf := z_f hc hf
        refine lv_iconst (v := 1) hx hb dX4_isGreater_31 rfl ?_
        refine lv_goto (tgt := 36) hx hb dX4_isGreater_32 rfl ?_
        cases hf
        exact z_zret hx hb hr (z_nb (Or.inr rfl)) hlk hw dX4_isGreater_36
theorem zc_X4_greatest : zC yX4_greatest wsX4_greatest cX4_greatest 3 (some .int) 0 := ⟨⟨_, rfl⟩, by decide +kernel, by decide +kernel, by decide +kernel, by decide +kernel⟩
theorem m_X4_greatest_0 : (.fieldLink RX4 15 "CellKeys$Reach" "active" "I" : Cond) ∈ wsX4_greatest := by decide +kernel
theorem in_X4_greatest_X4 : ∀ w ∈ u_ws RX4 TX4 2, w ∈ wsX4_greatest := by decide +kernel
set_option maxHeartbeats 4000000 in
set_option maxRecDepth 100000 in
theorem k_X4_greatest_4 {p : Program} {l : Launch} {e : Env} {s : State} {m : MethodId} {args : Array Value} {below : List Frame} {meth : Method} {c : Code} {A : Nat → Prop} {G : zG} {q : Nat → Nat} {o : Nat}  (hZ : zZ p s m args meth c A G cX4_greatest 3 RX4 wsX4_greatest (some .int)) (y : Int32)  (n : Nat) : ∀ (S : VX4) (v1 : Int32) (v2 : Int32) (H : Heap) (locs : List Loc) (ls : Array Slot), f_X4_greatest_4 n S v1 v2 = some y → zH G A s.heap [bX4 G q o S.1 S.2] H locs → lv_has ls 3 [(0, .ref (q (o + 0))), (1, .int v1), (2, .int v2)] → W p l e { frames := 2, cells := 0, slots := 0, locals := 44 } s m args below meth c H locs 0 0 (MQ below (zQ (some (.int y)) (zPost G [bX4 G q o S.1 S.2]) A) args s 0 0 A) (F0 m 4 ls []) := by
  obtain ⟨hS0, hr, hlk, hK, hA, hT⟩ := id hZ
  have hx := hS0.1
  have hb := hS0.2.1
  have hml := hS0.2.2.1
  have hown : s.vm.findClass RX4 = some m.cls := hS0.2.2.2.1
  have hts := hS0.2.2.2.2
  induction n with
  | zero =>
    intro S v1 v2 H locs ls hf hw hl
    unfold f_X4_greatest_4 at hf
    cases hf
  | succ n ih =>
    intro S v1 v2 H locs ls hf hw hl
    unfold f_X4_greatest_4 at hf
    refine lv_iload_n hx hb dX4_greatest_4 rfl (lv_at hl 2 rfl) ?_
    refine lv_aload_n hx hb dX4_greatest_5 rfl (lv_at hl 0 rfl) ?_
    refine z_get hS0 in_X4_greatest_X4 hK hw 0 1 rfl rfl rfl (by decide) (hts _ m_X4_greatest_0) (v := .int S.2) rfl dX4_greatest_6 ?_
    refine lv_icmp_gt (tgt := 37) hx hb dX4_greatest_9 rfl (fun hc => ?_) (fun hc => ?_)
    · have hf := z_t hc hf
      refine lv_iload_n hx hb dX4_greatest_37 rfl (lv_at hl 1 rfl) ?_
      cases hf
      exact z_iret hx hb hr hlk hw dX4_greatest_38
    · have hf := z_f hc hf
      refine lv_aload_n hx hb dX4_greatest_12 rfl (lv_at hl 0 rfl) ?_
      refine lv_iload_n hx hb dX4_greatest_13 rfl (lv_at hl 2 rfl) ?_
      obtain ⟨r1, e2, hf⟩ := z_bd hf
      refine z_callV1 (As := [.int v2]) (rest := []) (bs' := [bX4 G q o S.1 S.2]) hS0 (c_X4_has l G q o S v2 r1 e2) zc_X4_has rfl gX4_greatest_X4_has ⟨Nat.le_of_ble_eq_true rfl, Nat.le_of_ble_eq_true rfl⟩ hK hA hT hw (is := [0]) rfl rfl rfl rfl rfl rfl rfl hl.1 rfl (Nat.le_of_ble_eq_true rfl) dX4_greatest_14 (fun H locs hw => ?_)
      refine lv_if_eq (tgt := 31) hx hb dX4_greatest_17 rfl (fun hc => ?_) (fun hc => ?_)
      · have hf := z_t hc hf
        refine lv_iinc (v := (v2 + 1)) (lv' := [(2, .int (v2 + 1)), (0, .ref (q (o + 0))), (1, .int v1)]) hx hb dX4_greatest_31 hl (k := 2) rfl rfl (by decide) rfl (fun ls hl => ?_)
        refine lv_goto (tgt := 4) hx hb dX4_greatest_34 rfl ?_
        exact ih _ _ _ _ _ _ hf hw (lv_sub hl [1, 2, 0] rfl)
      · have hf := z_f hc hf
        refine lv_aload_n hx hb dX4_greatest_20 rfl (lv_at hl 0 rfl) ?_
        refine lv_iload_n hx hb dX4_greatest_21 rfl (lv_at hl 2 rfl) ?_
        refine lv_iload_n hx hb dX4_greatest_22 rfl (lv_at hl 1 rfl) ?_
        obtain ⟨r3, e4, hf⟩ := z_bd hf
        refine z_callV1 (As := [.int v2, .int v1]) (rest := []) (bs' := [bX4 G q o S.1 S.2]) hS0 (c_X4_isGreater l G q o S v2 v1 r3 e4) zc_X4_isGreater rfl gX4_greatest_X4_isGreater ⟨Nat.le_of_ble_eq_true rfl, Nat.le_of_ble_eq_true rfl⟩ hK hA hT hw (is := [0]) rfl rfl rfl rfl rfl rfl rfl hl.1 rfl (Nat.le_of_ble_eq_true rfl) dX4_greatest_23 (fun H locs hw => ?_)
        refine lv_if_eq (tgt := 31) hx hb dX4_greatest_26 rfl (fun hc => ?_) (fun hc => ?_)
        · have hf := z_t hc hf
          refine lv_iinc (v := (v2 + 1)) (lv' := [(2, .int (v2 + 1)), (0, .ref (q (o + 0))), (1, .int v1)]) hx hb dX4_greatest_31 hl (k := 2) rfl rfl (by decide) rfl (fun ls hl => ?_)
          refine lv_goto (tgt := 4) hx hb dX4_greatest_34 rfl ?_
          exact ih _ _ _ _ _ _ hf hw (lv_sub hl [1, 2, 0] rfl)
        · have hf := z_f hc hf
          refine lv_iload_n hx hb dX4_greatest_29 rfl (lv_at hl 2 rfl) ?_
          refine lv_istore_n (lv' := [(1, .int v2), (0, .ref (q (o + 0))), (2, .int v2)]) hx hb dX4_greatest_30 rfl hl (by decide) rfl (fun ls hl => ?_)
          refine lv_iinc (v := (v2 + 1)) (lv' := [(2, .int (v2 + 1)), (1, .int v2), (0, .ref (q (o + 0)))]) hx hb dX4_greatest_31 hl (k := 2) rfl rfl (by decide) rfl (fun ls hl => ?_)
          refine lv_goto (tgt := 4) hx hb dX4_greatest_34 rfl ?_
          exact ih _ _ _ _ _ _ hf hw (lv_sub hl [2, 1, 0] rfl)
set_option maxHeartbeats 4000000 in
set_option maxRecDepth 100000 in
theorem c_X4_greatest (l : Launch) (G : zG) (q : Nat → Nat) (o : Nat) (S : VX4)  (y : Int32) (hf : f_X4_greatest S = some y) : zMet l yX4_greatest wsX4_greatest 2 44 G [.ref (q (o + 0))] [bX4 G q o S.1 S.2] (some (.int y)) [bX4 G q o S.1 S.2] := by
  refine z_met zc_X4_greatest (Nat.le_of_ble_eq_true rfl) ?_
  intro p e s m below meth c A ls hZ hl hw
  have hl : lv_has ls 3 [(0, .ref (q (o + 0)))] := hl
  obtain ⟨hS0, hr, hlk, hK, hA, hT⟩ := id hZ
  have hx := hS0.1
  have hb := hS0.2.1
  have hml := hS0.2.2.1
  have hown : s.vm.findClass RX4 = some m.cls := hS0.2.2.2.1
  have hts := hS0.2.2.2.2
  unfold f_X4_greatest at hf
  refine lv_iconst (v := 0) hx hb dX4_greatest_0 rfl ?_
  refine lv_istore_n (lv' := [(1, .int 0), (0, .ref (q (o + 0)))]) hx hb dX4_greatest_1 rfl hl (by decide) rfl (fun ls hl => ?_)
  refine lv_iconst (v := 1) hx hb dX4_greatest_2 rfl ?_
  refine lv_istore_n (lv' := [(2, .int 1), (1, .int 0), (0, .ref (q (o + 0)))]) hx hb dX4_greatest_3 rfl hl (by decide) rfl (fun ls hl => ?_)
  exact k_X4_greatest_4 hZ _ 4096 _ _ _ _ _ _ hf hw (lv_sub hl [2, 1, 0] rfl)
theorem zc_X4_howMany : zC yX4_howMany wsX4_howMany cX4_howMany 3 (some .int) 0 := ⟨⟨_, rfl⟩, by decide +kernel, by decide +kernel, by decide +kernel, by decide +kernel⟩
theorem m_X4_howMany_0 : (.fieldLink RX4 15 "CellKeys$Reach" "active" "I" : Cond) ∈ wsX4_howMany := by decide +kernel
theorem in_X4_howMany_X4 : ∀ w ∈ u_ws RX4 TX4 2, w ∈ wsX4_howMany := by decide +kernel
set_option maxHeartbeats 4000000 in
set_option maxRecDepth 100000 in
theorem k_X4_howMany_4 {p : Program} {l : Launch} {e : Env} {s : State} {m : MethodId} {args : Array Value} {below : List Frame} {meth : Method} {c : Code} {A : Nat → Prop} {G : zG} {q : Nat → Nat} {o : Nat}  (hZ : zZ p s m args meth c A G cX4_howMany 3 RX4 wsX4_howMany (some .int)) (y : Int32)  (n : Nat) : ∀ (S : VX4) (v1 : Int32) (v2 : Int32) (H : Heap) (locs : List Loc) (ls : Array Slot), f_X4_howMany_4 n S v1 v2 = some y → zH G A s.heap [bX4 G q o S.1 S.2] H locs → lv_has ls 3 [(0, .ref (q (o + 0))), (1, .int v1), (2, .int v2)] → W p l e { frames := 2, cells := 0, slots := 0, locals := 42 } s m args below meth c H locs 0 0 (MQ below (zQ (some (.int y)) (zPost G [bX4 G q o S.1 S.2]) A) args s 0 0 A) (F0 m 4 ls []) := by
  obtain ⟨hS0, hr, hlk, hK, hA, hT⟩ := id hZ
  have hx := hS0.1
  have hb := hS0.2.1
  have hml := hS0.2.2.1
  have hown : s.vm.findClass RX4 = some m.cls := hS0.2.2.2.1
  have hts := hS0.2.2.2.2
  induction n with
  | zero =>
    intro S v1 v2 H locs ls hf hw hl
    unfold f_X4_howMany_4 at hf
    cases hf
  | succ n ih =>
    intro S v1 v2 H locs ls hf hw hl
    unfold f_X4_howMany_4 at hf
    refine lv_iload_n hx hb dX4_howMany_4 rfl (lv_at hl 2 rfl) ?_
    refine lv_aload_n hx hb dX4_howMany_5 rfl (lv_at hl 0 rfl) ?_
    refine z_get hS0 in_X4_howMany_X4 hK hw 0 1 rfl rfl rfl (by decide) (hts _ m_X4_howMany_0) (v := .int S.2) rfl dX4_howMany_6 ?_
    refine lv_icmp_gt (tgt := 34) hx hb dX4_howMany_9 rfl (fun hc => ?_) (fun hc => ?_)
    · have hf := z_t hc hf
      refine lv_iload_n hx hb dX4_howMany_34 rfl (lv_at hl 1 rfl) ?_
      cases hf
      exact z_iret hx hb hr hlk hw dX4_howMany_35
    · have hf := z_f hc hf
      refine lv_iload_n hx hb dX4_howMany_12 rfl (lv_at hl 1 rfl) ?_
      refine lv_aload_n hx hb dX4_howMany_13 rfl (lv_at hl 0 rfl) ?_
      refine lv_iload_n hx hb dX4_howMany_14 rfl (lv_at hl 2 rfl) ?_
      obtain ⟨r1, e2, hf⟩ := z_bd hf
      refine z_callV1 (As := [.int v2]) (rest := [.int v1]) (bs' := [bX4 G q o S.1 S.2]) hS0 (c_X4_has l G q o S v2 r1 e2) zc_X4_has rfl gX4_howMany_X4_has ⟨Nat.le_of_ble_eq_true rfl, Nat.le_of_ble_eq_true rfl⟩ hK hA hT hw (is := [0]) rfl rfl rfl rfl rfl rfl rfl hl.1 rfl (Nat.le_of_ble_eq_true rfl) dX4_howMany_15 (fun H locs hw => ?_)
      refine lv_if_eq (tgt := 25) hx hb dX4_howMany_18 rfl (fun hc => ?_) (fun hc => ?_)
      · have hf := z_t hc hf
        refine lv_iconst (v := 0) hx hb dX4_howMany_25 rfl ?_
        refine lv_iadd hx hb dX4_howMany_26 ?_
        refine lv_istore_n (lv' := [(1, .int (v1 + (0 : Int32))), (0, .ref (q (o + 0))), (2, .int v2)]) hx hb dX4_howMany_27 rfl hl (by decide) rfl (fun ls hl => ?_)
        refine lv_iinc (v := (v2 + 1)) (lv' := [(2, .int (v2 + 1)), (1, .int (v1 + (0 : Int32))), (0, .ref (q (o + 0)))]) hx hb dX4_howMany_28 hl (k := 2) rfl rfl (by decide) rfl (fun ls hl => ?_)
        refine lv_goto (tgt := 4) hx hb dX4_howMany_31 rfl ?_
        exact ih _ _ _ _ _ _ hf hw (lv_sub hl [2, 1, 0] rfl)
      · have hf := z_f hc hf
        refine lv_iconst (v := 1) hx hb dX4_howMany_21 rfl ?_
        refine lv_goto (tgt := 26) hx hb dX4_howMany_22 rfl ?_
        refine lv_iadd hx hb dX4_howMany_26 ?_
        refine lv_istore_n (lv' := [(1, .int (v1 + (1 : Int32))), (0, .ref (q (o + 0))), (2, .int v2)]) hx hb dX4_howMany_27 rfl hl (by decide) rfl (fun ls hl => ?_)
        refine lv_iinc (v := (v2 + 1)) (lv' := [(2, .int (v2 + 1)), (1, .int (v1 + (1 : Int32))), (0, .ref (q (o + 0)))]) hx hb dX4_howMany_28 hl (k := 2) rfl rfl (by decide) rfl (fun ls hl => ?_)
        refine lv_goto (tgt := 4) hx hb dX4_howMany_31 rfl ?_
        exact ih _ _ _ _ _ _ hf hw (lv_sub hl [2, 1, 0] rfl)
set_option maxHeartbeats 4000000 in
set_option maxRecDepth 100000 in
theorem c_X4_howMany (l : Launch) (G : zG) (q : Nat → Nat) (o : Nat) (S : VX4)  (y : Int32) (hf : f_X4_howMany S = some y) : zMet l yX4_howMany wsX4_howMany 2 42 G [.ref (q (o + 0))] [bX4 G q o S.1 S.2] (some (.int y)) [bX4 G q o S.1 S.2] := by
  refine z_met zc_X4_howMany (Nat.le_of_ble_eq_true rfl) ?_
  intro p e s m below meth c A ls hZ hl hw
  have hl : lv_has ls 3 [(0, .ref (q (o + 0)))] := hl
  obtain ⟨hS0, hr, hlk, hK, hA, hT⟩ := id hZ
  have hx := hS0.1
  have hb := hS0.2.1
  have hml := hS0.2.2.1
  have hown : s.vm.findClass RX4 = some m.cls := hS0.2.2.2.1
  have hts := hS0.2.2.2.2
  unfold f_X4_howMany at hf
  refine lv_iconst (v := 0) hx hb dX4_howMany_0 rfl ?_
  refine lv_istore_n (lv' := [(1, .int 0), (0, .ref (q (o + 0)))]) hx hb dX4_howMany_1 rfl hl (by decide) rfl (fun ls hl => ?_)
  refine lv_iconst (v := 0) hx hb dX4_howMany_2 rfl ?_
  refine lv_istore_n (lv' := [(2, .int 0), (1, .int 0), (0, .ref (q (o + 0)))]) hx hb dX4_howMany_3 rfl hl (by decide) rfl (fun ls hl => ?_)
  exact k_X4_howMany_4 hZ _ 4096 _ _ _ _ _ _ hf hw (lv_sub hl [2, 1, 0] rfl)
theorem zc_X4_inSome : zC yX4_inSome wsX4_inSome cX4_inSome 3 (some .int) 0 := ⟨⟨_, rfl⟩, by decide +kernel, by decide +kernel, by decide +kernel, by decide +kernel⟩
theorem m_X4_inSome_0 : (.fieldLink RX4 15 "CellKeys$Reach" "active" "I" : Cond) ∈ wsX4_inSome := by decide +kernel
theorem in_X4_inSome_X4 : ∀ w ∈ u_ws RX4 TX4 2, w ∈ wsX4_inSome := by decide +kernel
set_option maxHeartbeats 4000000 in
set_option maxRecDepth 100000 in
theorem k_X4_inSome_4 {p : Program} {l : Launch} {e : Env} {s : State} {m : MethodId} {args : Array Value} {below : List Frame} {meth : Method} {c : Code} {A : Nat → Prop} {G : zG} {q : Nat → Nat} {o : Nat}  (hZ : zZ p s m args meth c A G cX4_inSome 3 RX4 wsX4_inSome (some .int)) (y : Int32)  (n : Nat) : ∀ (S : VX4) (v1 : Int32) (v2 : Int32) (H : Heap) (locs : List Loc) (ls : Array Slot), f_X4_inSome_4 n S v1 v2 = some y → zH G A s.heap [bX4 G q o S.1 S.2] H locs → lv_has ls 3 [(0, .ref (q (o + 0))), (1, .int v1), (2, .int v2)] → W p l e { frames := 2, cells := 0, slots := 0, locals := 42 } s m args below meth c H locs 0 0 (MQ below (zQ (some (.int y)) (zPost G [bX4 G q o S.1 S.2]) A) args s 0 0 A) (F0 m 4 ls []) := by
  obtain ⟨hS0, hr, hlk, hK, hA, hT⟩ := id hZ
  have hx := hS0.1
  have hb := hS0.2.1
  have hml := hS0.2.2.1
  have hown : s.vm.findClass RX4 = some m.cls := hS0.2.2.2.1
  have hts := hS0.2.2.2.2
  induction n with
  | zero =>
    intro S v1 v2 H locs ls hf hw hl
    unfold f_X4_inSome_4 at hf
    cases hf
  | succ n ih =>
    intro S v1 v2 H locs ls hf hw hl
    unfold f_X4_inSome_4 at hf
    refine lv_iload_n hx hb dX4_inSome_4 rfl (lv_at hl 2 rfl) ?_
    refine lv_aload_n hx hb dX4_inSome_5 rfl (lv_at hl 0 rfl) ?_
    refine z_get hS0 in_X4_inSome_X4 hK hw 0 1 rfl rfl rfl (by decide) (hts _ m_X4_inSome_0) (v := .int S.2) rfl dX4_inSome_6 ?_
    refine lv_icmp_gt (tgt := 34) hx hb dX4_inSome_9 rfl (fun hc => ?_) (fun hc => ?_)
    · have hf := z_t hc hf
      refine lv_iload_n hx hb dX4_inSome_34 rfl (lv_at hl 1 rfl) ?_
      cases hf
      exact z_iret hx hb hr hlk hw dX4_inSome_35
    · have hf := z_f hc hf
      refine lv_iload_n hx hb dX4_inSome_12 rfl (lv_at hl 1 rfl) ?_
      refine lv_aload_n hx hb dX4_inSome_13 rfl (lv_at hl 0 rfl) ?_
      refine lv_iload_n hx hb dX4_inSome_14 rfl (lv_at hl 2 rfl) ?_
      obtain ⟨r1, e2, hf⟩ := z_bd hf
      refine z_callV1 (As := [.int v2]) (rest := [.int v1]) (bs' := [bX4 G q o S.1 S.2]) hS0 (c_X4_has l G q o S v2 r1 e2) zc_X4_has rfl gX4_inSome_X4_has ⟨Nat.le_of_ble_eq_true rfl, Nat.le_of_ble_eq_true rfl⟩ hK hA hT hw (is := [0]) rfl rfl rfl rfl rfl rfl rfl hl.1 rfl (Nat.le_of_ble_eq_true rfl) dX4_inSome_15 (fun H locs hw => ?_)
      refine lv_if_eq (tgt := 25) hx hb dX4_inSome_18 rfl (fun hc => ?_) (fun hc => ?_)
      · have hf := z_t hc hf
        refine lv_iconst (v := 0) hx hb dX4_inSome_25 rfl ?_
        refine lv_ior hx hb dX4_inSome_26 ?_
        refine lv_istore_n (lv' := [(1, .int (v1 ||| (0 : Int32))), (0, .ref (q (o + 0))), (2, .int v2)]) hx hb dX4_inSome_27 rfl hl (by decide) rfl (fun ls hl => ?_)
        refine lv_iinc (v := (v2 + 1)) (lv' := [(2, .int (v2 + 1)), (1, .int (v1 ||| (0 : Int32))), (0, .ref (q (o + 0)))]) hx hb dX4_inSome_28 hl (k := 2) rfl rfl (by decide) rfl (fun ls hl => ?_)
        refine lv_goto (tgt := 4) hx hb dX4_inSome_31 rfl ?_
        exact ih _ _ _ _ _ _ hf hw (lv_sub hl [2, 1, 0] rfl)
      · have hf := z_f hc hf
        refine lv_iload_n hx hb dX4_inSome_21 rfl (lv_at hl 2 rfl) ?_
        refine lv_goto (tgt := 26) hx hb dX4_inSome_22 rfl ?_
        refine lv_ior hx hb dX4_inSome_26 ?_
        refine lv_istore_n (lv' := [(1, .int (v1 ||| v2)), (0, .ref (q (o + 0))), (2, .int v2)]) hx hb dX4_inSome_27 rfl hl (by decide) rfl (fun ls hl => ?_)
        refine lv_iinc (v := (v2 + 1)) (lv' := [(2, .int (v2 + 1)), (1, .int (v1 ||| v2)), (0, .ref (q (o + 0)))]) hx hb dX4_inSome_28 hl (k := 2) rfl rfl (by decide) rfl (fun ls hl => ?_)
        refine lv_goto (tgt := 4) hx hb dX4_inSome_31 rfl ?_
        exact ih _ _ _ _ _ _ hf hw (lv_sub hl [2, 1, 0] rfl)
set_option maxHeartbeats 4000000 in
set_option maxRecDepth 100000 in
theorem c_X4_inSome (l : Launch) (G : zG) (q : Nat → Nat) (o : Nat) (S : VX4)  (y : Int32) (hf : f_X4_inSome S = some y) : zMet l yX4_inSome wsX4_inSome 2 42 G [.ref (q (o + 0))] [bX4 G q o S.1 S.2] (some (.int y)) [bX4 G q o S.1 S.2] := by
  refine z_met zc_X4_inSome (Nat.le_of_ble_eq_true rfl) ?_
  intro p e s m below meth c A ls hZ hl hw
  have hl : lv_has ls 3 [(0, .ref (q (o + 0)))] := hl
  obtain ⟨hS0, hr, hlk, hK, hA, hT⟩ := id hZ
  have hx := hS0.1
  have hb := hS0.2.1
  have hml := hS0.2.2.1
  have hown : s.vm.findClass RX4 = some m.cls := hS0.2.2.2.1
  have hts := hS0.2.2.2.2
  unfold f_X4_inSome at hf
  refine lv_iconst (v := 0) hx hb dX4_inSome_0 rfl ?_
  refine lv_istore_n (lv' := [(1, .int 0), (0, .ref (q (o + 0)))]) hx hb dX4_inSome_1 rfl hl (by decide) rfl (fun ls hl => ?_)
  refine lv_iconst (v := 0) hx hb dX4_inSome_2 rfl ?_
  refine lv_istore_n (lv' := [(2, .int 0), (1, .int 0), (0, .ref (q (o + 0)))]) hx hb dX4_inSome_3 rfl hl (by decide) rfl (fun ls hl => ?_)
  exact k_X4_inSome_4 hZ _ 4096 _ _ _ _ _ _ hf hw (lv_sub hl [2, 1, 0] rfl)
theorem zc_X4_leastFor : zC yX4_leastFor wsX4_leastFor cX4_leastFor 2 (some .int) 1 := ⟨⟨_, rfl⟩, by decide +kernel, by decide +kernel, by decide +kernel, by decide +kernel⟩
set_option maxHeartbeats 4000000 in
set_option maxRecDepth 100000 in
theorem c_X4_leastFor (l : Launch) (G : zG) (q : Nat → Nat) (o : Nat) (S : VX4) (v1 : Int32) (y : Int32) (hf : f_X4_leastFor S v1 = some y) : zMet l yX4_leastFor wsX4_leastFor 1 24 G [.ref (q (o + 0)), .int v1] [bX4 G q o S.1 S.2] (some (.int y)) [bX4 G q o S.1 S.2] := by
  refine z_met zc_X4_leastFor (Nat.le_of_ble_eq_true rfl) ?_
  intro p e s m below meth c A ls hZ hl hw
  have hl : lv_has ls 2 [(0, .ref (q (o + 0))), (1, .int v1)] := hl
  obtain ⟨hS0, hr, hlk, hK, hA, hT⟩ := id hZ
  have hx := hS0.1
  have hb := hS0.2.1
  have hml := hS0.2.2.1
  have hown : s.vm.findClass RX4 = some m.cls := hS0.2.2.2.1
  have hts := hS0.2.2.2.2
  unfold f_X4_leastFor at hf
  refine lv_aload_n hx hb dX4_leastFor_0 rfl (lv_at hl 0 rfl) ?_
  refine lv_aload_n hx hb dX4_leastFor_1 rfl (lv_at hl 0 rfl) ?_
  refine lv_iconst (v := 1) hx hb dX4_leastFor_2 rfl ?_
  refine lv_iload_n hx hb dX4_leastFor_3 rfl (lv_at hl 1 rfl) ?_
  refine lv_ishl hx hb dX4_leastFor_4 ?_
  obtain ⟨r1, e2, hf⟩ := z_bd hf
  refine z_callV1 (As := [.int ((1 : Int32) <<< (v1 &&& 31))]) (rest := [.ref (q (o + 0))]) (bs' := [bX4 G q o S.1 S.2]) hS0 (c_X4_cheapestWith l G q o S ((1 : Int32) <<< (v1 &&& 31)) r1 e2) zc_X4_cheapestWith rfl gX4_leastFor_X4_cheapestWith ⟨Nat.le_of_ble_eq_true rfl, Nat.le_of_ble_eq_true rfl⟩ hK hA hT hw (is := [0]) rfl rfl rfl rfl rfl rfl rfl hl.1 rfl (Nat.le_of_ble_eq_true rfl) dX4_leastFor_5 (fun H locs hw => ?_)
  obtain ⟨r3, e4, hf⟩ := z_bd hf
  refine z_callV1 (As := [.int r1]) (rest := []) (bs' := [bX4 G q o S.1 S.2]) hS0 (c_X4_favoursOf l G q o S r1 r3 e4) zc_X4_favoursOf rfl gX4_leastFor_X4_favoursOf ⟨Nat.le_of_ble_eq_true rfl, Nat.le_of_ble_eq_true rfl⟩ hK hA hT hw (is := [0]) rfl rfl rfl rfl rfl rfl rfl hl.1 rfl (Nat.le_of_ble_eq_true rfl) dX4_leastFor_8 (fun H locs hw => ?_)
  cases hf
  exact z_iret hx hb hr hlk hw dX4_leastFor_11
theorem zc_X3_favoursBy : zC yX3_favoursBy wsX3_favoursBy cX3_favoursBy 7 (some .int) 4 := ⟨⟨_, rfl⟩, by decide +kernel, by decide +kernel, by decide +kernel, by decide +kernel⟩
theorem m_X3_favoursBy_0 : (.fieldLink RX3 15 "CellKeys$Orders" "rest" "[I" : Cond) ∈ wsX3_favoursBy := by decide +kernel
theorem in_X3_favoursBy_X3 : ∀ w ∈ u_ws RX3 TX3 4, w ∈ wsX3_favoursBy := by decide +kernel
set_option maxHeartbeats 4000000 in
set_option maxRecDepth 100000 in
theorem c_X3_favoursBy (l : Launch) (G : zG) (q : Nat → Nat) (o : Nat) (q1 : Nat → Nat) (o1 : Nat) (S : VX3) (P1 : VX2) (v2 : Int32) (v3 : Int32) (v4 : Int32) (y : Int32) (hf : f_X3_favoursBy S P1 v2 v3 v4 = some y) : zMet l yX3_favoursBy wsX3_favoursBy 3 80 G [.ref (q (o + 0)), .ref (q1 (o1 + 0)), .int v2, .int v3, .int v4] [bX3 G q o S.1 S.2.1 S.2.2.1 S.2.2.2, bX2 G q1 o1 P1.1 P1.2.1 P1.2.2.1 P1.2.2.2.1 P1.2.2.2.2.1 P1.2.2.2.2.2.1 P1.2.2.2.2.2.2.1 P1.2.2.2.2.2.2.2] (some (.int y)) [bX3 G q o S.1 S.2.1 S.2.2.1 S.2.2.2, bX2 G q1 o1 P1.1 P1.2.1 P1.2.2.1 P1.2.2.2.1 P1.2.2.2.2.1 P1.2.2.2.2.2.1 P1.2.2.2.2.2.2.1 P1.2.2.2.2.2.2.2] := by
  refine z_met zc_X3_favoursBy (Nat.le_of_ble_eq_true rfl) ?_
  intro p e s m below meth c A ls hZ hl hw
  have hl : lv_has ls 7 [(0, .ref (q (o + 0))), (1, .ref (q1 (o1 + 0))), (2, .int v2), (3, .int v3), (4, .int v4)] := hl
  obtain ⟨hS0, hr, hlk, hK, hA, hT⟩ := id hZ
  have hx := hS0.1
  have hb := hS0.2.1
  have hml := hS0.2.2.1
  have hown : s.vm.findClass RX3 = some m.cls := hS0.2.2.2.1
  have hts := hS0.2.2.2.2
  unfold f_X3_favoursBy at hf
  refine lv_iload_n hx hb dX3_favoursBy_0 rfl (lv_at hl 2 rfl) ?_
  refine lv_iconst (v := 1) hx hb dX3_favoursBy_1 rfl ?_
  refine lv_iload_n hx hb dX3_favoursBy_2 rfl (lv_at hl 3 rfl) ?_
  refine lv_ishl hx hb dX3_favoursBy_3 ?_
  refine lv_ior hx hb dX3_favoursBy_4 ?_
  refine lv_istore (lv' := [(5, .int (v2 ||| ((1 : Int32) <<< (v3 &&& 31)))), (0, .ref (q (o + 0))), (1, .ref (q1 (o1 + 0))), (2, .int v2), (3, .int v3), (4, .int v4)]) hx hb dX3_favoursBy_5 hl (by decide) rfl (fun ls hl => ?_)
  refine lv_iload hx hb dX3_favoursBy_7 (lv_at hl 0 rfl) ?_
  refine lv_iload_n hx hb dX3_favoursBy_9 rfl (lv_at hl 3 rfl) ?_
  refine lv_icmp_eq (tgt := 35) hx hb dX3_favoursBy_10 rfl (fun hc => ?_) (fun hc => ?_)
  · have hf := z_t hc hf
    refine lv_bipush (v := (-9)) hx hb dX3_favoursBy_35 rfl ?_
    cases hf
    exact z_iret hx hb hr hlk hw dX3_favoursBy_37
  · have hf := z_f hc hf
    refine lv_iload hx hb dX3_favoursBy_13 (lv_at hl 0 rfl) ?_
    refine lv_iload hx hb dX3_favoursBy_15 (lv_at hl 5 rfl) ?_
    refine lv_iconst (v := (-1)) hx hb dX3_favoursBy_17 rfl ?_
    refine lv_ixor hx hb dX3_favoursBy_18 ?_
    refine lv_iand hx hb dX3_favoursBy_19 ?_
    refine lv_if_ne (tgt := 35) hx hb dX3_favoursBy_20 rfl (fun hc => ?_) (fun hc => ?_)
    · have hf := z_f hc hf
      refine lv_bipush (v := (-9)) hx hb dX3_favoursBy_35 rfl ?_
      cases hf
      exact z_iret hx hb hr hlk hw dX3_favoursBy_37
    · have hf := z_t hc hf
      refine lv_aload_n hx hb dX3_favoursBy_23 rfl (lv_at hl 1 rfl) ?_
      refine z_get hS0 in_X3_favoursBy_X3 hK hw 0 1 rfl rfl rfl (by decide) (hts _ m_X3_favoursBy_0) (v := .ref (q (o + 2))) rfl dX3_favoursBy_24 ?_
      refine lv_iload hx hb dX3_favoursBy_27 (lv_at hl 0 rfl) ?_
      obtain ⟨g1, hf⟩ := z_gd hf
      refine z_iald hS0 hK hw 0 2 (zIn_vp g1) rfl rfl dX3_favoursBy_29 ?_
      refine lv_bipush (v := (-9)) hx hb dX3_favoursBy_30 rfl ?_
      refine lv_icmp_ne (tgt := 38) hx hb dX3_favoursBy_32 rfl (fun hc => ?_) (fun hc => ?_)
      · have hf := z_f hc hf
        refine lv_aload_n hx hb dX3_favoursBy_38 rfl (lv_at hl 2 rfl) ?_
        refine lv_iload_n hx hb dX3_favoursBy_39 rfl (lv_at hl 4 rfl) ?_
        refine lv_iload_n hx hb dX3_favoursBy_40 rfl (lv_at hl 3 rfl) ?_
        refine lv_aload_n hx hb dX3_favoursBy_41 rfl (lv_at hl 2 rfl) ?_
        obtain ⟨r2, e3, hf⟩ := z_bd hf
        refine z_callV1 (As := []) (rest := [.int v2, .int v3, .ref (q1 (o1 + 0))]) (bs' := [bX3 G q o S.1 S.2.1 S.2.2.1 S.2.2.2, bX2 G q1 o1 P1.1 P1.2.1 P1.2.2.1 P1.2.2.2.1 P1.2.2.2.2.1 P1.2.2.2.2.2.1 P1.2.2.2.2.2.2.1 P1.2.2.2.2.2.2.2]) hS0 (c_X2_everyone l G q1 o1 P1 r2 e3) zc_X2_everyone rfl gX3_favoursBy_X2_everyone ⟨Nat.le_of_ble_eq_true rfl, Nat.le_of_ble_eq_true rfl⟩ hK hA hT hw (is := [1]) rfl rfl rfl rfl rfl rfl rfl hl.1 rfl (Nat.le_of_ble_eq_true rfl) dX3_favoursBy_42 (fun H locs hw => ?_)
        obtain ⟨r4, e5, hf⟩ := z_bd hf
        refine z_callV1 (As := [.int v3, .int v2, .int r2]) (rest := []) (bs' := [bX3 G q o S.1 S.2.1 S.2.2.1 S.2.2.2, bX2 G q1 o1 P1.1 P1.2.1 P1.2.2.1 P1.2.2.2.1 P1.2.2.2.2.1 P1.2.2.2.2.2.1 P1.2.2.2.2.2.2.1 P1.2.2.2.2.2.2.2]) hS0 (c_X2_favoursFor l G q1 o1 P1 v3 v2 r2 r4 e5) zc_X2_favoursFor rfl gX3_favoursBy_X2_favoursFor ⟨Nat.le_of_ble_eq_true rfl, Nat.le_of_ble_eq_true rfl⟩ hK hA hT hw (is := [1]) rfl rfl rfl rfl rfl rfl rfl hl.1 rfl (Nat.le_of_ble_eq_true rfl) dX3_favoursBy_45 (fun H locs hw => ?_)
        refine lv_istore (lv' := [(6, .int r4), (5, .int (v2 ||| ((1 : Int32) <<< (v3 &&& 31)))), (0, .ref (q (o + 0))), (1, .ref (q1 (o1 + 0))), (2, .int v2), (3, .int v3), (4, .int v4)]) hx hb dX3_favoursBy_48 hl (by decide) rfl (fun ls hl => ?_)
        refine lv_iload hx hb dX3_favoursBy_50 (lv_at hl 0 rfl) ?_
        refine lv_bipush (v := (-9)) hx hb dX3_favoursBy_52 rfl ?_
        refine lv_icmp_ne (tgt := 62) hx hb dX3_favoursBy_54 rfl (fun hc => ?_) (fun hc => ?_)
        · have hf := z_f hc hf
          refine lv_iload hx hb dX3_favoursBy_62 (lv_at hl 0 rfl) ?_
          refine lv_aload_n hx hb dX3_favoursBy_64 rfl (lv_at hl 2 rfl) ?_
          refine z_get hS0 in_X3_favoursBy_X3 hK hw 0 1 rfl rfl rfl (by decide) (hts _ m_X3_favoursBy_0) (v := .ref (q (o + 2))) rfl dX3_favoursBy_65 ?_
          refine lv_iload hx hb dX3_favoursBy_68 (lv_at hl 1 rfl) ?_
          obtain ⟨g6, hf⟩ := z_gd hf
          refine z_iald hS0 hK hw 0 2 (zIn_vp g6) rfl rfl dX3_favoursBy_70 ?_
          refine lv_iadd hx hb dX3_favoursBy_71 ?_
          cases hf
          exact z_iret hx hb hr hlk hw dX3_favoursBy_72
        · have hf := z_t hc hf
          refine lv_bipush (v := (-9)) hx hb dX3_favoursBy_57 rfl ?_
          refine lv_goto (tgt := 72) hx hb dX3_favoursBy_59 rfl ?_
          cases hf
          exact z_iret hx hb hr hlk hw dX3_favoursBy_72
      · have hf := z_t hc hf
        refine lv_bipush (v := (-9)) hx hb dX3_favoursBy_35 rfl ?_
        cases hf
        exact z_iret hx hb hr hlk hw dX3_favoursBy_37
theorem zc_X3_fewestFrom : zC yX3_fewestFrom wsX3_fewestFrom cX3_fewestFrom 7 (some .int) 3 := ⟨⟨_, rfl⟩, by decide +kernel, by decide +kernel, by decide +kernel, by decide +kernel⟩
theorem m_X3_fewestFrom_0 : (.fieldLink RX3 18 "CellKeys$Orders" "nexts" "[I" : Cond) ∈ wsX3_fewestFrom := by decide +kernel
theorem in_X3_fewestFrom_X3 : ∀ w ∈ u_ws RX3 TX3 4, w ∈ wsX3_fewestFrom := by decide +kernel
set_option maxHeartbeats 4000000 in
set_option maxRecDepth 100000 in
theorem k_X3_fewestFrom_7 {p : Program} {l : Launch} {e : Env} {s : State} {m : MethodId} {args : Array Value} {below : List Frame} {meth : Method} {c : Code} {A : Nat → Prop} {G : zG} {q : Nat → Nat} {o : Nat} {q1 : Nat → Nat} {o1 : Nat}  (hZ : zZ p s m args meth c A G cX3_fewestFrom 7 RX3 wsX3_fewestFrom (some .int)) (y : Int32 × VX3)  (n : Nat) : ∀ (S : VX3) (P1 : VX2) (v2 : Int32) (v3 : Int32) (v4 : Int32) (v5 : Int32) (H : Heap) (locs : List Loc) (ls : Array Slot), f_X3_fewestFrom_7 n S P1 v2 v3 v4 v5 = some y → zH G A s.heap [bX3 G q o S.1 S.2.1 S.2.2.1 S.2.2.2, bX2 G q1 o1 P1.1 P1.2.1 P1.2.2.1 P1.2.2.2.1 P1.2.2.2.2.1 P1.2.2.2.2.2.1 P1.2.2.2.2.2.2.1 P1.2.2.2.2.2.2.2] H locs → lv_has ls 7 [(0, .ref (q (o + 0))), (1, .ref (q1 (o1 + 0))), (2, .int v2), (3, .int v3), (4, .int v4), (5, .int v5)] → W p l e { frames := 4, cells := 0, slots := 0, locals := 106 } s m args below meth c H locs 0 0 (MQ below (zQ (some (.int y.1)) (zPost G [bX3 G q o y.2.1 y.2.2.1 y.2.2.2.1 y.2.2.2.2, bX2 G q1 o1 P1.1 P1.2.1 P1.2.2.1 P1.2.2.2.1 P1.2.2.2.2.1 P1.2.2.2.2.2.1 P1.2.2.2.2.2.2.1 P1.2.2.2.2.2.2.2]) A) args s 0 0 A) (F0 m 7 ls []) := by
  obtain ⟨hS0, hr, hlk, hK, hA, hT⟩ := id hZ
  have hx := hS0.1
  have hb := hS0.2.1
  have hml := hS0.2.2.1
  have hown : s.vm.findClass RX3 = some m.cls := hS0.2.2.2.1
  have hts := hS0.2.2.2.2
  induction n with
  | zero =>
    intro S P1 v2 v3 v4 v5 H locs ls hf hw hl
    unfold f_X3_fewestFrom_7 at hf
    cases hf
  | succ n ih =>
    intro S P1 v2 v3 v4 v5 H locs ls hf hw hl
    unfold f_X3_fewestFrom_7 at hf
    refine lv_iload hx hb dX3_fewestFrom_7 (lv_at hl 5 rfl) ?_
    refine lv_bipush (v := 8) hx hb dX3_fewestFrom_9 rfl ?_
    refine lv_icmp_ge (tgt := 64) hx hb dX3_fewestFrom_11 rfl (fun hc => ?_) (fun hc => ?_)
    · have hf := z_t hc hf
      refine lv_iload hx hb dX3_fewestFrom_64 (lv_at hl 4 rfl) ?_
      cases hf
      exact z_iret hx hb hr hlk hw dX3_fewestFrom_66
    · have hf := z_f hc hf
      refine lv_aload_n hx hb dX3_fewestFrom_14 rfl (lv_at hl 0 rfl) ?_
      refine lv_aload_n hx hb dX3_fewestFrom_15 rfl (lv_at hl 1 rfl) ?_
      refine lv_iload_n hx hb dX3_fewestFrom_16 rfl (lv_at hl 2 rfl) ?_
      refine lv_iload hx hb dX3_fewestFrom_17 (lv_at hl 5 rfl) ?_
      refine lv_iload_n hx hb dX3_fewestFrom_19 rfl (lv_at hl 3 rfl) ?_
      obtain ⟨r1, e2, hf⟩ := z_bd hf
      refine z_callV1 (As := [.ref (q1 (o1 + 0)), .int v2, .int v5, .int v3]) (rest := []) (bs' := [bX3 G q o S.1 S.2.1 S.2.2.1 S.2.2.2, bX2 G q1 o1 P1.1 P1.2.1 P1.2.2.1 P1.2.2.2.1 P1.2.2.2.2.1 P1.2.2.2.2.2.1 P1.2.2.2.2.2.2.1 P1.2.2.2.2.2.2.2]) hS0 (c_X3_favoursBy l G q o q1 o1 S P1 v2 v5 v3 r1 e2) zc_X3_favoursBy rfl gX3_fewestFrom_X3_favoursBy ⟨Nat.le_of_ble_eq_true rfl, Nat.le_of_ble_eq_true rfl⟩ hK hA hT hw (is := [0, 1]) rfl rfl rfl rfl rfl rfl rfl hl.1 rfl (Nat.le_of_ble_eq_true rfl) dX3_fewestFrom_20 (fun H locs hw => ?_)
      refine lv_istore (lv' := [(6, .int r1), (0, .ref (q (o + 0))), (1, .ref (q1 (o1 + 0))), (2, .int v2), (3, .int v3), (4, .int v4), (5, .int v5)]) hx hb dX3_fewestFrom_23 hl (by decide) rfl (fun ls hl => ?_)
      refine lv_iload hx hb dX3_fewestFrom_25 (lv_at hl 0 rfl) ?_
      refine lv_bipush (v := (-9)) hx hb dX3_fewestFrom_27 rfl ?_
      refine lv_icmp_eq (tgt := 58) hx hb dX3_fewestFrom_29 rfl (fun hc => ?_) (fun hc => ?_)
      · have hf := z_t hc hf
        refine lv_iinc (v := (v5 + 1)) (lv' := [(5, .int (v5 + 1)), (6, .int r1), (0, .ref (q (o + 0))), (1, .ref (q1 (o1 + 0))), (2, .int v2), (3, .int v3), (4, .int v4)]) hx hb dX3_fewestFrom_58 hl (k := 6) rfl rfl (by decide) rfl (fun ls hl => ?_)
        refine lv_goto (tgt := 7) hx hb dX3_fewestFrom_61 rfl ?_
        exact ih _ _ _ _ _ _ _ _ _ hf hw (lv_sub hl [2, 3, 4, 5, 6, 0] rfl)
      · have hf := z_f hc hf
        refine lv_iload hx hb dX3_fewestFrom_32 (lv_at hl 5 rfl) ?_
        refine lv_bipush (v := (-9)) hx hb dX3_fewestFrom_34 rfl ?_
        refine lv_icmp_eq (tgt := 46) hx hb dX3_fewestFrom_36 rfl (fun hc => ?_) (fun hc => ?_)
        · have hf := z_t hc hf
          refine lv_iload hx hb dX3_fewestFrom_46 (lv_at hl 0 rfl) ?_
          refine lv_istore (lv' := [(4, .int r1), (6, .int r1), (0, .ref (q (o + 0))), (1, .ref (q1 (o1 + 0))), (2, .int v2), (3, .int v3), (5, .int v5)]) hx hb dX3_fewestFrom_48 hl (by decide) rfl (fun ls hl => ?_)
          refine lv_aload_n hx hb dX3_fewestFrom_50 rfl (lv_at hl 2 rfl) ?_
          refine z_get hS0 in_X3_fewestFrom_X3 hK hw 0 2 rfl rfl rfl (by decide) (hts _ m_X3_fewestFrom_0) (v := .ref (q (o + 3))) rfl dX3_fewestFrom_51 ?_
          refine lv_iload_n hx hb dX3_fewestFrom_54 rfl (lv_at hl 4 rfl) ?_
          refine lv_iload hx hb dX3_fewestFrom_55 (lv_at hl 6 rfl) ?_
          obtain ⟨g3, hf⟩ := z_gd hf
          refine z_iast (blk' := bX3 G q o S.1 S.2.1 (upd S.2.2.1 v2.toNatClampNeg v5) S.2.2.2) (bs' := [bX3 G q o S.1 S.2.1 (upd S.2.2.1 v2.toNatClampNeg v5) S.2.2.2, bX2 G q1 o1 P1.1 P1.2.1 P1.2.2.1 P1.2.2.2.1 P1.2.2.2.2.1 P1.2.2.2.2.2.1 P1.2.2.2.2.2.2.1 P1.2.2.2.2.2.2.2]) hS0 hK hw 0 3 (zIn_vp g3) rfl rfl dX3_fewestFrom_57 rfl rfl (fun H locs hw => ?_)
          refine lv_iinc (v := (v5 + 1)) (lv' := [(5, .int (v5 + 1)), (4, .int r1), (6, .int r1), (0, .ref (q (o + 0))), (1, .ref (q1 (o1 + 0))), (2, .int v2), (3, .int v3)]) hx hb dX3_fewestFrom_58 hl (k := 6) rfl rfl (by decide) rfl (fun ls hl => ?_)
          refine lv_goto (tgt := 7) hx hb dX3_fewestFrom_61 rfl ?_
          exact ih _ _ _ _ _ _ _ _ _ hf hw (lv_sub hl [3, 4, 5, 6, 1, 0] rfl)
        · have hf := z_f hc hf
          refine lv_iload hx hb dX3_fewestFrom_39 (lv_at hl 0 rfl) ?_
          refine lv_iload hx hb dX3_fewestFrom_41 (lv_at hl 5 rfl) ?_
          refine lv_icmp_ge (tgt := 58) hx hb dX3_fewestFrom_43 rfl (fun hc => ?_) (fun hc => ?_)
          · have hf := z_t hc hf
            refine lv_iinc (v := (v5 + 1)) (lv' := [(5, .int (v5 + 1)), (6, .int r1), (0, .ref (q (o + 0))), (1, .ref (q1 (o1 + 0))), (2, .int v2), (3, .int v3), (4, .int v4)]) hx hb dX3_fewestFrom_58 hl (k := 6) rfl rfl (by decide) rfl (fun ls hl => ?_)
            refine lv_goto (tgt := 7) hx hb dX3_fewestFrom_61 rfl ?_
            exact ih _ _ _ _ _ _ _ _ _ hf hw (lv_sub hl [2, 3, 4, 5, 6, 0] rfl)
          · have hf := z_f hc hf
            refine lv_iload hx hb dX3_fewestFrom_46 (lv_at hl 0 rfl) ?_
            refine lv_istore (lv' := [(4, .int r1), (6, .int r1), (0, .ref (q (o + 0))), (1, .ref (q1 (o1 + 0))), (2, .int v2), (3, .int v3), (5, .int v5)]) hx hb dX3_fewestFrom_48 hl (by decide) rfl (fun ls hl => ?_)
            refine lv_aload_n hx hb dX3_fewestFrom_50 rfl (lv_at hl 2 rfl) ?_
            refine z_get hS0 in_X3_fewestFrom_X3 hK hw 0 2 rfl rfl rfl (by decide) (hts _ m_X3_fewestFrom_0) (v := .ref (q (o + 3))) rfl dX3_fewestFrom_51 ?_
            refine lv_iload_n hx hb dX3_fewestFrom_54 rfl (lv_at hl 4 rfl) ?_
            refine lv_iload hx hb dX3_fewestFrom_55 (lv_at hl 6 rfl) ?_
            obtain ⟨g4, hf⟩ := z_gd hf
            refine z_iast (blk' := bX3 G q o S.1 S.2.1 (upd S.2.2.1 v2.toNatClampNeg v5) S.2.2.2) (bs' := [bX3 G q o S.1 S.2.1 (upd S.2.2.1 v2.toNatClampNeg v5) S.2.2.2, bX2 G q1 o1 P1.1 P1.2.1 P1.2.2.1 P1.2.2.2.1 P1.2.2.2.2.1 P1.2.2.2.2.2.1 P1.2.2.2.2.2.2.1 P1.2.2.2.2.2.2.2]) hS0 hK hw 0 3 (zIn_vp g4) rfl rfl dX3_fewestFrom_57 rfl rfl (fun H locs hw => ?_)
            refine lv_iinc (v := (v5 + 1)) (lv' := [(5, .int (v5 + 1)), (4, .int r1), (6, .int r1), (0, .ref (q (o + 0))), (1, .ref (q1 (o1 + 0))), (2, .int v2), (3, .int v3)]) hx hb dX3_fewestFrom_58 hl (k := 6) rfl rfl (by decide) rfl (fun ls hl => ?_)
            refine lv_goto (tgt := 7) hx hb dX3_fewestFrom_61 rfl ?_
            exact ih _ _ _ _ _ _ _ _ _ hf hw (lv_sub hl [3, 4, 5, 6, 1, 0] rfl)
set_option maxHeartbeats 4000000 in
set_option maxRecDepth 100000 in
theorem c_X3_fewestFrom (l : Launch) (G : zG) (q : Nat → Nat) (o : Nat) (q1 : Nat → Nat) (o1 : Nat) (S : VX3) (P1 : VX2) (v2 : Int32) (v3 : Int32) (y : Int32 × VX3) (hf : f_X3_fewestFrom S P1 v2 v3 = some y) : zMet l yX3_fewestFrom wsX3_fewestFrom 4 106 G [.ref (q (o + 0)), .ref (q1 (o1 + 0)), .int v2, .int v3] [bX3 G q o S.1 S.2.1 S.2.2.1 S.2.2.2, bX2 G q1 o1 P1.1 P1.2.1 P1.2.2.1 P1.2.2.2.1 P1.2.2.2.2.1 P1.2.2.2.2.2.1 P1.2.2.2.2.2.2.1 P1.2.2.2.2.2.2.2] (some (.int y.1)) [bX3 G q o y.2.1 y.2.2.1 y.2.2.2.1 y.2.2.2.2, bX2 G q1 o1 P1.1 P1.2.1 P1.2.2.1 P1.2.2.2.1 P1.2.2.2.2.1 P1.2.2.2.2.2.1 P1.2.2.2.2.2.2.1 P1.2.2.2.2.2.2.2] := by
  refine z_met zc_X3_fewestFrom (Nat.le_of_ble_eq_true rfl) ?_
  intro p e s m below meth c A ls hZ hl hw
  have hl : lv_has ls 7 [(0, .ref (q (o + 0))), (1, .ref (q1 (o1 + 0))), (2, .int v2), (3, .int v3)] := hl
  obtain ⟨hS0, hr, hlk, hK, hA, hT⟩ := id hZ
  have hx := hS0.1
  have hb := hS0.2.1
  have hml := hS0.2.2.1
  have hown : s.vm.findClass RX3 = some m.cls := hS0.2.2.2.1
  have hts := hS0.2.2.2.2
  unfold f_X3_fewestFrom at hf
  refine lv_bipush (v := (-9)) hx hb dX3_fewestFrom_0 rfl ?_
  refine lv_istore (lv' := [(4, .int (-9)), (0, .ref (q (o + 0))), (1, .ref (q1 (o1 + 0))), (2, .int v2), (3, .int v3)]) hx hb dX3_fewestFrom_2 hl (by decide) rfl (fun ls hl => ?_)
  refine lv_iconst (v := 0) hx hb dX3_fewestFrom_4 rfl ?_
  refine lv_istore (lv' := [(5, .int 0), (4, .int (-9)), (0, .ref (q (o + 0))), (1, .ref (q1 (o1 + 0))), (2, .int v2), (3, .int v3)]) hx hb dX3_fewestFrom_5 hl (by decide) rfl (fun ls hl => ?_)
  exact k_X3_fewestFrom_7 hZ _ 4096 _ _ _ _ _ _ _ _ _ hf hw (lv_sub hl [2, 3, 4, 5, 1, 0] rfl)
theorem zc_X3_follow : zC yX3_follow wsX3_follow cX3_follow 4 none 1 := ⟨⟨_, rfl⟩, by decide +kernel, by decide +kernel, by decide +kernel, by decide +kernel⟩
theorem m_X3_follow_0 : (.fieldLink RX3 21 "CellKeys$Orders" "steps" "[I" : Cond) ∈ wsX3_follow := by decide +kernel
theorem in_X3_follow_X3 : ∀ w ∈ u_ws RX3 TX3 4, w ∈ wsX3_follow := by decide +kernel
theorem m_X3_follow_1 : (.fieldLink RX3 18 "CellKeys$Orders" "nexts" "[I" : Cond) ∈ wsX3_follow := by decide +kernel
set_option maxHeartbeats 4000000 in
set_option maxRecDepth 100000 in
theorem k_X3_follow_4 {p : Program} {l : Launch} {e : Env} {s : State} {m : MethodId} {args : Array Value} {below : List Frame} {meth : Method} {c : Code} {A : Nat → Prop} {G : zG} {q : Nat → Nat} {o : Nat}  (hZ : zZ p s m args meth c A G cX3_follow 4 RX3 wsX3_follow none) (y : VX3)  (n : Nat) : ∀ (S : VX3) (v1 : Int32) (v2 : Int32) (v3 : Int32) (H : Heap) (locs : List Loc) (ls : Array Slot), f_X3_follow_4 n S v1 v2 v3 = some y → zH G A s.heap [bX3 G q o S.1 S.2.1 S.2.2.1 S.2.2.2] H locs → lv_has ls 4 [(0, .ref (q (o + 0))), (1, .int v1), (2, .int v2), (3, .int v3)] → W p l e { frames := 0, cells := 0, slots := 0, locals := 0 } s m args below meth c H locs 0 0 (MQ below (zQ none (zPost G [bX3 G q o y.1 y.2.1 y.2.2.1 y.2.2.2]) A) args s 0 0 A) (F0 m 4 ls []) := by
  obtain ⟨hS0, hr, hlk, hK, hA, hT⟩ := id hZ
  have hx := hS0.1
  have hb := hS0.2.1
  have hml := hS0.2.2.1
  have hown : s.vm.findClass RX3 = some m.cls := hS0.2.2.2.1
  have hts := hS0.2.2.2.2
  induction n with
  | zero =>
    intro S v1 v2 v3 H locs ls hf hw hl
    unfold f_X3_follow_4 at hf
    cases hf
  | succ n ih =>
    intro S v1 v2 v3 H locs ls hf hw hl
    unfold f_X3_follow_4 at hf
    refine lv_iload_n hx hb dX3_follow_4 rfl (lv_at hl 3 rfl) ?_
    refine lv_bipush (v := 8) hx hb dX3_follow_5 rfl ?_
    refine lv_icmp_ge (tgt := 44) hx hb dX3_follow_7 rfl (fun hc => ?_) (fun hc => ?_)
    · have hf := z_t hc hf
      cases hf
      exact z_vret hx hb hr hlk hw dX3_follow_44
    · have hf := z_f hc hf
      refine lv_iload_n hx hb dX3_follow_10 rfl (lv_at hl 2 rfl) ?_
      refine lv_iload_n hx hb dX3_follow_11 rfl (lv_at hl 1 rfl) ?_
      refine lv_icmp_eq (tgt := 44) hx hb dX3_follow_12 rfl (fun hc => ?_) (fun hc => ?_)
      · have hf := z_t hc hf
        cases hf
        exact z_vret hx hb hr hlk hw dX3_follow_44
      · have hf := z_f hc hf
        refine lv_aload_n hx hb dX3_follow_15 rfl (lv_at hl 0 rfl) ?_
        refine z_get hS0 in_X3_follow_X3 hK hw 0 3 rfl rfl rfl (by decide) (hts _ m_X3_follow_0) (v := .ref (q (o + 4))) rfl dX3_follow_16 ?_
        refine lv_iload_n hx hb dX3_follow_19 rfl (lv_at hl 3 rfl) ?_
        refine lv_aload_n hx hb dX3_follow_20 rfl (lv_at hl 0 rfl) ?_
        refine z_get hS0 in_X3_follow_X3 hK hw 0 2 rfl rfl rfl (by decide) (hts _ m_X3_follow_1) (v := .ref (q (o + 3))) rfl dX3_follow_21 ?_
        refine lv_iload_n hx hb dX3_follow_24 rfl (lv_at hl 2 rfl) ?_
        obtain ⟨g1, hf⟩ := z_gd hf
        refine z_iald hS0 hK hw 0 3 (zIn_vp g1) rfl rfl dX3_follow_25 ?_
        obtain ⟨g2, hf⟩ := z_gd hf
        refine z_iast (blk' := bX3 G q o S.1 S.2.1 S.2.2.1 (upd S.2.2.2 v3.toNatClampNeg (S.2.2.1 v2.toNatClampNeg))) (bs' := [bX3 G q o S.1 S.2.1 S.2.2.1 (upd S.2.2.2 v3.toNatClampNeg (S.2.2.1 v2.toNatClampNeg))]) hS0 hK hw 0 4 (zIn_vp g2) rfl rfl dX3_follow_26 rfl rfl (fun H locs hw => ?_)
        refine lv_iload_n hx hb dX3_follow_27 rfl (lv_at hl 2 rfl) ?_
        refine lv_iconst (v := 1) hx hb dX3_follow_28 rfl ?_
        refine lv_aload_n hx hb dX3_follow_29 rfl (lv_at hl 0 rfl) ?_
        refine z_get hS0 in_X3_follow_X3 hK hw 0 3 rfl rfl rfl (by decide) (hts _ m_X3_follow_0) (v := .ref (q (o + 4))) rfl dX3_follow_30 ?_
        refine lv_iload_n hx hb dX3_follow_33 rfl (lv_at hl 3 rfl) ?_
        obtain ⟨g3, hf⟩ := z_gd hf
        refine z_iald hS0 hK hw 0 4 (zIn_vp g3) rfl rfl dX3_follow_34 ?_
        refine lv_ishl hx hb dX3_follow_35 ?_
        refine lv_ior hx hb dX3_follow_36 ?_
        refine lv_istore_n (lv' := [(2, .int (v2 ||| ((1 : Int32) <<< (((upd S.2.2.2 v3.toNatClampNeg (S.2.2.1 v2.toNatClampNeg)) v3.toNatClampNeg) &&& 31)))), (0, .ref (q (o + 0))), (1, .int v1), (3, .int v3)]) hx hb dX3_follow_37 rfl hl (by decide) rfl (fun ls hl => ?_)
        refine lv_iinc (v := (v3 + 1)) (lv' := [(3, .int (v3 + 1)), (2, .int (v2 ||| ((1 : Int32) <<< (((upd S.2.2.2 v3.toNatClampNeg (S.2.2.1 v2.toNatClampNeg)) v3.toNatClampNeg) &&& 31)))), (0, .ref (q (o + 0))), (1, .int v1)]) hx hb dX3_follow_38 hl (k := 3) rfl rfl (by decide) rfl (fun ls hl => ?_)
        refine lv_goto (tgt := 4) hx hb dX3_follow_41 rfl ?_
        exact ih _ _ _ _ _ _ _ hf hw (lv_sub hl [2, 3, 1, 0] rfl)
set_option maxHeartbeats 4000000 in
set_option maxRecDepth 100000 in
theorem c_X3_follow (l : Launch) (G : zG) (q : Nat → Nat) (o : Nat) (S : VX3) (v1 : Int32) (y : VX3) (hf : f_X3_follow S v1 = some y) : zMet l yX3_follow wsX3_follow 0 0 G [.ref (q (o + 0)), .int v1] [bX3 G q o S.1 S.2.1 S.2.2.1 S.2.2.2] none [bX3 G q o y.1 y.2.1 y.2.2.1 y.2.2.2] := by
  refine z_met zc_X3_follow (Nat.le_of_ble_eq_true rfl) ?_
  intro p e s m below meth c A ls hZ hl hw
  have hl : lv_has ls 4 [(0, .ref (q (o + 0))), (1, .int v1)] := hl
  obtain ⟨hS0, hr, hlk, hK, hA, hT⟩ := id hZ
  have hx := hS0.1
  have hb := hS0.2.1
  have hml := hS0.2.2.1
  have hown : s.vm.findClass RX3 = some m.cls := hS0.2.2.2.1
  have hts := hS0.2.2.2.2
  unfold f_X3_follow at hf
  refine lv_iconst (v := 0) hx hb dX3_follow_0 rfl ?_
  refine lv_istore_n (lv' := [(2, .int 0), (0, .ref (q (o + 0))), (1, .int v1)]) hx hb dX3_follow_1 rfl hl (by decide) rfl (fun ls hl => ?_)
  refine lv_iconst (v := 0) hx hb dX3_follow_2 rfl ?_
  refine lv_istore_n (lv' := [(3, .int 0), (2, .int 0), (0, .ref (q (o + 0))), (1, .int v1)]) hx hb dX3_follow_3 rfl hl (by decide) rfl (fun ls hl => ?_)
  exact k_X3_follow_4 hZ _ 4096 _ _ _ _ _ _ _ hf hw (lv_sub hl [2, 3, 1, 0] rfl)
theorem zc_X3_findFirst : zC yX3_findFirst wsX3_findFirst cX3_findFirst 4 (some .int) 2 := ⟨⟨_, rfl⟩, by decide +kernel, by decide +kernel, by decide +kernel, by decide +kernel⟩
theorem m_X3_findFirst_0 : (.fieldLink RX3 15 "CellKeys$Orders" "rest" "[I" : Cond) ∈ wsX3_findFirst := by decide +kernel
theorem in_X3_findFirst_X3 : ∀ w ∈ u_ws RX3 TX3 4, w ∈ wsX3_findFirst := by decide +kernel
set_option maxHeartbeats 4000000 in
set_option maxRecDepth 100000 in
theorem k_X3_findFirst_25 {p : Program} {l : Launch} {e : Env} {s : State} {m : MethodId} {args : Array Value} {below : List Frame} {meth : Method} {c : Code} {A : Nat → Prop} {G : zG} {q : Nat → Nat} {o : Nat} {q1 : Nat → Nat} {o1 : Nat}  (hZ : zZ p s m args meth c A G cX3_findFirst 4 RX3 wsX3_findFirst (some .int)) (y : Int32 × VX3)  (n : Nat) : ∀ (S : VX3) (P1 : VX2) (v2 : Int32) (v3 : Int32) (H : Heap) (locs : List Loc) (ls : Array Slot), f_X3_findFirst_25 n S P1 v2 v3 = some y → zH G A s.heap [bX3 G q o S.1 S.2.1 S.2.2.1 S.2.2.2, bX2 G q1 o1 P1.1 P1.2.1 P1.2.2.1 P1.2.2.2.1 P1.2.2.2.2.1 P1.2.2.2.2.2.1 P1.2.2.2.2.2.2.1 P1.2.2.2.2.2.2.2] H locs → lv_has ls 4 [(0, .ref (q (o + 0))), (1, .ref (q1 (o1 + 0))), (2, .int v2), (3, .int v3)] → W p l e { frames := 5, cells := 0, slots := 0, locals := 132 } s m args below meth c H locs 0 0 (MQ below (zQ (some (.int y.1)) (zPost G [bX3 G q o y.2.1 y.2.2.1 y.2.2.2.1 y.2.2.2.2, bX2 G q1 o1 P1.1 P1.2.1 P1.2.2.1 P1.2.2.2.1 P1.2.2.2.2.1 P1.2.2.2.2.2.1 P1.2.2.2.2.2.2.1 P1.2.2.2.2.2.2.2]) A) args s 0 0 A) (F0 m 25 ls []) := by
  obtain ⟨hS0, hr, hlk, hK, hA, hT⟩ := id hZ
  have hx := hS0.1
  have hb := hS0.2.1
  have hml := hS0.2.2.1
  have hown : s.vm.findClass RX3 = some m.cls := hS0.2.2.2.1
  have hts := hS0.2.2.2.2
  induction n with
  | zero =>
    intro S P1 v2 v3 H locs ls hf hw hl
    unfold f_X3_findFirst_25 at hf
    cases hf
  | succ n ih =>
    intro S P1 v2 v3 H locs ls hf hw hl
    unfold f_X3_findFirst_25 at hf
    refine lv_iload_n hx hb dX3_findFirst_25 rfl (lv_at hl 3 rfl) ?_
    refine lv_if_lt (tgt := 61) hx hb dX3_findFirst_26 rfl (fun hc => ?_) (fun hc => ?_)
    · have hf := z_t hc hf
      refine lv_aload_n hx hb dX3_findFirst_61 rfl (lv_at hl 0 rfl) ?_
      refine z_get hS0 in_X3_findFirst_X3 hK hw 0 1 rfl rfl rfl (by decide) (hts _ m_X3_findFirst_0) (v := .ref (q (o + 2))) rfl dX3_findFirst_62 ?_
      refine lv_iconst (v := 0) hx hb dX3_findFirst_65 rfl ?_
      obtain ⟨g1, hf⟩ := z_gd hf
      refine z_iald hS0 hK hw 0 2 (zIn_vp g1) rfl rfl dX3_findFirst_66 ?_
      refine lv_bipush (v := (-9)) hx hb dX3_findFirst_67 rfl ?_
      refine lv_icmp_eq (tgt := 77) hx hb dX3_findFirst_69 rfl (fun hc => ?_) (fun hc => ?_)
      · have hf := z_t hc hf
        refine lv_aload_n hx hb dX3_findFirst_77 rfl (lv_at hl 0 rfl) ?_
        refine z_get hS0 in_X3_findFirst_X3 hK hw 0 1 rfl rfl rfl (by decide) (hts _ m_X3_findFirst_0) (v := .ref (q (o + 2))) rfl dX3_findFirst_78 ?_
        refine lv_iconst (v := 0) hx hb dX3_findFirst_81 rfl ?_
        obtain ⟨g2, hf⟩ := z_gd hf
        refine z_iald hS0 hK hw 0 2 (zIn_vp g2) rfl rfl dX3_findFirst_82 ?_
        cases hf
        exact z_iret hx hb hr hlk hw dX3_findFirst_83
      · have hf := z_f hc hf
        refine lv_aload_n hx hb dX3_findFirst_72 rfl (lv_at hl 0 rfl) ?_
        refine lv_iload_n hx hb dX3_findFirst_73 rfl (lv_at hl 2 rfl) ?_
        obtain ⟨r3, e4, hf⟩ := z_bd hf
        refine z_callV0 (As := [.int v2]) (rest := []) (bs' := [bX3 G q o r3.1 r3.2.1 r3.2.2.1 r3.2.2.2, bX2 G q1 o1 P1.1 P1.2.1 P1.2.2.1 P1.2.2.2.1 P1.2.2.2.2.1 P1.2.2.2.2.2.1 P1.2.2.2.2.2.2.1 P1.2.2.2.2.2.2.2]) hS0 (c_X3_follow l G q o S v2 r3 e4) zc_X3_follow rfl gX3_findFirst_X3_follow ⟨Nat.le_of_ble_eq_true rfl, Nat.le_of_ble_eq_true rfl⟩ hK hA hT hw (is := [0]) rfl rfl rfl rfl rfl rfl rfl hl.1 rfl (Nat.le_of_ble_eq_true rfl) dX3_findFirst_74 (fun H locs hw => ?_)
        refine lv_aload_n hx hb dX3_findFirst_77 rfl (lv_at hl 0 rfl) ?_
        refine z_get hS0 in_X3_findFirst_X3 hK hw 0 1 rfl rfl rfl (by decide) (hts _ m_X3_findFirst_0) (v := .ref (q (o + 2))) rfl dX3_findFirst_78 ?_
        refine lv_iconst (v := 0) hx hb dX3_findFirst_81 rfl ?_
        obtain ⟨g5, hf⟩ := z_gd hf
        refine z_iald hS0 hK hw 0 2 (zIn_vp g5) rfl rfl dX3_findFirst_82 ?_
        cases hf
        exact z_iret hx hb hr hlk hw dX3_findFirst_83
    · have hf := z_f hc hf
      refine lv_aload_n hx hb dX3_findFirst_29 rfl (lv_at hl 0 rfl) ?_
      refine z_get hS0 in_X3_findFirst_X3 hK hw 0 1 rfl rfl rfl (by decide) (hts _ m_X3_findFirst_0) (v := .ref (q (o + 2))) rfl dX3_findFirst_30 ?_
      refine lv_iload_n hx hb dX3_findFirst_33 rfl (lv_at hl 3 rfl) ?_
      refine lv_iload_n hx hb dX3_findFirst_34 rfl (lv_at hl 3 rfl) ?_
      refine lv_iload_n hx hb dX3_findFirst_35 rfl (lv_at hl 2 rfl) ?_
      refine lv_iconst (v := (-1)) hx hb dX3_findFirst_36 rfl ?_
      refine lv_ixor hx hb dX3_findFirst_37 ?_
      refine lv_iand hx hb dX3_findFirst_38 ?_
      refine lv_if_ne (tgt := 52) hx hb dX3_findFirst_39 rfl (fun hc => ?_) (fun hc => ?_)
      · have hf := z_f hc hf
        refine lv_bipush (v := (-9)) hx hb dX3_findFirst_52 rfl ?_
        obtain ⟨g6, hf⟩ := z_gd hf
        refine z_iast (blk' := bX3 G q o S.1 (upd S.2.1 v3.toNatClampNeg (-9)) S.2.2.1 S.2.2.2) (bs' := [bX3 G q o S.1 (upd S.2.1 v3.toNatClampNeg (-9)) S.2.2.1 S.2.2.2, bX2 G q1 o1 P1.1 P1.2.1 P1.2.2.1 P1.2.2.2.1 P1.2.2.2.2.1 P1.2.2.2.2.2.1 P1.2.2.2.2.2.2.1 P1.2.2.2.2.2.2.2]) hS0 hK hw 0 2 (zIn_vp g6) rfl rfl dX3_findFirst_54 rfl rfl (fun H locs hw => ?_)
        refine lv_iinc (v := (v3 + (-1))) (lv' := [(3, .int (v3 + (-1))), (0, .ref (q (o + 0))), (1, .ref (q1 (o1 + 0))), (2, .int v2)]) hx hb dX3_findFirst_55 hl (k := 3) rfl rfl (by decide) rfl (fun ls hl => ?_)
        refine lv_goto (tgt := 25) hx hb dX3_findFirst_58 rfl ?_
        exact ih _ _ _ _ _ _ _ hf hw (lv_sub hl [1, 2, 3, 0] rfl)
      · have hf := z_t hc hf
        refine lv_aload_n hx hb dX3_findFirst_42 rfl (lv_at hl 0 rfl) ?_
        refine lv_aload_n hx hb dX3_findFirst_43 rfl (lv_at hl 1 rfl) ?_
        refine lv_iload_n hx hb dX3_findFirst_44 rfl (lv_at hl 3 rfl) ?_
        refine lv_iload_n hx hb dX3_findFirst_45 rfl (lv_at hl 2 rfl) ?_
        obtain ⟨r7, e8, hf⟩ := z_bd hf
        refine z_callV1 (As := [.ref (q1 (o1 + 0)), .int v3, .int v2]) (rest := [.int v3, .ref (q (o + 2))]) (bs' := [bX3 G q o r7.2.1 r7.2.2.1 r7.2.2.2.1 r7.2.2.2.2, bX2 G q1 o1 P1.1 P1.2.1 P1.2.2.1 P1.2.2.2.1 P1.2.2.2.2.1 P1.2.2.2.2.2.1 P1.2.2.2.2.2.2.1 P1.2.2.2.2.2.2.2]) hS0 (c_X3_fewestFrom l G q o q1 o1 S P1 v3 v2 r7 e8) zc_X3_fewestFrom rfl gX3_findFirst_X3_fewestFrom ⟨Nat.le_of_ble_eq_true rfl, Nat.le_of_ble_eq_true rfl⟩ hK hA hT hw (is := [0, 1]) rfl rfl rfl rfl rfl rfl rfl hl.1 rfl (Nat.le_of_ble_eq_true rfl) dX3_findFirst_46 (fun H locs hw => ?_)
        refine lv_goto (tgt := 54) hx hb dX3_findFirst_49 rfl ?_
        obtain ⟨g9, hf⟩ := z_gd hf
        refine z_iast (blk' := bX3 G q o r7.2.1 (upd r7.2.2.1 v3.toNatClampNeg r7.1) r7.2.2.2.1 r7.2.2.2.2) (bs' := [bX3 G q o r7.2.1 (upd r7.2.2.1 v3.toNatClampNeg r7.1) r7.2.2.2.1 r7.2.2.2.2, bX2 G q1 o1 P1.1 P1.2.1 P1.2.2.1 P1.2.2.2.1 P1.2.2.2.2.1 P1.2.2.2.2.2.1 P1.2.2.2.2.2.2.1 P1.2.2.2.2.2.2.2]) hS0 hK hw 0 2 (zIn_vp g9) rfl rfl dX3_findFirst_54 rfl rfl (fun H locs hw => ?_)
        refine lv_iinc (v := (v3 + (-1))) (lv' := [(3, .int (v3 + (-1))), (0, .ref (q (o + 0))), (1, .ref (q1 (o1 + 0))), (2, .int v2)]) hx hb dX3_findFirst_55 hl (k := 3) rfl rfl (by decide) rfl (fun ls hl => ?_)
        refine lv_goto (tgt := 25) hx hb dX3_findFirst_58 rfl ?_
        exact ih _ _ _ _ _ _ _ hf hw (lv_sub hl [1, 2, 3, 0] rfl)
set_option maxHeartbeats 4000000 in
set_option maxRecDepth 100000 in
theorem c_X3_findFirst (l : Launch) (G : zG) (q : Nat → Nat) (o : Nat) (q1 : Nat → Nat) (o1 : Nat) (S : VX3) (P1 : VX2) (v2 : Int32) (y : Int32 × VX3) (hf : f_X3_findFirst S P1 v2 = some y) : zMet l yX3_findFirst wsX3_findFirst 5 132 G [.ref (q (o + 0)), .ref (q1 (o1 + 0)), .int v2] [bX3 G q o S.1 S.2.1 S.2.2.1 S.2.2.2, bX2 G q1 o1 P1.1 P1.2.1 P1.2.2.1 P1.2.2.2.1 P1.2.2.2.2.1 P1.2.2.2.2.2.1 P1.2.2.2.2.2.2.1 P1.2.2.2.2.2.2.2] (some (.int y.1)) [bX3 G q o y.2.1 y.2.2.1 y.2.2.2.1 y.2.2.2.2, bX2 G q1 o1 P1.1 P1.2.1 P1.2.2.1 P1.2.2.2.1 P1.2.2.2.2.1 P1.2.2.2.2.2.1 P1.2.2.2.2.2.2.1 P1.2.2.2.2.2.2.2] := by
  refine z_met zc_X3_findFirst (Nat.le_of_ble_eq_true rfl) ?_
  intro p e s m below meth c A ls hZ hl hw
  have hl : lv_has ls 4 [(0, .ref (q (o + 0))), (1, .ref (q1 (o1 + 0))), (2, .int v2)] := hl
  obtain ⟨hS0, hr, hlk, hK, hA, hT⟩ := id hZ
  have hx := hS0.1
  have hb := hS0.2.1
  have hml := hS0.2.2.1
  have hown : s.vm.findClass RX3 = some m.cls := hS0.2.2.2.1
  have hts := hS0.2.2.2.2
  unfold f_X3_findFirst at hf
  refine lv_iload_n hx hb dX3_findFirst_0 rfl (lv_at hl 2 rfl) ?_
  refine lv_if_lt (tgt := 11) hx hb dX3_findFirst_1 rfl (fun hc => ?_) (fun hc => ?_)
  · have hf := z_t hc hf
    refine lv_bipush (v := (-9)) hx hb dX3_findFirst_11 rfl ?_
    cases hf
    exact z_iret hx hb hr hlk hw dX3_findFirst_13
  · have hf := z_f hc hf
    refine lv_iload_n hx hb dX3_findFirst_4 rfl (lv_at hl 2 rfl) ?_
    refine lv_sipush (v := 256) hx hb dX3_findFirst_5 rfl ?_
    refine lv_icmp_lt (tgt := 14) hx hb dX3_findFirst_8 rfl (fun hc => ?_) (fun hc => ?_)
    · have hf := z_t hc hf
      refine lv_aload_n hx hb dX3_findFirst_14 rfl (lv_at hl 0 rfl) ?_
      refine z_get hS0 in_X3_findFirst_X3 hK hw 0 1 rfl rfl rfl (by decide) (hts _ m_X3_findFirst_0) (v := .ref (q (o + 2))) rfl dX3_findFirst_15 ?_
      refine lv_iload_n hx hb dX3_findFirst_18 rfl (lv_at hl 2 rfl) ?_
      refine lv_iconst (v := 0) hx hb dX3_findFirst_19 rfl ?_
      obtain ⟨g10, hf⟩ := z_gd hf
      refine z_iast (blk' := bX3 G q o S.1 (upd S.2.1 v2.toNatClampNeg 0) S.2.2.1 S.2.2.2) (bs' := [bX3 G q o S.1 (upd S.2.1 v2.toNatClampNeg 0) S.2.2.1 S.2.2.2, bX2 G q1 o1 P1.1 P1.2.1 P1.2.2.1 P1.2.2.2.1 P1.2.2.2.2.1 P1.2.2.2.2.2.1 P1.2.2.2.2.2.2.1 P1.2.2.2.2.2.2.2]) hS0 hK hw 0 2 (zIn_vp g10) rfl rfl dX3_findFirst_20 rfl rfl (fun H locs hw => ?_)
      refine lv_iload_n hx hb dX3_findFirst_21 rfl (lv_at hl 2 rfl) ?_
      refine lv_iconst (v := 1) hx hb dX3_findFirst_22 rfl ?_
      refine lv_isub hx hb dX3_findFirst_23 ?_
      refine lv_istore_n (lv' := [(3, .int (v2 - (1 : Int32))), (0, .ref (q (o + 0))), (1, .ref (q1 (o1 + 0))), (2, .int v2)]) hx hb dX3_findFirst_24 rfl hl (by decide) rfl (fun ls hl => ?_)
      exact k_X3_findFirst_25 hZ _ 4096 _ _ _ _ _ _ _ hf hw (lv_sub hl [1, 2, 3, 0] rfl)
    · have hf := z_f hc hf
      refine lv_bipush (v := (-9)) hx hb dX3_findFirst_11 rfl ?_
      cases hf
      exact z_iret hx hb hr hlk hw dX3_findFirst_13
theorem zc_X3_numberTo : zC yX3_numberTo wsX3_numberTo cX3_numberTo 6 (some .int) 2 := ⟨⟨_, rfl⟩, by decide +kernel, by decide +kernel, by decide +kernel, by decide +kernel⟩
theorem m_X3_numberTo_0 : (.fieldLink RX3 9 "CellKeys$Orders" "numbers" "[I" : Cond) ∈ wsX3_numberTo := by decide +kernel
theorem in_X3_numberTo_X3 : ∀ w ∈ u_ws RX3 TX3 4, w ∈ wsX3_numberTo := by decide +kernel
set_option maxHeartbeats 4000000 in
set_option maxRecDepth 100000 in
theorem k_X3_numberTo_5 {p : Program} {l : Launch} {e : Env} {s : State} {m : MethodId} {args : Array Value} {below : List Frame} {meth : Method} {c : Code} {A : Nat → Prop} {G : zG} {q : Nat → Nat} {o : Nat} {q1 : Nat → Nat} {o1 : Nat}  (hZ : zZ p s m args meth c A G cX3_numberTo 6 RX3 wsX3_numberTo (some .int)) (y : Int32)  (n : Nat) : ∀ (S : VX3) (P1 : VX2) (v2 : Int32) (v3 : Int32) (v4 : Int32) (H : Heap) (locs : List Loc) (ls : Array Slot), f_X3_numberTo_5 n S P1 v2 v3 v4 = some y → zH G A s.heap [bX3 G q o S.1 S.2.1 S.2.2.1 S.2.2.2, bX2 G q1 o1 P1.1 P1.2.1 P1.2.2.1 P1.2.2.2.1 P1.2.2.2.2.1 P1.2.2.2.2.2.1 P1.2.2.2.2.2.2.1 P1.2.2.2.2.2.2.2] H locs → lv_has ls 6 [(0, .ref (q (o + 0))), (1, .ref (q1 (o1 + 0))), (2, .int v2), (3, .int v3), (4, .int v4)] → W p l e { frames := 3, cells := 0, slots := 0, locals := 80 } s m args below meth c H locs 0 0 (MQ below (zQ (some (.int y)) (zPost G [bX3 G q o S.1 S.2.1 S.2.2.1 S.2.2.2, bX2 G q1 o1 P1.1 P1.2.1 P1.2.2.1 P1.2.2.2.1 P1.2.2.2.2.1 P1.2.2.2.2.2.1 P1.2.2.2.2.2.2.1 P1.2.2.2.2.2.2.2]) A) args s 0 0 A) (F0 m 5 ls []) := by
  obtain ⟨hS0, hr, hlk, hK, hA, hT⟩ := id hZ
  have hx := hS0.1
  have hb := hS0.2.1
  have hml := hS0.2.2.1
  have hown : s.vm.findClass RX3 = some m.cls := hS0.2.2.2.1
  have hts := hS0.2.2.2.2
  induction n with
  | zero =>
    intro S P1 v2 v3 v4 H locs ls hf hw hl
    unfold f_X3_numberTo_5 at hf
    cases hf
  | succ n ih =>
    intro S P1 v2 v3 v4 H locs ls hf hw hl
    unfold f_X3_numberTo_5 at hf
    refine lv_iload hx hb dX3_numberTo_5 (lv_at hl 4 rfl) ?_
    refine lv_bipush (v := 8) hx hb dX3_numberTo_7 rfl ?_
    refine lv_icmp_ge (tgt := 61) hx hb dX3_numberTo_9 rfl (fun hc => ?_) (fun hc => ?_)
    · have hf := z_t hc hf
      refine lv_iload_n hx hb dX3_numberTo_61 rfl (lv_at hl 3 rfl) ?_
      cases hf
      exact z_iret hx hb hr hlk hw dX3_numberTo_62
    · have hf := z_f hc hf
      refine lv_iload_n hx hb dX3_numberTo_12 rfl (lv_at hl 2 rfl) ?_
      refine lv_iconst (v := 1) hx hb dX3_numberTo_13 rfl ?_
      refine lv_iload hx hb dX3_numberTo_14 (lv_at hl 4 rfl) ?_
      refine lv_ishl hx hb dX3_numberTo_16 ?_
      refine lv_iconst (v := (-1)) hx hb dX3_numberTo_17 rfl ?_
      refine lv_ixor hx hb dX3_numberTo_18 ?_
      refine lv_iand hx hb dX3_numberTo_19 ?_
      refine lv_istore (lv' := [(5, .int (v2 &&& (((1 : Int32) <<< (v4 &&& 31)) ^^^ ((-1) : Int32)))), (0, .ref (q (o + 0))), (1, .ref (q1 (o1 + 0))), (2, .int v2), (3, .int v3), (4, .int v4)]) hx hb dX3_numberTo_20 hl (by decide) rfl (fun ls hl => ?_)
      refine lv_iload hx hb dX3_numberTo_22 (lv_at hl 0 rfl) ?_
      refine lv_iload_n hx hb dX3_numberTo_24 rfl (lv_at hl 3 rfl) ?_
      refine lv_icmp_eq (tgt := 55) hx hb dX3_numberTo_25 rfl (fun hc => ?_) (fun hc => ?_)
      · have hf := z_t hc hf
        refine lv_iinc (v := (v4 + 1)) (lv' := [(4, .int (v4 + 1)), (5, .int (v2 &&& (((1 : Int32) <<< (v4 &&& 31)) ^^^ ((-1) : Int32)))), (0, .ref (q (o + 0))), (1, .ref (q1 (o1 + 0))), (2, .int v2), (3, .int v3)]) hx hb dX3_numberTo_55 hl (k := 5) rfl rfl (by decide) rfl (fun ls hl => ?_)
        refine lv_goto (tgt := 5) hx hb dX3_numberTo_58 rfl ?_
        exact ih _ _ _ _ _ _ _ _ hf hw (lv_sub hl [2, 3, 4, 5, 0] rfl)
      · have hf := z_f hc hf
        refine lv_aload_n hx hb dX3_numberTo_28 rfl (lv_at hl 2 rfl) ?_
        refine lv_iload hx hb dX3_numberTo_29 (lv_at hl 5 rfl) ?_
        refine lv_iload hx hb dX3_numberTo_31 (lv_at hl 0 rfl) ?_
        refine lv_aload_n hx hb dX3_numberTo_33 rfl (lv_at hl 2 rfl) ?_
        obtain ⟨r1, e2, hf⟩ := z_bd hf
        refine z_callV1 (As := []) (rest := [.int (v2 &&& (((1 : Int32) <<< (v4 &&& 31)) ^^^ ((-1) : Int32))), .int v4, .ref (q1 (o1 + 0))]) (bs' := [bX3 G q o S.1 S.2.1 S.2.2.1 S.2.2.2, bX2 G q1 o1 P1.1 P1.2.1 P1.2.2.1 P1.2.2.2.1 P1.2.2.2.2.1 P1.2.2.2.2.2.1 P1.2.2.2.2.2.2.1 P1.2.2.2.2.2.2.2]) hS0 (c_X2_everyone l G q1 o1 P1 r1 e2) zc_X2_everyone rfl gX3_numberTo_X2_everyone ⟨Nat.le_of_ble_eq_true rfl, Nat.le_of_ble_eq_true rfl⟩ hK hA hT hw (is := [1]) rfl rfl rfl rfl rfl rfl rfl hl.1 rfl (Nat.le_of_ble_eq_true rfl) dX3_numberTo_34 (fun H locs hw => ?_)
        obtain ⟨r3, e4, hf⟩ := z_bd hf
        refine z_callV1 (As := [.int v4, .int (v2 &&& (((1 : Int32) <<< (v4 &&& 31)) ^^^ ((-1) : Int32))), .int r1]) (rest := []) (bs' := [bX3 G q o S.1 S.2.1 S.2.2.1 S.2.2.2, bX2 G q1 o1 P1.1 P1.2.1 P1.2.2.1 P1.2.2.2.1 P1.2.2.2.2.1 P1.2.2.2.2.2.1 P1.2.2.2.2.2.2.1 P1.2.2.2.2.2.2.2]) hS0 (c_X2_favoursFor l G q1 o1 P1 v4 (v2 &&& (((1 : Int32) <<< (v4 &&& 31)) ^^^ ((-1) : Int32))) r1 r3 e4) zc_X2_favoursFor rfl gX3_numberTo_X2_favoursFor ⟨Nat.le_of_ble_eq_true rfl, Nat.le_of_ble_eq_true rfl⟩ hK hA hT hw (is := [1]) rfl rfl rfl rfl rfl rfl rfl hl.1 rfl (Nat.le_of_ble_eq_true rfl) dX3_numberTo_37 (fun H locs hw => ?_)
        refine lv_bipush (v := (-9)) hx hb dX3_numberTo_40 rfl ?_
        refine lv_icmp_eq (tgt := 55) hx hb dX3_numberTo_42 rfl (fun hc => ?_) (fun hc => ?_)
        · have hf := z_t hc hf
          refine lv_iinc (v := (v4 + 1)) (lv' := [(4, .int (v4 + 1)), (5, .int (v2 &&& (((1 : Int32) <<< (v4 &&& 31)) ^^^ ((-1) : Int32)))), (0, .ref (q (o + 0))), (1, .ref (q1 (o1 + 0))), (2, .int v2), (3, .int v3)]) hx hb dX3_numberTo_55 hl (k := 5) rfl rfl (by decide) rfl (fun ls hl => ?_)
          refine lv_goto (tgt := 5) hx hb dX3_numberTo_58 rfl ?_
          exact ih _ _ _ _ _ _ _ _ hf hw (lv_sub hl [2, 3, 4, 5, 0] rfl)
        · have hf := z_f hc hf
          refine lv_iload_n hx hb dX3_numberTo_45 rfl (lv_at hl 4 rfl) ?_
          refine lv_aload_n hx hb dX3_numberTo_46 rfl (lv_at hl 1 rfl) ?_
          refine z_get hS0 in_X3_numberTo_X3 hK hw 0 0 rfl rfl rfl (by decide) (hts _ m_X3_numberTo_0) (v := .ref (q (o + 1))) rfl dX3_numberTo_47 ?_
          refine lv_iload hx hb dX3_numberTo_50 (lv_at hl 0 rfl) ?_
          obtain ⟨g5, hf⟩ := z_gd hf
          refine z_iald hS0 hK hw 0 1 (zIn_vp g5) rfl rfl dX3_numberTo_52 ?_
          refine lv_iadd hx hb dX3_numberTo_53 ?_
          refine lv_istore_n (lv' := [(3, .int (v3 + (S.1 (v2 &&& (((1 : Int32) <<< (v4 &&& 31)) ^^^ ((-1) : Int32))).toNatClampNeg))), (5, .int (v2 &&& (((1 : Int32) <<< (v4 &&& 31)) ^^^ ((-1) : Int32)))), (0, .ref (q (o + 0))), (1, .ref (q1 (o1 + 0))), (2, .int v2), (4, .int v4)]) hx hb dX3_numberTo_54 rfl hl (by decide) rfl (fun ls hl => ?_)
          refine lv_iinc (v := (v4 + 1)) (lv' := [(4, .int (v4 + 1)), (3, .int (v3 + (S.1 (v2 &&& (((1 : Int32) <<< (v4 &&& 31)) ^^^ ((-1) : Int32))).toNatClampNeg))), (5, .int (v2 &&& (((1 : Int32) <<< (v4 &&& 31)) ^^^ ((-1) : Int32)))), (0, .ref (q (o + 0))), (1, .ref (q1 (o1 + 0))), (2, .int v2)]) hx hb dX3_numberTo_55 hl (k := 5) rfl rfl (by decide) rfl (fun ls hl => ?_)
          refine lv_goto (tgt := 5) hx hb dX3_numberTo_58 rfl ?_
          exact ih _ _ _ _ _ _ _ _ hf hw (lv_sub hl [3, 4, 5, 1, 0] rfl)
set_option maxHeartbeats 4000000 in
set_option maxRecDepth 100000 in
theorem c_X3_numberTo (l : Launch) (G : zG) (q : Nat → Nat) (o : Nat) (q1 : Nat → Nat) (o1 : Nat) (S : VX3) (P1 : VX2) (v2 : Int32) (y : Int32) (hf : f_X3_numberTo S P1 v2 = some y) : zMet l yX3_numberTo wsX3_numberTo 3 80 G [.ref (q (o + 0)), .ref (q1 (o1 + 0)), .int v2] [bX3 G q o S.1 S.2.1 S.2.2.1 S.2.2.2, bX2 G q1 o1 P1.1 P1.2.1 P1.2.2.1 P1.2.2.2.1 P1.2.2.2.2.1 P1.2.2.2.2.2.1 P1.2.2.2.2.2.2.1 P1.2.2.2.2.2.2.2] (some (.int y)) [bX3 G q o S.1 S.2.1 S.2.2.1 S.2.2.2, bX2 G q1 o1 P1.1 P1.2.1 P1.2.2.1 P1.2.2.2.1 P1.2.2.2.2.1 P1.2.2.2.2.2.1 P1.2.2.2.2.2.2.1 P1.2.2.2.2.2.2.2] := by
  refine z_met zc_X3_numberTo (Nat.le_of_ble_eq_true rfl) ?_
  intro p e s m below meth c A ls hZ hl hw
  have hl : lv_has ls 6 [(0, .ref (q (o + 0))), (1, .ref (q1 (o1 + 0))), (2, .int v2)] := hl
  obtain ⟨hS0, hr, hlk, hK, hA, hT⟩ := id hZ
  have hx := hS0.1
  have hb := hS0.2.1
  have hml := hS0.2.2.1
  have hown : s.vm.findClass RX3 = some m.cls := hS0.2.2.2.1
  have hts := hS0.2.2.2.2
  unfold f_X3_numberTo at hf
  refine lv_iconst (v := 0) hx hb dX3_numberTo_0 rfl ?_
  refine lv_istore_n (lv' := [(3, .int 0), (0, .ref (q (o + 0))), (1, .ref (q1 (o1 + 0))), (2, .int v2)]) hx hb dX3_numberTo_1 rfl hl (by decide) rfl (fun ls hl => ?_)
  refine lv_iconst (v := 0) hx hb dX3_numberTo_2 rfl ?_
  refine lv_istore (lv' := [(4, .int 0), (3, .int 0), (0, .ref (q (o + 0))), (1, .ref (q1 (o1 + 0))), (2, .int v2)]) hx hb dX3_numberTo_3 hl (by decide) rfl (fun ls hl => ?_)
  exact k_X3_numberTo_5 hZ _ 4096 _ _ _ _ _ _ _ _ hf hw (lv_sub hl [2, 3, 4, 1, 0] rfl)
theorem zc_X3_howMany : zC yX3_howMany wsX3_howMany cX3_howMany 4 (some .int) 2 := ⟨⟨_, rfl⟩, by decide +kernel, by decide +kernel, by decide +kernel, by decide +kernel⟩
theorem m_X3_howMany_0 : (.fieldLink RX3 9 "CellKeys$Orders" "numbers" "[I" : Cond) ∈ wsX3_howMany := by decide +kernel
theorem in_X3_howMany_X3 : ∀ w ∈ u_ws RX3 TX3 4, w ∈ wsX3_howMany := by decide +kernel
set_option maxHeartbeats 4000000 in
set_option maxRecDepth 100000 in
theorem k_X3_howMany_22 {p : Program} {l : Launch} {e : Env} {s : State} {m : MethodId} {args : Array Value} {below : List Frame} {meth : Method} {c : Code} {A : Nat → Prop} {G : zG} {q : Nat → Nat} {o : Nat} {q1 : Nat → Nat} {o1 : Nat}  (hZ : zZ p s m args meth c A G cX3_howMany 4 RX3 wsX3_howMany (some .int)) (y : Int32 × VX3)  (n : Nat) : ∀ (S : VX3) (P1 : VX2) (v2 : Int32) (v3 : Int32) (H : Heap) (locs : List Loc) (ls : Array Slot), f_X3_howMany_22 n S P1 v2 v3 = some y → zH G A s.heap [bX3 G q o S.1 S.2.1 S.2.2.1 S.2.2.2, bX2 G q1 o1 P1.1 P1.2.1 P1.2.2.1 P1.2.2.2.1 P1.2.2.2.2.1 P1.2.2.2.2.2.1 P1.2.2.2.2.2.2.1 P1.2.2.2.2.2.2.2] H locs → lv_has ls 4 [(0, .ref (q (o + 0))), (1, .ref (q1 (o1 + 0))), (2, .int v2), (3, .int v3)] → W p l e { frames := 4, cells := 0, slots := 0, locals := 105 } s m args below meth c H locs 0 0 (MQ below (zQ (some (.int y.1)) (zPost G [bX3 G q o y.2.1 y.2.2.1 y.2.2.2.1 y.2.2.2.2, bX2 G q1 o1 P1.1 P1.2.1 P1.2.2.1 P1.2.2.2.1 P1.2.2.2.2.1 P1.2.2.2.2.2.1 P1.2.2.2.2.2.2.1 P1.2.2.2.2.2.2.2]) A) args s 0 0 A) (F0 m 22 ls []) := by
  obtain ⟨hS0, hr, hlk, hK, hA, hT⟩ := id hZ
  have hx := hS0.1
  have hb := hS0.2.1
  have hml := hS0.2.2.1
  have hown : s.vm.findClass RX3 = some m.cls := hS0.2.2.2.1
  have hts := hS0.2.2.2.2
  induction n with
  | zero =>
    intro S P1 v2 v3 H locs ls hf hw hl
    unfold f_X3_howMany_22 at hf
    cases hf
  | succ n ih =>
    intro S P1 v2 v3 H locs ls hf hw hl
    unfold f_X3_howMany_22 at hf
    refine lv_iload_n hx hb dX3_howMany_22 rfl (lv_at hl 3 rfl) ?_
    refine lv_iload_n hx hb dX3_howMany_23 rfl (lv_at hl 2 rfl) ?_
    refine lv_icmp_gt (tgt := 57) hx hb dX3_howMany_24 rfl (fun hc => ?_) (fun hc => ?_)
    · have hf := z_t hc hf
      refine lv_aload_n hx hb dX3_howMany_57 rfl (lv_at hl 0 rfl) ?_
      refine z_get hS0 in_X3_howMany_X3 hK hw 0 0 rfl rfl rfl (by decide) (hts _ m_X3_howMany_0) (v := .ref (q (o + 1))) rfl dX3_howMany_58 ?_
      refine lv_iload_n hx hb dX3_howMany_61 rfl (lv_at hl 2 rfl) ?_
      obtain ⟨g1, hf⟩ := z_gd hf
      refine z_iald hS0 hK hw 0 1 (zIn_vp g1) rfl rfl dX3_howMany_62 ?_
      cases hf
      exact z_iret hx hb hr hlk hw dX3_howMany_63
    · have hf := z_f hc hf
      refine lv_aload_n hx hb dX3_howMany_27 rfl (lv_at hl 0 rfl) ?_
      refine z_get hS0 in_X3_howMany_X3 hK hw 0 0 rfl rfl rfl (by decide) (hts _ m_X3_howMany_0) (v := .ref (q (o + 1))) rfl dX3_howMany_28 ?_
      refine lv_iload_n hx hb dX3_howMany_31 rfl (lv_at hl 3 rfl) ?_
      refine lv_iload_n hx hb dX3_howMany_32 rfl (lv_at hl 3 rfl) ?_
      refine lv_iload_n hx hb dX3_howMany_33 rfl (lv_at hl 2 rfl) ?_
      refine lv_iconst (v := (-1)) hx hb dX3_howMany_34 rfl ?_
      refine lv_ixor hx hb dX3_howMany_35 ?_
      refine lv_iand hx hb dX3_howMany_36 ?_
      refine lv_if_ne (tgt := 49) hx hb dX3_howMany_37 rfl (fun hc => ?_) (fun hc => ?_)
      · have hf := z_f hc hf
        refine lv_iconst (v := 0) hx hb dX3_howMany_49 rfl ?_
        obtain ⟨g2, hf⟩ := z_gd hf
        refine z_iast (blk' := bX3 G q o (upd S.1 v3.toNatClampNeg 0) S.2.1 S.2.2.1 S.2.2.2) (bs' := [bX3 G q o (upd S.1 v3.toNatClampNeg 0) S.2.1 S.2.2.1 S.2.2.2, bX2 G q1 o1 P1.1 P1.2.1 P1.2.2.1 P1.2.2.2.1 P1.2.2.2.2.1 P1.2.2.2.2.2.1 P1.2.2.2.2.2.2.1 P1.2.2.2.2.2.2.2]) hS0 hK hw 0 1 (zIn_vp g2) rfl rfl dX3_howMany_50 rfl rfl (fun H locs hw => ?_)
        refine lv_iinc (v := (v3 + 1)) (lv' := [(3, .int (v3 + 1)), (0, .ref (q (o + 0))), (1, .ref (q1 (o1 + 0))), (2, .int v2)]) hx hb dX3_howMany_51 hl (k := 3) rfl rfl (by decide) rfl (fun ls hl => ?_)
        refine lv_goto (tgt := 22) hx hb dX3_howMany_54 rfl ?_
        exact ih _ _ _ _ _ _ _ hf hw (lv_sub hl [1, 2, 3, 0] rfl)
      · have hf := z_t hc hf
        refine lv_aload_n hx hb dX3_howMany_40 rfl (lv_at hl 0 rfl) ?_
        refine lv_aload_n hx hb dX3_howMany_41 rfl (lv_at hl 1 rfl) ?_
        refine lv_iload_n hx hb dX3_howMany_42 rfl (lv_at hl 3 rfl) ?_
        obtain ⟨r3, e4, hf⟩ := z_bd hf
        refine z_callV1 (As := [.ref (q1 (o1 + 0)), .int v3]) (rest := [.int v3, .ref (q (o + 1))]) (bs' := [bX3 G q o S.1 S.2.1 S.2.2.1 S.2.2.2, bX2 G q1 o1 P1.1 P1.2.1 P1.2.2.1 P1.2.2.2.1 P1.2.2.2.2.1 P1.2.2.2.2.2.1 P1.2.2.2.2.2.2.1 P1.2.2.2.2.2.2.2]) hS0 (c_X3_numberTo l G q o q1 o1 S P1 v3 r3 e4) zc_X3_numberTo rfl gX3_howMany_X3_numberTo ⟨Nat.le_of_ble_eq_true rfl, Nat.le_of_ble_eq_true rfl⟩ hK hA hT hw (is := [0, 1]) rfl rfl rfl rfl rfl rfl rfl hl.1 rfl (Nat.le_of_ble_eq_true rfl) dX3_howMany_43 (fun H locs hw => ?_)
        refine lv_goto (tgt := 50) hx hb dX3_howMany_46 rfl ?_
        obtain ⟨g5, hf⟩ := z_gd hf
        refine z_iast (blk' := bX3 G q o (upd S.1 v3.toNatClampNeg r3) S.2.1 S.2.2.1 S.2.2.2) (bs' := [bX3 G q o (upd S.1 v3.toNatClampNeg r3) S.2.1 S.2.2.1 S.2.2.2, bX2 G q1 o1 P1.1 P1.2.1 P1.2.2.1 P1.2.2.2.1 P1.2.2.2.2.1 P1.2.2.2.2.2.1 P1.2.2.2.2.2.2.1 P1.2.2.2.2.2.2.2]) hS0 hK hw 0 1 (zIn_vp g5) rfl rfl dX3_howMany_50 rfl rfl (fun H locs hw => ?_)
        refine lv_iinc (v := (v3 + 1)) (lv' := [(3, .int (v3 + 1)), (0, .ref (q (o + 0))), (1, .ref (q1 (o1 + 0))), (2, .int v2)]) hx hb dX3_howMany_51 hl (k := 3) rfl rfl (by decide) rfl (fun ls hl => ?_)
        refine lv_goto (tgt := 22) hx hb dX3_howMany_54 rfl ?_
        exact ih _ _ _ _ _ _ _ hf hw (lv_sub hl [1, 2, 3, 0] rfl)
set_option maxHeartbeats 4000000 in
set_option maxRecDepth 100000 in
theorem c_X3_howMany (l : Launch) (G : zG) (q : Nat → Nat) (o : Nat) (q1 : Nat → Nat) (o1 : Nat) (S : VX3) (P1 : VX2) (v2 : Int32) (y : Int32 × VX3) (hf : f_X3_howMany S P1 v2 = some y) : zMet l yX3_howMany wsX3_howMany 4 105 G [.ref (q (o + 0)), .ref (q1 (o1 + 0)), .int v2] [bX3 G q o S.1 S.2.1 S.2.2.1 S.2.2.2, bX2 G q1 o1 P1.1 P1.2.1 P1.2.2.1 P1.2.2.2.1 P1.2.2.2.2.1 P1.2.2.2.2.2.1 P1.2.2.2.2.2.2.1 P1.2.2.2.2.2.2.2] (some (.int y.1)) [bX3 G q o y.2.1 y.2.2.1 y.2.2.2.1 y.2.2.2.2, bX2 G q1 o1 P1.1 P1.2.1 P1.2.2.1 P1.2.2.2.1 P1.2.2.2.2.1 P1.2.2.2.2.2.1 P1.2.2.2.2.2.2.1 P1.2.2.2.2.2.2.2] := by
  refine z_met zc_X3_howMany (Nat.le_of_ble_eq_true rfl) ?_
  intro p e s m below meth c A ls hZ hl hw
  have hl : lv_has ls 4 [(0, .ref (q (o + 0))), (1, .ref (q1 (o1 + 0))), (2, .int v2)] := hl
  obtain ⟨hS0, hr, hlk, hK, hA, hT⟩ := id hZ
  have hx := hS0.1
  have hb := hS0.2.1
  have hml := hS0.2.2.1
  have hown : s.vm.findClass RX3 = some m.cls := hS0.2.2.2.1
  have hts := hS0.2.2.2.2
  unfold f_X3_howMany at hf
  refine lv_iload_n hx hb dX3_howMany_0 rfl (lv_at hl 2 rfl) ?_
  refine lv_if_lt (tgt := 11) hx hb dX3_howMany_1 rfl (fun hc => ?_) (fun hc => ?_)
  · have hf := z_t hc hf
    refine lv_iconst (v := 0) hx hb dX3_howMany_11 rfl ?_
    cases hf
    exact z_iret hx hb hr hlk hw dX3_howMany_12
  · have hf := z_f hc hf
    refine lv_iload_n hx hb dX3_howMany_4 rfl (lv_at hl 2 rfl) ?_
    refine lv_sipush (v := 256) hx hb dX3_howMany_5 rfl ?_
    refine lv_icmp_lt (tgt := 13) hx hb dX3_howMany_8 rfl (fun hc => ?_) (fun hc => ?_)
    · have hf := z_t hc hf
      refine lv_aload_n hx hb dX3_howMany_13 rfl (lv_at hl 0 rfl) ?_
      refine z_get hS0 in_X3_howMany_X3 hK hw 0 0 rfl rfl rfl (by decide) (hts _ m_X3_howMany_0) (v := .ref (q (o + 1))) rfl dX3_howMany_14 ?_
      refine lv_iconst (v := 0) hx hb dX3_howMany_17 rfl ?_
      refine lv_iconst (v := 1) hx hb dX3_howMany_18 rfl ?_
      obtain ⟨g6, hf⟩ := z_gd hf
      refine z_iast (blk' := bX3 G q o (upd S.1 (0 : Int32).toNatClampNeg 1) S.2.1 S.2.2.1 S.2.2.2) (bs' := [bX3 G q o (upd S.1 (0 : Int32).toNatClampNeg 1) S.2.1 S.2.2.1 S.2.2.2, bX2 G q1 o1 P1.1 P1.2.1 P1.2.2.1 P1.2.2.2.1 P1.2.2.2.2.1 P1.2.2.2.2.2.1 P1.2.2.2.2.2.2.1 P1.2.2.2.2.2.2.2]) hS0 hK hw 0 1 (zIn_vp g6) rfl rfl dX3_howMany_19 rfl rfl (fun H locs hw => ?_)
      refine lv_iconst (v := 1) hx hb dX3_howMany_20 rfl ?_
      refine lv_istore_n (lv' := [(3, .int 1), (0, .ref (q (o + 0))), (1, .ref (q1 (o1 + 0))), (2, .int v2)]) hx hb dX3_howMany_21 rfl hl (by decide) rfl (fun ls hl => ?_)
      exact k_X3_howMany_22 hZ _ 4096 _ _ _ _ _ _ _ hf hw (lv_sub hl [1, 2, 3, 0] rfl)
    · have hf := z_f hc hf
      refine lv_iconst (v := 0) hx hb dX3_howMany_11 rfl ?_
      cases hf
      exact z_iret hx hb hr hlk hw dX3_howMany_12
theorem zc_X3_stepAt : zC yX3_stepAt wsX3_stepAt cX3_stepAt 2 (some .int) 1 := ⟨⟨_, rfl⟩, by decide +kernel, by decide +kernel, by decide +kernel, by decide +kernel⟩
theorem m_X3_stepAt_0 : (.fieldLink RX3 21 "CellKeys$Orders" "steps" "[I" : Cond) ∈ wsX3_stepAt := by decide +kernel
theorem in_X3_stepAt_X3 : ∀ w ∈ u_ws RX3 TX3 4, w ∈ wsX3_stepAt := by decide +kernel
set_option maxHeartbeats 4000000 in
set_option maxRecDepth 100000 in
theorem c_X3_stepAt (l : Launch) (G : zG) (q : Nat → Nat) (o : Nat) (S : VX3) (v1 : Int32) (y : Int32) (hf : f_X3_stepAt S v1 = some y) : zMet l yX3_stepAt wsX3_stepAt 0 0 G [.ref (q (o + 0)), .int v1] [bX3 G q o S.1 S.2.1 S.2.2.1 S.2.2.2] (some (.int y)) [bX3 G q o S.1 S.2.1 S.2.2.1 S.2.2.2] := by
  refine z_met zc_X3_stepAt (Nat.le_of_ble_eq_true rfl) ?_
  intro p e s m below meth c A ls hZ hl hw
  have hl : lv_has ls 2 [(0, .ref (q (o + 0))), (1, .int v1)] := hl
  obtain ⟨hS0, hr, hlk, hK, hA, hT⟩ := id hZ
  have hx := hS0.1
  have hb := hS0.2.1
  have hml := hS0.2.2.1
  have hown : s.vm.findClass RX3 = some m.cls := hS0.2.2.2.1
  have hts := hS0.2.2.2.2
  unfold f_X3_stepAt at hf
  refine lv_iload_n hx hb dX3_stepAt_0 rfl (lv_at hl 1 rfl) ?_
  refine lv_if_lt (tgt := 19) hx hb dX3_stepAt_1 rfl (fun hc => ?_) (fun hc => ?_)
  · have hf := z_t hc hf
    refine lv_bipush (v := (-9)) hx hb dX3_stepAt_19 rfl ?_
    cases hf
    exact z_iret hx hb hr hlk hw dX3_stepAt_21
  · have hf := z_f hc hf
    refine lv_iload_n hx hb dX3_stepAt_4 rfl (lv_at hl 1 rfl) ?_
    refine lv_bipush (v := 8) hx hb dX3_stepAt_5 rfl ?_
    refine lv_icmp_ge (tgt := 19) hx hb dX3_stepAt_7 rfl (fun hc => ?_) (fun hc => ?_)
    · have hf := z_t hc hf
      refine lv_bipush (v := (-9)) hx hb dX3_stepAt_19 rfl ?_
      cases hf
      exact z_iret hx hb hr hlk hw dX3_stepAt_21
    · have hf := z_f hc hf
      refine lv_aload_n hx hb dX3_stepAt_10 rfl (lv_at hl 0 rfl) ?_
      refine z_get hS0 in_X3_stepAt_X3 hK hw 0 3 rfl rfl rfl (by decide) (hts _ m_X3_stepAt_0) (v := .ref (q (o + 4))) rfl dX3_stepAt_11 ?_
      refine lv_iload_n hx hb dX3_stepAt_14 rfl (lv_at hl 1 rfl) ?_
      obtain ⟨g1, hf⟩ := z_gd hf
      refine z_iald hS0 hK hw 0 4 (zIn_vp g1) rfl rfl dX3_stepAt_15 ?_
      refine lv_goto (tgt := 21) hx hb dX3_stepAt_16 rfl ?_
      cases hf
      exact z_iret hx hb hr hlk hw dX3_stepAt_21
theorem zc_X0_favoursOrNever : zC yX0_favoursOrNever wsX0_favoursOrNever cX0_favoursOrNever 3 (some .int) 1 := ⟨⟨_, rfl⟩, by decide +kernel, by decide +kernel, by decide +kernel, by decide +kernel⟩
theorem m_X0_favoursOrNever_0 : (.fieldLink RX0 21 "CellKeys$Dealer" "reach" "LCellKeys$Reach;" : Cond) ∈ wsX0_favoursOrNever := by decide +kernel
theorem in_X0_favoursOrNever_X0 : ∀ w ∈ u_ws RX0 TX0 4, w ∈ wsX0_favoursOrNever := by decide +kernel
set_option maxHeartbeats 4000000 in
set_option maxRecDepth 100000 in
theorem c_X0_favoursOrNever (l : Launch) (G : zG) (q : Nat → Nat) (o : Nat) (S : VX0) (v1 : Int32) (y : Int32) (hf : f_X0_favoursOrNever S v1 = some y) : zMet l yX0_favoursOrNever wsX0_favoursOrNever 2 45 G [.ref (q (o + 0)), .int v1] [bX0 G q o S.2.2.1 S.2.2.2, bX2 G q (o + 3) S.1.1 S.1.2.1 S.1.2.2.1 S.1.2.2.2.1 S.1.2.2.2.2.1 S.1.2.2.2.2.2.1 S.1.2.2.2.2.2.2.1 S.1.2.2.2.2.2.2.2, bX4 G q (o + 9) S.2.1.1 S.2.1.2] (some (.int y)) [bX0 G q o S.2.2.1 S.2.2.2, bX2 G q (o + 3) S.1.1 S.1.2.1 S.1.2.2.1 S.1.2.2.2.1 S.1.2.2.2.2.1 S.1.2.2.2.2.2.1 S.1.2.2.2.2.2.2.1 S.1.2.2.2.2.2.2.2, bX4 G q (o + 9) S.2.1.1 S.2.1.2] := by
  refine z_met zc_X0_favoursOrNever (Nat.le_of_ble_eq_true rfl) ?_
  intro p e s m below meth c A ls hZ hl hw
  have hl : lv_has ls 3 [(0, .ref (q (o + 0))), (1, .int v1)] := hl
  obtain ⟨hS0, hr, hlk, hK, hA, hT⟩ := id hZ
  have hx := hS0.1
  have hb := hS0.2.1
  have hml := hS0.2.2.1
  have hown : s.vm.findClass RX0 = some m.cls := hS0.2.2.2.1
  have hts := hS0.2.2.2.2
  unfold f_X0_favoursOrNever at hf
  refine lv_aload_n hx hb dX0_favoursOrNever_0 rfl (lv_at hl 0 rfl) ?_
  refine z_get hS0 in_X0_favoursOrNever_X0 hK hw 0 1 rfl rfl rfl (by decide) (hts _ m_X0_favoursOrNever_0) (v := .ref (q ((o + 9) + 0))) rfl dX0_favoursOrNever_1 ?_
  refine lv_iload_n hx hb dX0_favoursOrNever_4 rfl (lv_at hl 1 rfl) ?_
  obtain ⟨r1, e2, hf⟩ := z_bd hf
  refine z_callV1 (As := [.int v1]) (rest := []) (bs' := [bX0 G q o S.2.2.1 S.2.2.2, bX2 G q (o + 3) S.1.1 S.1.2.1 S.1.2.2.1 S.1.2.2.2.1 S.1.2.2.2.2.1 S.1.2.2.2.2.2.1 S.1.2.2.2.2.2.2.1 S.1.2.2.2.2.2.2.2, bX4 G q (o + 9) S.2.1.1 S.2.1.2]) hS0 (c_X4_leastFor l G q (o + 9) S.2.1 v1 r1 e2) zc_X4_leastFor rfl gX0_favoursOrNever_X4_leastFor ⟨Nat.le_of_ble_eq_true rfl, Nat.le_of_ble_eq_true rfl⟩ hK hA hT hw (is := [2]) rfl rfl rfl rfl rfl rfl rfl hl.1 rfl (Nat.le_of_ble_eq_true rfl) dX0_favoursOrNever_5 (fun H locs hw => ?_)
  refine lv_istore_n (lv' := [(2, .int r1), (0, .ref (q (o + 0))), (1, .int v1)]) hx hb dX0_favoursOrNever_8 rfl hl (by decide) rfl (fun ls hl => ?_)
  refine lv_iload_n hx hb dX0_favoursOrNever_9 rfl (lv_at hl 0 rfl) ?_
  refine lv_bipush (v := (-9)) hx hb dX0_favoursOrNever_10 rfl ?_
  refine lv_icmp_ne (tgt := 20) hx hb dX0_favoursOrNever_12 rfl (fun hc => ?_) (fun hc => ?_)
  · have hf := z_f hc hf
    refine lv_iload_n hx hb dX0_favoursOrNever_20 rfl (lv_at hl 0 rfl) ?_
    cases hf
    exact z_iret hx hb hr hlk hw dX0_favoursOrNever_21
  · have hf := z_t hc hf
    refine lv_bipush (v := 99) hx hb dX0_favoursOrNever_15 rfl ?_
    refine lv_goto (tgt := 21) hx hb dX0_favoursOrNever_17 rfl ?_
    cases hf
    exact z_iret hx hb hr hlk hw dX0_favoursOrNever_21
theorem zc_X0_wouldTrade : zC yX0_wouldTrade wsX0_wouldTrade cX0_wouldTrade 2 (some .boolean) 1 := ⟨⟨_, rfl⟩, by decide +kernel, by decide +kernel, by decide +kernel, by decide +kernel⟩
theorem m_X0_wouldTrade_0 : (.fieldLink RX0 29 "CellKeys$Dealer" "wanted" "[I" : Cond) ∈ wsX0_wouldTrade := by decide +kernel
theorem in_X0_wouldTrade_X0 : ∀ w ∈ u_ws RX0 TX0 4, w ∈ wsX0_wouldTrade := by decide +kernel
set_option maxHeartbeats 4000000 in
set_option maxRecDepth 100000 in
theorem c_X0_wouldTrade (l : Launch) (G : zG) (q : Nat → Nat) (o : Nat) (S : VX0) (v1 : Int32) (y : Int32) (hf : f_X0_wouldTrade S v1 = some y) : zMet l yX0_wouldTrade wsX0_wouldTrade 3 67 G [.ref (q (o + 0)), .int v1] [bX0 G q o S.2.2.1 S.2.2.2, bX2 G q (o + 3) S.1.1 S.1.2.1 S.1.2.2.1 S.1.2.2.2.1 S.1.2.2.2.2.1 S.1.2.2.2.2.2.1 S.1.2.2.2.2.2.2.1 S.1.2.2.2.2.2.2.2, bX4 G q (o + 9) S.2.1.1 S.2.1.2] (some (.int y)) [bX0 G q o S.2.2.1 S.2.2.2, bX2 G q (o + 3) S.1.1 S.1.2.1 S.1.2.2.1 S.1.2.2.2.1 S.1.2.2.2.2.1 S.1.2.2.2.2.2.1 S.1.2.2.2.2.2.2.1 S.1.2.2.2.2.2.2.2, bX4 G q (o + 9) S.2.1.1 S.2.1.2] := by
  refine z_met zc_X0_wouldTrade (Nat.le_of_ble_eq_true rfl) ?_
  intro p e s m below meth c A ls hZ hl hw
  have hl : lv_has ls 2 [(0, .ref (q (o + 0))), (1, .int v1)] := hl
  obtain ⟨hS0, hr, hlk, hK, hA, hT⟩ := id hZ
  have hx := hS0.1
  have hb := hS0.2.1
  have hml := hS0.2.2.1
  have hown : s.vm.findClass RX0 = some m.cls := hS0.2.2.2.1
  have hts := hS0.2.2.2.2
  unfold f_X0_wouldTrade at hf
  refine lv_iload_n hx hb dX0_wouldTrade_0 rfl (lv_at hl 1 rfl) ?_
  refine lv_if_lt (tgt := 28) hx hb dX0_wouldTrade_1 rfl (fun hc => ?_) (fun hc => ?_)
  · have hf := z_t hc hf
    refine lv_iconst (v := 0) hx hb dX0_wouldTrade_28 rfl ?_
    cases hf
    exact z_zret hx hb hr (z_nb (Or.inl rfl)) hlk hw dX0_wouldTrade_29
  · have hf := z_f hc hf
    refine lv_iload_n hx hb dX0_wouldTrade_4 rfl (lv_at hl 1 rfl) ?_
    refine lv_bipush (v := 8) hx hb dX0_wouldTrade_5 rfl ?_
    refine lv_icmp_ge (tgt := 28) hx hb dX0_wouldTrade_7 rfl (fun hc => ?_) (fun hc => ?_)
    · have hf := z_t hc hf
      refine lv_iconst (v := 0) hx hb dX0_wouldTrade_28 rfl ?_
      cases hf
      exact z_zret hx hb hr (z_nb (Or.inl rfl)) hlk hw dX0_wouldTrade_29
    · have hf := z_f hc hf
      refine lv_aload_n hx hb dX0_wouldTrade_10 rfl (lv_at hl 0 rfl) ?_
      refine lv_iload_n hx hb dX0_wouldTrade_11 rfl (lv_at hl 1 rfl) ?_
      obtain ⟨r1, e2, hf⟩ := z_bd hf
      refine z_callV1 (As := [.int v1]) (rest := []) (bs' := [bX0 G q o S.2.2.1 S.2.2.2, bX2 G q (o + 3) S.1.1 S.1.2.1 S.1.2.2.1 S.1.2.2.2.1 S.1.2.2.2.2.1 S.1.2.2.2.2.2.1 S.1.2.2.2.2.2.2.1 S.1.2.2.2.2.2.2.2, bX4 G q (o + 9) S.2.1.1 S.2.1.2]) hS0 (c_X0_favoursOrNever l G q o S v1 r1 e2) zc_X0_favoursOrNever rfl gX0_wouldTrade_X0_favoursOrNever ⟨Nat.le_of_ble_eq_true rfl, Nat.le_of_ble_eq_true rfl⟩ hK hA hT hw (is := [0, 1, 2]) rfl rfl rfl rfl rfl rfl rfl hl.1 rfl (Nat.le_of_ble_eq_true rfl) dX0_wouldTrade_12 (fun H locs hw => ?_)
      refine lv_aload_n hx hb dX0_wouldTrade_15 rfl (lv_at hl 0 rfl) ?_
      refine z_get hS0 in_X0_wouldTrade_X0 hK hw 0 3 rfl rfl rfl (by decide) (hts _ m_X0_wouldTrade_0) (v := .ref (q (o + 2))) rfl dX0_wouldTrade_16 ?_
      refine lv_iload_n hx hb dX0_wouldTrade_19 rfl (lv_at hl 1 rfl) ?_
      obtain ⟨g3, hf⟩ := z_gd hf
      refine z_iald hS0 hK hw 0 2 (zIn_vp g3) rfl rfl dX0_wouldTrade_20 ?_
      refine lv_icmp_ge (tgt := 28) hx hb dX0_wouldTrade_21 rfl (fun hc => ?_) (fun hc => ?_)
      · have hf := z_t hc hf
        refine lv_iconst (v := 0) hx hb dX0_wouldTrade_28 rfl ?_
        cases hf
        exact z_zret hx hb hr (z_nb (Or.inl rfl)) hlk hw dX0_wouldTrade_29
      · have hf := z_f hc hf
        refine lv_iconst (v := 1) hx hb dX0_wouldTrade_24 rfl ?_
        refine lv_goto (tgt := 29) hx hb dX0_wouldTrade_25 rfl ?_
        cases hf
        exact z_zret hx hb hr (z_nb (Or.inr rfl)) hlk hw dX0_wouldTrade_29
theorem zc_X0_helpsBoth : zC yX0_helpsBoth wsX0_helpsBoth cX0_helpsBoth 6 (some .boolean) 3 := ⟨⟨_, rfl⟩, by decide +kernel, by decide +kernel, by decide +kernel, by decide +kernel⟩
theorem m_X0_helpsBoth_0 : (.fieldLink RX0 21 "CellKeys$Dealer" "reach" "LCellKeys$Reach;" : Cond) ∈ wsX0_helpsBoth := by decide +kernel
theorem in_X0_helpsBoth_X0 : ∀ w ∈ u_ws RX0 TX0 4, w ∈ wsX0_helpsBoth := by decide +kernel
set_option maxHeartbeats 4000000 in
set_option maxRecDepth 100000 in
theorem k_X0_helpsBoth_60 {p : Program} {l : Launch} {e : Env} {s : State} {m : MethodId} {args : Array Value} {below : List Frame} {meth : Method} {c : Code} {A : Nat → Prop} {G : zG} {q : Nat → Nat} {o : Nat} {q1 : Nat → Nat} {o1 : Nat}  (hZ : zZ p s m args meth c A G cX0_helpsBoth 6 RX0 wsX0_helpsBoth (some .boolean)) (y : Int32 × VX0 × VX2)  : ∀ (S : VX0) (P1 : VX2) (v2 : Int32) (v3 : Int32) (v4 : Int32) (v5 : Int32) (H : Heap) (locs : List Loc) (ls : Array Slot), f_X0_helpsBoth_60 S P1 v2 v3 v4 v5 = some y → zH G A s.heap [bX0 G q o S.2.2.1 S.2.2.2, bX2 G q (o + 3) S.1.1 S.1.2.1 S.1.2.2.1 S.1.2.2.2.1 S.1.2.2.2.2.1 S.1.2.2.2.2.2.1 S.1.2.2.2.2.2.2.1 S.1.2.2.2.2.2.2.2, bX4 G q (o + 9) S.2.1.1 S.2.1.2, bX2 G q1 o1 P1.1 P1.2.1 P1.2.2.1 P1.2.2.2.1 P1.2.2.2.2.1 P1.2.2.2.2.2.1 P1.2.2.2.2.2.2.1 P1.2.2.2.2.2.2.2] H locs → lv_has ls 6 [(1, .ref (q1 (o1 + 0))), (2, .int v2), (3, .int v3), (4, .int v4), (5, .int v5)] → W p l e { frames := 4, cells := 0, slots := 0, locals := 107 } s m args below meth c H locs 0 0 (MQ below (zQ (some (.int y.1)) (zPost G [bX0 G q o y.2.1.2.2.1 y.2.1.2.2.2, bX2 G q (o + 3) y.2.1.1.1 y.2.1.1.2.1 y.2.1.1.2.2.1 y.2.1.1.2.2.2.1 y.2.1.1.2.2.2.2.1 y.2.1.1.2.2.2.2.2.1 y.2.1.1.2.2.2.2.2.2.1 y.2.1.1.2.2.2.2.2.2.2, bX4 G q (o + 9) y.2.1.2.1.1 y.2.1.2.1.2, bX2 G q1 o1 y.2.2.1 y.2.2.2.1 y.2.2.2.2.1 y.2.2.2.2.2.1 y.2.2.2.2.2.2.1 y.2.2.2.2.2.2.2.1 y.2.2.2.2.2.2.2.2.1 y.2.2.2.2.2.2.2.2.2]) A) args s 0 0 A) (F0 m 60 ls []) := by
  obtain ⟨hS0, hr, hlk, hK, hA, hT⟩ := id hZ
  have hx := hS0.1
  have hb := hS0.2.1
  have hml := hS0.2.2.1
  have hown : s.vm.findClass RX0 = some m.cls := hS0.2.2.2.1
  have hts := hS0.2.2.2.2
  intro S P1 v2 v3 v4 v5 H locs ls hf hw hl
  unfold f_X0_helpsBoth_60 at hf
  refine lv_aload_n hx hb dX0_helpsBoth_60 rfl (lv_at hl 0 rfl) ?_
  refine lv_iload_n hx hb dX0_helpsBoth_61 rfl (lv_at hl 1 rfl) ?_
  refine lv_iload hx hb dX0_helpsBoth_62 (lv_at hl 3 rfl) ?_
  obtain ⟨r1, e2, hf⟩ := z_bd hf
  refine z_callV0 (As := [.int v2, .int v4]) (rest := []) (bs' := [bX0 G q o S.2.2.1 S.2.2.2, bX2 G q (o + 3) S.1.1 S.1.2.1 S.1.2.2.1 S.1.2.2.2.1 S.1.2.2.2.2.1 S.1.2.2.2.2.2.1 S.1.2.2.2.2.2.2.1 S.1.2.2.2.2.2.2.2, bX4 G q (o + 9) S.2.1.1 S.2.1.2, bX2 G q1 o1 r1.1 r1.2.1 r1.2.2.1 r1.2.2.2.1 r1.2.2.2.2.1 r1.2.2.2.2.2.1 r1.2.2.2.2.2.2.1 r1.2.2.2.2.2.2.2]) hS0 (c_X2_setKeeper l G q1 o1 P1 v2 v4 r1 e2) zc_X2_setKeeper rfl gX0_helpsBoth_X2_setKeeper ⟨Nat.le_of_ble_eq_true rfl, Nat.le_of_ble_eq_true rfl⟩ hK hA hT hw (is := [3]) rfl rfl rfl rfl rfl rfl rfl hl.1 rfl (Nat.le_of_ble_eq_true rfl) dX0_helpsBoth_64 (fun H locs hw => ?_)
  refine lv_aload_n hx hb dX0_helpsBoth_67 rfl (lv_at hl 0 rfl) ?_
  refine lv_iload_n hx hb dX0_helpsBoth_68 rfl (lv_at hl 2 rfl) ?_
  refine lv_iload hx hb dX0_helpsBoth_69 (lv_at hl 4 rfl) ?_
  obtain ⟨r3, e4, hf⟩ := z_bd hf
  refine z_callV0 (As := [.int v3, .int v5]) (rest := []) (bs' := [bX0 G q o S.2.2.1 S.2.2.2, bX2 G q (o + 3) S.1.1 S.1.2.1 S.1.2.2.1 S.1.2.2.2.1 S.1.2.2.2.2.1 S.1.2.2.2.2.2.1 S.1.2.2.2.2.2.2.1 S.1.2.2.2.2.2.2.2, bX4 G q (o + 9) S.2.1.1 S.2.1.2, bX2 G q1 o1 r3.1 r3.2.1 r3.2.2.1 r3.2.2.2.1 r3.2.2.2.2.1 r3.2.2.2.2.2.1 r3.2.2.2.2.2.2.1 r3.2.2.2.2.2.2.2]) hS0 (c_X2_setKeeper l G q1 o1 r1 v3 v5 r3 e4) zc_X2_setKeeper rfl gX0_helpsBoth_X2_setKeeper ⟨Nat.le_of_ble_eq_true rfl, Nat.le_of_ble_eq_true rfl⟩ hK hA hT hw (is := [3]) rfl rfl rfl rfl rfl rfl rfl hl.1 rfl (Nat.le_of_ble_eq_true rfl) dX0_helpsBoth_71 (fun H locs hw => ?_)
  refine lv_iconst (v := 0) hx hb dX0_helpsBoth_74 rfl ?_
  cases hf
  exact z_zret hx hb hr (z_nb (Or.inl rfl)) hlk hw dX0_helpsBoth_75
set_option maxHeartbeats 4000000 in
set_option maxRecDepth 100000 in
theorem c_X0_helpsBoth (l : Launch) (G : zG) (q : Nat → Nat) (o : Nat) (q1 : Nat → Nat) (o1 : Nat) (S : VX0) (P1 : VX2) (v2 : Int32) (v3 : Int32) (y : Int32 × VX0 × VX2) (hf : f_X0_helpsBoth S P1 v2 v3 = some y) : zMet l yX0_helpsBoth wsX0_helpsBoth 4 107 G [.ref (q (o + 0)), .ref (q1 (o1 + 0)), .int v2, .int v3] [bX0 G q o S.2.2.1 S.2.2.2, bX2 G q (o + 3) S.1.1 S.1.2.1 S.1.2.2.1 S.1.2.2.2.1 S.1.2.2.2.2.1 S.1.2.2.2.2.2.1 S.1.2.2.2.2.2.2.1 S.1.2.2.2.2.2.2.2, bX4 G q (o + 9) S.2.1.1 S.2.1.2, bX2 G q1 o1 P1.1 P1.2.1 P1.2.2.1 P1.2.2.2.1 P1.2.2.2.2.1 P1.2.2.2.2.2.1 P1.2.2.2.2.2.2.1 P1.2.2.2.2.2.2.2] (some (.int y.1)) [bX0 G q o y.2.1.2.2.1 y.2.1.2.2.2, bX2 G q (o + 3) y.2.1.1.1 y.2.1.1.2.1 y.2.1.1.2.2.1 y.2.1.1.2.2.2.1 y.2.1.1.2.2.2.2.1 y.2.1.1.2.2.2.2.2.1 y.2.1.1.2.2.2.2.2.2.1 y.2.1.1.2.2.2.2.2.2.2, bX4 G q (o + 9) y.2.1.2.1.1 y.2.1.2.1.2, bX2 G q1 o1 y.2.2.1 y.2.2.2.1 y.2.2.2.2.1 y.2.2.2.2.2.1 y.2.2.2.2.2.2.1 y.2.2.2.2.2.2.2.1 y.2.2.2.2.2.2.2.2.1 y.2.2.2.2.2.2.2.2.2] := by
  refine z_met zc_X0_helpsBoth (Nat.le_of_ble_eq_true rfl) ?_
  intro p e s m below meth c A ls hZ hl hw
  have hl : lv_has ls 6 [(0, .ref (q (o + 0))), (1, .ref (q1 (o1 + 0))), (2, .int v2), (3, .int v3)] := hl
  obtain ⟨hS0, hr, hlk, hK, hA, hT⟩ := id hZ
  have hx := hS0.1
  have hb := hS0.2.1
  have hml := hS0.2.2.1
  have hown : s.vm.findClass RX0 = some m.cls := hS0.2.2.2.1
  have hts := hS0.2.2.2.2
  unfold f_X0_helpsBoth at hf
  refine lv_aload_n hx hb dX0_helpsBoth_0 rfl (lv_at hl 1 rfl) ?_
  refine lv_iload_n hx hb dX0_helpsBoth_1 rfl (lv_at hl 2 rfl) ?_
  obtain ⟨r5, e6, hf⟩ := z_bd hf
  refine z_callV1 (As := [.int v2]) (rest := []) (bs' := [bX0 G q o S.2.2.1 S.2.2.2, bX2 G q (o + 3) S.1.1 S.1.2.1 S.1.2.2.1 S.1.2.2.2.1 S.1.2.2.2.2.1 S.1.2.2.2.2.2.1 S.1.2.2.2.2.2.2.1 S.1.2.2.2.2.2.2.2, bX4 G q (o + 9) S.2.1.1 S.2.1.2, bX2 G q1 o1 P1.1 P1.2.1 P1.2.2.1 P1.2.2.2.1 P1.2.2.2.2.1 P1.2.2.2.2.2.1 P1.2.2.2.2.2.2.1 P1.2.2.2.2.2.2.2]) hS0 (c_X2_keeperOf l G q1 o1 P1 v2 r5 e6) zc_X2_keeperOf rfl gX0_helpsBoth_X2_keeperOf ⟨Nat.le_of_ble_eq_true rfl, Nat.le_of_ble_eq_true rfl⟩ hK hA hT hw (is := [3]) rfl rfl rfl rfl rfl rfl rfl hl.1 rfl (Nat.le_of_ble_eq_true rfl) dX0_helpsBoth_2 (fun H locs hw => ?_)
  refine lv_istore (lv' := [(4, .int r5), (0, .ref (q (o + 0))), (1, .ref (q1 (o1 + 0))), (2, .int v2), (3, .int v3)]) hx hb dX0_helpsBoth_5 hl (by decide) rfl (fun ls hl => ?_)
  refine lv_aload_n hx hb dX0_helpsBoth_7 rfl (lv_at hl 2 rfl) ?_
  refine lv_iload_n hx hb dX0_helpsBoth_8 rfl (lv_at hl 4 rfl) ?_
  obtain ⟨r7, e8, hf⟩ := z_bd hf
  refine z_callV1 (As := [.int v3]) (rest := []) (bs' := [bX0 G q o S.2.2.1 S.2.2.2, bX2 G q (o + 3) S.1.1 S.1.2.1 S.1.2.2.1 S.1.2.2.2.1 S.1.2.2.2.2.1 S.1.2.2.2.2.2.1 S.1.2.2.2.2.2.2.1 S.1.2.2.2.2.2.2.2, bX4 G q (o + 9) S.2.1.1 S.2.1.2, bX2 G q1 o1 P1.1 P1.2.1 P1.2.2.1 P1.2.2.2.1 P1.2.2.2.2.1 P1.2.2.2.2.2.1 P1.2.2.2.2.2.2.1 P1.2.2.2.2.2.2.2]) hS0 (c_X2_keeperOf l G q1 o1 P1 v3 r7 e8) zc_X2_keeperOf rfl gX0_helpsBoth_X2_keeperOf ⟨Nat.le_of_ble_eq_true rfl, Nat.le_of_ble_eq_true rfl⟩ hK hA hT hw (is := [3]) rfl rfl rfl rfl rfl rfl rfl hl.1 rfl (Nat.le_of_ble_eq_true rfl) dX0_helpsBoth_9 (fun H locs hw => ?_)
  refine lv_istore (lv' := [(5, .int r7), (4, .int r5), (0, .ref (q (o + 0))), (1, .ref (q1 (o1 + 0))), (2, .int v2), (3, .int v3)]) hx hb dX0_helpsBoth_12 hl (by decide) rfl (fun ls hl => ?_)
  refine lv_aload_n hx hb dX0_helpsBoth_14 rfl (lv_at hl 3 rfl) ?_
  refine lv_iload_n hx hb dX0_helpsBoth_15 rfl (lv_at hl 4 rfl) ?_
  refine lv_iload hx hb dX0_helpsBoth_16 (lv_at hl 0 rfl) ?_
  obtain ⟨r9, e10, hf⟩ := z_bd hf
  refine z_callV0 (As := [.int v2, .int r7]) (rest := []) (bs' := [bX0 G q o S.2.2.1 S.2.2.2, bX2 G q (o + 3) S.1.1 S.1.2.1 S.1.2.2.1 S.1.2.2.2.1 S.1.2.2.2.2.1 S.1.2.2.2.2.2.1 S.1.2.2.2.2.2.2.1 S.1.2.2.2.2.2.2.2, bX4 G q (o + 9) S.2.1.1 S.2.1.2, bX2 G q1 o1 r9.1 r9.2.1 r9.2.2.1 r9.2.2.2.1 r9.2.2.2.2.1 r9.2.2.2.2.2.1 r9.2.2.2.2.2.2.1 r9.2.2.2.2.2.2.2]) hS0 (c_X2_setKeeper l G q1 o1 P1 v2 r7 r9 e10) zc_X2_setKeeper rfl gX0_helpsBoth_X2_setKeeper ⟨Nat.le_of_ble_eq_true rfl, Nat.le_of_ble_eq_true rfl⟩ hK hA hT hw (is := [3]) rfl rfl rfl rfl rfl rfl rfl hl.1 rfl (Nat.le_of_ble_eq_true rfl) dX0_helpsBoth_18 (fun H locs hw => ?_)
  refine lv_aload_n hx hb dX0_helpsBoth_21 rfl (lv_at hl 3 rfl) ?_
  refine lv_iload_n hx hb dX0_helpsBoth_22 rfl (lv_at hl 5 rfl) ?_
  refine lv_iload hx hb dX0_helpsBoth_23 (lv_at hl 1 rfl) ?_
  obtain ⟨r11, e12, hf⟩ := z_bd hf
  refine z_callV0 (As := [.int v3, .int r5]) (rest := []) (bs' := [bX0 G q o S.2.2.1 S.2.2.2, bX2 G q (o + 3) S.1.1 S.1.2.1 S.1.2.2.1 S.1.2.2.2.1 S.1.2.2.2.2.1 S.1.2.2.2.2.2.1 S.1.2.2.2.2.2.2.1 S.1.2.2.2.2.2.2.2, bX4 G q (o + 9) S.2.1.1 S.2.1.2, bX2 G q1 o1 r11.1 r11.2.1 r11.2.2.1 r11.2.2.2.1 r11.2.2.2.2.1 r11.2.2.2.2.2.1 r11.2.2.2.2.2.2.1 r11.2.2.2.2.2.2.2]) hS0 (c_X2_setKeeper l G q1 o1 r9 v3 r5 r11 e12) zc_X2_setKeeper rfl gX0_helpsBoth_X2_setKeeper ⟨Nat.le_of_ble_eq_true rfl, Nat.le_of_ble_eq_true rfl⟩ hK hA hT hw (is := [3]) rfl rfl rfl rfl rfl rfl rfl hl.1 rfl (Nat.le_of_ble_eq_true rfl) dX0_helpsBoth_25 (fun H locs hw => ?_)
  refine lv_aload_n hx hb dX0_helpsBoth_28 rfl (lv_at hl 2 rfl) ?_
  refine z_get hS0 in_X0_helpsBoth_X0 hK hw 0 1 rfl rfl rfl (by decide) (hts _ m_X0_helpsBoth_0) (v := .ref (q ((o + 9) + 0))) rfl dX0_helpsBoth_29 ?_
  refine lv_aload_n hx hb dX0_helpsBoth_32 rfl (lv_at hl 3 rfl) ?_
  refine lv_aload_n hx hb dX0_helpsBoth_33 rfl (lv_at hl 3 rfl) ?_
  obtain ⟨r13, e14, hf⟩ := z_bd hf
  refine z_callV1 (As := []) (rest := [.ref (q1 (o1 + 0)), .ref (q ((o + 9) + 0))]) (bs' := [bX0 G q o S.2.2.1 S.2.2.2, bX2 G q (o + 3) S.1.1 S.1.2.1 S.1.2.2.1 S.1.2.2.2.1 S.1.2.2.2.2.1 S.1.2.2.2.2.2.1 S.1.2.2.2.2.2.2.1 S.1.2.2.2.2.2.2.2, bX4 G q (o + 9) S.2.1.1 S.2.1.2, bX2 G q1 o1 r11.1 r11.2.1 r11.2.2.1 r11.2.2.2.1 r11.2.2.2.2.1 r11.2.2.2.2.2.1 r11.2.2.2.2.2.2.1 r11.2.2.2.2.2.2.2]) hS0 (c_X2_everyone l G q1 o1 r11 r13 e14) zc_X2_everyone rfl gX0_helpsBoth_X2_everyone ⟨Nat.le_of_ble_eq_true rfl, Nat.le_of_ble_eq_true rfl⟩ hK hA hT hw (is := [3]) rfl rfl rfl rfl rfl rfl rfl hl.1 rfl (Nat.le_of_ble_eq_true rfl) dX0_helpsBoth_34 (fun H locs hw => ?_)
  obtain ⟨r15, e16, hf⟩ := z_bd hf
  refine z_callV0 (As := [.ref (q1 (o1 + 0)), .int r13]) (rest := []) (bs' := [bX0 G q o S.2.2.1 S.2.2.2, bX2 G q (o + 3) S.1.1 S.1.2.1 S.1.2.2.1 S.1.2.2.2.1 S.1.2.2.2.2.1 S.1.2.2.2.2.2.1 S.1.2.2.2.2.2.2.1 S.1.2.2.2.2.2.2.2, bX4 G q (o + 9) r15.1 r15.2, bX2 G q1 o1 r11.1 r11.2.1 r11.2.2.1 r11.2.2.2.1 r11.2.2.2.2.1 r11.2.2.2.2.2.1 r11.2.2.2.2.2.2.1 r11.2.2.2.2.2.2.2]) hS0 (c_X4_fill l G q (o + 9) q1 o1 S.2.1 r11 r13 r15 e16) zc_X4_fill rfl gX0_helpsBoth_X4_fill ⟨Nat.le_of_ble_eq_true rfl, Nat.le_of_ble_eq_true rfl⟩ hK hA hT hw (is := [2, 3]) rfl rfl rfl rfl rfl rfl rfl hl.1 rfl (Nat.le_of_ble_eq_true rfl) dX0_helpsBoth_37 (fun H locs hw => ?_)
  refine lv_aload_n hx hb dX0_helpsBoth_40 rfl (lv_at hl 2 rfl) ?_
  refine lv_iload hx hb dX0_helpsBoth_41 (lv_at hl 1 rfl) ?_
  obtain ⟨r17, e18, hf⟩ := z_bd hf
  refine z_callV1 (As := [.int r5]) (rest := []) (bs' := [bX0 G q o S.2.2.1 S.2.2.2, bX2 G q (o + 3) S.1.1 S.1.2.1 S.1.2.2.1 S.1.2.2.2.1 S.1.2.2.2.2.1 S.1.2.2.2.2.2.1 S.1.2.2.2.2.2.2.1 S.1.2.2.2.2.2.2.2, bX4 G q (o + 9) r15.1 r15.2, bX2 G q1 o1 r11.1 r11.2.1 r11.2.2.1 r11.2.2.2.1 r11.2.2.2.2.1 r11.2.2.2.2.2.1 r11.2.2.2.2.2.2.1 r11.2.2.2.2.2.2.2]) hS0 (c_X0_wouldTrade l G q o (S.1, r15, S.2.2.1, S.2.2.2) r5 r17 e18) zc_X0_wouldTrade rfl gX0_helpsBoth_X0_wouldTrade ⟨Nat.le_of_ble_eq_true rfl, Nat.le_of_ble_eq_true rfl⟩ hK hA hT hw (is := [0, 1, 2]) rfl rfl rfl rfl rfl rfl rfl hl.1 rfl (Nat.le_of_ble_eq_true rfl) dX0_helpsBoth_43 (fun H locs hw => ?_)
  refine lv_if_eq (tgt := 60) hx hb dX0_helpsBoth_46 rfl (fun hc => ?_) (fun hc => ?_)
  · have hf := z_t hc hf
    exact k_X0_helpsBoth_60 hZ _ _ _ _ _ _ _ _ _ _ hf hw (lv_sub hl [3, 4, 5, 1, 0] rfl)
  · have hf := z_f hc hf
    refine lv_aload_n hx hb dX0_helpsBoth_49 rfl (lv_at hl 2 rfl) ?_
    refine lv_iload hx hb dX0_helpsBoth_50 (lv_at hl 0 rfl) ?_
    obtain ⟨r19, e20, hf⟩ := z_bd hf
    refine z_callV1 (As := [.int r7]) (rest := []) (bs' := [bX0 G q o S.2.2.1 S.2.2.2, bX2 G q (o + 3) S.1.1 S.1.2.1 S.1.2.2.1 S.1.2.2.2.1 S.1.2.2.2.2.1 S.1.2.2.2.2.2.1 S.1.2.2.2.2.2.2.1 S.1.2.2.2.2.2.2.2, bX4 G q (o + 9) r15.1 r15.2, bX2 G q1 o1 r11.1 r11.2.1 r11.2.2.1 r11.2.2.2.1 r11.2.2.2.2.1 r11.2.2.2.2.2.1 r11.2.2.2.2.2.2.1 r11.2.2.2.2.2.2.2]) hS0 (c_X0_wouldTrade l G q o (S.1, r15, S.2.2.1, S.2.2.2) r7 r19 e20) zc_X0_wouldTrade rfl gX0_helpsBoth_X0_wouldTrade ⟨Nat.le_of_ble_eq_true rfl, Nat.le_of_ble_eq_true rfl⟩ hK hA hT hw (is := [0, 1, 2]) rfl rfl rfl rfl rfl rfl rfl hl.1 rfl (Nat.le_of_ble_eq_true rfl) dX0_helpsBoth_52 (fun H locs hw => ?_)
    refine lv_if_eq (tgt := 60) hx hb dX0_helpsBoth_55 rfl (fun hc => ?_) (fun hc => ?_)
    · have hf := z_t hc hf
      exact k_X0_helpsBoth_60 hZ _ _ _ _ _ _ _ _ _ _ hf hw (lv_sub hl [3, 4, 5, 1, 0] rfl)
    · have hf := z_f hc hf
      refine lv_iconst (v := 1) hx hb dX0_helpsBoth_58 rfl ?_
      cases hf
      exact z_zret hx hb hr (z_nb (Or.inr rfl)) hlk hw dX0_helpsBoth_59
theorem zc_X0_mayTrade : zC yX0_mayTrade wsX0_mayTrade cX0_mayTrade 6 (some .boolean) 3 := ⟨⟨_, rfl⟩, by decide +kernel, by decide +kernel, by decide +kernel, by decide +kernel⟩
set_option maxHeartbeats 4000000 in
set_option maxRecDepth 100000 in
theorem c_X0_mayTrade (l : Launch) (G : zG) (q : Nat → Nat) (o : Nat) (q1 : Nat → Nat) (o1 : Nat) (S : VX0) (P1 : VX2) (v2 : Int32) (v3 : Int32) (y : Int32) (hf : f_X0_mayTrade S P1 v2 v3 = some y) : zMet l yX0_mayTrade wsX0_mayTrade 2 43 G [.ref (q (o + 0)), .ref (q1 (o1 + 0)), .int v2, .int v3] [bX0 G q o S.2.2.1 S.2.2.2, bX2 G q (o + 3) S.1.1 S.1.2.1 S.1.2.2.1 S.1.2.2.2.1 S.1.2.2.2.2.1 S.1.2.2.2.2.2.1 S.1.2.2.2.2.2.2.1 S.1.2.2.2.2.2.2.2, bX4 G q (o + 9) S.2.1.1 S.2.1.2, bX2 G q1 o1 P1.1 P1.2.1 P1.2.2.1 P1.2.2.2.1 P1.2.2.2.2.1 P1.2.2.2.2.2.1 P1.2.2.2.2.2.2.1 P1.2.2.2.2.2.2.2] (some (.int y)) [bX0 G q o S.2.2.1 S.2.2.2, bX2 G q (o + 3) S.1.1 S.1.2.1 S.1.2.2.1 S.1.2.2.2.1 S.1.2.2.2.2.1 S.1.2.2.2.2.2.1 S.1.2.2.2.2.2.2.1 S.1.2.2.2.2.2.2.2, bX4 G q (o + 9) S.2.1.1 S.2.1.2, bX2 G q1 o1 P1.1 P1.2.1 P1.2.2.1 P1.2.2.2.1 P1.2.2.2.2.1 P1.2.2.2.2.2.1 P1.2.2.2.2.2.2.1 P1.2.2.2.2.2.2.2] := by
  refine z_met zc_X0_mayTrade (Nat.le_of_ble_eq_true rfl) ?_
  intro p e s m below meth c A ls hZ hl hw
  have hl : lv_has ls 6 [(0, .ref (q (o + 0))), (1, .ref (q1 (o1 + 0))), (2, .int v2), (3, .int v3)] := hl
  obtain ⟨hS0, hr, hlk, hK, hA, hT⟩ := id hZ
  have hx := hS0.1
  have hb := hS0.2.1
  have hml := hS0.2.2.1
  have hown : s.vm.findClass RX0 = some m.cls := hS0.2.2.2.1
  have hts := hS0.2.2.2.2
  unfold f_X0_mayTrade at hf
  refine lv_aload_n hx hb dX0_mayTrade_0 rfl (lv_at hl 1 rfl) ?_
  refine lv_iload_n hx hb dX0_mayTrade_1 rfl (lv_at hl 2 rfl) ?_
  obtain ⟨r1, e2, hf⟩ := z_bd hf
  refine z_callV1 (As := [.int v2]) (rest := []) (bs' := [bX0 G q o S.2.2.1 S.2.2.2, bX2 G q (o + 3) S.1.1 S.1.2.1 S.1.2.2.1 S.1.2.2.2.1 S.1.2.2.2.2.1 S.1.2.2.2.2.2.1 S.1.2.2.2.2.2.2.1 S.1.2.2.2.2.2.2.2, bX4 G q (o + 9) S.2.1.1 S.2.1.2, bX2 G q1 o1 P1.1 P1.2.1 P1.2.2.1 P1.2.2.2.1 P1.2.2.2.2.1 P1.2.2.2.2.2.1 P1.2.2.2.2.2.2.1 P1.2.2.2.2.2.2.2]) hS0 (c_X2_keeperOf l G q1 o1 P1 v2 r1 e2) zc_X2_keeperOf rfl gX0_mayTrade_X2_keeperOf ⟨Nat.le_of_ble_eq_true rfl, Nat.le_of_ble_eq_true rfl⟩ hK hA hT hw (is := [3]) rfl rfl rfl rfl rfl rfl rfl hl.1 rfl (Nat.le_of_ble_eq_true rfl) dX0_mayTrade_2 (fun H locs hw => ?_)
  refine lv_istore (lv' := [(4, .int r1), (0, .ref (q (o + 0))), (1, .ref (q1 (o1 + 0))), (2, .int v2), (3, .int v3)]) hx hb dX0_mayTrade_5 hl (by decide) rfl (fun ls hl => ?_)
  refine lv_aload_n hx hb dX0_mayTrade_7 rfl (lv_at hl 2 rfl) ?_
  refine lv_iload_n hx hb dX0_mayTrade_8 rfl (lv_at hl 4 rfl) ?_
  obtain ⟨r3, e4, hf⟩ := z_bd hf
  refine z_callV1 (As := [.int v3]) (rest := []) (bs' := [bX0 G q o S.2.2.1 S.2.2.2, bX2 G q (o + 3) S.1.1 S.1.2.1 S.1.2.2.1 S.1.2.2.2.1 S.1.2.2.2.2.1 S.1.2.2.2.2.2.1 S.1.2.2.2.2.2.2.1 S.1.2.2.2.2.2.2.2, bX4 G q (o + 9) S.2.1.1 S.2.1.2, bX2 G q1 o1 P1.1 P1.2.1 P1.2.2.1 P1.2.2.2.1 P1.2.2.2.2.1 P1.2.2.2.2.2.1 P1.2.2.2.2.2.2.1 P1.2.2.2.2.2.2.2]) hS0 (c_X2_keeperOf l G q1 o1 P1 v3 r3 e4) zc_X2_keeperOf rfl gX0_mayTrade_X2_keeperOf ⟨Nat.le_of_ble_eq_true rfl, Nat.le_of_ble_eq_true rfl⟩ hK hA hT hw (is := [3]) rfl rfl rfl rfl rfl rfl rfl hl.1 rfl (Nat.le_of_ble_eq_true rfl) dX0_mayTrade_9 (fun H locs hw => ?_)
  refine lv_istore (lv' := [(5, .int r3), (4, .int r1), (0, .ref (q (o + 0))), (1, .ref (q1 (o1 + 0))), (2, .int v2), (3, .int v3)]) hx hb dX0_mayTrade_12 hl (by decide) rfl (fun ls hl => ?_)
  refine lv_iload hx hb dX0_mayTrade_14 (lv_at hl 1 rfl) ?_
  refine lv_iload hx hb dX0_mayTrade_16 (lv_at hl 0 rfl) ?_
  refine lv_icmp_eq (tgt := 45) hx hb dX0_mayTrade_18 rfl (fun hc => ?_) (fun hc => ?_)
  · have hf := z_t hc hf
    refine lv_iconst (v := 0) hx hb dX0_mayTrade_45 rfl ?_
    cases hf
    exact z_zret hx hb hr (z_nb (Or.inl rfl)) hlk hw dX0_mayTrade_46
  · have hf := z_f hc hf
    refine lv_aload_n hx hb dX0_mayTrade_21 rfl (lv_at hl 3 rfl) ?_
    refine lv_iload_n hx hb dX0_mayTrade_22 rfl (lv_at hl 4 rfl) ?_
    refine lv_iload hx hb dX0_mayTrade_23 (lv_at hl 0 rfl) ?_
    obtain ⟨r5, e6, hf⟩ := z_bd hf
    refine z_callV1 (As := [.int v2, .int r3]) (rest := []) (bs' := [bX0 G q o S.2.2.1 S.2.2.2, bX2 G q (o + 3) S.1.1 S.1.2.1 S.1.2.2.1 S.1.2.2.2.1 S.1.2.2.2.2.1 S.1.2.2.2.2.2.1 S.1.2.2.2.2.2.2.1 S.1.2.2.2.2.2.2.2, bX4 G q (o + 9) S.2.1.1 S.2.1.2, bX2 G q1 o1 P1.1 P1.2.1 P1.2.2.1 P1.2.2.2.1 P1.2.2.2.2.1 P1.2.2.2.2.2.1 P1.2.2.2.2.2.2.1 P1.2.2.2.2.2.2.2]) hS0 (c_X2_mayKeep l G q1 o1 P1 v2 r3 r5 e6) zc_X2_mayKeep rfl gX0_mayTrade_X2_mayKeep ⟨Nat.le_of_ble_eq_true rfl, Nat.le_of_ble_eq_true rfl⟩ hK hA hT hw (is := [3]) rfl rfl rfl rfl rfl rfl rfl hl.1 rfl (Nat.le_of_ble_eq_true rfl) dX0_mayTrade_25 (fun H locs hw => ?_)
    refine lv_if_eq (tgt := 45) hx hb dX0_mayTrade_28 rfl (fun hc => ?_) (fun hc => ?_)
    · have hf := z_t hc hf
      refine lv_iconst (v := 0) hx hb dX0_mayTrade_45 rfl ?_
      cases hf
      exact z_zret hx hb hr (z_nb (Or.inl rfl)) hlk hw dX0_mayTrade_46
    · have hf := z_f hc hf
      refine lv_aload_n hx hb dX0_mayTrade_31 rfl (lv_at hl 3 rfl) ?_
      refine lv_iload_n hx hb dX0_mayTrade_32 rfl (lv_at hl 5 rfl) ?_
      refine lv_iload hx hb dX0_mayTrade_33 (lv_at hl 1 rfl) ?_
      obtain ⟨r7, e8, hf⟩ := z_bd hf
      refine z_callV1 (As := [.int v3, .int r1]) (rest := []) (bs' := [bX0 G q o S.2.2.1 S.2.2.2, bX2 G q (o + 3) S.1.1 S.1.2.1 S.1.2.2.1 S.1.2.2.2.1 S.1.2.2.2.2.1 S.1.2.2.2.2.2.1 S.1.2.2.2.2.2.2.1 S.1.2.2.2.2.2.2.2, bX4 G q (o + 9) S.2.1.1 S.2.1.2, bX2 G q1 o1 P1.1 P1.2.1 P1.2.2.1 P1.2.2.2.1 P1.2.2.2.2.1 P1.2.2.2.2.2.1 P1.2.2.2.2.2.2.1 P1.2.2.2.2.2.2.2]) hS0 (c_X2_mayKeep l G q1 o1 P1 v3 r1 r7 e8) zc_X2_mayKeep rfl gX0_mayTrade_X2_mayKeep ⟨Nat.le_of_ble_eq_true rfl, Nat.le_of_ble_eq_true rfl⟩ hK hA hT hw (is := [3]) rfl rfl rfl rfl rfl rfl rfl hl.1 rfl (Nat.le_of_ble_eq_true rfl) dX0_mayTrade_35 (fun H locs hw => ?_)
      refine lv_if_eq (tgt := 45) hx hb dX0_mayTrade_38 rfl (fun hc => ?_) (fun hc => ?_)
      · have hf := z_t hc hf
        refine lv_iconst (v := 0) hx hb dX0_mayTrade_45 rfl ?_
        cases hf
        exact z_zret hx hb hr (z_nb (Or.inl rfl)) hlk hw dX0_mayTrade_46
      · have hf := z_f hc hf
        refine lv_iconst (v := 1) hx hb dX0_mayTrade_41 rfl ?_
        refine lv_goto (tgt := 46) hx hb dX0_mayTrade_42 rfl ?_
        cases hf
        exact z_zret hx hb hr (z_nb (Or.inr rfl)) hlk hw dX0_mayTrade_46
theorem zc_X0_tradeOnce : zC yX0_tradeOnce wsX0_tradeOnce cX0_tradeOnce 4 (some .boolean) 1 := ⟨⟨_, rfl⟩, by decide +kernel, by decide +kernel, by decide +kernel, by decide +kernel⟩
theorem m_X0_tradeOnce_0 : (.fieldLink RX0 29 "CellKeys$Dealer" "wanted" "[I" : Cond) ∈ wsX0_tradeOnce := by decide +kernel
theorem in_X0_tradeOnce_X0 : ∀ w ∈ u_ws RX0 TX0 4, w ∈ wsX0_tradeOnce := by decide +kernel
theorem m_X0_tradeOnce_1 : (.fieldLink RX0 21 "CellKeys$Dealer" "reach" "LCellKeys$Reach;" : Cond) ∈ wsX0_tradeOnce := by decide +kernel
set_option maxHeartbeats 4000000 in
set_option maxRecDepth 100000 in
theorem k_X0_tradeOnce_51 {p : Program} {l : Launch} {e : Env} {s : State} {m : MethodId} {args : Array Value} {below : List Frame} {meth : Method} {c : Code} {A : Nat → Prop} {G : zG} {q : Nat → Nat} {o : Nat} {q1 : Nat → Nat} {o1 : Nat} {r_39 : VX0 → VX2 → Int32 → Option (Int32 × VX0 × VX2)} (hZ : zZ p s m args meth c A G cX0_tradeOnce 4 RX0 wsX0_tradeOnce (some .boolean)) (y : Int32 × VX0 × VX2) (h_39 : ∀ (S : VX0) (P1 : VX2) (v2 : Int32) (H : Heap) (locs : List Loc) (ls : Array Slot), r_39 S P1 v2 = some y → zH G A s.heap [bX0 G q o S.2.2.1 S.2.2.2, bX2 G q (o + 3) S.1.1 S.1.2.1 S.1.2.2.1 S.1.2.2.2.1 S.1.2.2.2.2.1 S.1.2.2.2.2.2.1 S.1.2.2.2.2.2.2.1 S.1.2.2.2.2.2.2.2, bX4 G q (o + 9) S.2.1.1 S.2.1.2, bX2 G q1 o1 P1.1 P1.2.1 P1.2.2.1 P1.2.2.2.1 P1.2.2.2.2.1 P1.2.2.2.2.2.1 P1.2.2.2.2.2.2.1 P1.2.2.2.2.2.2.2] H locs → lv_has ls 4 [(0, .ref (q (o + 0))), (1, .ref (q1 (o1 + 0))), (2, .int v2)] → W p l e { frames := 5, cells := 0, slots := 0, locals := 132 } s m args below meth c H locs 0 0 (MQ below (zQ (some (.int y.1)) (zPost G [bX0 G q o y.2.1.2.2.1 y.2.1.2.2.2, bX2 G q (o + 3) y.2.1.1.1 y.2.1.1.2.1 y.2.1.1.2.2.1 y.2.1.1.2.2.2.1 y.2.1.1.2.2.2.2.1 y.2.1.1.2.2.2.2.2.1 y.2.1.1.2.2.2.2.2.2.1 y.2.1.1.2.2.2.2.2.2.2, bX4 G q (o + 9) y.2.1.2.1.1 y.2.1.2.1.2, bX2 G q1 o1 y.2.2.1 y.2.2.2.1 y.2.2.2.2.1 y.2.2.2.2.2.1 y.2.2.2.2.2.2.1 y.2.2.2.2.2.2.2.1 y.2.2.2.2.2.2.2.2.1 y.2.2.2.2.2.2.2.2.2]) A) args s 0 0 A) (F0 m 39 ls [])) (n : Nat) : ∀ (S : VX0) (P1 : VX2) (v2 : Int32) (v3 : Int32) (H : Heap) (locs : List Loc) (ls : Array Slot), f_X0_tradeOnce_51 r_39 n S P1 v2 v3 = some y → zH G A s.heap [bX0 G q o S.2.2.1 S.2.2.2, bX2 G q (o + 3) S.1.1 S.1.2.1 S.1.2.2.1 S.1.2.2.2.1 S.1.2.2.2.2.1 S.1.2.2.2.2.2.1 S.1.2.2.2.2.2.2.1 S.1.2.2.2.2.2.2.2, bX4 G q (o + 9) S.2.1.1 S.2.1.2, bX2 G q1 o1 P1.1 P1.2.1 P1.2.2.1 P1.2.2.2.1 P1.2.2.2.2.1 P1.2.2.2.2.2.1 P1.2.2.2.2.2.2.1 P1.2.2.2.2.2.2.2] H locs → lv_has ls 4 [(0, .ref (q (o + 0))), (1, .ref (q1 (o1 + 0))), (2, .int v2), (3, .int v3)] → W p l e { frames := 5, cells := 0, slots := 0, locals := 132 } s m args below meth c H locs 0 0 (MQ below (zQ (some (.int y.1)) (zPost G [bX0 G q o y.2.1.2.2.1 y.2.1.2.2.2, bX2 G q (o + 3) y.2.1.1.1 y.2.1.1.2.1 y.2.1.1.2.2.1 y.2.1.1.2.2.2.1 y.2.1.1.2.2.2.2.1 y.2.1.1.2.2.2.2.2.1 y.2.1.1.2.2.2.2.2.2.1 y.2.1.1.2.2.2.2.2.2.2, bX4 G q (o + 9) y.2.1.2.1.1 y.2.1.2.1.2, bX2 G q1 o1 y.2.2.1 y.2.2.2.1 y.2.2.2.2.1 y.2.2.2.2.2.1 y.2.2.2.2.2.2.1 y.2.2.2.2.2.2.2.1 y.2.2.2.2.2.2.2.2.1 y.2.2.2.2.2.2.2.2.2]) A) args s 0 0 A) (F0 m 51 ls []) := by
  obtain ⟨hS0, hr, hlk, hK, hA, hT⟩ := id hZ
  have hx := hS0.1
  have hb := hS0.2.1
  have hml := hS0.2.2.1
  have hown : s.vm.findClass RX0 = some m.cls := hS0.2.2.2.1
  have hts := hS0.2.2.2.2
  induction n with
  | zero =>
    intro S P1 v2 v3 H locs ls hf hw hl
    unfold f_X0_tradeOnce_51 at hf
    cases hf
  | succ n ih =>
    intro S P1 v2 v3 H locs ls hf hw hl
    unfold f_X0_tradeOnce_51 at hf
    refine lv_iload_n hx hb dX0_tradeOnce_51 rfl (lv_at hl 3 rfl) ?_
    refine lv_aload_n hx hb dX0_tradeOnce_52 rfl (lv_at hl 1 rfl) ?_
    obtain ⟨r1, e2, hf⟩ := z_bd hf
    refine z_callV1 (As := []) (rest := [.int v3]) (bs' := [bX0 G q o S.2.2.1 S.2.2.2, bX2 G q (o + 3) S.1.1 S.1.2.1 S.1.2.2.1 S.1.2.2.2.1 S.1.2.2.2.2.1 S.1.2.2.2.2.2.1 S.1.2.2.2.2.2.2.1 S.1.2.2.2.2.2.2.2, bX4 G q (o + 9) S.2.1.1 S.2.1.2, bX2 G q1 o1 P1.1 P1.2.1 P1.2.2.1 P1.2.2.2.1 P1.2.2.2.2.1 P1.2.2.2.2.2.1 P1.2.2.2.2.2.2.1 P1.2.2.2.2.2.2.2]) hS0 (c_X2_cells l G q1 o1 P1 r1 e2) zc_X2_cells rfl gX0_tradeOnce_X2_cells ⟨Nat.le_of_ble_eq_true rfl, Nat.le_of_ble_eq_true rfl⟩ hK hA hT hw (is := [3]) rfl rfl rfl rfl rfl rfl rfl hl.1 rfl (Nat.le_of_ble_eq_true rfl) dX0_tradeOnce_53 (fun H locs hw => ?_)
    refine lv_icmp_ge (tgt := 87) hx hb dX0_tradeOnce_56 rfl (fun hc => ?_) (fun hc => ?_)
    · have hf := z_t hc hf
      refine lv_iinc (v := (v2 + 1)) (lv' := [(2, .int (v2 + 1)), (0, .ref (q (o + 0))), (1, .ref (q1 (o1 + 0))), (3, .int v3)]) hx hb dX0_tradeOnce_87 hl (k := 2) rfl rfl (by decide) rfl (fun ls hl => ?_)
      refine lv_goto (tgt := 39) hx hb dX0_tradeOnce_90 rfl ?_
      exact h_39 _ _ _ _ _ _ hf hw (lv_sub hl [1, 2, 0] rfl)
    · have hf := z_f hc hf
      refine lv_aload_n hx hb dX0_tradeOnce_59 rfl (lv_at hl 0 rfl) ?_
      refine lv_aload_n hx hb dX0_tradeOnce_60 rfl (lv_at hl 1 rfl) ?_
      refine lv_iload_n hx hb dX0_tradeOnce_61 rfl (lv_at hl 2 rfl) ?_
      refine lv_iload_n hx hb dX0_tradeOnce_62 rfl (lv_at hl 3 rfl) ?_
      obtain ⟨r3, e4, hf⟩ := z_bd hf
      refine z_callV1 (As := [.ref (q1 (o1 + 0)), .int v2, .int v3]) (rest := []) (bs' := [bX0 G q o S.2.2.1 S.2.2.2, bX2 G q (o + 3) S.1.1 S.1.2.1 S.1.2.2.1 S.1.2.2.2.1 S.1.2.2.2.2.1 S.1.2.2.2.2.2.1 S.1.2.2.2.2.2.2.1 S.1.2.2.2.2.2.2.2, bX4 G q (o + 9) S.2.1.1 S.2.1.2, bX2 G q1 o1 P1.1 P1.2.1 P1.2.2.1 P1.2.2.2.1 P1.2.2.2.2.1 P1.2.2.2.2.2.1 P1.2.2.2.2.2.2.1 P1.2.2.2.2.2.2.2]) hS0 (c_X0_mayTrade l G q o q1 o1 S P1 v2 v3 r3 e4) zc_X0_mayTrade rfl gX0_tradeOnce_X0_mayTrade ⟨Nat.le_of_ble_eq_true rfl, Nat.le_of_ble_eq_true rfl⟩ hK hA hT hw (is := [0, 1, 2, 3]) rfl rfl rfl rfl rfl rfl rfl hl.1 rfl (Nat.le_of_ble_eq_true rfl) dX0_tradeOnce_63 (fun H locs hw => ?_)
      refine lv_if_eq (tgt := 81) hx hb dX0_tradeOnce_66 rfl (fun hc => ?_) (fun hc => ?_)
      · have hf := z_t hc hf
        refine lv_iinc (v := (v3 + 1)) (lv' := [(3, .int (v3 + 1)), (0, .ref (q (o + 0))), (1, .ref (q1 (o1 + 0))), (2, .int v2)]) hx hb dX0_tradeOnce_81 hl (k := 3) rfl rfl (by decide) rfl (fun ls hl => ?_)
        refine lv_goto (tgt := 51) hx hb dX0_tradeOnce_84 rfl ?_
        exact ih _ _ _ _ _ _ _ hf hw (lv_sub hl [1, 2, 3, 0] rfl)
      · have hf := z_f hc hf
        refine lv_aload_n hx hb dX0_tradeOnce_69 rfl (lv_at hl 0 rfl) ?_
        refine lv_aload_n hx hb dX0_tradeOnce_70 rfl (lv_at hl 1 rfl) ?_
        refine lv_iload_n hx hb dX0_tradeOnce_71 rfl (lv_at hl 2 rfl) ?_
        refine lv_iload_n hx hb dX0_tradeOnce_72 rfl (lv_at hl 3 rfl) ?_
        obtain ⟨r5, e6, hf⟩ := z_bd hf
        refine z_callV1 (As := [.ref (q1 (o1 + 0)), .int v2, .int v3]) (rest := []) (bs' := [bX0 G q o r5.2.1.2.2.1 r5.2.1.2.2.2, bX2 G q (o + 3) r5.2.1.1.1 r5.2.1.1.2.1 r5.2.1.1.2.2.1 r5.2.1.1.2.2.2.1 r5.2.1.1.2.2.2.2.1 r5.2.1.1.2.2.2.2.2.1 r5.2.1.1.2.2.2.2.2.2.1 r5.2.1.1.2.2.2.2.2.2.2, bX4 G q (o + 9) r5.2.1.2.1.1 r5.2.1.2.1.2, bX2 G q1 o1 r5.2.2.1 r5.2.2.2.1 r5.2.2.2.2.1 r5.2.2.2.2.2.1 r5.2.2.2.2.2.2.1 r5.2.2.2.2.2.2.2.1 r5.2.2.2.2.2.2.2.2.1 r5.2.2.2.2.2.2.2.2.2]) hS0 (c_X0_helpsBoth l G q o q1 o1 S P1 v2 v3 r5 e6) zc_X0_helpsBoth rfl gX0_tradeOnce_X0_helpsBoth ⟨Nat.le_of_ble_eq_true rfl, Nat.le_of_ble_eq_true rfl⟩ hK hA hT hw (is := [0, 1, 2, 3]) rfl rfl rfl rfl rfl rfl rfl hl.1 rfl (Nat.le_of_ble_eq_true rfl) dX0_tradeOnce_73 (fun H locs hw => ?_)
        refine lv_if_eq (tgt := 81) hx hb dX0_tradeOnce_76 rfl (fun hc => ?_) (fun hc => ?_)
        · have hf := z_t hc hf
          refine lv_iinc (v := (v3 + 1)) (lv' := [(3, .int (v3 + 1)), (0, .ref (q (o + 0))), (1, .ref (q1 (o1 + 0))), (2, .int v2)]) hx hb dX0_tradeOnce_81 hl (k := 3) rfl rfl (by decide) rfl (fun ls hl => ?_)
          refine lv_goto (tgt := 51) hx hb dX0_tradeOnce_84 rfl ?_
          exact ih _ _ _ _ _ _ _ hf hw (lv_sub hl [1, 2, 3, 0] rfl)
        · have hf := z_f hc hf
          refine lv_iconst (v := 1) hx hb dX0_tradeOnce_79 rfl ?_
          cases hf
          exact z_zret hx hb hr (z_nb (Or.inr rfl)) hlk hw dX0_tradeOnce_80
set_option maxHeartbeats 4000000 in
set_option maxRecDepth 100000 in
theorem k_X0_tradeOnce_39 {p : Program} {l : Launch} {e : Env} {s : State} {m : MethodId} {args : Array Value} {below : List Frame} {meth : Method} {c : Code} {A : Nat → Prop} {G : zG} {q : Nat → Nat} {o : Nat} {q1 : Nat → Nat} {o1 : Nat}  (hZ : zZ p s m args meth c A G cX0_tradeOnce 4 RX0 wsX0_tradeOnce (some .boolean)) (y : Int32 × VX0 × VX2)  (n : Nat) : ∀ (S : VX0) (P1 : VX2) (v2 : Int32) (H : Heap) (locs : List Loc) (ls : Array Slot), f_X0_tradeOnce_39 n S P1 v2 = some y → zH G A s.heap [bX0 G q o S.2.2.1 S.2.2.2, bX2 G q (o + 3) S.1.1 S.1.2.1 S.1.2.2.1 S.1.2.2.2.1 S.1.2.2.2.2.1 S.1.2.2.2.2.2.1 S.1.2.2.2.2.2.2.1 S.1.2.2.2.2.2.2.2, bX4 G q (o + 9) S.2.1.1 S.2.1.2, bX2 G q1 o1 P1.1 P1.2.1 P1.2.2.1 P1.2.2.2.1 P1.2.2.2.2.1 P1.2.2.2.2.2.1 P1.2.2.2.2.2.2.1 P1.2.2.2.2.2.2.2] H locs → lv_has ls 4 [(0, .ref (q (o + 0))), (1, .ref (q1 (o1 + 0))), (2, .int v2)] → W p l e { frames := 5, cells := 0, slots := 0, locals := 132 } s m args below meth c H locs 0 0 (MQ below (zQ (some (.int y.1)) (zPost G [bX0 G q o y.2.1.2.2.1 y.2.1.2.2.2, bX2 G q (o + 3) y.2.1.1.1 y.2.1.1.2.1 y.2.1.1.2.2.1 y.2.1.1.2.2.2.1 y.2.1.1.2.2.2.2.1 y.2.1.1.2.2.2.2.2.1 y.2.1.1.2.2.2.2.2.2.1 y.2.1.1.2.2.2.2.2.2.2, bX4 G q (o + 9) y.2.1.2.1.1 y.2.1.2.1.2, bX2 G q1 o1 y.2.2.1 y.2.2.2.1 y.2.2.2.2.1 y.2.2.2.2.2.1 y.2.2.2.2.2.2.1 y.2.2.2.2.2.2.2.1 y.2.2.2.2.2.2.2.2.1 y.2.2.2.2.2.2.2.2.2]) A) args s 0 0 A) (F0 m 39 ls []) := by
  obtain ⟨hS0, hr, hlk, hK, hA, hT⟩ := id hZ
  have hx := hS0.1
  have hb := hS0.2.1
  have hml := hS0.2.2.1
  have hown : s.vm.findClass RX0 = some m.cls := hS0.2.2.2.1
  have hts := hS0.2.2.2.2
  induction n with
  | zero =>
    intro S P1 v2 H locs ls hf hw hl
    unfold f_X0_tradeOnce_39 at hf
    cases hf
  | succ n ih =>
    intro S P1 v2 H locs ls hf hw hl
    unfold f_X0_tradeOnce_39 at hf
    refine lv_iload_n hx hb dX0_tradeOnce_39 rfl (lv_at hl 2 rfl) ?_
    refine lv_aload_n hx hb dX0_tradeOnce_40 rfl (lv_at hl 1 rfl) ?_
    obtain ⟨r7, e8, hf⟩ := z_bd hf
    refine z_callV1 (As := []) (rest := [.int v2]) (bs' := [bX0 G q o S.2.2.1 S.2.2.2, bX2 G q (o + 3) S.1.1 S.1.2.1 S.1.2.2.1 S.1.2.2.2.1 S.1.2.2.2.2.1 S.1.2.2.2.2.2.1 S.1.2.2.2.2.2.2.1 S.1.2.2.2.2.2.2.2, bX4 G q (o + 9) S.2.1.1 S.2.1.2, bX2 G q1 o1 P1.1 P1.2.1 P1.2.2.1 P1.2.2.2.1 P1.2.2.2.2.1 P1.2.2.2.2.2.1 P1.2.2.2.2.2.2.1 P1.2.2.2.2.2.2.2]) hS0 (c_X2_cells l G q1 o1 P1 r7 e8) zc_X2_cells rfl gX0_tradeOnce_X2_cells ⟨Nat.le_of_ble_eq_true rfl, Nat.le_of_ble_eq_true rfl⟩ hK hA hT hw (is := [3]) rfl rfl rfl rfl rfl rfl rfl hl.1 rfl (Nat.le_of_ble_eq_true rfl) dX0_tradeOnce_41 (fun H locs hw => ?_)
    refine lv_icmp_ge (tgt := 93) hx hb dX0_tradeOnce_44 rfl (fun hc => ?_) (fun hc => ?_)
    · have hf := z_t hc hf
      refine lv_iconst (v := 0) hx hb dX0_tradeOnce_93 rfl ?_
      cases hf
      exact z_zret hx hb hr (z_nb (Or.inl rfl)) hlk hw dX0_tradeOnce_94
    · have hf := z_f hc hf
      refine lv_iload_n hx hb dX0_tradeOnce_47 rfl (lv_at hl 2 rfl) ?_
      refine lv_iconst (v := 1) hx hb dX0_tradeOnce_48 rfl ?_
      refine lv_iadd hx hb dX0_tradeOnce_49 ?_
      refine lv_istore_n (lv' := [(3, .int (v2 + (1 : Int32))), (0, .ref (q (o + 0))), (1, .ref (q1 (o1 + 0))), (2, .int v2)]) hx hb dX0_tradeOnce_50 rfl hl (by decide) rfl (fun ls hl => ?_)
      exact k_X0_tradeOnce_51 hZ _ ih 4096 _ _ _ _ _ _ _ hf hw (lv_sub hl [1, 2, 3, 0] rfl)
set_option maxHeartbeats 4000000 in
set_option maxRecDepth 100000 in
theorem k_X0_tradeOnce_14 {p : Program} {l : Launch} {e : Env} {s : State} {m : MethodId} {args : Array Value} {below : List Frame} {meth : Method} {c : Code} {A : Nat → Prop} {G : zG} {q : Nat → Nat} {o : Nat} {q1 : Nat → Nat} {o1 : Nat}  (hZ : zZ p s m args meth c A G cX0_tradeOnce 4 RX0 wsX0_tradeOnce (some .boolean)) (y : Int32 × VX0 × VX2)  (n : Nat) : ∀ (S : VX0) (P1 : VX2) (v2 : Int32) (H : Heap) (locs : List Loc) (ls : Array Slot), f_X0_tradeOnce_14 n S P1 v2 = some y → zH G A s.heap [bX0 G q o S.2.2.1 S.2.2.2, bX2 G q (o + 3) S.1.1 S.1.2.1 S.1.2.2.1 S.1.2.2.2.1 S.1.2.2.2.2.1 S.1.2.2.2.2.2.1 S.1.2.2.2.2.2.2.1 S.1.2.2.2.2.2.2.2, bX4 G q (o + 9) S.2.1.1 S.2.1.2, bX2 G q1 o1 P1.1 P1.2.1 P1.2.2.1 P1.2.2.2.1 P1.2.2.2.2.1 P1.2.2.2.2.2.1 P1.2.2.2.2.2.2.1 P1.2.2.2.2.2.2.2] H locs → lv_has ls 4 [(0, .ref (q (o + 0))), (1, .ref (q1 (o1 + 0))), (2, .int v2)] → W p l e { frames := 5, cells := 0, slots := 0, locals := 132 } s m args below meth c H locs 0 0 (MQ below (zQ (some (.int y.1)) (zPost G [bX0 G q o y.2.1.2.2.1 y.2.1.2.2.2, bX2 G q (o + 3) y.2.1.1.1 y.2.1.1.2.1 y.2.1.1.2.2.1 y.2.1.1.2.2.2.1 y.2.1.1.2.2.2.2.1 y.2.1.1.2.2.2.2.2.1 y.2.1.1.2.2.2.2.2.2.1 y.2.1.1.2.2.2.2.2.2.2, bX4 G q (o + 9) y.2.1.2.1.1 y.2.1.2.1.2, bX2 G q1 o1 y.2.2.1 y.2.2.2.1 y.2.2.2.2.1 y.2.2.2.2.2.1 y.2.2.2.2.2.2.1 y.2.2.2.2.2.2.2.1 y.2.2.2.2.2.2.2.2.1 y.2.2.2.2.2.2.2.2.2]) A) args s 0 0 A) (F0 m 14 ls []) := by
  obtain ⟨hS0, hr, hlk, hK, hA, hT⟩ := id hZ
  have hx := hS0.1
  have hb := hS0.2.1
  have hml := hS0.2.2.1
  have hown : s.vm.findClass RX0 = some m.cls := hS0.2.2.2.1
  have hts := hS0.2.2.2.2
  induction n with
  | zero =>
    intro S P1 v2 H locs ls hf hw hl
    unfold f_X0_tradeOnce_14 at hf
    cases hf
  | succ n ih =>
    intro S P1 v2 H locs ls hf hw hl
    unfold f_X0_tradeOnce_14 at hf
    refine lv_iload_n hx hb dX0_tradeOnce_14 rfl (lv_at hl 2 rfl) ?_
    refine lv_bipush (v := 8) hx hb dX0_tradeOnce_15 rfl ?_
    refine lv_icmp_ge (tgt := 37) hx hb dX0_tradeOnce_17 rfl (fun hc => ?_) (fun hc => ?_)
    · have hf := z_t hc hf
      refine lv_iconst (v := 0) hx hb dX0_tradeOnce_37 rfl ?_
      refine lv_istore_n (lv' := [(2, .int 0), (0, .ref (q (o + 0))), (1, .ref (q1 (o1 + 0)))]) hx hb dX0_tradeOnce_38 rfl hl (by decide) rfl (fun ls hl => ?_)
      exact k_X0_tradeOnce_39 hZ _ 4096 _ _ _ _ _ _ hf hw (lv_sub hl [1, 2, 0] rfl)
    · have hf := z_f hc hf
      refine lv_aload_n hx hb dX0_tradeOnce_20 rfl (lv_at hl 0 rfl) ?_
      refine z_get hS0 in_X0_tradeOnce_X0 hK hw 0 3 rfl rfl rfl (by decide) (hts _ m_X0_tradeOnce_0) (v := .ref (q (o + 2))) rfl dX0_tradeOnce_21 ?_
      refine lv_iload_n hx hb dX0_tradeOnce_24 rfl (lv_at hl 2 rfl) ?_
      refine lv_aload_n hx hb dX0_tradeOnce_25 rfl (lv_at hl 0 rfl) ?_
      refine lv_iload_n hx hb dX0_tradeOnce_26 rfl (lv_at hl 2 rfl) ?_
      obtain ⟨r9, e10, hf⟩ := z_bd hf
      refine z_callV1 (As := [.int v2]) (rest := [.int v2, .ref (q (o + 2))]) (bs' := [bX0 G q o S.2.2.1 S.2.2.2, bX2 G q (o + 3) S.1.1 S.1.2.1 S.1.2.2.1 S.1.2.2.2.1 S.1.2.2.2.2.1 S.1.2.2.2.2.2.1 S.1.2.2.2.2.2.2.1 S.1.2.2.2.2.2.2.2, bX4 G q (o + 9) S.2.1.1 S.2.1.2, bX2 G q1 o1 P1.1 P1.2.1 P1.2.2.1 P1.2.2.2.1 P1.2.2.2.2.1 P1.2.2.2.2.2.1 P1.2.2.2.2.2.2.1 P1.2.2.2.2.2.2.2]) hS0 (c_X0_favoursOrNever l G q o S v2 r9 e10) zc_X0_favoursOrNever rfl gX0_tradeOnce_X0_favoursOrNever ⟨Nat.le_of_ble_eq_true rfl, Nat.le_of_ble_eq_true rfl⟩ hK hA hT hw (is := [0, 1, 2]) rfl rfl rfl rfl rfl rfl rfl hl.1 rfl (Nat.le_of_ble_eq_true rfl) dX0_tradeOnce_27 (fun H locs hw => ?_)
      obtain ⟨g11, hf⟩ := z_gd hf
      refine z_iast (blk' := bX0 G q o S.2.2.1 (upd S.2.2.2 v2.toNatClampNeg r9)) (bs' := [bX0 G q o S.2.2.1 (upd S.2.2.2 v2.toNatClampNeg r9), bX2 G q (o + 3) S.1.1 S.1.2.1 S.1.2.2.1 S.1.2.2.2.1 S.1.2.2.2.2.1 S.1.2.2.2.2.2.1 S.1.2.2.2.2.2.2.1 S.1.2.2.2.2.2.2.2, bX4 G q (o + 9) S.2.1.1 S.2.1.2, bX2 G q1 o1 P1.1 P1.2.1 P1.2.2.1 P1.2.2.2.1 P1.2.2.2.2.1 P1.2.2.2.2.2.1 P1.2.2.2.2.2.2.1 P1.2.2.2.2.2.2.2]) hS0 hK hw 0 2 (zIn_vp g11) rfl rfl dX0_tradeOnce_30 rfl rfl (fun H locs hw => ?_)
      refine lv_iinc (v := (v2 + 1)) (lv' := [(2, .int (v2 + 1)), (0, .ref (q (o + 0))), (1, .ref (q1 (o1 + 0)))]) hx hb dX0_tradeOnce_31 hl (k := 2) rfl rfl (by decide) rfl (fun ls hl => ?_)
      refine lv_goto (tgt := 14) hx hb dX0_tradeOnce_34 rfl ?_
      exact ih _ _ _ _ _ _ hf hw (lv_sub hl [1, 2, 0] rfl)
set_option maxHeartbeats 4000000 in
set_option maxRecDepth 100000 in
theorem c_X0_tradeOnce (l : Launch) (G : zG) (q : Nat → Nat) (o : Nat) (q1 : Nat → Nat) (o1 : Nat) (S : VX0) (P1 : VX2)  (y : Int32 × VX0 × VX2) (hf : f_X0_tradeOnce S P1 = some y) : zMet l yX0_tradeOnce wsX0_tradeOnce 5 132 G [.ref (q (o + 0)), .ref (q1 (o1 + 0))] [bX0 G q o S.2.2.1 S.2.2.2, bX2 G q (o + 3) S.1.1 S.1.2.1 S.1.2.2.1 S.1.2.2.2.1 S.1.2.2.2.2.1 S.1.2.2.2.2.2.1 S.1.2.2.2.2.2.2.1 S.1.2.2.2.2.2.2.2, bX4 G q (o + 9) S.2.1.1 S.2.1.2, bX2 G q1 o1 P1.1 P1.2.1 P1.2.2.1 P1.2.2.2.1 P1.2.2.2.2.1 P1.2.2.2.2.2.1 P1.2.2.2.2.2.2.1 P1.2.2.2.2.2.2.2] (some (.int y.1)) [bX0 G q o y.2.1.2.2.1 y.2.1.2.2.2, bX2 G q (o + 3) y.2.1.1.1 y.2.1.1.2.1 y.2.1.1.2.2.1 y.2.1.1.2.2.2.1 y.2.1.1.2.2.2.2.1 y.2.1.1.2.2.2.2.2.1 y.2.1.1.2.2.2.2.2.2.1 y.2.1.1.2.2.2.2.2.2.2, bX4 G q (o + 9) y.2.1.2.1.1 y.2.1.2.1.2, bX2 G q1 o1 y.2.2.1 y.2.2.2.1 y.2.2.2.2.1 y.2.2.2.2.2.1 y.2.2.2.2.2.2.1 y.2.2.2.2.2.2.2.1 y.2.2.2.2.2.2.2.2.1 y.2.2.2.2.2.2.2.2.2] := by
  refine z_met zc_X0_tradeOnce (Nat.le_of_ble_eq_true rfl) ?_
  intro p e s m below meth c A ls hZ hl hw
  have hl : lv_has ls 4 [(0, .ref (q (o + 0))), (1, .ref (q1 (o1 + 0)))] := hl
  obtain ⟨hS0, hr, hlk, hK, hA, hT⟩ := id hZ
  have hx := hS0.1
  have hb := hS0.2.1
  have hml := hS0.2.2.1
  have hown : s.vm.findClass RX0 = some m.cls := hS0.2.2.2.1
  have hts := hS0.2.2.2.2
  unfold f_X0_tradeOnce at hf
  refine lv_aload_n hx hb dX0_tradeOnce_0 rfl (lv_at hl 0 rfl) ?_
  refine z_get hS0 in_X0_tradeOnce_X0 hK hw 0 1 rfl rfl rfl (by decide) (hts _ m_X0_tradeOnce_1) (v := .ref (q ((o + 9) + 0))) rfl dX0_tradeOnce_1 ?_
  refine lv_aload_n hx hb dX0_tradeOnce_4 rfl (lv_at hl 1 rfl) ?_
  refine lv_aload_n hx hb dX0_tradeOnce_5 rfl (lv_at hl 1 rfl) ?_
  obtain ⟨r12, e13, hf⟩ := z_bd hf
  refine z_callV1 (As := []) (rest := [.ref (q1 (o1 + 0)), .ref (q ((o + 9) + 0))]) (bs' := [bX0 G q o S.2.2.1 S.2.2.2, bX2 G q (o + 3) S.1.1 S.1.2.1 S.1.2.2.1 S.1.2.2.2.1 S.1.2.2.2.2.1 S.1.2.2.2.2.2.1 S.1.2.2.2.2.2.2.1 S.1.2.2.2.2.2.2.2, bX4 G q (o + 9) S.2.1.1 S.2.1.2, bX2 G q1 o1 P1.1 P1.2.1 P1.2.2.1 P1.2.2.2.1 P1.2.2.2.2.1 P1.2.2.2.2.2.1 P1.2.2.2.2.2.2.1 P1.2.2.2.2.2.2.2]) hS0 (c_X2_everyone l G q1 o1 P1 r12 e13) zc_X2_everyone rfl gX0_tradeOnce_X2_everyone ⟨Nat.le_of_ble_eq_true rfl, Nat.le_of_ble_eq_true rfl⟩ hK hA hT hw (is := [3]) rfl rfl rfl rfl rfl rfl rfl hl.1 rfl (Nat.le_of_ble_eq_true rfl) dX0_tradeOnce_6 (fun H locs hw => ?_)
  obtain ⟨r14, e15, hf⟩ := z_bd hf
  refine z_callV0 (As := [.ref (q1 (o1 + 0)), .int r12]) (rest := []) (bs' := [bX0 G q o S.2.2.1 S.2.2.2, bX2 G q (o + 3) S.1.1 S.1.2.1 S.1.2.2.1 S.1.2.2.2.1 S.1.2.2.2.2.1 S.1.2.2.2.2.2.1 S.1.2.2.2.2.2.2.1 S.1.2.2.2.2.2.2.2, bX4 G q (o + 9) r14.1 r14.2, bX2 G q1 o1 P1.1 P1.2.1 P1.2.2.1 P1.2.2.2.1 P1.2.2.2.2.1 P1.2.2.2.2.2.1 P1.2.2.2.2.2.2.1 P1.2.2.2.2.2.2.2]) hS0 (c_X4_fill l G q (o + 9) q1 o1 S.2.1 P1 r12 r14 e15) zc_X4_fill rfl gX0_tradeOnce_X4_fill ⟨Nat.le_of_ble_eq_true rfl, Nat.le_of_ble_eq_true rfl⟩ hK hA hT hw (is := [2, 3]) rfl rfl rfl rfl rfl rfl rfl hl.1 rfl (Nat.le_of_ble_eq_true rfl) dX0_tradeOnce_9 (fun H locs hw => ?_)
  refine lv_iconst (v := 0) hx hb dX0_tradeOnce_12 rfl ?_
  refine lv_istore_n (lv' := [(2, .int 0), (0, .ref (q (o + 0))), (1, .ref (q1 (o1 + 0)))]) hx hb dX0_tradeOnce_13 rfl hl (by decide) rfl (fun ls hl => ?_)
  exact k_X0_tradeOnce_14 hZ _ 4096 _ _ _ _ _ _ hf hw (lv_sub hl [1, 2, 0] rfl)
