theorem zc_L_in : zC yL_in wsL_in cL_in 2 (some .boolean) 2 := ⟨⟨_, rfl⟩, by decide +kernel, by decide +kernel, by decide +kernel, by decide +kernel⟩
set_option maxHeartbeats 4000000 in
set_option maxRecDepth 100000 in
theorem c_L_in (l : Launch) (G : zG)   (v0 : Int32) (v1 : Int32) (y : Int32) (hf : f_L_in v0 v1 = some y) : zMet l yL_in wsL_in 0 0 G [.int v0, .int v1] [] (some (.int y)) [] := by
  refine z_met zc_L_in (Nat.le_of_ble_eq_true rfl) ?_
  intro p e s m below meth c A ls hZ hl hw
  have hl : lv_has ls 2 [(0, .int v0), (1, .int v1)] := hl
  obtain ⟨hS0, hr, hlk, hK, hA, hT⟩ := id hZ
  have hx := hS0.1
  have hb := hS0.2.1
  have hml := hS0.2.2.1
  have hown : s.vm.findClass RL = some m.cls := hS0.2.2.2.1
  have hts := hS0.2.2.2.2
  unfold f_L_in at hf
  refine lv_iload_n hx hb dL_in_0 rfl (lv_at hl 0 rfl) ?_
  refine lv_iload_n hx hb dL_in_1 rfl (lv_at hl 1 rfl) ?_
  refine lv_ishr hx hb dL_in_2 ?_
  refine lv_iconst (v := 1) hx hb dL_in_3 rfl ?_
  refine lv_iand hx hb dL_in_4 ?_
  refine lv_iconst (v := 1) hx hb dL_in_5 rfl ?_
  refine lv_icmp_ne (tgt := 13) hx hb dL_in_6 rfl (fun hc => ?_) (fun hc => ?_)
  · have hf := z_f hc hf
    refine lv_iconst (v := 0) hx hb dL_in_13 rfl ?_
    cases hf
    exact z_zret hx hb hr (z_nb (Or.inl rfl)) hlk hw dL_in_14
  · have hf := z_t hc hf
    refine lv_iconst (v := 1) hx hb dL_in_9 rfl ?_
    refine lv_goto (tgt := 14) hx hb dL_in_10 rfl ?_
    cases hf
    exact z_zret hx hb hr (z_nb (Or.inr rfl)) hlk hw dL_in_14
theorem zc_L_bits : zC yL_bits wsL_bits cL_bits 3 (some .int) 1 := ⟨⟨_, rfl⟩, by decide +kernel, by decide +kernel, by decide +kernel, by decide +kernel⟩
set_option maxHeartbeats 4000000 in
set_option maxRecDepth 100000 in
theorem k_L_bits_4 {p : Program} {l : Launch} {e : Env} {s : State} {m : MethodId} {args : Array Value} {below : List Frame} {meth : Method} {c : Code} {A : Nat → Prop} {G : zG}   (hZ : zZ p s m args meth c A G cL_bits 3 RL wsL_bits (some .int)) (y : Int32)  (n : Nat) : ∀  (v0 : Int32) (v1 : Int32) (v2 : Int32) (H : Heap) (locs : List Loc) (ls : Array Slot), f_L_bits_4 n v0 v1 v2 = some y → zH G A s.heap [] H locs → lv_has ls 3 [(0, .int v0), (1, .int v1), (2, .int v2)] → W p l e { frames := 0, cells := 0, slots := 0, locals := 0 } s m args below meth c H locs 0 0 (MQ below (zQ (some (.int y)) (zPost G []) A) args s 0 0 A) (F0 m 4 ls []) := by
  obtain ⟨hS0, hr, hlk, hK, hA, hT⟩ := id hZ
  have hx := hS0.1
  have hb := hS0.2.1
  have hml := hS0.2.2.1
  have hown : s.vm.findClass RL = some m.cls := hS0.2.2.2.1
  have hts := hS0.2.2.2.2
  induction n with
  | zero =>
    intro v0 v1 v2 H locs ls hf hw hl
    unfold f_L_bits_4 at hf
    cases hf
  | succ n ih =>
    intro v0 v1 v2 H locs ls hf hw hl
    unfold f_L_bits_4 at hf
    refine lv_iload_n hx hb dL_bits_4 rfl (lv_at hl 2 rfl) ?_
    refine lv_bipush (v := 8) hx hb dL_bits_5 rfl ?_
    refine lv_icmp_ge (tgt := 24) hx hb dL_bits_7 rfl (fun hc => ?_) (fun hc => ?_)
    · have hf := z_t hc hf
      refine lv_iload_n hx hb dL_bits_24 rfl (lv_at hl 1 rfl) ?_
      cases hf
      exact z_iret hx hb hr hlk hw dL_bits_25
    · have hf := z_f hc hf
      refine lv_iload_n hx hb dL_bits_10 rfl (lv_at hl 1 rfl) ?_
      refine lv_iload_n hx hb dL_bits_11 rfl (lv_at hl 0 rfl) ?_
      refine lv_iload_n hx hb dL_bits_12 rfl (lv_at hl 2 rfl) ?_
      refine lv_ishr hx hb dL_bits_13 ?_
      refine lv_iconst (v := 1) hx hb dL_bits_14 rfl ?_
      refine lv_iand hx hb dL_bits_15 ?_
      refine lv_iadd hx hb dL_bits_16 ?_
      refine lv_istore_n (lv' := [(1, .int (v1 + ((v0 >>> (v2 &&& 31)) &&& (1 : Int32)))), (0, .int v0), (2, .int v2)]) hx hb dL_bits_17 rfl hl (by decide) rfl (fun ls hl => ?_)
      refine lv_iinc (v := (v2 + 1)) (lv' := [(2, .int (v2 + 1)), (1, .int (v1 + ((v0 >>> (v2 &&& 31)) &&& (1 : Int32)))), (0, .int v0)]) hx hb dL_bits_18 hl (k := 2) rfl rfl (by decide) rfl (fun ls hl => ?_)
      refine lv_goto (tgt := 4) hx hb dL_bits_21 rfl ?_
      exact ih _ _ _ _ _ _ hf hw (lv_sub hl [2, 1, 0] rfl)
set_option maxHeartbeats 4000000 in
set_option maxRecDepth 100000 in
theorem c_L_bits (l : Launch) (G : zG)   (v0 : Int32) (y : Int32) (hf : f_L_bits v0 = some y) : zMet l yL_bits wsL_bits 0 0 G [.int v0] [] (some (.int y)) [] := by
  refine z_met zc_L_bits (Nat.le_of_ble_eq_true rfl) ?_
  intro p e s m below meth c A ls hZ hl hw
  have hl : lv_has ls 3 [(0, .int v0)] := hl
  obtain ⟨hS0, hr, hlk, hK, hA, hT⟩ := id hZ
  have hx := hS0.1
  have hb := hS0.2.1
  have hml := hS0.2.2.1
  have hown : s.vm.findClass RL = some m.cls := hS0.2.2.2.1
  have hts := hS0.2.2.2.2
  unfold f_L_bits at hf
  refine lv_iconst (v := 0) hx hb dL_bits_0 rfl ?_
  refine lv_istore_n (lv' := [(1, .int 0), (0, .int v0)]) hx hb dL_bits_1 rfl hl (by decide) rfl (fun ls hl => ?_)
  refine lv_iconst (v := 0) hx hb dL_bits_2 rfl ?_
  refine lv_istore_n (lv' := [(2, .int 0), (1, .int 0), (0, .int v0)]) hx hb dL_bits_3 rfl hl (by decide) rfl (fun ls hl => ?_)
  exact k_L_bits_4 hZ _ 4096 _ _ _ _ _ _ hf hw (lv_sub hl [2, 1, 0] rfl)
theorem zc_L_cell : zC yL_cell wsL_cell cL_cell 2 (some .int) 2 := ⟨⟨_, rfl⟩, by decide +kernel, by decide +kernel, by decide +kernel, by decide +kernel⟩
theorem m_L_cell_0 : (.constant RL 7 (268435455) : Cond) ∈ wsL_cell := by decide +kernel
set_option maxHeartbeats 4000000 in
set_option maxRecDepth 100000 in
theorem c_L_cell (l : Launch) (G : zG)   (v1 : Int32) (y : Int32) (hf : f_L_cell (zX G) v1 = some y) : zMet l yL_cell wsL_cell 0 0 G [.ref (zb G), .int v1] [] (some (.int y)) [] := by
  refine z_met zc_L_cell (Nat.le_of_ble_eq_true rfl) ?_
  intro p e s m below meth c A ls hZ hl hw
  have hl : lv_has ls 2 [(0, .ref (zb G)), (1, .int v1)] := hl
  obtain ⟨hS0, hr, hlk, hK, hA, hT⟩ := id hZ
  have hx := hS0.1
  have hb := hS0.2.1
  have hml := hS0.2.2.1
  have hown : s.vm.findClass RL = some m.cls := hS0.2.2.2.1
  have hts := hS0.2.2.2.2
  unfold f_L_cell at hf
  refine lv_iload_n hx hb dL_cell_0 rfl (lv_at hl 1 rfl) ?_
  refine lv_aload_n hx hb dL_cell_1 rfl (lv_at hl 0 rfl) ?_
  refine z_slen hS0 hT hw dL_cell_2 ?_
  refine lv_icmp_ge (tgt := 15) hx hb dL_cell_3 rfl (fun hc => ?_) (fun hc => ?_)
  · have hf := z_t hc hf
    refine lv_bipush (v := 61) hx hb dL_cell_15 rfl ?_
    refine lv_iload_n hx hb dL_cell_17 rfl (lv_at hl 1 rfl) ?_
    refine lv_imul hx hb dL_cell_18 ?_
    refine lv_bipush (v := 7) hx hb dL_cell_19 rfl ?_
    refine lv_iadd hx hb dL_cell_21 ?_
    refine lv_iload_n hx hb dL_cell_22 rfl (lv_at hl 1 rfl) ?_
    refine lv_iconst (v := 3) hx hb dL_cell_23 rfl ?_
    refine lv_iadd hx hb dL_cell_24 ?_
    refine lv_imul hx hb dL_cell_25 ?_
    cases hf
    exact z_iret hx hb hr hlk hw dL_cell_26
  · have hf := z_f hc hf
    refine lv_aload_n hx hb dL_cell_6 rfl (lv_at hl 0 rfl) ?_
    refine lv_iload_n hx hb dL_cell_7 rfl (lv_at hl 1 rfl) ?_
    obtain ⟨g1, hf⟩ := z_gd hf
    refine z_sld hS0 hT hw (zIn_vp g1) dL_cell_8 ?_
    refine lv_ldc (v := 268435455) hx hb hown (hts _ m_L_cell_0) dL_cell_9 ?_
    refine lv_iand hx hb dL_cell_11 ?_
    refine lv_goto (tgt := 26) hx hb dL_cell_12 rfl ?_
    cases hf
    exact z_iret hx hb hr hlk hw dL_cell_26
theorem zc_L_put : zC yL_put wsL_put cL_put 3 (some .int) 3 := ⟨⟨_, rfl⟩, by decide +kernel, by decide +kernel, by decide +kernel, by decide +kernel⟩
set_option maxHeartbeats 4000000 in
set_option maxRecDepth 100000 in
theorem c_L_put (l : Launch) (G : zG) (q1 : Nat → Nat) (o1 : Nat) (P1 : VX10) (v1 : Int32) (v2 : Int32) (y : Int32 × VX10) (hf : f_L_put P1 v1 v2 = some y) : zMet l yL_put wsL_put 5 112 G [.ref (q1 (o1 + 0)), .int v1, .int v2] [bX10 G q1 o1, bX9 G q1 (o1 + 1) P1.1.1 P1.1.2.1 P1.1.2.2.1 P1.1.2.2.2.1 P1.1.2.2.2.2, bX6 G q1 (o1 + 3) P1.2.1.1 P1.2.1.2, bX8 G q1 (o1 + 12) P1.2.2.1.1 P1.2.2.1.2, bX5 G q1 (o1 + 19) P1.2.2.2.1.2.1 P1.2.2.2.1.2.2.1 P1.2.2.2.1.2.2.2.1 P1.2.2.2.1.2.2.2.2, bX2 G q1 ((o1 + 19) + 2) P1.2.2.2.1.1.1 P1.2.2.2.1.1.2.1 P1.2.2.2.1.1.2.2.1 P1.2.2.2.1.1.2.2.2.1 P1.2.2.2.1.1.2.2.2.2.1 P1.2.2.2.1.1.2.2.2.2.2.1 P1.2.2.2.1.1.2.2.2.2.2.2.1 P1.2.2.2.1.1.2.2.2.2.2.2.2, bX2 G q1 (o1 + 27) P1.2.2.2.2.1.1 P1.2.2.2.2.1.2.1 P1.2.2.2.2.1.2.2.1 P1.2.2.2.2.1.2.2.2.1 P1.2.2.2.2.1.2.2.2.2.1 P1.2.2.2.2.1.2.2.2.2.2.1 P1.2.2.2.2.1.2.2.2.2.2.2.1 P1.2.2.2.2.1.2.2.2.2.2.2.2, bX1 G q1 (o1 + 33) P1.2.2.2.2.2.1.1 P1.2.2.2.2.2.1.2.1 P1.2.2.2.2.2.1.2.2.1 P1.2.2.2.2.2.1.2.2.2, bX4 G q1 (o1 + 36) P1.2.2.2.2.2.2.1.1 P1.2.2.2.2.2.2.1.2, bX3 G q1 (o1 + 38) P1.2.2.2.2.2.2.2.1.1 P1.2.2.2.2.2.2.2.1.2.1 P1.2.2.2.2.2.2.2.1.2.2.1 P1.2.2.2.2.2.2.2.1.2.2.2, bX0 G q1 (o1 + 43) P1.2.2.2.2.2.2.2.2.1.2.2.1 P1.2.2.2.2.2.2.2.2.1.2.2.2, bX2 G q1 ((o1 + 43) + 3) P1.2.2.2.2.2.2.2.2.1.1.1 P1.2.2.2.2.2.2.2.2.1.1.2.1 P1.2.2.2.2.2.2.2.2.1.1.2.2.1 P1.2.2.2.2.2.2.2.2.1.1.2.2.2.1 P1.2.2.2.2.2.2.2.2.1.1.2.2.2.2.1 P1.2.2.2.2.2.2.2.2.1.1.2.2.2.2.2.1 P1.2.2.2.2.2.2.2.2.1.1.2.2.2.2.2.2.1 P1.2.2.2.2.2.2.2.2.1.1.2.2.2.2.2.2.2, bX4 G q1 ((o1 + 43) + 9) P1.2.2.2.2.2.2.2.2.1.2.1.1 P1.2.2.2.2.2.2.2.2.1.2.1.2, bX7 G q1 (o1 + 54) P1.2.2.2.2.2.2.2.2.2.1 P1.2.2.2.2.2.2.2.2.2.2.1 P1.2.2.2.2.2.2.2.2.2.2.2] (some (.int y.1)) [bX10 G q1 o1, bX9 G q1 (o1 + 1) y.2.1.1 y.2.1.2.1 y.2.1.2.2.1 y.2.1.2.2.2.1 y.2.1.2.2.2.2, bX6 G q1 (o1 + 3) y.2.2.1.1 y.2.2.1.2, bX8 G q1 (o1 + 12) y.2.2.2.1.1 y.2.2.2.1.2, bX5 G q1 (o1 + 19) y.2.2.2.2.1.2.1 y.2.2.2.2.1.2.2.1 y.2.2.2.2.1.2.2.2.1 y.2.2.2.2.1.2.2.2.2, bX2 G q1 ((o1 + 19) + 2) y.2.2.2.2.1.1.1 y.2.2.2.2.1.1.2.1 y.2.2.2.2.1.1.2.2.1 y.2.2.2.2.1.1.2.2.2.1 y.2.2.2.2.1.1.2.2.2.2.1 y.2.2.2.2.1.1.2.2.2.2.2.1 y.2.2.2.2.1.1.2.2.2.2.2.2.1 y.2.2.2.2.1.1.2.2.2.2.2.2.2, bX2 G q1 (o1 + 27) y.2.2.2.2.2.1.1 y.2.2.2.2.2.1.2.1 y.2.2.2.2.2.1.2.2.1 y.2.2.2.2.2.1.2.2.2.1 y.2.2.2.2.2.1.2.2.2.2.1 y.2.2.2.2.2.1.2.2.2.2.2.1 y.2.2.2.2.2.1.2.2.2.2.2.2.1 y.2.2.2.2.2.1.2.2.2.2.2.2.2, bX1 G q1 (o1 + 33) y.2.2.2.2.2.2.1.1 y.2.2.2.2.2.2.1.2.1 y.2.2.2.2.2.2.1.2.2.1 y.2.2.2.2.2.2.1.2.2.2, bX4 G q1 (o1 + 36) y.2.2.2.2.2.2.2.1.1 y.2.2.2.2.2.2.2.1.2, bX3 G q1 (o1 + 38) y.2.2.2.2.2.2.2.2.1.1 y.2.2.2.2.2.2.2.2.1.2.1 y.2.2.2.2.2.2.2.2.1.2.2.1 y.2.2.2.2.2.2.2.2.1.2.2.2, bX0 G q1 (o1 + 43) y.2.2.2.2.2.2.2.2.2.1.2.2.1 y.2.2.2.2.2.2.2.2.2.1.2.2.2, bX2 G q1 ((o1 + 43) + 3) y.2.2.2.2.2.2.2.2.2.1.1.1 y.2.2.2.2.2.2.2.2.2.1.1.2.1 y.2.2.2.2.2.2.2.2.2.1.1.2.2.1 y.2.2.2.2.2.2.2.2.2.1.1.2.2.2.1 y.2.2.2.2.2.2.2.2.2.1.1.2.2.2.2.1 y.2.2.2.2.2.2.2.2.2.1.1.2.2.2.2.2.1 y.2.2.2.2.2.2.2.2.2.1.1.2.2.2.2.2.2.1 y.2.2.2.2.2.2.2.2.2.1.1.2.2.2.2.2.2.2, bX4 G q1 ((o1 + 43) + 9) y.2.2.2.2.2.2.2.2.2.1.2.1.1 y.2.2.2.2.2.2.2.2.2.1.2.1.2, bX7 G q1 (o1 + 54) y.2.2.2.2.2.2.2.2.2.2.1 y.2.2.2.2.2.2.2.2.2.2.2.1 y.2.2.2.2.2.2.2.2.2.2.2.2] := by
  refine z_met zc_L_put (Nat.le_of_ble_eq_true rfl) ?_
  intro p e s m below meth c A ls hZ hl hw
  have hl : lv_has ls 3 [(0, .ref (q1 (o1 + 0))), (1, .int v1), (2, .int v2)] := hl
  obtain ⟨hS0, hr, hlk, hK, hA, hT⟩ := id hZ
  have hx := hS0.1
  have hb := hS0.2.1
  have hml := hS0.2.2.1
  have hown : s.vm.findClass RL = some m.cls := hS0.2.2.2.1
  have hts := hS0.2.2.2.2
  unfold f_L_put at hf
  refine lv_iload_n hx hb dL_put_0 rfl (lv_at hl 1 rfl) ?_
  refine lv_if_lt (tgt := 23) hx hb dL_put_1 rfl (fun hc => ?_) (fun hc => ?_)
  · have hf := z_t hc hf
    refine lv_sipush (v := (-1000)) hx hb dL_put_23 rfl ?_
    cases hf
    exact z_iret hx hb hr hlk hw dL_put_26
  · have hf := z_f hc hf
    refine lv_aload_n hx hb dL_put_4 rfl (lv_at hl 0 rfl) ?_
    refine lv_iconst (v := 3) hx hb dL_put_5 rfl ?_
    refine lv_iload_n hx hb dL_put_6 rfl (lv_at hl 1 rfl) ?_
    refine lv_iload_n hx hb dL_put_7 rfl (lv_at hl 2 rfl) ?_
    obtain ⟨r1, e2, hf⟩ := z_bd hf
    refine z_callV1 (As := [.int 3, .int v1, .int v2]) (rest := []) (bs' := [bX10 G q1 o1, bX9 G q1 (o1 + 1) r1.2.1.1 r1.2.1.2.1 r1.2.1.2.2.1 r1.2.1.2.2.2.1 r1.2.1.2.2.2.2, bX6 G q1 (o1 + 3) r1.2.2.1.1 r1.2.2.1.2, bX8 G q1 (o1 + 12) r1.2.2.2.1.1 r1.2.2.2.1.2, bX5 G q1 (o1 + 19) r1.2.2.2.2.1.2.1 r1.2.2.2.2.1.2.2.1 r1.2.2.2.2.1.2.2.2.1 r1.2.2.2.2.1.2.2.2.2, bX2 G q1 ((o1 + 19) + 2) r1.2.2.2.2.1.1.1 r1.2.2.2.2.1.1.2.1 r1.2.2.2.2.1.1.2.2.1 r1.2.2.2.2.1.1.2.2.2.1 r1.2.2.2.2.1.1.2.2.2.2.1 r1.2.2.2.2.1.1.2.2.2.2.2.1 r1.2.2.2.2.1.1.2.2.2.2.2.2.1 r1.2.2.2.2.1.1.2.2.2.2.2.2.2, bX2 G q1 (o1 + 27) r1.2.2.2.2.2.1.1 r1.2.2.2.2.2.1.2.1 r1.2.2.2.2.2.1.2.2.1 r1.2.2.2.2.2.1.2.2.2.1 r1.2.2.2.2.2.1.2.2.2.2.1 r1.2.2.2.2.2.1.2.2.2.2.2.1 r1.2.2.2.2.2.1.2.2.2.2.2.2.1 r1.2.2.2.2.2.1.2.2.2.2.2.2.2, bX1 G q1 (o1 + 33) r1.2.2.2.2.2.2.1.1 r1.2.2.2.2.2.2.1.2.1 r1.2.2.2.2.2.2.1.2.2.1 r1.2.2.2.2.2.2.1.2.2.2, bX4 G q1 (o1 + 36) r1.2.2.2.2.2.2.2.1.1 r1.2.2.2.2.2.2.2.1.2, bX3 G q1 (o1 + 38) r1.2.2.2.2.2.2.2.2.1.1 r1.2.2.2.2.2.2.2.2.1.2.1 r1.2.2.2.2.2.2.2.2.1.2.2.1 r1.2.2.2.2.2.2.2.2.1.2.2.2, bX0 G q1 (o1 + 43) r1.2.2.2.2.2.2.2.2.2.1.2.2.1 r1.2.2.2.2.2.2.2.2.2.1.2.2.2, bX2 G q1 ((o1 + 43) + 3) r1.2.2.2.2.2.2.2.2.2.1.1.1 r1.2.2.2.2.2.2.2.2.2.1.1.2.1 r1.2.2.2.2.2.2.2.2.2.1.1.2.2.1 r1.2.2.2.2.2.2.2.2.2.1.1.2.2.2.1 r1.2.2.2.2.2.2.2.2.2.1.1.2.2.2.2.1 r1.2.2.2.2.2.2.2.2.2.1.1.2.2.2.2.2.1 r1.2.2.2.2.2.2.2.2.2.1.1.2.2.2.2.2.2.1 r1.2.2.2.2.2.2.2.2.2.1.1.2.2.2.2.2.2.2, bX4 G q1 ((o1 + 43) + 9) r1.2.2.2.2.2.2.2.2.2.1.2.1.1 r1.2.2.2.2.2.2.2.2.2.1.2.1.2, bX7 G q1 (o1 + 54) r1.2.2.2.2.2.2.2.2.2.2.1 r1.2.2.2.2.2.2.2.2.2.2.2.1 r1.2.2.2.2.2.2.2.2.2.2.2.2]) hS0 (c_X10_put l G q1 o1 P1 3 v1 v2 r1 e2) zc_X10_put rfl gL_put_X10_put ⟨Nat.le_of_ble_eq_true rfl, Nat.le_of_ble_eq_true rfl⟩ hK hA hT hw (is := [0, 1, 2, 3, 4, 5, 6, 7, 8, 9, 10, 11, 12, 13]) rfl rfl rfl rfl rfl rfl rfl hl.1 rfl (Nat.le_of_ble_eq_true rfl) dL_put_8 (fun H locs hw => ?_)
    refine lv_sipush (v := 1032) hx hb dL_put_11 rfl ?_
    refine lv_icmp_ne (tgt := 23) hx hb dL_put_14 rfl (fun hc => ?_) (fun hc => ?_)
    · have hf := z_f hc hf
      refine lv_sipush (v := (-1000)) hx hb dL_put_23 rfl ?_
      cases hf
      exact z_iret hx hb hr hlk hw dL_put_26
    · have hf := z_t hc hf
      refine lv_iload_n hx hb dL_put_17 rfl (lv_at hl 1 rfl) ?_
      refine lv_iconst (v := 1) hx hb dL_put_18 rfl ?_
      refine lv_iadd hx hb dL_put_19 ?_
      refine lv_goto (tgt := 26) hx hb dL_put_20 rfl ?_
      cases hf
      exact z_iret hx hb hr hlk hw dL_put_26
theorem zc_L_numbers : zC yL_numbers wsL_numbers cL_numbers 10 none 4 := ⟨⟨_, rfl⟩, by decide +kernel, by decide +kernel, by decide +kernel, by decide +kernel⟩
set_option maxHeartbeats 4000000 in
set_option maxRecDepth 100000 in
theorem k_L_numbers_280 {p : Program} {l : Launch} {e : Env} {s : State} {m : MethodId} {args : Array Value} {below : List Frame} {meth : Method} {c : Code} {A : Nat → Prop} {G : zG} {q1 : Nat → Nat} {o1 : Nat} {r_21 : VA48 → Int32 → Int32 → Int32 → Option (VA48)} (hZ : zZ p s m args meth c A G cL_numbers 10 RL wsL_numbers none) (y : VA48) (h_21 : ∀ (P1 : VA48) (v1 : Int32) (v4 : Int32) (v5 : Int32) (H : Heap) (locs : List Loc) (ls : Array Slot), r_21 P1 v1 v4 v5 = some y → zH G A s.heap [bA48 G q1 o1 P1] H locs → lv_has ls 10 [(0, .ref (zb G)), (1, .int v1), (3, .ref (q1 (o1 + 0))), (4, .int v4), (5, .int v5)] → W p l e { frames := 1, cells := 0, slots := 0, locals := 21 } s m args below meth c H locs 0 0 (MQ below (zQ none (zPost G [bA48 G q1 o1 y]) A) args s 0 0 A) (F0 m 21 ls [])) : ∀ (P1 : VA48) (v1 : Int32) (v4 : Int32) (v5 : Int32) (v6 : Int32) (v7 : Int32) (t0 : Int32) (t1 : Int32) (H : Heap) (locs : List Loc) (ls : Array Slot), f_L_numbers_280 (zX G) r_21 P1 v1 v4 v5 v6 v7 t0 t1 = some y → zH G A s.heap [bA48 G q1 o1 P1] H locs → lv_has ls 10 [(0, .ref (zb G)), (1, .int v1), (3, .ref (q1 (o1 + 0))), (4, .int v4), (5, .int v5), (6, .int v6), (7, .int v7)] → W p l e { frames := 1, cells := 0, slots := 0, locals := 21 } s m args below meth c H locs 0 0 (MQ below (zQ none (zPost G [bA48 G q1 o1 y]) A) args s 0 0 A) (F0 m 280 ls [.int t0, .int t1, .ref (q1 (o1 + 0))]) := by
  obtain ⟨hS0, hr, hlk, hK, hA, hT⟩ := id hZ
  have hx := hS0.1
  have hb := hS0.2.1
  have hml := hS0.2.2.1
  have hown : s.vm.findClass RL = some m.cls := hS0.2.2.2.1
  have hts := hS0.2.2.2.2
  intro P1 v1 v4 v5 v6 v7 t0 t1 H locs ls hf hw hl
  unfold f_L_numbers_280 at hf
  obtain ⟨g1, hf⟩ := z_gd hf
  refine z_iast (blk' := bA48 G q1 o1 (upd P1 t1.toNatClampNeg t0)) (bs' := [bA48 G q1 o1 (upd P1 t1.toNatClampNeg t0)]) hS0 hK hw 0 0 (zIn_vp g1) rfl rfl dL_numbers_280 rfl rfl (fun H locs hw => ?_)
  refine lv_aload_n hx hb dL_numbers_281 rfl (lv_at hl 2 rfl) ?_
  refine lv_iconst (v := 4) hx hb dL_numbers_282 rfl ?_
  refine lv_iconst (v := 4) hx hb dL_numbers_283 rfl ?_
  refine lv_iload hx hb dL_numbers_284 (lv_at hl 4 rfl) ?_
  refine lv_imul hx hb dL_numbers_286 ?_
  refine lv_iadd hx hb dL_numbers_287 ?_
  refine lv_iload hx hb dL_numbers_288 (lv_at hl 6 rfl) ?_
  refine lv_iconst (v := 3) hx hb dL_numbers_290 rfl ?_
  refine lv_icmp_eq (tgt := 300) hx hb dL_numbers_291 rfl (fun hc => ?_) (fun hc => ?_)
  · have hf := z_t hc hf
    refine lv_iload hx hb dL_numbers_300 (lv_at hl 5 rfl) ?_
    refine lv_sipush (v := 4096) hx hb dL_numbers_302 rfl ?_
    refine lv_idiv hx hb dL_numbers_305 (by decide) ?_
    refine lv_iconst (v := 4) hx hb dL_numbers_306 rfl ?_
    refine lv_irem hx hb dL_numbers_307 (by decide) ?_
    refine lv_goto (tgt := 312) hx hb dL_numbers_308 rfl ?_
    obtain ⟨g2, hf⟩ := z_gd hf
    refine z_iast (blk' := bA48 G q1 o1 (upd (upd P1 t1.toNatClampNeg t0) ((4 : Int32) + ((4 : Int32) * v5)).toNatClampNeg ((v6 / 4096) - (v6 / 4096) / 4 * 4))) (bs' := [bA48 G q1 o1 (upd (upd P1 t1.toNatClampNeg t0) ((4 : Int32) + ((4 : Int32) * v5)).toNatClampNeg ((v6 / 4096) - (v6 / 4096) / 4 * 4))]) hS0 hK hw 0 0 (zIn_vp g2) rfl rfl dL_numbers_312 rfl rfl (fun H locs hw => ?_)
    refine lv_aload_n hx hb dL_numbers_313 rfl (lv_at hl 2 rfl) ?_
    refine lv_bipush (v := 33) hx hb dL_numbers_314 rfl ?_
    refine lv_iload hx hb dL_numbers_316 (lv_at hl 4 rfl) ?_
    refine lv_iadd hx hb dL_numbers_318 ?_
    refine lv_iconst (v := 0) hx hb dL_numbers_319 rfl ?_
    obtain ⟨g3, hf⟩ := z_gd hf
    refine z_iast (blk' := bA48 G q1 o1 (upd (upd (upd P1 t1.toNatClampNeg t0) ((4 : Int32) + ((4 : Int32) * v5)).toNatClampNeg ((v6 / 4096) - (v6 / 4096) / 4 * 4)) ((33 : Int32) + v5).toNatClampNeg 0)) (bs' := [bA48 G q1 o1 (upd (upd (upd P1 t1.toNatClampNeg t0) ((4 : Int32) + ((4 : Int32) * v5)).toNatClampNeg ((v6 / 4096) - (v6 / 4096) / 4 * 4)) ((33 : Int32) + v5).toNatClampNeg 0)]) hS0 hK hw 0 0 (zIn_vp g3) rfl rfl dL_numbers_320 rfl rfl (fun H locs hw => ?_)
    refine lv_iinc (v := (v5 + 1)) (lv' := [(5, .int (v5 + 1)), (0, .ref (zb G)), (1, .int v1), (3, .ref (q1 (o1 + 0))), (4, .int v4), (6, .int v6), (7, .int v7)]) hx hb dL_numbers_321 hl (k := 4) rfl rfl (by decide) rfl (fun ls hl => ?_)
    refine lv_goto (tgt := 21) hx hb dL_numbers_324 rfl ?_
    exact h_21 _ _ _ _ _ _ _ hf hw (lv_sub hl [1, 2, 3, 4, 0] rfl)
  · have hf := z_f hc hf
    refine lv_iload hx hb dL_numbers_294 (lv_at hl 6 rfl) ?_
    refine lv_iconst (v := 4) hx hb dL_numbers_296 rfl ?_
    refine lv_icmp_ne (tgt := 311) hx hb dL_numbers_297 rfl (fun hc => ?_) (fun hc => ?_)
    · have hf := z_f hc hf
      refine lv_iconst (v := 0) hx hb dL_numbers_311 rfl ?_
      obtain ⟨g4, hf⟩ := z_gd hf
      refine z_iast (blk' := bA48 G q1 o1 (upd (upd P1 t1.toNatClampNeg t0) ((4 : Int32) + ((4 : Int32) * v5)).toNatClampNeg 0)) (bs' := [bA48 G q1 o1 (upd (upd P1 t1.toNatClampNeg t0) ((4 : Int32) + ((4 : Int32) * v5)).toNatClampNeg 0)]) hS0 hK hw 0 0 (zIn_vp g4) rfl rfl dL_numbers_312 rfl rfl (fun H locs hw => ?_)
      refine lv_aload_n hx hb dL_numbers_313 rfl (lv_at hl 2 rfl) ?_
      refine lv_bipush (v := 33) hx hb dL_numbers_314 rfl ?_
      refine lv_iload hx hb dL_numbers_316 (lv_at hl 4 rfl) ?_
      refine lv_iadd hx hb dL_numbers_318 ?_
      refine lv_iconst (v := 0) hx hb dL_numbers_319 rfl ?_
      obtain ⟨g5, hf⟩ := z_gd hf
      refine z_iast (blk' := bA48 G q1 o1 (upd (upd (upd P1 t1.toNatClampNeg t0) ((4 : Int32) + ((4 : Int32) * v5)).toNatClampNeg 0) ((33 : Int32) + v5).toNatClampNeg 0)) (bs' := [bA48 G q1 o1 (upd (upd (upd P1 t1.toNatClampNeg t0) ((4 : Int32) + ((4 : Int32) * v5)).toNatClampNeg 0) ((33 : Int32) + v5).toNatClampNeg 0)]) hS0 hK hw 0 0 (zIn_vp g5) rfl rfl dL_numbers_320 rfl rfl (fun H locs hw => ?_)
      refine lv_iinc (v := (v5 + 1)) (lv' := [(5, .int (v5 + 1)), (0, .ref (zb G)), (1, .int v1), (3, .ref (q1 (o1 + 0))), (4, .int v4), (6, .int v6), (7, .int v7)]) hx hb dL_numbers_321 hl (k := 4) rfl rfl (by decide) rfl (fun ls hl => ?_)
      refine lv_goto (tgt := 21) hx hb dL_numbers_324 rfl ?_
      exact h_21 _ _ _ _ _ _ _ hf hw (lv_sub hl [1, 2, 3, 4, 0] rfl)
    · have hf := z_t hc hf
      refine lv_iload hx hb dL_numbers_300 (lv_at hl 5 rfl) ?_
      refine lv_sipush (v := 4096) hx hb dL_numbers_302 rfl ?_
      refine lv_idiv hx hb dL_numbers_305 (by decide) ?_
      refine lv_iconst (v := 4) hx hb dL_numbers_306 rfl ?_
      refine lv_irem hx hb dL_numbers_307 (by decide) ?_
      refine lv_goto (tgt := 312) hx hb dL_numbers_308 rfl ?_
      obtain ⟨g6, hf⟩ := z_gd hf
      refine z_iast (blk' := bA48 G q1 o1 (upd (upd P1 t1.toNatClampNeg t0) ((4 : Int32) + ((4 : Int32) * v5)).toNatClampNeg ((v6 / 4096) - (v6 / 4096) / 4 * 4))) (bs' := [bA48 G q1 o1 (upd (upd P1 t1.toNatClampNeg t0) ((4 : Int32) + ((4 : Int32) * v5)).toNatClampNeg ((v6 / 4096) - (v6 / 4096) / 4 * 4))]) hS0 hK hw 0 0 (zIn_vp g6) rfl rfl dL_numbers_312 rfl rfl (fun H locs hw => ?_)
      refine lv_aload_n hx hb dL_numbers_313 rfl (lv_at hl 2 rfl) ?_
      refine lv_bipush (v := 33) hx hb dL_numbers_314 rfl ?_
      refine lv_iload hx hb dL_numbers_316 (lv_at hl 4 rfl) ?_
      refine lv_iadd hx hb dL_numbers_318 ?_
      refine lv_iconst (v := 0) hx hb dL_numbers_319 rfl ?_
      obtain ⟨g7, hf⟩ := z_gd hf
      refine z_iast (blk' := bA48 G q1 o1 (upd (upd (upd P1 t1.toNatClampNeg t0) ((4 : Int32) + ((4 : Int32) * v5)).toNatClampNeg ((v6 / 4096) - (v6 / 4096) / 4 * 4)) ((33 : Int32) + v5).toNatClampNeg 0)) (bs' := [bA48 G q1 o1 (upd (upd (upd P1 t1.toNatClampNeg t0) ((4 : Int32) + ((4 : Int32) * v5)).toNatClampNeg ((v6 / 4096) - (v6 / 4096) / 4 * 4)) ((33 : Int32) + v5).toNatClampNeg 0)]) hS0 hK hw 0 0 (zIn_vp g7) rfl rfl dL_numbers_320 rfl rfl (fun H locs hw => ?_)
      refine lv_iinc (v := (v5 + 1)) (lv' := [(5, .int (v5 + 1)), (0, .ref (zb G)), (1, .int v1), (3, .ref (q1 (o1 + 0))), (4, .int v4), (6, .int v6), (7, .int v7)]) hx hb dL_numbers_321 hl (k := 4) rfl rfl (by decide) rfl (fun ls hl => ?_)
      refine lv_goto (tgt := 21) hx hb dL_numbers_324 rfl ?_
      exact h_21 _ _ _ _ _ _ _ hf hw (lv_sub hl [1, 2, 3, 4, 0] rfl)
set_option maxHeartbeats 4000000 in
set_option maxRecDepth 100000 in
theorem k_L_numbers_253 {p : Program} {l : Launch} {e : Env} {s : State} {m : MethodId} {args : Array Value} {below : List Frame} {meth : Method} {c : Code} {A : Nat → Prop} {G : zG} {q1 : Nat → Nat} {o1 : Nat} {r_21 : VA48 → Int32 → Int32 → Int32 → Option (VA48)} (hZ : zZ p s m args meth c A G cL_numbers 10 RL wsL_numbers none) (y : VA48) (h_21 : ∀ (P1 : VA48) (v1 : Int32) (v4 : Int32) (v5 : Int32) (H : Heap) (locs : List Loc) (ls : Array Slot), r_21 P1 v1 v4 v5 = some y → zH G A s.heap [bA48 G q1 o1 P1] H locs → lv_has ls 10 [(0, .ref (zb G)), (1, .int v1), (3, .ref (q1 (o1 + 0))), (4, .int v4), (5, .int v5)] → W p l e { frames := 1, cells := 0, slots := 0, locals := 21 } s m args below meth c H locs 0 0 (MQ below (zQ none (zPost G [bA48 G q1 o1 y]) A) args s 0 0 A) (F0 m 21 ls [])) : ∀ (P1 : VA48) (v1 : Int32) (v4 : Int32) (v5 : Int32) (v6 : Int32) (v7 : Int32) (v9 : Int32) (t0 : Int32) (t1 : Int32) (H : Heap) (locs : List Loc) (ls : Array Slot), f_L_numbers_253 (zX G) r_21 P1 v1 v4 v5 v6 v7 v9 t0 t1 = some y → zH G A s.heap [bA48 G q1 o1 P1] H locs → lv_has ls 10 [(0, .ref (zb G)), (1, .int v1), (3, .ref (q1 (o1 + 0))), (4, .int v4), (5, .int v5), (6, .int v6), (7, .int v7), (9, .int v9)] → W p l e { frames := 1, cells := 0, slots := 0, locals := 21 } s m args below meth c H locs 0 0 (MQ below (zQ none (zPost G [bA48 G q1 o1 y]) A) args s 0 0 A) (F0 m 253 ls [.int t0, .int t1, .ref (q1 (o1 + 0))]) := by
  obtain ⟨hS0, hr, hlk, hK, hA, hT⟩ := id hZ
  have hx := hS0.1
  have hb := hS0.2.1
  have hml := hS0.2.2.1
  have hown : s.vm.findClass RL = some m.cls := hS0.2.2.2.1
  have hts := hS0.2.2.2.2
  intro P1 v1 v4 v5 v6 v7 v9 t0 t1 H locs ls hf hw hl
  unfold f_L_numbers_253 at hf
  obtain ⟨g8, hf⟩ := z_gd hf
  refine z_iast (blk' := bA48 G q1 o1 (upd P1 t1.toNatClampNeg t0)) (bs' := [bA48 G q1 o1 (upd P1 t1.toNatClampNeg t0)]) hS0 hK hw 0 0 (zIn_vp g8) rfl rfl dL_numbers_253 rfl rfl (fun H locs hw => ?_)
  refine lv_aload_n hx hb dL_numbers_254 rfl (lv_at hl 2 rfl) ?_
  refine lv_iconst (v := 3) hx hb dL_numbers_255 rfl ?_
  refine lv_iconst (v := 4) hx hb dL_numbers_256 rfl ?_
  refine lv_iload hx hb dL_numbers_257 (lv_at hl 4 rfl) ?_
  refine lv_imul hx hb dL_numbers_259 ?_
  refine lv_iadd hx hb dL_numbers_260 ?_
  refine lv_iload hx hb dL_numbers_261 (lv_at hl 6 rfl) ?_
  refine lv_iconst (v := 1) hx hb dL_numbers_263 rfl ?_
  refine lv_icmp_eq (tgt := 273) hx hb dL_numbers_264 rfl (fun hc => ?_) (fun hc => ?_)
  · have hf := z_t hc hf
    refine lv_iload hx hb dL_numbers_273 (lv_at hl 7 rfl) ?_
    refine lv_goto (tgt := 280) hx hb dL_numbers_275 rfl ?_
    exact k_L_numbers_280 hZ _ h_21 _ _ _ _ _ _ _ _ _ _ _ hf hw (lv_sub hl [0, 1, 2, 3, 4, 5, 6] rfl)
  · have hf := z_f hc hf
    refine lv_iload hx hb dL_numbers_267 (lv_at hl 6 rfl) ?_
    refine lv_iconst (v := 5) hx hb dL_numbers_269 rfl ?_
    refine lv_icmp_ne (tgt := 278) hx hb dL_numbers_270 rfl (fun hc => ?_) (fun hc => ?_)
    · have hf := z_f hc hf
      refine lv_bipush (v := (-9)) hx hb dL_numbers_278 rfl ?_
      exact k_L_numbers_280 hZ _ h_21 _ _ _ _ _ _ _ _ _ _ _ hf hw (lv_sub hl [0, 1, 2, 3, 4, 5, 6] rfl)
    · have hf := z_t hc hf
      refine lv_iload hx hb dL_numbers_273 (lv_at hl 7 rfl) ?_
      refine lv_goto (tgt := 280) hx hb dL_numbers_275 rfl ?_
      exact k_L_numbers_280 hZ _ h_21 _ _ _ _ _ _ _ _ _ _ _ hf hw (lv_sub hl [0, 1, 2, 3, 4, 5, 6] rfl)
set_option maxHeartbeats 4000000 in
set_option maxRecDepth 100000 in
theorem k_L_numbers_221 {p : Program} {l : Launch} {e : Env} {s : State} {m : MethodId} {args : Array Value} {below : List Frame} {meth : Method} {c : Code} {A : Nat → Prop} {G : zG} {q1 : Nat → Nat} {o1 : Nat} {r_21 : VA48 → Int32 → Int32 → Int32 → Option (VA48)} (hZ : zZ p s m args meth c A G cL_numbers 10 RL wsL_numbers none) (y : VA48) (h_21 : ∀ (P1 : VA48) (v1 : Int32) (v4 : Int32) (v5 : Int32) (H : Heap) (locs : List Loc) (ls : Array Slot), r_21 P1 v1 v4 v5 = some y → zH G A s.heap [bA48 G q1 o1 P1] H locs → lv_has ls 10 [(0, .ref (zb G)), (1, .int v1), (3, .ref (q1 (o1 + 0))), (4, .int v4), (5, .int v5)] → W p l e { frames := 1, cells := 0, slots := 0, locals := 21 } s m args below meth c H locs 0 0 (MQ below (zQ none (zPost G [bA48 G q1 o1 y]) A) args s 0 0 A) (F0 m 21 ls [])) : ∀ (P1 : VA48) (v1 : Int32) (v4 : Int32) (v5 : Int32) (v6 : Int32) (v7 : Int32) (v8 : Int32) (t0 : Int32) (H : Heap) (locs : List Loc) (ls : Array Slot), f_L_numbers_221 (zX G) r_21 P1 v1 v4 v5 v6 v7 v8 t0 = some y → zH G A s.heap [bA48 G q1 o1 P1] H locs → lv_has ls 10 [(0, .ref (zb G)), (1, .int v1), (3, .ref (q1 (o1 + 0))), (4, .int v4), (5, .int v5), (6, .int v6), (7, .int v7), (8, .int v8)] → W p l e { frames := 1, cells := 0, slots := 0, locals := 21 } s m args below meth c H locs 0 0 (MQ below (zQ none (zPost G [bA48 G q1 o1 y]) A) args s 0 0 A) (F0 m 221 ls [.int t0]) := by
  obtain ⟨hS0, hr, hlk, hK, hA, hT⟩ := id hZ
  have hx := hS0.1
  have hb := hS0.2.1
  have hml := hS0.2.2.1
  have hown : s.vm.findClass RL = some m.cls := hS0.2.2.2.1
  have hts := hS0.2.2.2.2
  intro P1 v1 v4 v5 v6 v7 v8 t0 H locs ls hf hw hl
  unfold f_L_numbers_221 at hf
  refine lv_istore (lv' := [(9, .int t0), (0, .ref (zb G)), (1, .int v1), (3, .ref (q1 (o1 + 0))), (4, .int v4), (5, .int v5), (6, .int v6), (7, .int v7), (8, .int v8)]) hx hb dL_numbers_221 hl (by decide) rfl (fun ls hl => ?_)
  refine lv_aload_n hx hb dL_numbers_223 rfl (lv_at hl 3 rfl) ?_
  refine lv_iconst (v := 1) hx hb dL_numbers_224 rfl ?_
  refine lv_iconst (v := 4) hx hb dL_numbers_225 rfl ?_
  refine lv_iload hx hb dL_numbers_226 (lv_at hl 5 rfl) ?_
  refine lv_imul hx hb dL_numbers_228 ?_
  refine lv_iadd hx hb dL_numbers_229 ?_
  refine lv_iload hx hb dL_numbers_230 (lv_at hl 7 rfl) ?_
  obtain ⟨g9, hf⟩ := z_gd hf
  refine z_iast (blk' := bA48 G q1 o1 (upd P1 ((1 : Int32) + ((4 : Int32) * v5)).toNatClampNeg v7)) (bs' := [bA48 G q1 o1 (upd P1 ((1 : Int32) + ((4 : Int32) * v5)).toNatClampNeg v7)]) hS0 hK hw 0 0 (zIn_vp g9) rfl rfl dL_numbers_232 rfl rfl (fun H locs hw => ?_)
  refine lv_aload_n hx hb dL_numbers_233 rfl (lv_at hl 3 rfl) ?_
  refine lv_iconst (v := 2) hx hb dL_numbers_234 rfl ?_
  refine lv_iconst (v := 4) hx hb dL_numbers_235 rfl ?_
  refine lv_iload hx hb dL_numbers_236 (lv_at hl 5 rfl) ?_
  refine lv_imul hx hb dL_numbers_238 ?_
  refine lv_iadd hx hb dL_numbers_239 ?_
  refine lv_iload hx hb dL_numbers_240 (lv_at hl 7 rfl) ?_
  refine lv_iconst (v := 2) hx hb dL_numbers_242 rfl ?_
  refine lv_icmp_ne (tgt := 251) hx hb dL_numbers_243 rfl (fun hc => ?_) (fun hc => ?_)
  · have hf := z_f hc hf
    refine lv_iload hx hb dL_numbers_251 (lv_at hl 8 rfl) ?_
    exact k_L_numbers_253 hZ _ h_21 _ _ _ _ _ _ _ _ _ _ _ _ hf hw (lv_sub hl [1, 2, 3, 4, 5, 6, 7, 0] rfl)
  · have hf := z_t hc hf
    refine lv_bipush (v := (-9)) hx hb dL_numbers_246 rfl ?_
    refine lv_goto (tgt := 253) hx hb dL_numbers_248 rfl ?_
    exact k_L_numbers_253 hZ _ h_21 _ _ _ _ _ _ _ _ _ _ _ _ hf hw (lv_sub hl [1, 2, 3, 4, 5, 6, 7, 0] rfl)
set_option maxHeartbeats 4000000 in
set_option maxRecDepth 100000 in
theorem k_L_numbers_137 {p : Program} {l : Launch} {e : Env} {s : State} {m : MethodId} {args : Array Value} {below : List Frame} {meth : Method} {c : Code} {A : Nat → Prop} {G : zG} {q1 : Nat → Nat} {o1 : Nat} {r_21 : VA48 → Int32 → Int32 → Int32 → Option (VA48)} (hZ : zZ p s m args meth c A G cL_numbers 10 RL wsL_numbers none) (y : VA48) (h_21 : ∀ (P1 : VA48) (v1 : Int32) (v4 : Int32) (v5 : Int32) (H : Heap) (locs : List Loc) (ls : Array Slot), r_21 P1 v1 v4 v5 = some y → zH G A s.heap [bA48 G q1 o1 P1] H locs → lv_has ls 10 [(0, .ref (zb G)), (1, .int v1), (3, .ref (q1 (o1 + 0))), (4, .int v4), (5, .int v5)] → W p l e { frames := 1, cells := 0, slots := 0, locals := 21 } s m args below meth c H locs 0 0 (MQ below (zQ none (zPost G [bA48 G q1 o1 y]) A) args s 0 0 A) (F0 m 21 ls [])) : ∀ (P1 : VA48) (v1 : Int32) (v4 : Int32) (v5 : Int32) (v6 : Int32) (t0 : Int32) (H : Heap) (locs : List Loc) (ls : Array Slot), f_L_numbers_137 (zX G) r_21 P1 v1 v4 v5 v6 t0 = some y → zH G A s.heap [bA48 G q1 o1 P1] H locs → lv_has ls 10 [(0, .ref (zb G)), (1, .int v1), (3, .ref (q1 (o1 + 0))), (4, .int v4), (5, .int v5), (6, .int v6)] → W p l e { frames := 1, cells := 0, slots := 0, locals := 21 } s m args below meth c H locs 0 0 (MQ below (zQ none (zPost G [bA48 G q1 o1 y]) A) args s 0 0 A) (F0 m 137 ls [.int t0]) := by
  obtain ⟨hS0, hr, hlk, hK, hA, hT⟩ := id hZ
  have hx := hS0.1
  have hb := hS0.2.1
  have hml := hS0.2.2.1
  have hown : s.vm.findClass RL = some m.cls := hS0.2.2.2.1
  have hts := hS0.2.2.2.2
  intro P1 v1 v4 v5 v6 t0 H locs ls hf hw hl
  unfold f_L_numbers_137 at hf
  refine lv_istore (lv' := [(7, .int t0), (0, .ref (zb G)), (1, .int v1), (3, .ref (q1 (o1 + 0))), (4, .int v4), (5, .int v5), (6, .int v6)]) hx hb dL_numbers_137 hl (by decide) rfl (fun ls hl => ?_)
  refine lv_iload hx hb dL_numbers_139 (lv_at hl 5 rfl) ?_
  refine lv_iconst (v := 1) hx hb dL_numbers_141 rfl ?_
  refine lv_iadd hx hb dL_numbers_142 ?_
  refine lv_iload hx hb dL_numbers_143 (lv_at hl 6 rfl) ?_
  refine lv_bipush (v := 16) hx hb dL_numbers_145 rfl ?_
  refine lv_idiv hx hb dL_numbers_147 (by decide) ?_
  refine lv_iload hx hb dL_numbers_148 (lv_at hl 4 rfl) ?_
  refine lv_iconst (v := 1) hx hb dL_numbers_150 rfl ?_
  refine lv_isub hx hb dL_numbers_151 ?_
  obtain ⟨g10, hf⟩ := z_gn hf
  refine lv_irem hx hb dL_numbers_152 g10 ?_
  refine lv_iadd hx hb dL_numbers_153 ?_
  refine lv_iload hx hb dL_numbers_154 (lv_at hl 4 rfl) ?_
  obtain ⟨g11, hf⟩ := z_gn hf
  refine lv_irem hx hb dL_numbers_156 g11 ?_
  refine lv_istore (lv' := [(8, .int (((v5 + (1 : Int32)) + ((v6 / 16) - (v6 / 16) / (v4 - (1 : Int32)) * (v4 - (1 : Int32)))) - ((v5 + (1 : Int32)) + ((v6 / 16) - (v6 / 16) / (v4 - (1 : Int32)) * (v4 - (1 : Int32)))) / v4 * v4)), (7, .int t0), (0, .ref (zb G)), (1, .int v1), (3, .ref (q1 (o1 + 0))), (4, .int v4), (5, .int v5), (6, .int v6)]) hx hb dL_numbers_157 hl (by decide) rfl (fun ls hl => ?_)
  refine lv_iload hx hb dL_numbers_159 (lv_at hl 0 rfl) ?_
  refine lv_iconst (v := 1) hx hb dL_numbers_161 rfl ?_
  refine lv_iadd hx hb dL_numbers_162 ?_
  refine lv_iload hx hb dL_numbers_163 (lv_at hl 7 rfl) ?_
  refine lv_sipush (v := 256) hx hb dL_numbers_165 rfl ?_
  refine lv_idiv hx hb dL_numbers_168 (by decide) ?_
  refine lv_iload hx hb dL_numbers_169 (lv_at hl 5 rfl) ?_
  refine lv_iconst (v := 1) hx hb dL_numbers_171 rfl ?_
  refine lv_isub hx hb dL_numbers_172 ?_
  obtain ⟨g12, hf⟩ := z_gn hf
  refine lv_irem hx hb dL_numbers_173 g12 ?_
  refine lv_iadd hx hb dL_numbers_174 ?_
  refine lv_iload hx hb dL_numbers_175 (lv_at hl 5 rfl) ?_
  obtain ⟨g13, hf⟩ := z_gn hf
  refine lv_irem hx hb dL_numbers_177 g13 ?_
  refine lv_istore (lv' := [(9, .int ((((((v5 + (1 : Int32)) + ((v6 / 16) - (v6 / 16) / (v4 - (1 : Int32)) * (v4 - (1 : Int32)))) - ((v5 + (1 : Int32)) + ((v6 / 16) - (v6 / 16) / (v4 - (1 : Int32)) * (v4 - (1 : Int32)))) / v4 * v4) + (1 : Int32)) + ((v6 / 256) - (v6 / 256) / (v4 - (1 : Int32)) * (v4 - (1 : Int32)))) - (((((v5 + (1 : Int32)) + ((v6 / 16) - (v6 / 16) / (v4 - (1 : Int32)) * (v4 - (1 : Int32)))) - ((v5 + (1 : Int32)) + ((v6 / 16) - (v6 / 16) / (v4 - (1 : Int32)) * (v4 - (1 : Int32)))) / v4 * v4) + (1 : Int32)) + ((v6 / 256) - (v6 / 256) / (v4 - (1 : Int32)) * (v4 - (1 : Int32)))) / v4 * v4)), (8, .int (((v5 + (1 : Int32)) + ((v6 / 16) - (v6 / 16) / (v4 - (1 : Int32)) * (v4 - (1 : Int32)))) - ((v5 + (1 : Int32)) + ((v6 / 16) - (v6 / 16) / (v4 - (1 : Int32)) * (v4 - (1 : Int32)))) / v4 * v4)), (7, .int t0), (0, .ref (zb G)), (1, .int v1), (3, .ref (q1 (o1 + 0))), (4, .int v4), (5, .int v5), (6, .int v6)]) hx hb dL_numbers_178 hl (by decide) rfl (fun ls hl => ?_)
  refine lv_iload hx hb dL_numbers_180 (lv_at hl 0 rfl) ?_
  refine lv_iload hx hb dL_numbers_182 (lv_at hl 7 rfl) ?_
  refine lv_icmp_ne (tgt := 219) hx hb dL_numbers_184 rfl (fun hc => ?_) (fun hc => ?_)
  · have hf := z_f hc hf
    refine lv_iload hx hb dL_numbers_219 (lv_at hl 0 rfl) ?_
    exact k_L_numbers_221 hZ _ h_21 _ _ _ _ _ _ _ _ _ _ _ hf hw (lv_sub hl [3, 4, 5, 6, 7, 8, 2, 1] rfl)
  · have hf := z_t hc hf
    refine lv_iload hx hb dL_numbers_187 (lv_at hl 0 rfl) ?_
    refine lv_iconst (v := 1) hx hb dL_numbers_189 rfl ?_
    refine lv_iadd hx hb dL_numbers_190 ?_
    refine lv_iload hx hb dL_numbers_191 (lv_at hl 6 rfl) ?_
    obtain ⟨g14, hf⟩ := z_gn hf
    refine lv_irem hx hb dL_numbers_193 g14 ?_
    refine lv_iload hx hb dL_numbers_194 (lv_at hl 1 rfl) ?_
    refine lv_icmp_ne (tgt := 209) hx hb dL_numbers_196 rfl (fun hc => ?_) (fun hc => ?_)
    · have hf := z_f hc hf
      refine lv_iload hx hb dL_numbers_209 (lv_at hl 0 rfl) ?_
      refine lv_iconst (v := 1) hx hb dL_numbers_211 rfl ?_
      refine lv_iadd hx hb dL_numbers_212 ?_
      refine lv_iload hx hb dL_numbers_213 (lv_at hl 6 rfl) ?_
      obtain ⟨g15, hf⟩ := z_gn hf
      refine lv_irem hx hb dL_numbers_215 g15 ?_
      refine lv_goto (tgt := 221) hx hb dL_numbers_216 rfl ?_
      exact k_L_numbers_221 hZ _ h_21 _ _ _ _ _ _ _ _ _ _ _ hf hw (lv_sub hl [3, 4, 5, 6, 7, 8, 2, 1] rfl)
    · have hf := z_t hc hf
      refine lv_iload hx hb dL_numbers_199 (lv_at hl 0 rfl) ?_
      refine lv_iconst (v := 2) hx hb dL_numbers_201 rfl ?_
      refine lv_iadd hx hb dL_numbers_202 ?_
      refine lv_iload hx hb dL_numbers_203 (lv_at hl 6 rfl) ?_
      obtain ⟨g16, hf⟩ := z_gn hf
      refine lv_irem hx hb dL_numbers_205 g16 ?_
      refine lv_goto (tgt := 221) hx hb dL_numbers_206 rfl ?_
      exact k_L_numbers_221 hZ _ h_21 _ _ _ _ _ _ _ _ _ _ _ hf hw (lv_sub hl [3, 4, 5, 6, 7, 8, 2, 1] rfl)
set_option maxHeartbeats 4000000 in
set_option maxRecDepth 100000 in
theorem k_L_numbers_111 {p : Program} {l : Launch} {e : Env} {s : State} {m : MethodId} {args : Array Value} {below : List Frame} {meth : Method} {c : Code} {A : Nat → Prop} {G : zG} {q1 : Nat → Nat} {o1 : Nat} {r_21 : VA48 → Int32 → Int32 → Int32 → Option (VA48)} (hZ : zZ p s m args meth c A G cL_numbers 10 RL wsL_numbers none) (y : VA48) (h_21 : ∀ (P1 : VA48) (v1 : Int32) (v4 : Int32) (v5 : Int32) (H : Heap) (locs : List Loc) (ls : Array Slot), r_21 P1 v1 v4 v5 = some y → zH G A s.heap [bA48 G q1 o1 P1] H locs → lv_has ls 10 [(0, .ref (zb G)), (1, .int v1), (3, .ref (q1 (o1 + 0))), (4, .int v4), (5, .int v5)] → W p l e { frames := 1, cells := 0, slots := 0, locals := 21 } s m args below meth c H locs 0 0 (MQ below (zQ none (zPost G [bA48 G q1 o1 y]) A) args s 0 0 A) (F0 m 21 ls [])) : ∀ (P1 : VA48) (v1 : Int32) (v4 : Int32) (v5 : Int32) (v6 : Int32) (t0 : Int32) (H : Heap) (locs : List Loc) (ls : Array Slot), f_L_numbers_111 (zX G) r_21 P1 v1 v4 v5 v6 t0 = some y → zH G A s.heap [bA48 G q1 o1 P1] H locs → lv_has ls 10 [(0, .ref (zb G)), (1, .int v1), (3, .ref (q1 (o1 + 0))), (4, .int v4), (5, .int v5), (6, .int v6)] → W p l e { frames := 1, cells := 0, slots := 0, locals := 21 } s m args below meth c H locs 0 0 (MQ below (zQ none (zPost G [bA48 G q1 o1 y]) A) args s 0 0 A) (F0 m 111 ls [.int t0]) := by
  obtain ⟨hS0, hr, hlk, hK, hA, hT⟩ := id hZ
  have hx := hS0.1
  have hb := hS0.2.1
  have hml := hS0.2.2.1
  have hown : s.vm.findClass RL = some m.cls := hS0.2.2.2.1
  have hts := hS0.2.2.2.2
  intro P1 v1 v4 v5 v6 t0 H locs ls hf hw hl
  unfold f_L_numbers_111 at hf
  refine lv_istore (lv' := [(7, .int t0), (0, .ref (zb G)), (1, .int v1), (3, .ref (q1 (o1 + 0))), (4, .int v4), (5, .int v5), (6, .int v6)]) hx hb dL_numbers_111 hl (by decide) rfl (fun ls hl => ?_)
  refine lv_iload hx hb dL_numbers_113 (lv_at hl 4 rfl) ?_
  refine lv_iconst (v := 2) hx hb dL_numbers_115 rfl ?_
  refine lv_icmp_ne (tgt := 135) hx hb dL_numbers_116 rfl (fun hc => ?_) (fun hc => ?_)
  · have hf := z_f hc hf
    refine lv_iload hx hb dL_numbers_135 (lv_at hl 0 rfl) ?_
    exact k_L_numbers_137 hZ _ h_21 _ _ _ _ _ _ _ _ _ hf hw (lv_sub hl [1, 2, 3, 4, 5, 6] rfl)
  · have hf := z_t hc hf
    refine lv_iload hx hb dL_numbers_119 (lv_at hl 0 rfl) ?_
    refine lv_iconst (v := 1) hx hb dL_numbers_121 rfl ?_
    refine lv_icmp_eq (tgt := 131) hx hb dL_numbers_122 rfl (fun hc => ?_) (fun hc => ?_)
    · have hf := z_t hc hf
      refine lv_iconst (v := 0) hx hb dL_numbers_131 rfl ?_
      refine lv_goto (tgt := 137) hx hb dL_numbers_132 rfl ?_
      exact k_L_numbers_137 hZ _ h_21 _ _ _ _ _ _ _ _ _ hf hw (lv_sub hl [1, 2, 3, 4, 5, 6] rfl)
    · have hf := z_f hc hf
      refine lv_iload hx hb dL_numbers_125 (lv_at hl 0 rfl) ?_
      refine lv_iconst (v := 5) hx hb dL_numbers_127 rfl ?_
      refine lv_icmp_ne (tgt := 135) hx hb dL_numbers_128 rfl (fun hc => ?_) (fun hc => ?_)
      · have hf := z_f hc hf
        refine lv_iload hx hb dL_numbers_135 (lv_at hl 0 rfl) ?_
        exact k_L_numbers_137 hZ _ h_21 _ _ _ _ _ _ _ _ _ hf hw (lv_sub hl [1, 2, 3, 4, 5, 6] rfl)
      · have hf := z_t hc hf
        refine lv_iconst (v := 0) hx hb dL_numbers_131 rfl ?_
        refine lv_goto (tgt := 137) hx hb dL_numbers_132 rfl ?_
        exact k_L_numbers_137 hZ _ h_21 _ _ _ _ _ _ _ _ _ hf hw (lv_sub hl [1, 2, 3, 4, 5, 6] rfl)
set_option maxHeartbeats 4000000 in
set_option maxRecDepth 100000 in
theorem k_L_numbers_343 {p : Program} {l : Launch} {e : Env} {s : State} {m : MethodId} {args : Array Value} {below : List Frame} {meth : Method} {c : Code} {A : Nat → Prop} {G : zG} {q1 : Nat → Nat} {o1 : Nat} {r_330 : VA48 → Int32 → Int32 → Int32 → Option (VA48)} (hZ : zZ p s m args meth c A G cL_numbers 10 RL wsL_numbers none) (y : VA48) (h_330 : ∀ (P1 : VA48) (v1 : Int32) (v4 : Int32) (v5 : Int32) (H : Heap) (locs : List Loc) (ls : Array Slot), r_330 P1 v1 v4 v5 = some y → zH G A s.heap [bA48 G q1 o1 P1] H locs → lv_has ls 10 [(0, .ref (zb G)), (1, .int v1), (3, .ref (q1 (o1 + 0))), (4, .int v4), (5, .int v5)] → W p l e { frames := 1, cells := 0, slots := 0, locals := 21 } s m args below meth c H locs 0 0 (MQ below (zQ none (zPost G [bA48 G q1 o1 y]) A) args s 0 0 A) (F0 m 330 ls [])) (n : Nat) : ∀ (P1 : VA48) (v1 : Int32) (v4 : Int32) (v5 : Int32) (v6 : Int32) (H : Heap) (locs : List Loc) (ls : Array Slot), f_L_numbers_343 (zX G) r_330 n P1 v1 v4 v5 v6 = some y → zH G A s.heap [bA48 G q1 o1 P1] H locs → lv_has ls 10 [(0, .ref (zb G)), (1, .int v1), (3, .ref (q1 (o1 + 0))), (4, .int v4), (5, .int v5), (6, .int v6)] → W p l e { frames := 1, cells := 0, slots := 0, locals := 21 } s m args below meth c H locs 0 0 (MQ below (zQ none (zPost G [bA48 G q1 o1 y]) A) args s 0 0 A) (F0 m 343 ls []) := by
  obtain ⟨hS0, hr, hlk, hK, hA, hT⟩ := id hZ
  have hx := hS0.1
  have hb := hS0.2.1
  have hml := hS0.2.2.1
  have hown : s.vm.findClass RL = some m.cls := hS0.2.2.2.1
  have hts := hS0.2.2.2.2
  induction n with
  | zero =>
    intro P1 v1 v4 v5 v6 H locs ls hf hw hl
    unfold f_L_numbers_343 at hf
    cases hf
  | succ n ih =>
    intro P1 v1 v4 v5 v6 H locs ls hf hw hl
    unfold f_L_numbers_343 at hf
    refine lv_iload hx hb dL_numbers_343 (lv_at hl 5 rfl) ?_
    refine lv_iload hx hb dL_numbers_345 (lv_at hl 3 rfl) ?_
    refine lv_icmp_ge (tgt := 406) hx hb dL_numbers_347 rfl (fun hc => ?_) (fun hc => ?_)
    · have hf := z_t hc hf
      refine lv_iinc (v := (v5 + 1)) (lv' := [(5, .int (v5 + 1)), (0, .ref (zb G)), (1, .int v1), (3, .ref (q1 (o1 + 0))), (4, .int v4), (6, .int v6)]) hx hb dL_numbers_406 hl (k := 4) rfl rfl (by decide) rfl (fun ls hl => ?_)
      refine lv_goto (tgt := 330) hx hb dL_numbers_409 rfl ?_
      exact h_330 _ _ _ _ _ _ _ hf hw (lv_sub hl [1, 2, 3, 4, 0] rfl)
    · have hf := z_f hc hf
      refine lv_aload_n hx hb dL_numbers_350 rfl (lv_at hl 0 rfl) ?_
      refine lv_iload_n hx hb dL_numbers_351 rfl (lv_at hl 1 rfl) ?_
      refine lv_bipush (v := 10) hx hb dL_numbers_352 rfl ?_
      refine lv_iadd hx hb dL_numbers_354 ?_
      refine lv_bipush (v := 6) hx hb dL_numbers_355 rfl ?_
      refine lv_iload hx hb dL_numbers_357 (lv_at hl 4 rfl) ?_
      refine lv_imul hx hb dL_numbers_359 ?_
      refine lv_iadd hx hb dL_numbers_360 ?_
      refine lv_iload hx hb dL_numbers_361 (lv_at hl 5 rfl) ?_
      refine lv_iadd hx hb dL_numbers_363 ?_
      obtain ⟨r17, e18, hf⟩ := z_bd hf
      refine z_callS1 (As := [.ref (zb G), .int (((v1 + (10 : Int32)) + ((6 : Int32) * v5)) + v6)]) (rest := []) (bs' := [bA48 G q1 o1 P1]) hS0 (c_L_cell l G (((v1 + (10 : Int32)) + ((6 : Int32) * v5)) + v6) r17 e18) zc_L_cell gL_numbers_L_cell ⟨Nat.le_of_ble_eq_true rfl, Nat.le_of_ble_eq_true rfl⟩ hK hA hT hw (is := []) rfl rfl rfl rfl rfl hl.1 rfl (Nat.le_of_ble_eq_true rfl) dL_numbers_364 (fun H locs hw => ?_)
      refine lv_iconst (v := 5) hx hb dL_numbers_367 rfl ?_
      refine lv_irem hx hb dL_numbers_368 (by decide) ?_
      refine lv_if_ne (tgt := 400) hx hb dL_numbers_369 rfl (fun hc => ?_) (fun hc => ?_)
      · have hf := z_f hc hf
        refine lv_iinc (v := (v6 + 1)) (lv' := [(6, .int (v6 + 1)), (0, .ref (zb G)), (1, .int v1), (3, .ref (q1 (o1 + 0))), (4, .int v4), (5, .int v5)]) hx hb dL_numbers_400 hl (k := 5) rfl rfl (by decide) rfl (fun ls hl => ?_)
        refine lv_goto (tgt := 343) hx hb dL_numbers_403 rfl ?_
        exact ih _ _ _ _ _ _ _ _ hf hw (lv_sub hl [1, 2, 3, 4, 5, 0] rfl)
      · have hf := z_t hc hf
        refine lv_aload_n hx hb dL_numbers_372 rfl (lv_at hl 2 rfl) ?_
        refine lv_bipush (v := 33) hx hb dL_numbers_373 rfl ?_
        refine lv_iload hx hb dL_numbers_375 (lv_at hl 4 rfl) ?_
        refine lv_iadd hx hb dL_numbers_377 ?_
        refine lv_dup2_11 hx hb dL_numbers_378 rfl rfl ?_
        obtain ⟨g19, hf⟩ := z_gd hf
        refine z_iald hS0 hK hw 0 0 (zIn_vp g19) rfl rfl dL_numbers_379 ?_
        refine lv_iconst (v := 1) hx hb dL_numbers_380 rfl ?_
        refine lv_iload hx hb dL_numbers_381 (lv_at hl 5 rfl) ?_
        refine lv_ishl hx hb dL_numbers_383 ?_
        refine lv_ior hx hb dL_numbers_384 ?_
        obtain ⟨g20, hf⟩ := z_gd hf
        refine z_iast (blk' := bA48 G q1 o1 (upd P1 ((33 : Int32) + v5).toNatClampNeg ((P1 ((33 : Int32) + v5).toNatClampNeg) ||| ((1 : Int32) <<< (v6 &&& 31))))) (bs' := [bA48 G q1 o1 (upd P1 ((33 : Int32) + v5).toNatClampNeg ((P1 ((33 : Int32) + v5).toNatClampNeg) ||| ((1 : Int32) <<< (v6 &&& 31))))]) hS0 hK hw 0 0 (zIn_vp g20) rfl rfl dL_numbers_385 rfl rfl (fun H locs hw => ?_)
        refine lv_aload_n hx hb dL_numbers_386 rfl (lv_at hl 2 rfl) ?_
        refine lv_bipush (v := 33) hx hb dL_numbers_387 rfl ?_
        refine lv_iload hx hb dL_numbers_389 (lv_at hl 5 rfl) ?_
        refine lv_iadd hx hb dL_numbers_391 ?_
        refine lv_dup2_11 hx hb dL_numbers_392 rfl rfl ?_
        obtain ⟨g21, hf⟩ := z_gd hf
        refine z_iald hS0 hK hw 0 0 (zIn_vp g21) rfl rfl dL_numbers_393 ?_
        refine lv_iconst (v := 1) hx hb dL_numbers_394 rfl ?_
        refine lv_iload hx hb dL_numbers_395 (lv_at hl 4 rfl) ?_
        refine lv_ishl hx hb dL_numbers_397 ?_
        refine lv_ior hx hb dL_numbers_398 ?_
        obtain ⟨g22, hf⟩ := z_gd hf
        refine z_iast (blk' := bA48 G q1 o1 (upd (upd P1 ((33 : Int32) + v5).toNatClampNeg ((P1 ((33 : Int32) + v5).toNatClampNeg) ||| ((1 : Int32) <<< (v6 &&& 31)))) ((33 : Int32) + v6).toNatClampNeg (((upd P1 ((33 : Int32) + v5).toNatClampNeg ((P1 ((33 : Int32) + v5).toNatClampNeg) ||| ((1 : Int32) <<< (v6 &&& 31)))) ((33 : Int32) + v6).toNatClampNeg) ||| ((1 : Int32) <<< (v5 &&& 31))))) (bs' := [bA48 G q1 o1 (upd (upd P1 ((33 : Int32) + v5).toNatClampNeg ((P1 ((33 : Int32) + v5).toNatClampNeg) ||| ((1 : Int32) <<< (v6 &&& 31)))) ((33 : Int32) + v6).toNatClampNeg (((upd P1 ((33 : Int32) + v5).toNatClampNeg ((P1 ((33 : Int32) + v5).toNatClampNeg) ||| ((1 : Int32) <<< (v6 &&& 31)))) ((33 : Int32) + v6).toNatClampNeg) ||| ((1 : Int32) <<< (v5 &&& 31))))]) hS0 hK hw 0 0 (zIn_vp g22) rfl rfl dL_numbers_399 rfl rfl (fun H locs hw => ?_)
        refine lv_iinc (v := (v6 + 1)) (lv' := [(6, .int (v6 + 1)), (0, .ref (zb G)), (1, .int v1), (3, .ref (q1 (o1 + 0))), (4, .int v4), (5, .int v5)]) hx hb dL_numbers_400 hl (k := 5) rfl rfl (by decide) rfl (fun ls hl => ?_)
        refine lv_goto (tgt := 343) hx hb dL_numbers_403 rfl ?_
        exact ih _ _ _ _ _ _ _ _ hf hw (lv_sub hl [1, 2, 3, 4, 5, 0] rfl)
set_option maxHeartbeats 4000000 in
set_option maxRecDepth 100000 in
theorem k_L_numbers_330 {p : Program} {l : Launch} {e : Env} {s : State} {m : MethodId} {args : Array Value} {below : List Frame} {meth : Method} {c : Code} {A : Nat → Prop} {G : zG} {q1 : Nat → Nat} {o1 : Nat}  (hZ : zZ p s m args meth c A G cL_numbers 10 RL wsL_numbers none) (y : VA48)  (n : Nat) : ∀ (P1 : VA48) (v1 : Int32) (v4 : Int32) (v5 : Int32) (H : Heap) (locs : List Loc) (ls : Array Slot), f_L_numbers_330 (zX G) n P1 v1 v4 v5 = some y → zH G A s.heap [bA48 G q1 o1 P1] H locs → lv_has ls 10 [(0, .ref (zb G)), (1, .int v1), (3, .ref (q1 (o1 + 0))), (4, .int v4), (5, .int v5)] → W p l e { frames := 1, cells := 0, slots := 0, locals := 21 } s m args below meth c H locs 0 0 (MQ below (zQ none (zPost G [bA48 G q1 o1 y]) A) args s 0 0 A) (F0 m 330 ls []) := by
  obtain ⟨hS0, hr, hlk, hK, hA, hT⟩ := id hZ
  have hx := hS0.1
  have hb := hS0.2.1
  have hml := hS0.2.2.1
  have hown : s.vm.findClass RL = some m.cls := hS0.2.2.2.1
  have hts := hS0.2.2.2.2
  induction n with
  | zero =>
    intro P1 v1 v4 v5 H locs ls hf hw hl
    unfold f_L_numbers_330 at hf
    cases hf
  | succ n ih =>
    intro P1 v1 v4 v5 H locs ls hf hw hl
    unfold f_L_numbers_330 at hf
    refine lv_iload hx hb dL_numbers_330 (lv_at hl 4 rfl) ?_
    refine lv_iload hx hb dL_numbers_332 (lv_at hl 3 rfl) ?_
    refine lv_icmp_ge (tgt := 412) hx hb dL_numbers_334 rfl (fun hc => ?_) (fun hc => ?_)
    · have hf := z_t hc hf
      cases hf
      exact z_vret hx hb hr hlk hw dL_numbers_412
    · have hf := z_f hc hf
      refine lv_iload hx hb dL_numbers_337 (lv_at hl 4 rfl) ?_
      refine lv_iconst (v := 1) hx hb dL_numbers_339 rfl ?_
      refine lv_iadd hx hb dL_numbers_340 ?_
      refine lv_istore (lv' := [(6, .int (v5 + (1 : Int32))), (0, .ref (zb G)), (1, .int v1), (3, .ref (q1 (o1 + 0))), (4, .int v4), (5, .int v5)]) hx hb dL_numbers_341 hl (by decide) rfl (fun ls hl => ?_)
      exact k_L_numbers_343 hZ _ ih 4096 _ _ _ _ _ _ _ _ hf hw (lv_sub hl [1, 2, 3, 4, 5, 0] rfl)
set_option maxHeartbeats 4000000 in
set_option maxRecDepth 100000 in
theorem k_L_numbers_21 {p : Program} {l : Launch} {e : Env} {s : State} {m : MethodId} {args : Array Value} {below : List Frame} {meth : Method} {c : Code} {A : Nat → Prop} {G : zG} {q1 : Nat → Nat} {o1 : Nat}  (hZ : zZ p s m args meth c A G cL_numbers 10 RL wsL_numbers none) (y : VA48)  (n : Nat) : ∀ (P1 : VA48) (v1 : Int32) (v4 : Int32) (v5 : Int32) (H : Heap) (locs : List Loc) (ls : Array Slot), f_L_numbers_21 (zX G) n P1 v1 v4 v5 = some y → zH G A s.heap [bA48 G q1 o1 P1] H locs → lv_has ls 10 [(0, .ref (zb G)), (1, .int v1), (3, .ref (q1 (o1 + 0))), (4, .int v4), (5, .int v5)] → W p l e { frames := 1, cells := 0, slots := 0, locals := 21 } s m args below meth c H locs 0 0 (MQ below (zQ none (zPost G [bA48 G q1 o1 y]) A) args s 0 0 A) (F0 m 21 ls []) := by
  obtain ⟨hS0, hr, hlk, hK, hA, hT⟩ := id hZ
  have hx := hS0.1
  have hb := hS0.2.1
  have hml := hS0.2.2.1
  have hown : s.vm.findClass RL = some m.cls := hS0.2.2.2.1
  have hts := hS0.2.2.2.2
  induction n with
  | zero =>
    intro P1 v1 v4 v5 H locs ls hf hw hl
    unfold f_L_numbers_21 at hf
    cases hf
  | succ n ih =>
    intro P1 v1 v4 v5 H locs ls hf hw hl
    unfold f_L_numbers_21 at hf
    refine lv_iload hx hb dL_numbers_21 (lv_at hl 4 rfl) ?_
    refine lv_iload hx hb dL_numbers_23 (lv_at hl 3 rfl) ?_
    refine lv_icmp_ge (tgt := 327) hx hb dL_numbers_25 rfl (fun hc => ?_) (fun hc => ?_)
    · have hf := z_t hc hf
      refine lv_iconst (v := 0) hx hb dL_numbers_327 rfl ?_
      refine lv_istore (lv' := [(5, .int 0), (0, .ref (zb G)), (1, .int v1), (3, .ref (q1 (o1 + 0))), (4, .int v4)]) hx hb dL_numbers_328 hl (by decide) rfl (fun ls hl => ?_)
      exact k_L_numbers_330 hZ _ 4096 _ _ _ _ _ _ _ hf hw (lv_sub hl [1, 2, 3, 4, 0] rfl)
    · have hf := z_f hc hf
      refine lv_aload_n hx hb dL_numbers_28 rfl (lv_at hl 0 rfl) ?_
      refine lv_iload_n hx hb dL_numbers_29 rfl (lv_at hl 1 rfl) ?_
      refine lv_iconst (v := 1) hx hb dL_numbers_30 rfl ?_
      refine lv_iadd hx hb dL_numbers_31 ?_
      refine lv_iload hx hb dL_numbers_32 (lv_at hl 4 rfl) ?_
      refine lv_iadd hx hb dL_numbers_34 ?_
      obtain ⟨r23, e24, hf⟩ := z_bd hf
      refine z_callS1 (As := [.ref (zb G), .int ((v1 + (1 : Int32)) + v5)]) (rest := []) (bs' := [bA48 G q1 o1 P1]) hS0 (c_L_cell l G ((v1 + (1 : Int32)) + v5) r23 e24) zc_L_cell gL_numbers_L_cell ⟨Nat.le_of_ble_eq_true rfl, Nat.le_of_ble_eq_true rfl⟩ hK hA hT hw (is := []) rfl rfl rfl rfl rfl hl.1 rfl (Nat.le_of_ble_eq_true rfl) dL_numbers_35 (fun H locs hw => ?_)
      refine lv_istore (lv' := [(6, .int r23), (0, .ref (zb G)), (1, .int v1), (3, .ref (q1 (o1 + 0))), (4, .int v4), (5, .int v5)]) hx hb dL_numbers_38 hl (by decide) rfl (fun ls hl => ?_)
      refine lv_iload hx hb dL_numbers_40 (lv_at hl 0 rfl) ?_
      refine lv_bipush (v := 16) hx hb dL_numbers_42 rfl ?_
      refine lv_irem hx hb dL_numbers_44 (by decide) ?_
      refine lv_bipush (v := 6) hx hb dL_numbers_45 rfl ?_
      refine lv_icmp_ge (tgt := 54) hx hb dL_numbers_47 rfl (fun hc => ?_) (fun hc => ?_)
      · have hf := z_t hc hf
        refine lv_iload hx hb dL_numbers_54 (lv_at hl 0 rfl) ?_
        refine lv_bipush (v := 16) hx hb dL_numbers_56 rfl ?_
        refine lv_irem hx hb dL_numbers_58 (by decide) ?_
        refine lv_bipush (v := 8) hx hb dL_numbers_59 rfl ?_
        refine lv_icmp_ge (tgt := 68) hx hb dL_numbers_61 rfl (fun hc => ?_) (fun hc => ?_)
        · have hf := z_t hc hf
          refine lv_iload hx hb dL_numbers_68 (lv_at hl 0 rfl) ?_
          refine lv_bipush (v := 16) hx hb dL_numbers_70 rfl ?_
          refine lv_irem hx hb dL_numbers_72 (by decide) ?_
          refine lv_bipush (v := 10) hx hb dL_numbers_73 rfl ?_
          refine lv_icmp_ge (tgt := 82) hx hb dL_numbers_75 rfl (fun hc => ?_) (fun hc => ?_)
          · have hf := z_t hc hf
            refine lv_iload hx hb dL_numbers_82 (lv_at hl 0 rfl) ?_
            refine lv_bipush (v := 16) hx hb dL_numbers_84 rfl ?_
            refine lv_irem hx hb dL_numbers_86 (by decide) ?_
            refine lv_bipush (v := 12) hx hb dL_numbers_87 rfl ?_
            refine lv_icmp_ge (tgt := 96) hx hb dL_numbers_89 rfl (fun hc => ?_) (fun hc => ?_)
            · have hf := z_t hc hf
              refine lv_iload hx hb dL_numbers_96 (lv_at hl 0 rfl) ?_
              refine lv_bipush (v := 16) hx hb dL_numbers_98 rfl ?_
              refine lv_irem hx hb dL_numbers_100 (by decide) ?_
              refine lv_bipush (v := 14) hx hb dL_numbers_101 rfl ?_
              refine lv_icmp_ge (tgt := 110) hx hb dL_numbers_103 rfl (fun hc => ?_) (fun hc => ?_)
              · have hf := z_t hc hf
                refine lv_iconst (v := 5) hx hb dL_numbers_110 rfl ?_
                exact k_L_numbers_111 hZ _ ih _ _ _ _ _ _ _ _ _ hf hw (lv_sub hl [1, 2, 3, 4, 5, 0] rfl)
              · have hf := z_f hc hf
                refine lv_iconst (v := 4) hx hb dL_numbers_106 rfl ?_
                refine lv_goto (tgt := 111) hx hb dL_numbers_107 rfl ?_
                exact k_L_numbers_111 hZ _ ih _ _ _ _ _ _ _ _ _ hf hw (lv_sub hl [1, 2, 3, 4, 5, 0] rfl)
            · have hf := z_f hc hf
              refine lv_iconst (v := 3) hx hb dL_numbers_92 rfl ?_
              refine lv_goto (tgt := 111) hx hb dL_numbers_93 rfl ?_
              exact k_L_numbers_111 hZ _ ih _ _ _ _ _ _ _ _ _ hf hw (lv_sub hl [1, 2, 3, 4, 5, 0] rfl)
          · have hf := z_f hc hf
            refine lv_iconst (v := 2) hx hb dL_numbers_78 rfl ?_
            refine lv_goto (tgt := 111) hx hb dL_numbers_79 rfl ?_
            exact k_L_numbers_111 hZ _ ih _ _ _ _ _ _ _ _ _ hf hw (lv_sub hl [1, 2, 3, 4, 5, 0] rfl)
        · have hf := z_f hc hf
          refine lv_iconst (v := 1) hx hb dL_numbers_64 rfl ?_
          refine lv_goto (tgt := 111) hx hb dL_numbers_65 rfl ?_
          exact k_L_numbers_111 hZ _ ih _ _ _ _ _ _ _ _ _ hf hw (lv_sub hl [1, 2, 3, 4, 5, 0] rfl)
      · have hf := z_f hc hf
        refine lv_iconst (v := 0) hx hb dL_numbers_50 rfl ?_
        refine lv_goto (tgt := 111) hx hb dL_numbers_51 rfl ?_
        exact k_L_numbers_111 hZ _ ih _ _ _ _ _ _ _ _ _ hf hw (lv_sub hl [1, 2, 3, 4, 5, 0] rfl)
set_option maxHeartbeats 4000000 in
set_option maxRecDepth 100000 in
theorem c_L_numbers (l : Launch) (G : zG) (q1 : Nat → Nat) (o1 : Nat) (P1 : VA48) (v1 : Int32) (v2 : Int32) (y : VA48) (hf : f_L_numbers (zX G) P1 v1 v2 = some y) : zMet l yL_numbers wsL_numbers 1 21 G [.ref (zb G), .int v1, .int v2, .ref (q1 (o1 + 0))] [bA48 G q1 o1 P1] none [bA48 G q1 o1 y] := by
  refine z_met zc_L_numbers (Nat.le_of_ble_eq_true rfl) ?_
  intro p e s m below meth c A ls hZ hl hw
  have hl : lv_has ls 10 [(0, .ref (zb G)), (1, .int v1), (2, .int v2), (3, .ref (q1 (o1 + 0)))] := hl
  obtain ⟨hS0, hr, hlk, hK, hA, hT⟩ := id hZ
  have hx := hS0.1
  have hb := hS0.2.1
  have hml := hS0.2.2.1
  have hown : s.vm.findClass RL = some m.cls := hS0.2.2.2.1
  have hts := hS0.2.2.2.2
  unfold f_L_numbers at hf
  refine lv_iconst (v := 2) hx hb dL_numbers_0 rfl ?_
  refine lv_aload_n hx hb dL_numbers_1 rfl (lv_at hl 0 rfl) ?_
  refine lv_iload_n hx hb dL_numbers_2 rfl (lv_at hl 1 rfl) ?_
  obtain ⟨r25, e26, hf⟩ := z_bd hf
  refine z_callS1 (As := [.ref (zb G), .int v1]) (rest := [.int 2]) (bs' := [bA48 G q1 o1 P1]) hS0 (c_L_cell l G v1 r25 e26) zc_L_cell gL_numbers_L_cell ⟨Nat.le_of_ble_eq_true rfl, Nat.le_of_ble_eq_true rfl⟩ hK hA hT hw (is := []) rfl rfl rfl rfl rfl hl.1 rfl (Nat.le_of_ble_eq_true rfl) dL_numbers_3 (fun H locs hw => ?_)
  refine lv_iload_n hx hb dL_numbers_6 rfl (lv_at hl 2 rfl) ?_
  refine lv_iconst (v := 1) hx hb dL_numbers_7 rfl ?_
  refine lv_isub hx hb dL_numbers_8 ?_
  obtain ⟨g27, hf⟩ := z_gn hf
  refine lv_irem hx hb dL_numbers_9 g27 ?_
  refine lv_iadd hx hb dL_numbers_10 ?_
  refine lv_istore (lv' := [(4, .int ((2 : Int32) + (r25 - r25 / (v2 - (1 : Int32)) * (v2 - (1 : Int32))))), (0, .ref (zb G)), (1, .int v1), (2, .int v2), (3, .ref (q1 (o1 + 0)))]) hx hb dL_numbers_11 hl (by decide) rfl (fun ls hl => ?_)
  refine lv_aload_n hx hb dL_numbers_13 rfl (lv_at hl 4 rfl) ?_
  refine lv_iconst (v := 0) hx hb dL_numbers_14 rfl ?_
  refine lv_iload hx hb dL_numbers_15 (lv_at hl 0 rfl) ?_
  obtain ⟨g28, hf⟩ := z_gd hf
  refine z_iast (blk' := bA48 G q1 o1 (upd P1 (0 : Int32).toNatClampNeg ((2 : Int32) + (r25 - r25 / (v2 - (1 : Int32)) * (v2 - (1 : Int32)))))) (bs' := [bA48 G q1 o1 (upd P1 (0 : Int32).toNatClampNeg ((2 : Int32) + (r25 - r25 / (v2 - (1 : Int32)) * (v2 - (1 : Int32)))))]) hS0 hK hw 0 0 (zIn_vp g28) rfl rfl dL_numbers_17 rfl rfl (fun H locs hw => ?_)
  refine lv_iconst (v := 0) hx hb dL_numbers_18 rfl ?_
  refine lv_istore (lv' := [(5, .int 0), (4, .int ((2 : Int32) + (r25 - r25 / (v2 - (1 : Int32)) * (v2 - (1 : Int32))))), (0, .ref (zb G)), (1, .int v1), (2, .int v2), (3, .ref (q1 (o1 + 0)))]) hx hb dL_numbers_19 hl (by decide) rfl (fun ls hl => ?_)
  exact k_L_numbers_21 hZ _ 4096 _ _ _ _ _ _ _ hf hw (lv_sub hl [2, 3, 5, 1, 0] rfl)
theorem zc_L_jail : zC yL_jail wsL_jail cL_jail 5 (some .boolean) 2 := ⟨⟨_, rfl⟩, by decide +kernel, by decide +kernel, by decide +kernel, by decide +kernel⟩
set_option maxHeartbeats 4000000 in
set_option maxRecDepth 100000 in
theorem k_L_jail_160 {p : Program} {l : Launch} {e : Env} {s : State} {m : MethodId} {args : Array Value} {below : List Frame} {meth : Method} {c : Code} {A : Nat → Prop} {G : zG} {q1 : Nat → Nat} {o1 : Nat} {q2 : Nat → Nat} {o2 : Nat} {r_34 : VX10 → VA48 → Int32 → Int32 → Option (Int32 × VX10)} (hZ : zZ p s m args meth c A G cL_jail 5 RL wsL_jail (some .boolean)) (y : Int32 × VX10) (h_34 : ∀ (P1 : VX10) (P2 : VA48) (v2 : Int32) (v3 : Int32) (H : Heap) (locs : List Loc) (ls : Array Slot), r_34 P1 P2 v2 v3 = some y → zH G A s.heap [bX10 G q1 o1, bX9 G q1 (o1 + 1) P1.1.1 P1.1.2.1 P1.1.2.2.1 P1.1.2.2.2.1 P1.1.2.2.2.2, bX6 G q1 (o1 + 3) P1.2.1.1 P1.2.1.2, bX8 G q1 (o1 + 12) P1.2.2.1.1 P1.2.2.1.2, bX5 G q1 (o1 + 19) P1.2.2.2.1.2.1 P1.2.2.2.1.2.2.1 P1.2.2.2.1.2.2.2.1 P1.2.2.2.1.2.2.2.2, bX2 G q1 ((o1 + 19) + 2) P1.2.2.2.1.1.1 P1.2.2.2.1.1.2.1 P1.2.2.2.1.1.2.2.1 P1.2.2.2.1.1.2.2.2.1 P1.2.2.2.1.1.2.2.2.2.1 P1.2.2.2.1.1.2.2.2.2.2.1 P1.2.2.2.1.1.2.2.2.2.2.2.1 P1.2.2.2.1.1.2.2.2.2.2.2.2, bX2 G q1 (o1 + 27) P1.2.2.2.2.1.1 P1.2.2.2.2.1.2.1 P1.2.2.2.2.1.2.2.1 P1.2.2.2.2.1.2.2.2.1 P1.2.2.2.2.1.2.2.2.2.1 P1.2.2.2.2.1.2.2.2.2.2.1 P1.2.2.2.2.1.2.2.2.2.2.2.1 P1.2.2.2.2.1.2.2.2.2.2.2.2, bX1 G q1 (o1 + 33) P1.2.2.2.2.2.1.1 P1.2.2.2.2.2.1.2.1 P1.2.2.2.2.2.1.2.2.1 P1.2.2.2.2.2.1.2.2.2, bX4 G q1 (o1 + 36) P1.2.2.2.2.2.2.1.1 P1.2.2.2.2.2.2.1.2, bX3 G q1 (o1 + 38) P1.2.2.2.2.2.2.2.1.1 P1.2.2.2.2.2.2.2.1.2.1 P1.2.2.2.2.2.2.2.1.2.2.1 P1.2.2.2.2.2.2.2.1.2.2.2, bX0 G q1 (o1 + 43) P1.2.2.2.2.2.2.2.2.1.2.2.1 P1.2.2.2.2.2.2.2.2.1.2.2.2, bX2 G q1 ((o1 + 43) + 3) P1.2.2.2.2.2.2.2.2.1.1.1 P1.2.2.2.2.2.2.2.2.1.1.2.1 P1.2.2.2.2.2.2.2.2.1.1.2.2.1 P1.2.2.2.2.2.2.2.2.1.1.2.2.2.1 P1.2.2.2.2.2.2.2.2.1.1.2.2.2.2.1 P1.2.2.2.2.2.2.2.2.1.1.2.2.2.2.2.1 P1.2.2.2.2.2.2.2.2.1.1.2.2.2.2.2.2.1 P1.2.2.2.2.2.2.2.2.1.1.2.2.2.2.2.2.2, bX4 G q1 ((o1 + 43) + 9) P1.2.2.2.2.2.2.2.2.1.2.1.1 P1.2.2.2.2.2.2.2.2.1.2.1.2, bX7 G q1 (o1 + 54) P1.2.2.2.2.2.2.2.2.2.1 P1.2.2.2.2.2.2.2.2.2.2.1 P1.2.2.2.2.2.2.2.2.2.2.2, bA48 G q2 o2 P2] H locs → lv_has ls 5 [(0, .ref (q1 (o1 + 0))), (1, .ref (q2 (o2 + 0))), (2, .int v2), (3, .int v3)] → W p l e { frames := 7, cells := 0, slots := 0, locals := 163 } s m args below meth c H locs 0 0 (MQ below (zQ (some (.int y.1)) (zPost G [bX10 G q1 o1, bX9 G q1 (o1 + 1) y.2.1.1 y.2.1.2.1 y.2.1.2.2.1 y.2.1.2.2.2.1 y.2.1.2.2.2.2, bX6 G q1 (o1 + 3) y.2.2.1.1 y.2.2.1.2, bX8 G q1 (o1 + 12) y.2.2.2.1.1 y.2.2.2.1.2, bX5 G q1 (o1 + 19) y.2.2.2.2.1.2.1 y.2.2.2.2.1.2.2.1 y.2.2.2.2.1.2.2.2.1 y.2.2.2.2.1.2.2.2.2, bX2 G q1 ((o1 + 19) + 2) y.2.2.2.2.1.1.1 y.2.2.2.2.1.1.2.1 y.2.2.2.2.1.1.2.2.1 y.2.2.2.2.1.1.2.2.2.1 y.2.2.2.2.1.1.2.2.2.2.1 y.2.2.2.2.1.1.2.2.2.2.2.1 y.2.2.2.2.1.1.2.2.2.2.2.2.1 y.2.2.2.2.1.1.2.2.2.2.2.2.2, bX2 G q1 (o1 + 27) y.2.2.2.2.2.1.1 y.2.2.2.2.2.1.2.1 y.2.2.2.2.2.1.2.2.1 y.2.2.2.2.2.1.2.2.2.1 y.2.2.2.2.2.1.2.2.2.2.1 y.2.2.2.2.2.1.2.2.2.2.2.1 y.2.2.2.2.2.1.2.2.2.2.2.2.1 y.2.2.2.2.2.1.2.2.2.2.2.2.2, bX1 G q1 (o1 + 33) y.2.2.2.2.2.2.1.1 y.2.2.2.2.2.2.1.2.1 y.2.2.2.2.2.2.1.2.2.1 y.2.2.2.2.2.2.1.2.2.2, bX4 G q1 (o1 + 36) y.2.2.2.2.2.2.2.1.1 y.2.2.2.2.2.2.2.1.2, bX3 G q1 (o1 + 38) y.2.2.2.2.2.2.2.2.1.1 y.2.2.2.2.2.2.2.2.1.2.1 y.2.2.2.2.2.2.2.2.1.2.2.1 y.2.2.2.2.2.2.2.2.1.2.2.2, bX0 G q1 (o1 + 43) y.2.2.2.2.2.2.2.2.2.1.2.2.1 y.2.2.2.2.2.2.2.2.2.1.2.2.2, bX2 G q1 ((o1 + 43) + 3) y.2.2.2.2.2.2.2.2.2.1.1.1 y.2.2.2.2.2.2.2.2.2.1.1.2.1 y.2.2.2.2.2.2.2.2.2.1.1.2.2.1 y.2.2.2.2.2.2.2.2.2.1.1.2.2.2.1 y.2.2.2.2.2.2.2.2.2.1.1.2.2.2.2.1 y.2.2.2.2.2.2.2.2.2.1.1.2.2.2.2.2.1 y.2.2.2.2.2.2.2.2.2.1.1.2.2.2.2.2.2.1 y.2.2.2.2.2.2.2.2.2.1.1.2.2.2.2.2.2.2, bX4 G q1 ((o1 + 43) + 9) y.2.2.2.2.2.2.2.2.2.1.2.1.1 y.2.2.2.2.2.2.2.2.2.1.2.1.2, bX7 G q1 (o1 + 54) y.2.2.2.2.2.2.2.2.2.2.1 y.2.2.2.2.2.2.2.2.2.2.2.1 y.2.2.2.2.2.2.2.2.2.2.2.2, bA48 G q2 o2 P2]) A) args s 0 0 A) (F0 m 34 ls [])) : ∀ (P1 : VX10) (P2 : VA48) (v2 : Int32) (v3 : Int32) (H : Heap) (locs : List Loc) (ls : Array Slot), f_L_jail_160 r_34 P1 P2 v2 v3 = some y → zH G A s.heap [bX10 G q1 o1, bX9 G q1 (o1 + 1) P1.1.1 P1.1.2.1 P1.1.2.2.1 P1.1.2.2.2.1 P1.1.2.2.2.2, bX6 G q1 (o1 + 3) P1.2.1.1 P1.2.1.2, bX8 G q1 (o1 + 12) P1.2.2.1.1 P1.2.2.1.2, bX5 G q1 (o1 + 19) P1.2.2.2.1.2.1 P1.2.2.2.1.2.2.1 P1.2.2.2.1.2.2.2.1 P1.2.2.2.1.2.2.2.2, bX2 G q1 ((o1 + 19) + 2) P1.2.2.2.1.1.1 P1.2.2.2.1.1.2.1 P1.2.2.2.1.1.2.2.1 P1.2.2.2.1.1.2.2.2.1 P1.2.2.2.1.1.2.2.2.2.1 P1.2.2.2.1.1.2.2.2.2.2.1 P1.2.2.2.1.1.2.2.2.2.2.2.1 P1.2.2.2.1.1.2.2.2.2.2.2.2, bX2 G q1 (o1 + 27) P1.2.2.2.2.1.1 P1.2.2.2.2.1.2.1 P1.2.2.2.2.1.2.2.1 P1.2.2.2.2.1.2.2.2.1 P1.2.2.2.2.1.2.2.2.2.1 P1.2.2.2.2.1.2.2.2.2.2.1 P1.2.2.2.2.1.2.2.2.2.2.2.1 P1.2.2.2.2.1.2.2.2.2.2.2.2, bX1 G q1 (o1 + 33) P1.2.2.2.2.2.1.1 P1.2.2.2.2.2.1.2.1 P1.2.2.2.2.2.1.2.2.1 P1.2.2.2.2.2.1.2.2.2, bX4 G q1 (o1 + 36) P1.2.2.2.2.2.2.1.1 P1.2.2.2.2.2.2.1.2, bX3 G q1 (o1 + 38) P1.2.2.2.2.2.2.2.1.1 P1.2.2.2.2.2.2.2.1.2.1 P1.2.2.2.2.2.2.2.1.2.2.1 P1.2.2.2.2.2.2.2.1.2.2.2, bX0 G q1 (o1 + 43) P1.2.2.2.2.2.2.2.2.1.2.2.1 P1.2.2.2.2.2.2.2.2.1.2.2.2, bX2 G q1 ((o1 + 43) + 3) P1.2.2.2.2.2.2.2.2.1.1.1 P1.2.2.2.2.2.2.2.2.1.1.2.1 P1.2.2.2.2.2.2.2.2.1.1.2.2.1 P1.2.2.2.2.2.2.2.2.1.1.2.2.2.1 P1.2.2.2.2.2.2.2.2.1.1.2.2.2.2.1 P1.2.2.2.2.2.2.2.2.1.1.2.2.2.2.2.1 P1.2.2.2.2.2.2.2.2.1.1.2.2.2.2.2.2.1 P1.2.2.2.2.2.2.2.2.1.1.2.2.2.2.2.2.2, bX4 G q1 ((o1 + 43) + 9) P1.2.2.2.2.2.2.2.2.1.2.1.1 P1.2.2.2.2.2.2.2.2.1.2.1.2, bX7 G q1 (o1 + 54) P1.2.2.2.2.2.2.2.2.2.1 P1.2.2.2.2.2.2.2.2.2.2.1 P1.2.2.2.2.2.2.2.2.2.2.2, bA48 G q2 o2 P2] H locs → lv_has ls 5 [(0, .ref (q1 (o1 + 0))), (1, .ref (q2 (o2 + 0))), (2, .int v2), (3, .int v3)] → W p l e { frames := 7, cells := 0, slots := 0, locals := 163 } s m args below meth c H locs 0 0 (MQ below (zQ (some (.int y.1)) (zPost G [bX10 G q1 o1, bX9 G q1 (o1 + 1) y.2.1.1 y.2.1.2.1 y.2.1.2.2.1 y.2.1.2.2.2.1 y.2.1.2.2.2.2, bX6 G q1 (o1 + 3) y.2.2.1.1 y.2.2.1.2, bX8 G q1 (o1 + 12) y.2.2.2.1.1 y.2.2.2.1.2, bX5 G q1 (o1 + 19) y.2.2.2.2.1.2.1 y.2.2.2.2.1.2.2.1 y.2.2.2.2.1.2.2.2.1 y.2.2.2.2.1.2.2.2.2, bX2 G q1 ((o1 + 19) + 2) y.2.2.2.2.1.1.1 y.2.2.2.2.1.1.2.1 y.2.2.2.2.1.1.2.2.1 y.2.2.2.2.1.1.2.2.2.1 y.2.2.2.2.1.1.2.2.2.2.1 y.2.2.2.2.1.1.2.2.2.2.2.1 y.2.2.2.2.1.1.2.2.2.2.2.2.1 y.2.2.2.2.1.1.2.2.2.2.2.2.2, bX2 G q1 (o1 + 27) y.2.2.2.2.2.1.1 y.2.2.2.2.2.1.2.1 y.2.2.2.2.2.1.2.2.1 y.2.2.2.2.2.1.2.2.2.1 y.2.2.2.2.2.1.2.2.2.2.1 y.2.2.2.2.2.1.2.2.2.2.2.1 y.2.2.2.2.2.1.2.2.2.2.2.2.1 y.2.2.2.2.2.1.2.2.2.2.2.2.2, bX1 G q1 (o1 + 33) y.2.2.2.2.2.2.1.1 y.2.2.2.2.2.2.1.2.1 y.2.2.2.2.2.2.1.2.2.1 y.2.2.2.2.2.2.1.2.2.2, bX4 G q1 (o1 + 36) y.2.2.2.2.2.2.2.1.1 y.2.2.2.2.2.2.2.1.2, bX3 G q1 (o1 + 38) y.2.2.2.2.2.2.2.2.1.1 y.2.2.2.2.2.2.2.2.1.2.1 y.2.2.2.2.2.2.2.2.1.2.2.1 y.2.2.2.2.2.2.2.2.1.2.2.2, bX0 G q1 (o1 + 43) y.2.2.2.2.2.2.2.2.2.1.2.2.1 y.2.2.2.2.2.2.2.2.2.1.2.2.2, bX2 G q1 ((o1 + 43) + 3) y.2.2.2.2.2.2.2.2.2.1.1.1 y.2.2.2.2.2.2.2.2.2.1.1.2.1 y.2.2.2.2.2.2.2.2.2.1.1.2.2.1 y.2.2.2.2.2.2.2.2.2.1.1.2.2.2.1 y.2.2.2.2.2.2.2.2.2.1.1.2.2.2.2.1 y.2.2.2.2.2.2.2.2.2.1.1.2.2.2.2.2.1 y.2.2.2.2.2.2.2.2.2.1.1.2.2.2.2.2.2.1 y.2.2.2.2.2.2.2.2.2.1.1.2.2.2.2.2.2.2, bX4 G q1 ((o1 + 43) + 9) y.2.2.2.2.2.2.2.2.2.1.2.1.1 y.2.2.2.2.2.2.2.2.2.1.2.1.2, bX7 G q1 (o1 + 54) y.2.2.2.2.2.2.2.2.2.2.1 y.2.2.2.2.2.2.2.2.2.2.2.1 y.2.2.2.2.2.2.2.2.2.2.2.2, bA48 G q2 o2 P2]) A) args s 0 0 A) (F0 m 160 ls []) := by
  obtain ⟨hS0, hr, hlk, hK, hA, hT⟩ := id hZ
  have hx := hS0.1
  have hb := hS0.2.1
  have hml := hS0.2.2.1
  have hown : s.vm.findClass RL = some m.cls := hS0.2.2.2.1
  have hts := hS0.2.2.2.2
  intro P1 P2 v2 v3 H locs ls hf hw hl
  unfold f_L_jail_160 at hf
  refine lv_aload_n hx hb dL_jail_160 rfl (lv_at hl 0 rfl) ?_
  refine lv_iload_n hx hb dL_jail_161 rfl (lv_at hl 2 rfl) ?_
  refine lv_bipush (v := 65) hx hb dL_jail_162 rfl ?_
  refine lv_aload_n hx hb dL_jail_164 rfl (lv_at hl 1 rfl) ?_
  refine lv_iconst (v := 3) hx hb dL_jail_165 rfl ?_
  refine lv_iconst (v := 4) hx hb dL_jail_166 rfl ?_
  refine lv_iload_n hx hb dL_jail_167 rfl (lv_at hl 3 rfl) ?_
  refine lv_imul hx hb dL_jail_168 ?_
  refine lv_iadd hx hb dL_jail_169 ?_
  obtain ⟨g1, hf⟩ := z_gd hf
  refine z_iald hS0 hK hw 14 0 (zIn_vp g1) rfl rfl dL_jail_170 ?_
  refine lv_iadd hx hb dL_jail_171 ?_
  obtain ⟨r2, e3, hf⟩ := z_bd hf
  refine z_callS1 (As := [.ref (q1 (o1 + 0)), .int v2, .int ((65 : Int32) + (P2 ((3 : Int32) + ((4 : Int32) * v3)).toNatClampNeg))]) (rest := []) (bs' := [bX10 G q1 o1, bX9 G q1 (o1 + 1) r2.2.1.1 r2.2.1.2.1 r2.2.1.2.2.1 r2.2.1.2.2.2.1 r2.2.1.2.2.2.2, bX6 G q1 (o1 + 3) r2.2.2.1.1 r2.2.2.1.2, bX8 G q1 (o1 + 12) r2.2.2.2.1.1 r2.2.2.2.1.2, bX5 G q1 (o1 + 19) r2.2.2.2.2.1.2.1 r2.2.2.2.2.1.2.2.1 r2.2.2.2.2.1.2.2.2.1 r2.2.2.2.2.1.2.2.2.2, bX2 G q1 ((o1 + 19) + 2) r2.2.2.2.2.1.1.1 r2.2.2.2.2.1.1.2.1 r2.2.2.2.2.1.1.2.2.1 r2.2.2.2.2.1.1.2.2.2.1 r2.2.2.2.2.1.1.2.2.2.2.1 r2.2.2.2.2.1.1.2.2.2.2.2.1 r2.2.2.2.2.1.1.2.2.2.2.2.2.1 r2.2.2.2.2.1.1.2.2.2.2.2.2.2, bX2 G q1 (o1 + 27) r2.2.2.2.2.2.1.1 r2.2.2.2.2.2.1.2.1 r2.2.2.2.2.2.1.2.2.1 r2.2.2.2.2.2.1.2.2.2.1 r2.2.2.2.2.2.1.2.2.2.2.1 r2.2.2.2.2.2.1.2.2.2.2.2.1 r2.2.2.2.2.2.1.2.2.2.2.2.2.1 r2.2.2.2.2.2.1.2.2.2.2.2.2.2, bX1 G q1 (o1 + 33) r2.2.2.2.2.2.2.1.1 r2.2.2.2.2.2.2.1.2.1 r2.2.2.2.2.2.2.1.2.2.1 r2.2.2.2.2.2.2.1.2.2.2, bX4 G q1 (o1 + 36) r2.2.2.2.2.2.2.2.1.1 r2.2.2.2.2.2.2.2.1.2, bX3 G q1 (o1 + 38) r2.2.2.2.2.2.2.2.2.1.1 r2.2.2.2.2.2.2.2.2.1.2.1 r2.2.2.2.2.2.2.2.2.1.2.2.1 r2.2.2.2.2.2.2.2.2.1.2.2.2, bX0 G q1 (o1 + 43) r2.2.2.2.2.2.2.2.2.2.1.2.2.1 r2.2.2.2.2.2.2.2.2.2.1.2.2.2, bX2 G q1 ((o1 + 43) + 3) r2.2.2.2.2.2.2.2.2.2.1.1.1 r2.2.2.2.2.2.2.2.2.2.1.1.2.1 r2.2.2.2.2.2.2.2.2.2.1.1.2.2.1 r2.2.2.2.2.2.2.2.2.2.1.1.2.2.2.1 r2.2.2.2.2.2.2.2.2.2.1.1.2.2.2.2.1 r2.2.2.2.2.2.2.2.2.2.1.1.2.2.2.2.2.1 r2.2.2.2.2.2.2.2.2.2.1.1.2.2.2.2.2.2.1 r2.2.2.2.2.2.2.2.2.2.1.1.2.2.2.2.2.2.2, bX4 G q1 ((o1 + 43) + 9) r2.2.2.2.2.2.2.2.2.2.1.2.1.1 r2.2.2.2.2.2.2.2.2.2.1.2.1.2, bX7 G q1 (o1 + 54) r2.2.2.2.2.2.2.2.2.2.2.1 r2.2.2.2.2.2.2.2.2.2.2.2.1 r2.2.2.2.2.2.2.2.2.2.2.2.2, bA48 G q2 o2 P2]) hS0 (c_L_put l G q1 o1 P1 v2 ((65 : Int32) + (P2 ((3 : Int32) + ((4 : Int32) * v3)).toNatClampNeg)) r2 e3) zc_L_put gL_jail_L_put ⟨Nat.le_of_ble_eq_true rfl, Nat.le_of_ble_eq_true rfl⟩ hK hA hT hw (is := [0, 1, 2, 3, 4, 5, 6, 7, 8, 9, 10, 11, 12, 13]) rfl rfl rfl rfl rfl hl.1 rfl (Nat.le_of_ble_eq_true rfl) dL_jail_172 (fun H locs hw => ?_)
  refine lv_goto (tgt := 209) hx hb dL_jail_175 rfl ?_
  refine lv_istore_n (lv' := [(2, .int r2.1), (0, .ref (q1 (o1 + 0))), (1, .ref (q2 (o2 + 0))), (3, .int v3)]) hx hb dL_jail_209 rfl hl (by decide) rfl (fun ls hl => ?_)
  refine lv_iinc (v := (v3 + 1)) (lv' := [(3, .int (v3 + 1)), (2, .int r2.1), (0, .ref (q1 (o1 + 0))), (1, .ref (q2 (o2 + 0)))]) hx hb dL_jail_210 hl (k := 3) rfl rfl (by decide) rfl (fun ls hl => ?_)
  refine lv_goto (tgt := 34) hx hb dL_jail_213 rfl ?_
  exact h_34 _ _ _ _ _ _ _ hf hw (lv_sub hl [2, 3, 1, 0] rfl)
set_option maxHeartbeats 4000000 in
set_option maxRecDepth 100000 in
theorem k_L_jail_190 {p : Program} {l : Launch} {e : Env} {s : State} {m : MethodId} {args : Array Value} {below : List Frame} {meth : Method} {c : Code} {A : Nat → Prop} {G : zG} {q1 : Nat → Nat} {o1 : Nat} {q2 : Nat → Nat} {o2 : Nat} {r_34 : VX10 → VA48 → Int32 → Int32 → Option (Int32 × VX10)} (hZ : zZ p s m args meth c A G cL_jail 5 RL wsL_jail (some .boolean)) (y : Int32 × VX10) (h_34 : ∀ (P1 : VX10) (P2 : VA48) (v2 : Int32) (v3 : Int32) (H : Heap) (locs : List Loc) (ls : Array Slot), r_34 P1 P2 v2 v3 = some y → zH G A s.heap [bX10 G q1 o1, bX9 G q1 (o1 + 1) P1.1.1 P1.1.2.1 P1.1.2.2.1 P1.1.2.2.2.1 P1.1.2.2.2.2, bX6 G q1 (o1 + 3) P1.2.1.1 P1.2.1.2, bX8 G q1 (o1 + 12) P1.2.2.1.1 P1.2.2.1.2, bX5 G q1 (o1 + 19) P1.2.2.2.1.2.1 P1.2.2.2.1.2.2.1 P1.2.2.2.1.2.2.2.1 P1.2.2.2.1.2.2.2.2, bX2 G q1 ((o1 + 19) + 2) P1.2.2.2.1.1.1 P1.2.2.2.1.1.2.1 P1.2.2.2.1.1.2.2.1 P1.2.2.2.1.1.2.2.2.1 P1.2.2.2.1.1.2.2.2.2.1 P1.2.2.2.1.1.2.2.2.2.2.1 P1.2.2.2.1.1.2.2.2.2.2.2.1 P1.2.2.2.1.1.2.2.2.2.2.2.2, bX2 G q1 (o1 + 27) P1.2.2.2.2.1.1 P1.2.2.2.2.1.2.1 P1.2.2.2.2.1.2.2.1 P1.2.2.2.2.1.2.2.2.1 P1.2.2.2.2.1.2.2.2.2.1 P1.2.2.2.2.1.2.2.2.2.2.1 P1.2.2.2.2.1.2.2.2.2.2.2.1 P1.2.2.2.2.1.2.2.2.2.2.2.2, bX1 G q1 (o1 + 33) P1.2.2.2.2.2.1.1 P1.2.2.2.2.2.1.2.1 P1.2.2.2.2.2.1.2.2.1 P1.2.2.2.2.2.1.2.2.2, bX4 G q1 (o1 + 36) P1.2.2.2.2.2.2.1.1 P1.2.2.2.2.2.2.1.2, bX3 G q1 (o1 + 38) P1.2.2.2.2.2.2.2.1.1 P1.2.2.2.2.2.2.2.1.2.1 P1.2.2.2.2.2.2.2.1.2.2.1 P1.2.2.2.2.2.2.2.1.2.2.2, bX0 G q1 (o1 + 43) P1.2.2.2.2.2.2.2.2.1.2.2.1 P1.2.2.2.2.2.2.2.2.1.2.2.2, bX2 G q1 ((o1 + 43) + 3) P1.2.2.2.2.2.2.2.2.1.1.1 P1.2.2.2.2.2.2.2.2.1.1.2.1 P1.2.2.2.2.2.2.2.2.1.1.2.2.1 P1.2.2.2.2.2.2.2.2.1.1.2.2.2.1 P1.2.2.2.2.2.2.2.2.1.1.2.2.2.2.1 P1.2.2.2.2.2.2.2.2.1.1.2.2.2.2.2.1 P1.2.2.2.2.2.2.2.2.1.1.2.2.2.2.2.2.1 P1.2.2.2.2.2.2.2.2.1.1.2.2.2.2.2.2.2, bX4 G q1 ((o1 + 43) + 9) P1.2.2.2.2.2.2.2.2.1.2.1.1 P1.2.2.2.2.2.2.2.2.1.2.1.2, bX7 G q1 (o1 + 54) P1.2.2.2.2.2.2.2.2.2.1 P1.2.2.2.2.2.2.2.2.2.2.1 P1.2.2.2.2.2.2.2.2.2.2.2, bA48 G q2 o2 P2] H locs → lv_has ls 5 [(0, .ref (q1 (o1 + 0))), (1, .ref (q2 (o2 + 0))), (2, .int v2), (3, .int v3)] → W p l e { frames := 7, cells := 0, slots := 0, locals := 163 } s m args below meth c H locs 0 0 (MQ below (zQ (some (.int y.1)) (zPost G [bX10 G q1 o1, bX9 G q1 (o1 + 1) y.2.1.1 y.2.1.2.1 y.2.1.2.2.1 y.2.1.2.2.2.1 y.2.1.2.2.2.2, bX6 G q1 (o1 + 3) y.2.2.1.1 y.2.2.1.2, bX8 G q1 (o1 + 12) y.2.2.2.1.1 y.2.2.2.1.2, bX5 G q1 (o1 + 19) y.2.2.2.2.1.2.1 y.2.2.2.2.1.2.2.1 y.2.2.2.2.1.2.2.2.1 y.2.2.2.2.1.2.2.2.2, bX2 G q1 ((o1 + 19) + 2) y.2.2.2.2.1.1.1 y.2.2.2.2.1.1.2.1 y.2.2.2.2.1.1.2.2.1 y.2.2.2.2.1.1.2.2.2.1 y.2.2.2.2.1.1.2.2.2.2.1 y.2.2.2.2.1.1.2.2.2.2.2.1 y.2.2.2.2.1.1.2.2.2.2.2.2.1 y.2.2.2.2.1.1.2.2.2.2.2.2.2, bX2 G q1 (o1 + 27) y.2.2.2.2.2.1.1 y.2.2.2.2.2.1.2.1 y.2.2.2.2.2.1.2.2.1 y.2.2.2.2.2.1.2.2.2.1 y.2.2.2.2.2.1.2.2.2.2.1 y.2.2.2.2.2.1.2.2.2.2.2.1 y.2.2.2.2.2.1.2.2.2.2.2.2.1 y.2.2.2.2.2.1.2.2.2.2.2.2.2, bX1 G q1 (o1 + 33) y.2.2.2.2.2.2.1.1 y.2.2.2.2.2.2.1.2.1 y.2.2.2.2.2.2.1.2.2.1 y.2.2.2.2.2.2.1.2.2.2, bX4 G q1 (o1 + 36) y.2.2.2.2.2.2.2.1.1 y.2.2.2.2.2.2.2.1.2, bX3 G q1 (o1 + 38) y.2.2.2.2.2.2.2.2.1.1 y.2.2.2.2.2.2.2.2.1.2.1 y.2.2.2.2.2.2.2.2.1.2.2.1 y.2.2.2.2.2.2.2.2.1.2.2.2, bX0 G q1 (o1 + 43) y.2.2.2.2.2.2.2.2.2.1.2.2.1 y.2.2.2.2.2.2.2.2.2.1.2.2.2, bX2 G q1 ((o1 + 43) + 3) y.2.2.2.2.2.2.2.2.2.1.1.1 y.2.2.2.2.2.2.2.2.2.1.1.2.1 y.2.2.2.2.2.2.2.2.2.1.1.2.2.1 y.2.2.2.2.2.2.2.2.2.1.1.2.2.2.1 y.2.2.2.2.2.2.2.2.2.1.1.2.2.2.2.1 y.2.2.2.2.2.2.2.2.2.1.1.2.2.2.2.2.1 y.2.2.2.2.2.2.2.2.2.1.1.2.2.2.2.2.2.1 y.2.2.2.2.2.2.2.2.2.1.1.2.2.2.2.2.2.2, bX4 G q1 ((o1 + 43) + 9) y.2.2.2.2.2.2.2.2.2.1.2.1.1 y.2.2.2.2.2.2.2.2.2.1.2.1.2, bX7 G q1 (o1 + 54) y.2.2.2.2.2.2.2.2.2.2.1 y.2.2.2.2.2.2.2.2.2.2.2.1 y.2.2.2.2.2.2.2.2.2.2.2.2, bA48 G q2 o2 P2]) A) args s 0 0 A) (F0 m 34 ls [])) : ∀ (P1 : VX10) (P2 : VA48) (v2 : Int32) (v3 : Int32) (H : Heap) (locs : List Loc) (ls : Array Slot), f_L_jail_190 r_34 P1 P2 v2 v3 = some y → zH G A s.heap [bX10 G q1 o1, bX9 G q1 (o1 + 1) P1.1.1 P1.1.2.1 P1.1.2.2.1 P1.1.2.2.2.1 P1.1.2.2.2.2, bX6 G q1 (o1 + 3) P1.2.1.1 P1.2.1.2, bX8 G q1 (o1 + 12) P1.2.2.1.1 P1.2.2.1.2, bX5 G q1 (o1 + 19) P1.2.2.2.1.2.1 P1.2.2.2.1.2.2.1 P1.2.2.2.1.2.2.2.1 P1.2.2.2.1.2.2.2.2, bX2 G q1 ((o1 + 19) + 2) P1.2.2.2.1.1.1 P1.2.2.2.1.1.2.1 P1.2.2.2.1.1.2.2.1 P1.2.2.2.1.1.2.2.2.1 P1.2.2.2.1.1.2.2.2.2.1 P1.2.2.2.1.1.2.2.2.2.2.1 P1.2.2.2.1.1.2.2.2.2.2.2.1 P1.2.2.2.1.1.2.2.2.2.2.2.2, bX2 G q1 (o1 + 27) P1.2.2.2.2.1.1 P1.2.2.2.2.1.2.1 P1.2.2.2.2.1.2.2.1 P1.2.2.2.2.1.2.2.2.1 P1.2.2.2.2.1.2.2.2.2.1 P1.2.2.2.2.1.2.2.2.2.2.1 P1.2.2.2.2.1.2.2.2.2.2.2.1 P1.2.2.2.2.1.2.2.2.2.2.2.2, bX1 G q1 (o1 + 33) P1.2.2.2.2.2.1.1 P1.2.2.2.2.2.1.2.1 P1.2.2.2.2.2.1.2.2.1 P1.2.2.2.2.2.1.2.2.2, bX4 G q1 (o1 + 36) P1.2.2.2.2.2.2.1.1 P1.2.2.2.2.2.2.1.2, bX3 G q1 (o1 + 38) P1.2.2.2.2.2.2.2.1.1 P1.2.2.2.2.2.2.2.1.2.1 P1.2.2.2.2.2.2.2.1.2.2.1 P1.2.2.2.2.2.2.2.1.2.2.2, bX0 G q1 (o1 + 43) P1.2.2.2.2.2.2.2.2.1.2.2.1 P1.2.2.2.2.2.2.2.2.1.2.2.2, bX2 G q1 ((o1 + 43) + 3) P1.2.2.2.2.2.2.2.2.1.1.1 P1.2.2.2.2.2.2.2.2.1.1.2.1 P1.2.2.2.2.2.2.2.2.1.1.2.2.1 P1.2.2.2.2.2.2.2.2.1.1.2.2.2.1 P1.2.2.2.2.2.2.2.2.1.1.2.2.2.2.1 P1.2.2.2.2.2.2.2.2.1.1.2.2.2.2.2.1 P1.2.2.2.2.2.2.2.2.1.1.2.2.2.2.2.2.1 P1.2.2.2.2.2.2.2.2.1.1.2.2.2.2.2.2.2, bX4 G q1 ((o1 + 43) + 9) P1.2.2.2.2.2.2.2.2.1.2.1.1 P1.2.2.2.2.2.2.2.2.1.2.1.2, bX7 G q1 (o1 + 54) P1.2.2.2.2.2.2.2.2.2.1 P1.2.2.2.2.2.2.2.2.2.2.1 P1.2.2.2.2.2.2.2.2.2.2.2, bA48 G q2 o2 P2] H locs → lv_has ls 5 [(0, .ref (q1 (o1 + 0))), (1, .ref (q2 (o2 + 0))), (2, .int v2), (3, .int v3)] → W p l e { frames := 7, cells := 0, slots := 0, locals := 163 } s m args below meth c H locs 0 0 (MQ below (zQ (some (.int y.1)) (zPost G [bX10 G q1 o1, bX9 G q1 (o1 + 1) y.2.1.1 y.2.1.2.1 y.2.1.2.2.1 y.2.1.2.2.2.1 y.2.1.2.2.2.2, bX6 G q1 (o1 + 3) y.2.2.1.1 y.2.2.1.2, bX8 G q1 (o1 + 12) y.2.2.2.1.1 y.2.2.2.1.2, bX5 G q1 (o1 + 19) y.2.2.2.2.1.2.1 y.2.2.2.2.1.2.2.1 y.2.2.2.2.1.2.2.2.1 y.2.2.2.2.1.2.2.2.2, bX2 G q1 ((o1 + 19) + 2) y.2.2.2.2.1.1.1 y.2.2.2.2.1.1.2.1 y.2.2.2.2.1.1.2.2.1 y.2.2.2.2.1.1.2.2.2.1 y.2.2.2.2.1.1.2.2.2.2.1 y.2.2.2.2.1.1.2.2.2.2.2.1 y.2.2.2.2.1.1.2.2.2.2.2.2.1 y.2.2.2.2.1.1.2.2.2.2.2.2.2, bX2 G q1 (o1 + 27) y.2.2.2.2.2.1.1 y.2.2.2.2.2.1.2.1 y.2.2.2.2.2.1.2.2.1 y.2.2.2.2.2.1.2.2.2.1 y.2.2.2.2.2.1.2.2.2.2.1 y.2.2.2.2.2.1.2.2.2.2.2.1 y.2.2.2.2.2.1.2.2.2.2.2.2.1 y.2.2.2.2.2.1.2.2.2.2.2.2.2, bX1 G q1 (o1 + 33) y.2.2.2.2.2.2.1.1 y.2.2.2.2.2.2.1.2.1 y.2.2.2.2.2.2.1.2.2.1 y.2.2.2.2.2.2.1.2.2.2, bX4 G q1 (o1 + 36) y.2.2.2.2.2.2.2.1.1 y.2.2.2.2.2.2.2.1.2, bX3 G q1 (o1 + 38) y.2.2.2.2.2.2.2.2.1.1 y.2.2.2.2.2.2.2.2.1.2.1 y.2.2.2.2.2.2.2.2.1.2.2.1 y.2.2.2.2.2.2.2.2.1.2.2.2, bX0 G q1 (o1 + 43) y.2.2.2.2.2.2.2.2.2.1.2.2.1 y.2.2.2.2.2.2.2.2.2.1.2.2.2, bX2 G q1 ((o1 + 43) + 3) y.2.2.2.2.2.2.2.2.2.1.1.1 y.2.2.2.2.2.2.2.2.2.1.1.2.1 y.2.2.2.2.2.2.2.2.2.1.1.2.2.1 y.2.2.2.2.2.2.2.2.2.1.1.2.2.2.1 y.2.2.2.2.2.2.2.2.2.1.1.2.2.2.2.1 y.2.2.2.2.2.2.2.2.2.1.1.2.2.2.2.2.1 y.2.2.2.2.2.2.2.2.2.1.1.2.2.2.2.2.2.1 y.2.2.2.2.2.2.2.2.2.1.1.2.2.2.2.2.2.2, bX4 G q1 ((o1 + 43) + 9) y.2.2.2.2.2.2.2.2.2.1.2.1.1 y.2.2.2.2.2.2.2.2.2.1.2.1.2, bX7 G q1 (o1 + 54) y.2.2.2.2.2.2.2.2.2.2.1 y.2.2.2.2.2.2.2.2.2.2.2.1 y.2.2.2.2.2.2.2.2.2.2.2.2, bA48 G q2 o2 P2]) A) args s 0 0 A) (F0 m 190 ls []) := by
  obtain ⟨hS0, hr, hlk, hK, hA, hT⟩ := id hZ
  have hx := hS0.1
  have hb := hS0.2.1
  have hml := hS0.2.2.1
  have hown : s.vm.findClass RL = some m.cls := hS0.2.2.2.1
  have hts := hS0.2.2.2.2
  intro P1 P2 v2 v3 H locs ls hf hw hl
  unfold f_L_jail_190 at hf
  refine lv_aload_n hx hb dL_jail_190 rfl (lv_at hl 0 rfl) ?_
  refine lv_iload_n hx hb dL_jail_191 rfl (lv_at hl 2 rfl) ?_
  refine lv_bipush (v := 48) hx hb dL_jail_192 rfl ?_
  refine lv_aload_n hx hb dL_jail_194 rfl (lv_at hl 1 rfl) ?_
  refine lv_iconst (v := 4) hx hb dL_jail_195 rfl ?_
  refine lv_iconst (v := 4) hx hb dL_jail_196 rfl ?_
  refine lv_iload_n hx hb dL_jail_197 rfl (lv_at hl 3 rfl) ?_
  refine lv_imul hx hb dL_jail_198 ?_
  refine lv_iadd hx hb dL_jail_199 ?_
  obtain ⟨g4, hf⟩ := z_gd hf
  refine z_iald hS0 hK hw 14 0 (zIn_vp g4) rfl rfl dL_jail_200 ?_
  refine lv_iadd hx hb dL_jail_201 ?_
  obtain ⟨r5, e6, hf⟩ := z_bd hf
  refine z_callS1 (As := [.ref (q1 (o1 + 0)), .int v2, .int ((48 : Int32) + (P2 ((4 : Int32) + ((4 : Int32) * v3)).toNatClampNeg))]) (rest := []) (bs' := [bX10 G q1 o1, bX9 G q1 (o1 + 1) r5.2.1.1 r5.2.1.2.1 r5.2.1.2.2.1 r5.2.1.2.2.2.1 r5.2.1.2.2.2.2, bX6 G q1 (o1 + 3) r5.2.2.1.1 r5.2.2.1.2, bX8 G q1 (o1 + 12) r5.2.2.2.1.1 r5.2.2.2.1.2, bX5 G q1 (o1 + 19) r5.2.2.2.2.1.2.1 r5.2.2.2.2.1.2.2.1 r5.2.2.2.2.1.2.2.2.1 r5.2.2.2.2.1.2.2.2.2, bX2 G q1 ((o1 + 19) + 2) r5.2.2.2.2.1.1.1 r5.2.2.2.2.1.1.2.1 r5.2.2.2.2.1.1.2.2.1 r5.2.2.2.2.1.1.2.2.2.1 r5.2.2.2.2.1.1.2.2.2.2.1 r5.2.2.2.2.1.1.2.2.2.2.2.1 r5.2.2.2.2.1.1.2.2.2.2.2.2.1 r5.2.2.2.2.1.1.2.2.2.2.2.2.2, bX2 G q1 (o1 + 27) r5.2.2.2.2.2.1.1 r5.2.2.2.2.2.1.2.1 r5.2.2.2.2.2.1.2.2.1 r5.2.2.2.2.2.1.2.2.2.1 r5.2.2.2.2.2.1.2.2.2.2.1 r5.2.2.2.2.2.1.2.2.2.2.2.1 r5.2.2.2.2.2.1.2.2.2.2.2.2.1 r5.2.2.2.2.2.1.2.2.2.2.2.2.2, bX1 G q1 (o1 + 33) r5.2.2.2.2.2.2.1.1 r5.2.2.2.2.2.2.1.2.1 r5.2.2.2.2.2.2.1.2.2.1 r5.2.2.2.2.2.2.1.2.2.2, bX4 G q1 (o1 + 36) r5.2.2.2.2.2.2.2.1.1 r5.2.2.2.2.2.2.2.1.2, bX3 G q1 (o1 + 38) r5.2.2.2.2.2.2.2.2.1.1 r5.2.2.2.2.2.2.2.2.1.2.1 r5.2.2.2.2.2.2.2.2.1.2.2.1 r5.2.2.2.2.2.2.2.2.1.2.2.2, bX0 G q1 (o1 + 43) r5.2.2.2.2.2.2.2.2.2.1.2.2.1 r5.2.2.2.2.2.2.2.2.2.1.2.2.2, bX2 G q1 ((o1 + 43) + 3) r5.2.2.2.2.2.2.2.2.2.1.1.1 r5.2.2.2.2.2.2.2.2.2.1.1.2.1 r5.2.2.2.2.2.2.2.2.2.1.1.2.2.1 r5.2.2.2.2.2.2.2.2.2.1.1.2.2.2.1 r5.2.2.2.2.2.2.2.2.2.1.1.2.2.2.2.1 r5.2.2.2.2.2.2.2.2.2.1.1.2.2.2.2.2.1 r5.2.2.2.2.2.2.2.2.2.1.1.2.2.2.2.2.2.1 r5.2.2.2.2.2.2.2.2.2.1.1.2.2.2.2.2.2.2, bX4 G q1 ((o1 + 43) + 9) r5.2.2.2.2.2.2.2.2.2.1.2.1.1 r5.2.2.2.2.2.2.2.2.2.1.2.1.2, bX7 G q1 (o1 + 54) r5.2.2.2.2.2.2.2.2.2.2.1 r5.2.2.2.2.2.2.2.2.2.2.2.1 r5.2.2.2.2.2.2.2.2.2.2.2.2, bA48 G q2 o2 P2]) hS0 (c_L_put l G q1 o1 P1 v2 ((48 : Int32) + (P2 ((4 : Int32) + ((4 : Int32) * v3)).toNatClampNeg)) r5 e6) zc_L_put gL_jail_L_put ⟨Nat.le_of_ble_eq_true rfl, Nat.le_of_ble_eq_true rfl⟩ hK hA hT hw (is := [0, 1, 2, 3, 4, 5, 6, 7, 8, 9, 10, 11, 12, 13]) rfl rfl rfl rfl rfl hl.1 rfl (Nat.le_of_ble_eq_true rfl) dL_jail_202 (fun H locs hw => ?_)
  refine lv_goto (tgt := 209) hx hb dL_jail_205 rfl ?_
  refine lv_istore_n (lv' := [(2, .int r5.1), (0, .ref (q1 (o1 + 0))), (1, .ref (q2 (o2 + 0))), (3, .int v3)]) hx hb dL_jail_209 rfl hl (by decide) rfl (fun ls hl => ?_)
  refine lv_iinc (v := (v3 + 1)) (lv' := [(3, .int (v3 + 1)), (2, .int r5.1), (0, .ref (q1 (o1 + 0))), (1, .ref (q2 (o2 + 0)))]) hx hb dL_jail_210 hl (k := 3) rfl rfl (by decide) rfl (fun ls hl => ?_)
  refine lv_goto (tgt := 34) hx hb dL_jail_213 rfl ?_
  exact h_34 _ _ _ _ _ _ _ hf hw (lv_sub hl [2, 3, 1, 0] rfl)
set_option maxHeartbeats 4000000 in
set_option maxRecDepth 100000 in
theorem k_L_jail_147 {p : Program} {l : Launch} {e : Env} {s : State} {m : MethodId} {args : Array Value} {below : List Frame} {meth : Method} {c : Code} {A : Nat → Prop} {G : zG} {q1 : Nat → Nat} {o1 : Nat} {q2 : Nat → Nat} {o2 : Nat} {r_34 : VX10 → VA48 → Int32 → Int32 → Option (Int32 × VX10)} (hZ : zZ p s m args meth c A G cL_jail 5 RL wsL_jail (some .boolean)) (y : Int32 × VX10) (h_34 : ∀ (P1 : VX10) (P2 : VA48) (v2 : Int32) (v3 : Int32) (H : Heap) (locs : List Loc) (ls : Array Slot), r_34 P1 P2 v2 v3 = some y → zH G A s.heap [bX10 G q1 o1, bX9 G q1 (o1 + 1) P1.1.1 P1.1.2.1 P1.1.2.2.1 P1.1.2.2.2.1 P1.1.2.2.2.2, bX6 G q1 (o1 + 3) P1.2.1.1 P1.2.1.2, bX8 G q1 (o1 + 12) P1.2.2.1.1 P1.2.2.1.2, bX5 G q1 (o1 + 19) P1.2.2.2.1.2.1 P1.2.2.2.1.2.2.1 P1.2.2.2.1.2.2.2.1 P1.2.2.2.1.2.2.2.2, bX2 G q1 ((o1 + 19) + 2) P1.2.2.2.1.1.1 P1.2.2.2.1.1.2.1 P1.2.2.2.1.1.2.2.1 P1.2.2.2.1.1.2.2.2.1 P1.2.2.2.1.1.2.2.2.2.1 P1.2.2.2.1.1.2.2.2.2.2.1 P1.2.2.2.1.1.2.2.2.2.2.2.1 P1.2.2.2.1.1.2.2.2.2.2.2.2, bX2 G q1 (o1 + 27) P1.2.2.2.2.1.1 P1.2.2.2.2.1.2.1 P1.2.2.2.2.1.2.2.1 P1.2.2.2.2.1.2.2.2.1 P1.2.2.2.2.1.2.2.2.2.1 P1.2.2.2.2.1.2.2.2.2.2.1 P1.2.2.2.2.1.2.2.2.2.2.2.1 P1.2.2.2.2.1.2.2.2.2.2.2.2, bX1 G q1 (o1 + 33) P1.2.2.2.2.2.1.1 P1.2.2.2.2.2.1.2.1 P1.2.2.2.2.2.1.2.2.1 P1.2.2.2.2.2.1.2.2.2, bX4 G q1 (o1 + 36) P1.2.2.2.2.2.2.1.1 P1.2.2.2.2.2.2.1.2, bX3 G q1 (o1 + 38) P1.2.2.2.2.2.2.2.1.1 P1.2.2.2.2.2.2.2.1.2.1 P1.2.2.2.2.2.2.2.1.2.2.1 P1.2.2.2.2.2.2.2.1.2.2.2, bX0 G q1 (o1 + 43) P1.2.2.2.2.2.2.2.2.1.2.2.1 P1.2.2.2.2.2.2.2.2.1.2.2.2, bX2 G q1 ((o1 + 43) + 3) P1.2.2.2.2.2.2.2.2.1.1.1 P1.2.2.2.2.2.2.2.2.1.1.2.1 P1.2.2.2.2.2.2.2.2.1.1.2.2.1 P1.2.2.2.2.2.2.2.2.1.1.2.2.2.1 P1.2.2.2.2.2.2.2.2.1.1.2.2.2.2.1 P1.2.2.2.2.2.2.2.2.1.1.2.2.2.2.2.1 P1.2.2.2.2.2.2.2.2.1.1.2.2.2.2.2.2.1 P1.2.2.2.2.2.2.2.2.1.1.2.2.2.2.2.2.2, bX4 G q1 ((o1 + 43) + 9) P1.2.2.2.2.2.2.2.2.1.2.1.1 P1.2.2.2.2.2.2.2.2.1.2.1.2, bX7 G q1 (o1 + 54) P1.2.2.2.2.2.2.2.2.2.1 P1.2.2.2.2.2.2.2.2.2.2.1 P1.2.2.2.2.2.2.2.2.2.2.2, bA48 G q2 o2 P2] H locs → lv_has ls 5 [(0, .ref (q1 (o1 + 0))), (1, .ref (q2 (o2 + 0))), (2, .int v2), (3, .int v3)] → W p l e { frames := 7, cells := 0, slots := 0, locals := 163 } s m args below meth c H locs 0 0 (MQ below (zQ (some (.int y.1)) (zPost G [bX10 G q1 o1, bX9 G q1 (o1 + 1) y.2.1.1 y.2.1.2.1 y.2.1.2.2.1 y.2.1.2.2.2.1 y.2.1.2.2.2.2, bX6 G q1 (o1 + 3) y.2.2.1.1 y.2.2.1.2, bX8 G q1 (o1 + 12) y.2.2.2.1.1 y.2.2.2.1.2, bX5 G q1 (o1 + 19) y.2.2.2.2.1.2.1 y.2.2.2.2.1.2.2.1 y.2.2.2.2.1.2.2.2.1 y.2.2.2.2.1.2.2.2.2, bX2 G q1 ((o1 + 19) + 2) y.2.2.2.2.1.1.1 y.2.2.2.2.1.1.2.1 y.2.2.2.2.1.1.2.2.1 y.2.2.2.2.1.1.2.2.2.1 y.2.2.2.2.1.1.2.2.2.2.1 y.2.2.2.2.1.1.2.2.2.2.2.1 y.2.2.2.2.1.1.2.2.2.2.2.2.1 y.2.2.2.2.1.1.2.2.2.2.2.2.2, bX2 G q1 (o1 + 27) y.2.2.2.2.2.1.1 y.2.2.2.2.2.1.2.1 y.2.2.2.2.2.1.2.2.1 y.2.2.2.2.2.1.2.2.2.1 y.2.2.2.2.2.1.2.2.2.2.1 y.2.2.2.2.2.1.2.2.2.2.2.1 y.2.2.2.2.2.1.2.2.2.2.2.2.1 y.2.2.2.2.2.1.2.2.2.2.2.2.2, bX1 G q1 (o1 + 33) y.2.2.2.2.2.2.1.1 y.2.2.2.2.2.2.1.2.1 y.2.2.2.2.2.2.1.2.2.1 y.2.2.2.2.2.2.1.2.2.2, bX4 G q1 (o1 + 36) y.2.2.2.2.2.2.2.1.1 y.2.2.2.2.2.2.2.1.2, bX3 G q1 (o1 + 38) y.2.2.2.2.2.2.2.2.1.1 y.2.2.2.2.2.2.2.2.1.2.1 y.2.2.2.2.2.2.2.2.1.2.2.1 y.2.2.2.2.2.2.2.2.1.2.2.2, bX0 G q1 (o1 + 43) y.2.2.2.2.2.2.2.2.2.1.2.2.1 y.2.2.2.2.2.2.2.2.2.1.2.2.2, bX2 G q1 ((o1 + 43) + 3) y.2.2.2.2.2.2.2.2.2.1.1.1 y.2.2.2.2.2.2.2.2.2.1.1.2.1 y.2.2.2.2.2.2.2.2.2.1.1.2.2.1 y.2.2.2.2.2.2.2.2.2.1.1.2.2.2.1 y.2.2.2.2.2.2.2.2.2.1.1.2.2.2.2.1 y.2.2.2.2.2.2.2.2.2.1.1.2.2.2.2.2.1 y.2.2.2.2.2.2.2.2.2.1.1.2.2.2.2.2.2.1 y.2.2.2.2.2.2.2.2.2.1.1.2.2.2.2.2.2.2, bX4 G q1 ((o1 + 43) + 9) y.2.2.2.2.2.2.2.2.2.1.2.1.1 y.2.2.2.2.2.2.2.2.2.1.2.1.2, bX7 G q1 (o1 + 54) y.2.2.2.2.2.2.2.2.2.2.1 y.2.2.2.2.2.2.2.2.2.2.2.1 y.2.2.2.2.2.2.2.2.2.2.2.2, bA48 G q2 o2 P2]) A) args s 0 0 A) (F0 m 34 ls [])) : ∀ (P1 : VX10) (P2 : VA48) (v3 : Int32) (v4 : Int32) (t0 : Int32) (H : Heap) (locs : List Loc) (ls : Array Slot), f_L_jail_147 r_34 P1 P2 v3 v4 t0 = some y → zH G A s.heap [bX10 G q1 o1, bX9 G q1 (o1 + 1) P1.1.1 P1.1.2.1 P1.1.2.2.1 P1.1.2.2.2.1 P1.1.2.2.2.2, bX6 G q1 (o1 + 3) P1.2.1.1 P1.2.1.2, bX8 G q1 (o1 + 12) P1.2.2.1.1 P1.2.2.1.2, bX5 G q1 (o1 + 19) P1.2.2.2.1.2.1 P1.2.2.2.1.2.2.1 P1.2.2.2.1.2.2.2.1 P1.2.2.2.1.2.2.2.2, bX2 G q1 ((o1 + 19) + 2) P1.2.2.2.1.1.1 P1.2.2.2.1.1.2.1 P1.2.2.2.1.1.2.2.1 P1.2.2.2.1.1.2.2.2.1 P1.2.2.2.1.1.2.2.2.2.1 P1.2.2.2.1.1.2.2.2.2.2.1 P1.2.2.2.1.1.2.2.2.2.2.2.1 P1.2.2.2.1.1.2.2.2.2.2.2.2, bX2 G q1 (o1 + 27) P1.2.2.2.2.1.1 P1.2.2.2.2.1.2.1 P1.2.2.2.2.1.2.2.1 P1.2.2.2.2.1.2.2.2.1 P1.2.2.2.2.1.2.2.2.2.1 P1.2.2.2.2.1.2.2.2.2.2.1 P1.2.2.2.2.1.2.2.2.2.2.2.1 P1.2.2.2.2.1.2.2.2.2.2.2.2, bX1 G q1 (o1 + 33) P1.2.2.2.2.2.1.1 P1.2.2.2.2.2.1.2.1 P1.2.2.2.2.2.1.2.2.1 P1.2.2.2.2.2.1.2.2.2, bX4 G q1 (o1 + 36) P1.2.2.2.2.2.2.1.1 P1.2.2.2.2.2.2.1.2, bX3 G q1 (o1 + 38) P1.2.2.2.2.2.2.2.1.1 P1.2.2.2.2.2.2.2.1.2.1 P1.2.2.2.2.2.2.2.1.2.2.1 P1.2.2.2.2.2.2.2.1.2.2.2, bX0 G q1 (o1 + 43) P1.2.2.2.2.2.2.2.2.1.2.2.1 P1.2.2.2.2.2.2.2.2.1.2.2.2, bX2 G q1 ((o1 + 43) + 3) P1.2.2.2.2.2.2.2.2.1.1.1 P1.2.2.2.2.2.2.2.2.1.1.2.1 P1.2.2.2.2.2.2.2.2.1.1.2.2.1 P1.2.2.2.2.2.2.2.2.1.1.2.2.2.1 P1.2.2.2.2.2.2.2.2.1.1.2.2.2.2.1 P1.2.2.2.2.2.2.2.2.1.1.2.2.2.2.2.1 P1.2.2.2.2.2.2.2.2.1.1.2.2.2.2.2.2.1 P1.2.2.2.2.2.2.2.2.1.1.2.2.2.2.2.2.2, bX4 G q1 ((o1 + 43) + 9) P1.2.2.2.2.2.2.2.2.1.2.1.1 P1.2.2.2.2.2.2.2.2.1.2.1.2, bX7 G q1 (o1 + 54) P1.2.2.2.2.2.2.2.2.2.1 P1.2.2.2.2.2.2.2.2.2.2.1 P1.2.2.2.2.2.2.2.2.2.2.2, bA48 G q2 o2 P2] H locs → lv_has ls 5 [(0, .ref (q1 (o1 + 0))), (1, .ref (q2 (o2 + 0))), (3, .int v3), (4, .int v4)] → W p l e { frames := 7, cells := 0, slots := 0, locals := 163 } s m args below meth c H locs 0 0 (MQ below (zQ (some (.int y.1)) (zPost G [bX10 G q1 o1, bX9 G q1 (o1 + 1) y.2.1.1 y.2.1.2.1 y.2.1.2.2.1 y.2.1.2.2.2.1 y.2.1.2.2.2.2, bX6 G q1 (o1 + 3) y.2.2.1.1 y.2.2.1.2, bX8 G q1 (o1 + 12) y.2.2.2.1.1 y.2.2.2.1.2, bX5 G q1 (o1 + 19) y.2.2.2.2.1.2.1 y.2.2.2.2.1.2.2.1 y.2.2.2.2.1.2.2.2.1 y.2.2.2.2.1.2.2.2.2, bX2 G q1 ((o1 + 19) + 2) y.2.2.2.2.1.1.1 y.2.2.2.2.1.1.2.1 y.2.2.2.2.1.1.2.2.1 y.2.2.2.2.1.1.2.2.2.1 y.2.2.2.2.1.1.2.2.2.2.1 y.2.2.2.2.1.1.2.2.2.2.2.1 y.2.2.2.2.1.1.2.2.2.2.2.2.1 y.2.2.2.2.1.1.2.2.2.2.2.2.2, bX2 G q1 (o1 + 27) y.2.2.2.2.2.1.1 y.2.2.2.2.2.1.2.1 y.2.2.2.2.2.1.2.2.1 y.2.2.2.2.2.1.2.2.2.1 y.2.2.2.2.2.1.2.2.2.2.1 y.2.2.2.2.2.1.2.2.2.2.2.1 y.2.2.2.2.2.1.2.2.2.2.2.2.1 y.2.2.2.2.2.1.2.2.2.2.2.2.2, bX1 G q1 (o1 + 33) y.2.2.2.2.2.2.1.1 y.2.2.2.2.2.2.1.2.1 y.2.2.2.2.2.2.1.2.2.1 y.2.2.2.2.2.2.1.2.2.2, bX4 G q1 (o1 + 36) y.2.2.2.2.2.2.2.1.1 y.2.2.2.2.2.2.2.1.2, bX3 G q1 (o1 + 38) y.2.2.2.2.2.2.2.2.1.1 y.2.2.2.2.2.2.2.2.1.2.1 y.2.2.2.2.2.2.2.2.1.2.2.1 y.2.2.2.2.2.2.2.2.1.2.2.2, bX0 G q1 (o1 + 43) y.2.2.2.2.2.2.2.2.2.1.2.2.1 y.2.2.2.2.2.2.2.2.2.1.2.2.2, bX2 G q1 ((o1 + 43) + 3) y.2.2.2.2.2.2.2.2.2.1.1.1 y.2.2.2.2.2.2.2.2.2.1.1.2.1 y.2.2.2.2.2.2.2.2.2.1.1.2.2.1 y.2.2.2.2.2.2.2.2.2.1.1.2.2.2.1 y.2.2.2.2.2.2.2.2.2.1.1.2.2.2.2.1 y.2.2.2.2.2.2.2.2.2.1.1.2.2.2.2.2.1 y.2.2.2.2.2.2.2.2.2.1.1.2.2.2.2.2.2.1 y.2.2.2.2.2.2.2.2.2.1.1.2.2.2.2.2.2.2, bX4 G q1 ((o1 + 43) + 9) y.2.2.2.2.2.2.2.2.2.1.2.1.1 y.2.2.2.2.2.2.2.2.2.1.2.1.2, bX7 G q1 (o1 + 54) y.2.2.2.2.2.2.2.2.2.2.1 y.2.2.2.2.2.2.2.2.2.2.2.1 y.2.2.2.2.2.2.2.2.2.2.2.2, bA48 G q2 o2 P2]) A) args s 0 0 A) (F0 m 147 ls [.int t0]) := by
  obtain ⟨hS0, hr, hlk, hK, hA, hT⟩ := id hZ
  have hx := hS0.1
  have hb := hS0.2.1
  have hml := hS0.2.2.1
  have hown : s.vm.findClass RL = some m.cls := hS0.2.2.2.1
  have hts := hS0.2.2.2.2
  intro P1 P2 v3 v4 t0 H locs ls hf hw hl
  unfold f_L_jail_147 at hf
  refine lv_istore_n (lv' := [(2, .int t0), (0, .ref (q1 (o1 + 0))), (1, .ref (q2 (o2 + 0))), (3, .int v3), (4, .int v4)]) hx hb dL_jail_147 rfl hl (by decide) rfl (fun ls hl => ?_)
  refine lv_iload hx hb dL_jail_148 (lv_at hl 4 rfl) ?_
  refine lv_iconst (v := 1) hx hb dL_jail_150 rfl ?_
  refine lv_icmp_eq (tgt := 160) hx hb dL_jail_151 rfl (fun hc => ?_) (fun hc => ?_)
  · have hf := z_t hc hf
    exact k_L_jail_160 hZ _ h_34 _ _ _ _ _ _ _ hf hw (lv_sub hl [1, 2, 0, 3] rfl)
  · have hf := z_f hc hf
    refine lv_iload hx hb dL_jail_154 (lv_at hl 4 rfl) ?_
    refine lv_iconst (v := 5) hx hb dL_jail_156 rfl ?_
    refine lv_icmp_ne (tgt := 178) hx hb dL_jail_157 rfl (fun hc => ?_) (fun hc => ?_)
    · have hf := z_f hc hf
      refine lv_iload hx hb dL_jail_178 (lv_at hl 4 rfl) ?_
      refine lv_iconst (v := 3) hx hb dL_jail_180 rfl ?_
      refine lv_icmp_eq (tgt := 190) hx hb dL_jail_181 rfl (fun hc => ?_) (fun hc => ?_)
      · have hf := z_t hc hf
        exact k_L_jail_190 hZ _ h_34 _ _ _ _ _ _ _ hf hw (lv_sub hl [1, 2, 0, 3] rfl)
      · have hf := z_f hc hf
        refine lv_iload hx hb dL_jail_184 (lv_at hl 4 rfl) ?_
        refine lv_iconst (v := 4) hx hb dL_jail_186 rfl ?_
        refine lv_icmp_ne (tgt := 208) hx hb dL_jail_187 rfl (fun hc => ?_) (fun hc => ?_)
        · have hf := z_f hc hf
          refine lv_iload_n hx hb dL_jail_208 rfl (lv_at hl 0 rfl) ?_
          refine lv_istore_n (lv' := [(2, .int t0), (0, .ref (q1 (o1 + 0))), (1, .ref (q2 (o2 + 0))), (3, .int v3), (4, .int v4)]) hx hb dL_jail_209 rfl hl (by decide) rfl (fun ls hl => ?_)
          refine lv_iinc (v := (v3 + 1)) (lv' := [(3, .int (v3 + 1)), (2, .int t0), (0, .ref (q1 (o1 + 0))), (1, .ref (q2 (o2 + 0))), (4, .int v4)]) hx hb dL_jail_210 hl (k := 3) rfl rfl (by decide) rfl (fun ls hl => ?_)
          refine lv_goto (tgt := 34) hx hb dL_jail_213 rfl ?_
          exact h_34 _ _ _ _ _ _ _ hf hw (lv_sub hl [2, 3, 1, 0] rfl)
        · have hf := z_t hc hf
          exact k_L_jail_190 hZ _ h_34 _ _ _ _ _ _ _ hf hw (lv_sub hl [1, 2, 0, 3] rfl)
    · have hf := z_t hc hf
      exact k_L_jail_160 hZ _ h_34 _ _ _ _ _ _ _ hf hw (lv_sub hl [1, 2, 0, 3] rfl)
set_option maxHeartbeats 4000000 in
set_option maxRecDepth 100000 in
theorem k_L_jail_108 {p : Program} {l : Launch} {e : Env} {s : State} {m : MethodId} {args : Array Value} {below : List Frame} {meth : Method} {c : Code} {A : Nat → Prop} {G : zG} {q1 : Nat → Nat} {o1 : Nat} {q2 : Nat → Nat} {o2 : Nat} {r_34 : VX10 → VA48 → Int32 → Int32 → Option (Int32 × VX10)} (hZ : zZ p s m args meth c A G cL_jail 5 RL wsL_jail (some .boolean)) (y : Int32 × VX10) (h_34 : ∀ (P1 : VX10) (P2 : VA48) (v2 : Int32) (v3 : Int32) (H : Heap) (locs : List Loc) (ls : Array Slot), r_34 P1 P2 v2 v3 = some y → zH G A s.heap [bX10 G q1 o1, bX9 G q1 (o1 + 1) P1.1.1 P1.1.2.1 P1.1.2.2.1 P1.1.2.2.2.1 P1.1.2.2.2.2, bX6 G q1 (o1 + 3) P1.2.1.1 P1.2.1.2, bX8 G q1 (o1 + 12) P1.2.2.1.1 P1.2.2.1.2, bX5 G q1 (o1 + 19) P1.2.2.2.1.2.1 P1.2.2.2.1.2.2.1 P1.2.2.2.1.2.2.2.1 P1.2.2.2.1.2.2.2.2, bX2 G q1 ((o1 + 19) + 2) P1.2.2.2.1.1.1 P1.2.2.2.1.1.2.1 P1.2.2.2.1.1.2.2.1 P1.2.2.2.1.1.2.2.2.1 P1.2.2.2.1.1.2.2.2.2.1 P1.2.2.2.1.1.2.2.2.2.2.1 P1.2.2.2.1.1.2.2.2.2.2.2.1 P1.2.2.2.1.1.2.2.2.2.2.2.2, bX2 G q1 (o1 + 27) P1.2.2.2.2.1.1 P1.2.2.2.2.1.2.1 P1.2.2.2.2.1.2.2.1 P1.2.2.2.2.1.2.2.2.1 P1.2.2.2.2.1.2.2.2.2.1 P1.2.2.2.2.1.2.2.2.2.2.1 P1.2.2.2.2.1.2.2.2.2.2.2.1 P1.2.2.2.2.1.2.2.2.2.2.2.2, bX1 G q1 (o1 + 33) P1.2.2.2.2.2.1.1 P1.2.2.2.2.2.1.2.1 P1.2.2.2.2.2.1.2.2.1 P1.2.2.2.2.2.1.2.2.2, bX4 G q1 (o1 + 36) P1.2.2.2.2.2.2.1.1 P1.2.2.2.2.2.2.1.2, bX3 G q1 (o1 + 38) P1.2.2.2.2.2.2.2.1.1 P1.2.2.2.2.2.2.2.1.2.1 P1.2.2.2.2.2.2.2.1.2.2.1 P1.2.2.2.2.2.2.2.1.2.2.2, bX0 G q1 (o1 + 43) P1.2.2.2.2.2.2.2.2.1.2.2.1 P1.2.2.2.2.2.2.2.2.1.2.2.2, bX2 G q1 ((o1 + 43) + 3) P1.2.2.2.2.2.2.2.2.1.1.1 P1.2.2.2.2.2.2.2.2.1.1.2.1 P1.2.2.2.2.2.2.2.2.1.1.2.2.1 P1.2.2.2.2.2.2.2.2.1.1.2.2.2.1 P1.2.2.2.2.2.2.2.2.1.1.2.2.2.2.1 P1.2.2.2.2.2.2.2.2.1.1.2.2.2.2.2.1 P1.2.2.2.2.2.2.2.2.1.1.2.2.2.2.2.2.1 P1.2.2.2.2.2.2.2.2.1.1.2.2.2.2.2.2.2, bX4 G q1 ((o1 + 43) + 9) P1.2.2.2.2.2.2.2.2.1.2.1.1 P1.2.2.2.2.2.2.2.2.1.2.1.2, bX7 G q1 (o1 + 54) P1.2.2.2.2.2.2.2.2.2.1 P1.2.2.2.2.2.2.2.2.2.2.1 P1.2.2.2.2.2.2.2.2.2.2.2, bA48 G q2 o2 P2] H locs → lv_has ls 5 [(0, .ref (q1 (o1 + 0))), (1, .ref (q2 (o2 + 0))), (2, .int v2), (3, .int v3)] → W p l e { frames := 7, cells := 0, slots := 0, locals := 163 } s m args below meth c H locs 0 0 (MQ below (zQ (some (.int y.1)) (zPost G [bX10 G q1 o1, bX9 G q1 (o1 + 1) y.2.1.1 y.2.1.2.1 y.2.1.2.2.1 y.2.1.2.2.2.1 y.2.1.2.2.2.2, bX6 G q1 (o1 + 3) y.2.2.1.1 y.2.2.1.2, bX8 G q1 (o1 + 12) y.2.2.2.1.1 y.2.2.2.1.2, bX5 G q1 (o1 + 19) y.2.2.2.2.1.2.1 y.2.2.2.2.1.2.2.1 y.2.2.2.2.1.2.2.2.1 y.2.2.2.2.1.2.2.2.2, bX2 G q1 ((o1 + 19) + 2) y.2.2.2.2.1.1.1 y.2.2.2.2.1.1.2.1 y.2.2.2.2.1.1.2.2.1 y.2.2.2.2.1.1.2.2.2.1 y.2.2.2.2.1.1.2.2.2.2.1 y.2.2.2.2.1.1.2.2.2.2.2.1 y.2.2.2.2.1.1.2.2.2.2.2.2.1 y.2.2.2.2.1.1.2.2.2.2.2.2.2, bX2 G q1 (o1 + 27) y.2.2.2.2.2.1.1 y.2.2.2.2.2.1.2.1 y.2.2.2.2.2.1.2.2.1 y.2.2.2.2.2.1.2.2.2.1 y.2.2.2.2.2.1.2.2.2.2.1 y.2.2.2.2.2.1.2.2.2.2.2.1 y.2.2.2.2.2.1.2.2.2.2.2.2.1 y.2.2.2.2.2.1.2.2.2.2.2.2.2, bX1 G q1 (o1 + 33) y.2.2.2.2.2.2.1.1 y.2.2.2.2.2.2.1.2.1 y.2.2.2.2.2.2.1.2.2.1 y.2.2.2.2.2.2.1.2.2.2, bX4 G q1 (o1 + 36) y.2.2.2.2.2.2.2.1.1 y.2.2.2.2.2.2.2.1.2, bX3 G q1 (o1 + 38) y.2.2.2.2.2.2.2.2.1.1 y.2.2.2.2.2.2.2.2.1.2.1 y.2.2.2.2.2.2.2.2.1.2.2.1 y.2.2.2.2.2.2.2.2.1.2.2.2, bX0 G q1 (o1 + 43) y.2.2.2.2.2.2.2.2.2.1.2.2.1 y.2.2.2.2.2.2.2.2.2.1.2.2.2, bX2 G q1 ((o1 + 43) + 3) y.2.2.2.2.2.2.2.2.2.1.1.1 y.2.2.2.2.2.2.2.2.2.1.1.2.1 y.2.2.2.2.2.2.2.2.2.1.1.2.2.1 y.2.2.2.2.2.2.2.2.2.1.1.2.2.2.1 y.2.2.2.2.2.2.2.2.2.1.1.2.2.2.2.1 y.2.2.2.2.2.2.2.2.2.1.1.2.2.2.2.2.1 y.2.2.2.2.2.2.2.2.2.1.1.2.2.2.2.2.2.1 y.2.2.2.2.2.2.2.2.2.1.1.2.2.2.2.2.2.2, bX4 G q1 ((o1 + 43) + 9) y.2.2.2.2.2.2.2.2.2.1.2.1.1 y.2.2.2.2.2.2.2.2.2.1.2.1.2, bX7 G q1 (o1 + 54) y.2.2.2.2.2.2.2.2.2.2.1 y.2.2.2.2.2.2.2.2.2.2.2.1 y.2.2.2.2.2.2.2.2.2.2.2.2, bA48 G q2 o2 P2]) A) args s 0 0 A) (F0 m 34 ls [])) : ∀ (P1 : VX10) (P2 : VA48) (v3 : Int32) (v4 : Int32) (t0 : Int32) (t1 : Int32) (H : Heap) (locs : List Loc) (ls : Array Slot), f_L_jail_108 r_34 P1 P2 v3 v4 t0 t1 = some y → zH G A s.heap [bX10 G q1 o1, bX9 G q1 (o1 + 1) P1.1.1 P1.1.2.1 P1.1.2.2.1 P1.1.2.2.2.1 P1.1.2.2.2.2, bX6 G q1 (o1 + 3) P1.2.1.1 P1.2.1.2, bX8 G q1 (o1 + 12) P1.2.2.1.1 P1.2.2.1.2, bX5 G q1 (o1 + 19) P1.2.2.2.1.2.1 P1.2.2.2.1.2.2.1 P1.2.2.2.1.2.2.2.1 P1.2.2.2.1.2.2.2.2, bX2 G q1 ((o1 + 19) + 2) P1.2.2.2.1.1.1 P1.2.2.2.1.1.2.1 P1.2.2.2.1.1.2.2.1 P1.2.2.2.1.1.2.2.2.1 P1.2.2.2.1.1.2.2.2.2.1 P1.2.2.2.1.1.2.2.2.2.2.1 P1.2.2.2.1.1.2.2.2.2.2.2.1 P1.2.2.2.1.1.2.2.2.2.2.2.2, bX2 G q1 (o1 + 27) P1.2.2.2.2.1.1 P1.2.2.2.2.1.2.1 P1.2.2.2.2.1.2.2.1 P1.2.2.2.2.1.2.2.2.1 P1.2.2.2.2.1.2.2.2.2.1 P1.2.2.2.2.1.2.2.2.2.2.1 P1.2.2.2.2.1.2.2.2.2.2.2.1 P1.2.2.2.2.1.2.2.2.2.2.2.2, bX1 G q1 (o1 + 33) P1.2.2.2.2.2.1.1 P1.2.2.2.2.2.1.2.1 P1.2.2.2.2.2.1.2.2.1 P1.2.2.2.2.2.1.2.2.2, bX4 G q1 (o1 + 36) P1.2.2.2.2.2.2.1.1 P1.2.2.2.2.2.2.1.2, bX3 G q1 (o1 + 38) P1.2.2.2.2.2.2.2.1.1 P1.2.2.2.2.2.2.2.1.2.1 P1.2.2.2.2.2.2.2.1.2.2.1 P1.2.2.2.2.2.2.2.1.2.2.2, bX0 G q1 (o1 + 43) P1.2.2.2.2.2.2.2.2.1.2.2.1 P1.2.2.2.2.2.2.2.2.1.2.2.2, bX2 G q1 ((o1 + 43) + 3) P1.2.2.2.2.2.2.2.2.1.1.1 P1.2.2.2.2.2.2.2.2.1.1.2.1 P1.2.2.2.2.2.2.2.2.1.1.2.2.1 P1.2.2.2.2.2.2.2.2.1.1.2.2.2.1 P1.2.2.2.2.2.2.2.2.1.1.2.2.2.2.1 P1.2.2.2.2.2.2.2.2.1.1.2.2.2.2.2.1 P1.2.2.2.2.2.2.2.2.1.1.2.2.2.2.2.2.1 P1.2.2.2.2.2.2.2.2.1.1.2.2.2.2.2.2.2, bX4 G q1 ((o1 + 43) + 9) P1.2.2.2.2.2.2.2.2.1.2.1.1 P1.2.2.2.2.2.2.2.2.1.2.1.2, bX7 G q1 (o1 + 54) P1.2.2.2.2.2.2.2.2.2.1 P1.2.2.2.2.2.2.2.2.2.2.1 P1.2.2.2.2.2.2.2.2.2.2.2, bA48 G q2 o2 P2] H locs → lv_has ls 5 [(0, .ref (q1 (o1 + 0))), (1, .ref (q2 (o2 + 0))), (3, .int v3), (4, .int v4)] → W p l e { frames := 7, cells := 0, slots := 0, locals := 163 } s m args below meth c H locs 0 0 (MQ below (zQ (some (.int y.1)) (zPost G [bX10 G q1 o1, bX9 G q1 (o1 + 1) y.2.1.1 y.2.1.2.1 y.2.1.2.2.1 y.2.1.2.2.2.1 y.2.1.2.2.2.2, bX6 G q1 (o1 + 3) y.2.2.1.1 y.2.2.1.2, bX8 G q1 (o1 + 12) y.2.2.2.1.1 y.2.2.2.1.2, bX5 G q1 (o1 + 19) y.2.2.2.2.1.2.1 y.2.2.2.2.1.2.2.1 y.2.2.2.2.1.2.2.2.1 y.2.2.2.2.1.2.2.2.2, bX2 G q1 ((o1 + 19) + 2) y.2.2.2.2.1.1.1 y.2.2.2.2.1.1.2.1 y.2.2.2.2.1.1.2.2.1 y.2.2.2.2.1.1.2.2.2.1 y.2.2.2.2.1.1.2.2.2.2.1 y.2.2.2.2.1.1.2.2.2.2.2.1 y.2.2.2.2.1.1.2.2.2.2.2.2.1 y.2.2.2.2.1.1.2.2.2.2.2.2.2, bX2 G q1 (o1 + 27) y.2.2.2.2.2.1.1 y.2.2.2.2.2.1.2.1 y.2.2.2.2.2.1.2.2.1 y.2.2.2.2.2.1.2.2.2.1 y.2.2.2.2.2.1.2.2.2.2.1 y.2.2.2.2.2.1.2.2.2.2.2.1 y.2.2.2.2.2.1.2.2.2.2.2.2.1 y.2.2.2.2.2.1.2.2.2.2.2.2.2, bX1 G q1 (o1 + 33) y.2.2.2.2.2.2.1.1 y.2.2.2.2.2.2.1.2.1 y.2.2.2.2.2.2.1.2.2.1 y.2.2.2.2.2.2.1.2.2.2, bX4 G q1 (o1 + 36) y.2.2.2.2.2.2.2.1.1 y.2.2.2.2.2.2.2.1.2, bX3 G q1 (o1 + 38) y.2.2.2.2.2.2.2.2.1.1 y.2.2.2.2.2.2.2.2.1.2.1 y.2.2.2.2.2.2.2.2.1.2.2.1 y.2.2.2.2.2.2.2.2.1.2.2.2, bX0 G q1 (o1 + 43) y.2.2.2.2.2.2.2.2.2.1.2.2.1 y.2.2.2.2.2.2.2.2.2.1.2.2.2, bX2 G q1 ((o1 + 43) + 3) y.2.2.2.2.2.2.2.2.2.1.1.1 y.2.2.2.2.2.2.2.2.2.1.1.2.1 y.2.2.2.2.2.2.2.2.2.1.1.2.2.1 y.2.2.2.2.2.2.2.2.2.1.1.2.2.2.1 y.2.2.2.2.2.2.2.2.2.1.1.2.2.2.2.1 y.2.2.2.2.2.2.2.2.2.1.1.2.2.2.2.2.1 y.2.2.2.2.2.2.2.2.2.1.1.2.2.2.2.2.2.1 y.2.2.2.2.2.2.2.2.2.1.1.2.2.2.2.2.2.2, bX4 G q1 ((o1 + 43) + 9) y.2.2.2.2.2.2.2.2.2.1.2.1.1 y.2.2.2.2.2.2.2.2.2.1.2.1.2, bX7 G q1 (o1 + 54) y.2.2.2.2.2.2.2.2.2.2.1 y.2.2.2.2.2.2.2.2.2.2.2.1 y.2.2.2.2.2.2.2.2.2.2.2.2, bA48 G q2 o2 P2]) A) args s 0 0 A) (F0 m 108 ls [.int t0, .int t1, .ref (q1 (o1 + 0))]) := by
  obtain ⟨hS0, hr, hlk, hK, hA, hT⟩ := id hZ
  have hx := hS0.1
  have hb := hS0.2.1
  have hml := hS0.2.2.1
  have hown : s.vm.findClass RL = some m.cls := hS0.2.2.2.1
  have hts := hS0.2.2.2.2
  intro P1 P2 v3 v4 t0 t1 H locs ls hf hw hl
  unfold f_L_jail_108 at hf
  obtain ⟨r7, e8, hf⟩ := z_bd hf
  refine z_callS1 (As := [.ref (q1 (o1 + 0)), .int t1, .int t0]) (rest := []) (bs' := [bX10 G q1 o1, bX9 G q1 (o1 + 1) r7.2.1.1 r7.2.1.2.1 r7.2.1.2.2.1 r7.2.1.2.2.2.1 r7.2.1.2.2.2.2, bX6 G q1 (o1 + 3) r7.2.2.1.1 r7.2.2.1.2, bX8 G q1 (o1 + 12) r7.2.2.2.1.1 r7.2.2.2.1.2, bX5 G q1 (o1 + 19) r7.2.2.2.2.1.2.1 r7.2.2.2.2.1.2.2.1 r7.2.2.2.2.1.2.2.2.1 r7.2.2.2.2.1.2.2.2.2, bX2 G q1 ((o1 + 19) + 2) r7.2.2.2.2.1.1.1 r7.2.2.2.2.1.1.2.1 r7.2.2.2.2.1.1.2.2.1 r7.2.2.2.2.1.1.2.2.2.1 r7.2.2.2.2.1.1.2.2.2.2.1 r7.2.2.2.2.1.1.2.2.2.2.2.1 r7.2.2.2.2.1.1.2.2.2.2.2.2.1 r7.2.2.2.2.1.1.2.2.2.2.2.2.2, bX2 G q1 (o1 + 27) r7.2.2.2.2.2.1.1 r7.2.2.2.2.2.1.2.1 r7.2.2.2.2.2.1.2.2.1 r7.2.2.2.2.2.1.2.2.2.1 r7.2.2.2.2.2.1.2.2.2.2.1 r7.2.2.2.2.2.1.2.2.2.2.2.1 r7.2.2.2.2.2.1.2.2.2.2.2.2.1 r7.2.2.2.2.2.1.2.2.2.2.2.2.2, bX1 G q1 (o1 + 33) r7.2.2.2.2.2.2.1.1 r7.2.2.2.2.2.2.1.2.1 r7.2.2.2.2.2.2.1.2.2.1 r7.2.2.2.2.2.2.1.2.2.2, bX4 G q1 (o1 + 36) r7.2.2.2.2.2.2.2.1.1 r7.2.2.2.2.2.2.2.1.2, bX3 G q1 (o1 + 38) r7.2.2.2.2.2.2.2.2.1.1 r7.2.2.2.2.2.2.2.2.1.2.1 r7.2.2.2.2.2.2.2.2.1.2.2.1 r7.2.2.2.2.2.2.2.2.1.2.2.2, bX0 G q1 (o1 + 43) r7.2.2.2.2.2.2.2.2.2.1.2.2.1 r7.2.2.2.2.2.2.2.2.2.1.2.2.2, bX2 G q1 ((o1 + 43) + 3) r7.2.2.2.2.2.2.2.2.2.1.1.1 r7.2.2.2.2.2.2.2.2.2.1.1.2.1 r7.2.2.2.2.2.2.2.2.2.1.1.2.2.1 r7.2.2.2.2.2.2.2.2.2.1.1.2.2.2.1 r7.2.2.2.2.2.2.2.2.2.1.1.2.2.2.2.1 r7.2.2.2.2.2.2.2.2.2.1.1.2.2.2.2.2.1 r7.2.2.2.2.2.2.2.2.2.1.1.2.2.2.2.2.2.1 r7.2.2.2.2.2.2.2.2.2.1.1.2.2.2.2.2.2.2, bX4 G q1 ((o1 + 43) + 9) r7.2.2.2.2.2.2.2.2.2.1.2.1.1 r7.2.2.2.2.2.2.2.2.2.1.2.1.2, bX7 G q1 (o1 + 54) r7.2.2.2.2.2.2.2.2.2.2.1 r7.2.2.2.2.2.2.2.2.2.2.2.1 r7.2.2.2.2.2.2.2.2.2.2.2.2, bA48 G q2 o2 P2]) hS0 (c_L_put l G q1 o1 P1 t1 t0 r7 e8) zc_L_put gL_jail_L_put ⟨Nat.le_of_ble_eq_true rfl, Nat.le_of_ble_eq_true rfl⟩ hK hA hT hw (is := [0, 1, 2, 3, 4, 5, 6, 7, 8, 9, 10, 11, 12, 13]) rfl rfl rfl rfl rfl hl.1 rfl (Nat.le_of_ble_eq_true rfl) dL_jail_108 (fun H locs hw => ?_)
  refine lv_istore_n (lv' := [(2, .int r7.1), (0, .ref (q1 (o1 + 0))), (1, .ref (q2 (o2 + 0))), (3, .int v3), (4, .int v4)]) hx hb dL_jail_111 rfl hl (by decide) rfl (fun ls hl => ?_)
  refine lv_aload_n hx hb dL_jail_112 rfl (lv_at hl 1 rfl) ?_
  refine lv_iload_n hx hb dL_jail_113 rfl (lv_at hl 0 rfl) ?_
  refine lv_bipush (v := 65) hx hb dL_jail_114 rfl ?_
  refine lv_iload_n hx hb dL_jail_116 rfl (lv_at hl 3 rfl) ?_
  refine lv_iadd hx hb dL_jail_117 ?_
  obtain ⟨r9, e10, hf⟩ := z_bd hf
  refine z_callS1 (As := [.ref (q1 (o1 + 0)), .int r7.1, .int ((65 : Int32) + v3)]) (rest := []) (bs' := [bX10 G q1 o1, bX9 G q1 (o1 + 1) r9.2.1.1 r9.2.1.2.1 r9.2.1.2.2.1 r9.2.1.2.2.2.1 r9.2.1.2.2.2.2, bX6 G q1 (o1 + 3) r9.2.2.1.1 r9.2.2.1.2, bX8 G q1 (o1 + 12) r9.2.2.2.1.1 r9.2.2.2.1.2, bX5 G q1 (o1 + 19) r9.2.2.2.2.1.2.1 r9.2.2.2.2.1.2.2.1 r9.2.2.2.2.1.2.2.2.1 r9.2.2.2.2.1.2.2.2.2, bX2 G q1 ((o1 + 19) + 2) r9.2.2.2.2.1.1.1 r9.2.2.2.2.1.1.2.1 r9.2.2.2.2.1.1.2.2.1 r9.2.2.2.2.1.1.2.2.2.1 r9.2.2.2.2.1.1.2.2.2.2.1 r9.2.2.2.2.1.1.2.2.2.2.2.1 r9.2.2.2.2.1.1.2.2.2.2.2.2.1 r9.2.2.2.2.1.1.2.2.2.2.2.2.2, bX2 G q1 (o1 + 27) r9.2.2.2.2.2.1.1 r9.2.2.2.2.2.1.2.1 r9.2.2.2.2.2.1.2.2.1 r9.2.2.2.2.2.1.2.2.2.1 r9.2.2.2.2.2.1.2.2.2.2.1 r9.2.2.2.2.2.1.2.2.2.2.2.1 r9.2.2.2.2.2.1.2.2.2.2.2.2.1 r9.2.2.2.2.2.1.2.2.2.2.2.2.2, bX1 G q1 (o1 + 33) r9.2.2.2.2.2.2.1.1 r9.2.2.2.2.2.2.1.2.1 r9.2.2.2.2.2.2.1.2.2.1 r9.2.2.2.2.2.2.1.2.2.2, bX4 G q1 (o1 + 36) r9.2.2.2.2.2.2.2.1.1 r9.2.2.2.2.2.2.2.1.2, bX3 G q1 (o1 + 38) r9.2.2.2.2.2.2.2.2.1.1 r9.2.2.2.2.2.2.2.2.1.2.1 r9.2.2.2.2.2.2.2.2.1.2.2.1 r9.2.2.2.2.2.2.2.2.1.2.2.2, bX0 G q1 (o1 + 43) r9.2.2.2.2.2.2.2.2.2.1.2.2.1 r9.2.2.2.2.2.2.2.2.2.1.2.2.2, bX2 G q1 ((o1 + 43) + 3) r9.2.2.2.2.2.2.2.2.2.1.1.1 r9.2.2.2.2.2.2.2.2.2.1.1.2.1 r9.2.2.2.2.2.2.2.2.2.1.1.2.2.1 r9.2.2.2.2.2.2.2.2.2.1.1.2.2.2.1 r9.2.2.2.2.2.2.2.2.2.1.1.2.2.2.2.1 r9.2.2.2.2.2.2.2.2.2.1.1.2.2.2.2.2.1 r9.2.2.2.2.2.2.2.2.2.1.1.2.2.2.2.2.2.1 r9.2.2.2.2.2.2.2.2.2.1.1.2.2.2.2.2.2.2, bX4 G q1 ((o1 + 43) + 9) r9.2.2.2.2.2.2.2.2.2.1.2.1.1 r9.2.2.2.2.2.2.2.2.2.1.2.1.2, bX7 G q1 (o1 + 54) r9.2.2.2.2.2.2.2.2.2.2.1 r9.2.2.2.2.2.2.2.2.2.2.2.1 r9.2.2.2.2.2.2.2.2.2.2.2.2, bA48 G q2 o2 P2]) hS0 (c_L_put l G q1 o1 r7.2 r7.1 ((65 : Int32) + v3) r9 e10) zc_L_put gL_jail_L_put ⟨Nat.le_of_ble_eq_true rfl, Nat.le_of_ble_eq_true rfl⟩ hK hA hT hw (is := [0, 1, 2, 3, 4, 5, 6, 7, 8, 9, 10, 11, 12, 13]) rfl rfl rfl rfl rfl hl.1 rfl (Nat.le_of_ble_eq_true rfl) dL_jail_118 (fun H locs hw => ?_)
  refine lv_istore_n (lv' := [(2, .int r9.1), (0, .ref (q1 (o1 + 0))), (1, .ref (q2 (o2 + 0))), (3, .int v3), (4, .int v4)]) hx hb dL_jail_121 rfl hl (by decide) rfl (fun ls hl => ?_)
  refine lv_iload hx hb dL_jail_122 (lv_at hl 4 rfl) ?_
  refine lv_iconst (v := 2) hx hb dL_jail_124 rfl ?_
  refine lv_icmp_ne (tgt := 132) hx hb dL_jail_125 rfl (fun hc => ?_) (fun hc => ?_)
  · have hf := z_f hc hf
    refine lv_aload_n hx hb dL_jail_132 rfl (lv_at hl 1 rfl) ?_
    refine lv_iload_n hx hb dL_jail_133 rfl (lv_at hl 0 rfl) ?_
    refine lv_bipush (v := 65) hx hb dL_jail_134 rfl ?_
    refine lv_aload_n hx hb dL_jail_136 rfl (lv_at hl 2 rfl) ?_
    refine lv_iconst (v := 2) hx hb dL_jail_137 rfl ?_
    refine lv_iconst (v := 4) hx hb dL_jail_138 rfl ?_
    refine lv_iload_n hx hb dL_jail_139 rfl (lv_at hl 3 rfl) ?_
    refine lv_imul hx hb dL_jail_140 ?_
    refine lv_iadd hx hb dL_jail_141 ?_
    obtain ⟨g11, hf⟩ := z_gd hf
    refine z_iald hS0 hK hw 14 0 (zIn_vp g11) rfl rfl dL_jail_142 ?_
    refine lv_iadd hx hb dL_jail_143 ?_
    obtain ⟨r12, e13, hf⟩ := z_bd hf
    refine z_callS1 (As := [.ref (q1 (o1 + 0)), .int r9.1, .int ((65 : Int32) + (P2 ((2 : Int32) + ((4 : Int32) * v3)).toNatClampNeg))]) (rest := []) (bs' := [bX10 G q1 o1, bX9 G q1 (o1 + 1) r12.2.1.1 r12.2.1.2.1 r12.2.1.2.2.1 r12.2.1.2.2.2.1 r12.2.1.2.2.2.2, bX6 G q1 (o1 + 3) r12.2.2.1.1 r12.2.2.1.2, bX8 G q1 (o1 + 12) r12.2.2.2.1.1 r12.2.2.2.1.2, bX5 G q1 (o1 + 19) r12.2.2.2.2.1.2.1 r12.2.2.2.2.1.2.2.1 r12.2.2.2.2.1.2.2.2.1 r12.2.2.2.2.1.2.2.2.2, bX2 G q1 ((o1 + 19) + 2) r12.2.2.2.2.1.1.1 r12.2.2.2.2.1.1.2.1 r12.2.2.2.2.1.1.2.2.1 r12.2.2.2.2.1.1.2.2.2.1 r12.2.2.2.2.1.1.2.2.2.2.1 r12.2.2.2.2.1.1.2.2.2.2.2.1 r12.2.2.2.2.1.1.2.2.2.2.2.2.1 r12.2.2.2.2.1.1.2.2.2.2.2.2.2, bX2 G q1 (o1 + 27) r12.2.2.2.2.2.1.1 r12.2.2.2.2.2.1.2.1 r12.2.2.2.2.2.1.2.2.1 r12.2.2.2.2.2.1.2.2.2.1 r12.2.2.2.2.2.1.2.2.2.2.1 r12.2.2.2.2.2.1.2.2.2.2.2.1 r12.2.2.2.2.2.1.2.2.2.2.2.2.1 r12.2.2.2.2.2.1.2.2.2.2.2.2.2, bX1 G q1 (o1 + 33) r12.2.2.2.2.2.2.1.1 r12.2.2.2.2.2.2.1.2.1 r12.2.2.2.2.2.2.1.2.2.1 r12.2.2.2.2.2.2.1.2.2.2, bX4 G q1 (o1 + 36) r12.2.2.2.2.2.2.2.1.1 r12.2.2.2.2.2.2.2.1.2, bX3 G q1 (o1 + 38) r12.2.2.2.2.2.2.2.2.1.1 r12.2.2.2.2.2.2.2.2.1.2.1 r12.2.2.2.2.2.2.2.2.1.2.2.1 r12.2.2.2.2.2.2.2.2.1.2.2.2, bX0 G q1 (o1 + 43) r12.2.2.2.2.2.2.2.2.2.1.2.2.1 r12.2.2.2.2.2.2.2.2.2.1.2.2.2, bX2 G q1 ((o1 + 43) + 3) r12.2.2.2.2.2.2.2.2.2.1.1.1 r12.2.2.2.2.2.2.2.2.2.1.1.2.1 r12.2.2.2.2.2.2.2.2.2.1.1.2.2.1 r12.2.2.2.2.2.2.2.2.2.1.1.2.2.2.1 r12.2.2.2.2.2.2.2.2.2.1.1.2.2.2.2.1 r12.2.2.2.2.2.2.2.2.2.1.1.2.2.2.2.2.1 r12.2.2.2.2.2.2.2.2.2.1.1.2.2.2.2.2.2.1 r12.2.2.2.2.2.2.2.2.2.1.1.2.2.2.2.2.2.2, bX4 G q1 ((o1 + 43) + 9) r12.2.2.2.2.2.2.2.2.2.1.2.1.1 r12.2.2.2.2.2.2.2.2.2.1.2.1.2, bX7 G q1 (o1 + 54) r12.2.2.2.2.2.2.2.2.2.2.1 r12.2.2.2.2.2.2.2.2.2.2.2.1 r12.2.2.2.2.2.2.2.2.2.2.2.2, bA48 G q2 o2 P2]) hS0 (c_L_put l G q1 o1 r9.2 r9.1 ((65 : Int32) + (P2 ((2 : Int32) + ((4 : Int32) * v3)).toNatClampNeg)) r12 e13) zc_L_put gL_jail_L_put ⟨Nat.le_of_ble_eq_true rfl, Nat.le_of_ble_eq_true rfl⟩ hK hA hT hw (is := [0, 1, 2, 3, 4, 5, 6, 7, 8, 9, 10, 11, 12, 13]) rfl rfl rfl rfl rfl hl.1 rfl (Nat.le_of_ble_eq_true rfl) dL_jail_144 (fun H locs hw => ?_)
    exact k_L_jail_147 hZ _ h_34 _ _ _ _ _ _ _ _ hf hw (lv_sub hl [1, 2, 3, 4] rfl)
  · have hf := z_t hc hf
    refine lv_iload_n hx hb dL_jail_128 rfl (lv_at hl 0 rfl) ?_
    refine lv_goto (tgt := 147) hx hb dL_jail_129 rfl ?_
    exact k_L_jail_147 hZ _ h_34 _ _ _ _ _ _ _ _ hf hw (lv_sub hl [1, 2, 3, 4] rfl)
set_option maxHeartbeats 4000000 in
set_option maxRecDepth 100000 in
theorem k_L_jail_230 {p : Program} {l : Launch} {e : Env} {s : State} {m : MethodId} {args : Array Value} {below : List Frame} {meth : Method} {c : Code} {A : Nat → Prop} {G : zG} {q1 : Nat → Nat} {o1 : Nat} {q2 : Nat → Nat} {o2 : Nat} {r_218 : VX10 → VA48 → Int32 → Int32 → Option (Int32 × VX10)} (hZ : zZ p s m args meth c A G cL_jail 5 RL wsL_jail (some .boolean)) (y : Int32 × VX10) (h_218 : ∀ (P1 : VX10) (P2 : VA48) (v2 : Int32) (v3 : Int32) (H : Heap) (locs : List Loc) (ls : Array Slot), r_218 P1 P2 v2 v3 = some y → zH G A s.heap [bX10 G q1 o1, bX9 G q1 (o1 + 1) P1.1.1 P1.1.2.1 P1.1.2.2.1 P1.1.2.2.2.1 P1.1.2.2.2.2, bX6 G q1 (o1 + 3) P1.2.1.1 P1.2.1.2, bX8 G q1 (o1 + 12) P1.2.2.1.1 P1.2.2.1.2, bX5 G q1 (o1 + 19) P1.2.2.2.1.2.1 P1.2.2.2.1.2.2.1 P1.2.2.2.1.2.2.2.1 P1.2.2.2.1.2.2.2.2, bX2 G q1 ((o1 + 19) + 2) P1.2.2.2.1.1.1 P1.2.2.2.1.1.2.1 P1.2.2.2.1.1.2.2.1 P1.2.2.2.1.1.2.2.2.1 P1.2.2.2.1.1.2.2.2.2.1 P1.2.2.2.1.1.2.2.2.2.2.1 P1.2.2.2.1.1.2.2.2.2.2.2.1 P1.2.2.2.1.1.2.2.2.2.2.2.2, bX2 G q1 (o1 + 27) P1.2.2.2.2.1.1 P1.2.2.2.2.1.2.1 P1.2.2.2.2.1.2.2.1 P1.2.2.2.2.1.2.2.2.1 P1.2.2.2.2.1.2.2.2.2.1 P1.2.2.2.2.1.2.2.2.2.2.1 P1.2.2.2.2.1.2.2.2.2.2.2.1 P1.2.2.2.2.1.2.2.2.2.2.2.2, bX1 G q1 (o1 + 33) P1.2.2.2.2.2.1.1 P1.2.2.2.2.2.1.2.1 P1.2.2.2.2.2.1.2.2.1 P1.2.2.2.2.2.1.2.2.2, bX4 G q1 (o1 + 36) P1.2.2.2.2.2.2.1.1 P1.2.2.2.2.2.2.1.2, bX3 G q1 (o1 + 38) P1.2.2.2.2.2.2.2.1.1 P1.2.2.2.2.2.2.2.1.2.1 P1.2.2.2.2.2.2.2.1.2.2.1 P1.2.2.2.2.2.2.2.1.2.2.2, bX0 G q1 (o1 + 43) P1.2.2.2.2.2.2.2.2.1.2.2.1 P1.2.2.2.2.2.2.2.2.1.2.2.2, bX2 G q1 ((o1 + 43) + 3) P1.2.2.2.2.2.2.2.2.1.1.1 P1.2.2.2.2.2.2.2.2.1.1.2.1 P1.2.2.2.2.2.2.2.2.1.1.2.2.1 P1.2.2.2.2.2.2.2.2.1.1.2.2.2.1 P1.2.2.2.2.2.2.2.2.1.1.2.2.2.2.1 P1.2.2.2.2.2.2.2.2.1.1.2.2.2.2.2.1 P1.2.2.2.2.2.2.2.2.1.1.2.2.2.2.2.2.1 P1.2.2.2.2.2.2.2.2.1.1.2.2.2.2.2.2.2, bX4 G q1 ((o1 + 43) + 9) P1.2.2.2.2.2.2.2.2.1.2.1.1 P1.2.2.2.2.2.2.2.2.1.2.1.2, bX7 G q1 (o1 + 54) P1.2.2.2.2.2.2.2.2.2.1 P1.2.2.2.2.2.2.2.2.2.2.1 P1.2.2.2.2.2.2.2.2.2.2.2, bA48 G q2 o2 P2] H locs → lv_has ls 5 [(0, .ref (q1 (o1 + 0))), (1, .ref (q2 (o2 + 0))), (2, .int v2), (3, .int v3)] → W p l e { frames := 7, cells := 0, slots := 0, locals := 163 } s m args below meth c H locs 0 0 (MQ below (zQ (some (.int y.1)) (zPost G [bX10 G q1 o1, bX9 G q1 (o1 + 1) y.2.1.1 y.2.1.2.1 y.2.1.2.2.1 y.2.1.2.2.2.1 y.2.1.2.2.2.2, bX6 G q1 (o1 + 3) y.2.2.1.1 y.2.2.1.2, bX8 G q1 (o1 + 12) y.2.2.2.1.1 y.2.2.2.1.2, bX5 G q1 (o1 + 19) y.2.2.2.2.1.2.1 y.2.2.2.2.1.2.2.1 y.2.2.2.2.1.2.2.2.1 y.2.2.2.2.1.2.2.2.2, bX2 G q1 ((o1 + 19) + 2) y.2.2.2.2.1.1.1 y.2.2.2.2.1.1.2.1 y.2.2.2.2.1.1.2.2.1 y.2.2.2.2.1.1.2.2.2.1 y.2.2.2.2.1.1.2.2.2.2.1 y.2.2.2.2.1.1.2.2.2.2.2.1 y.2.2.2.2.1.1.2.2.2.2.2.2.1 y.2.2.2.2.1.1.2.2.2.2.2.2.2, bX2 G q1 (o1 + 27) y.2.2.2.2.2.1.1 y.2.2.2.2.2.1.2.1 y.2.2.2.2.2.1.2.2.1 y.2.2.2.2.2.1.2.2.2.1 y.2.2.2.2.2.1.2.2.2.2.1 y.2.2.2.2.2.1.2.2.2.2.2.1 y.2.2.2.2.2.1.2.2.2.2.2.2.1 y.2.2.2.2.2.1.2.2.2.2.2.2.2, bX1 G q1 (o1 + 33) y.2.2.2.2.2.2.1.1 y.2.2.2.2.2.2.1.2.1 y.2.2.2.2.2.2.1.2.2.1 y.2.2.2.2.2.2.1.2.2.2, bX4 G q1 (o1 + 36) y.2.2.2.2.2.2.2.1.1 y.2.2.2.2.2.2.2.1.2, bX3 G q1 (o1 + 38) y.2.2.2.2.2.2.2.2.1.1 y.2.2.2.2.2.2.2.2.1.2.1 y.2.2.2.2.2.2.2.2.1.2.2.1 y.2.2.2.2.2.2.2.2.1.2.2.2, bX0 G q1 (o1 + 43) y.2.2.2.2.2.2.2.2.2.1.2.2.1 y.2.2.2.2.2.2.2.2.2.1.2.2.2, bX2 G q1 ((o1 + 43) + 3) y.2.2.2.2.2.2.2.2.2.1.1.1 y.2.2.2.2.2.2.2.2.2.1.1.2.1 y.2.2.2.2.2.2.2.2.2.1.1.2.2.1 y.2.2.2.2.2.2.2.2.2.1.1.2.2.2.1 y.2.2.2.2.2.2.2.2.2.1.1.2.2.2.2.1 y.2.2.2.2.2.2.2.2.2.1.1.2.2.2.2.2.1 y.2.2.2.2.2.2.2.2.2.1.1.2.2.2.2.2.2.1 y.2.2.2.2.2.2.2.2.2.1.1.2.2.2.2.2.2.2, bX4 G q1 ((o1 + 43) + 9) y.2.2.2.2.2.2.2.2.2.1.2.1.1 y.2.2.2.2.2.2.2.2.2.1.2.1.2, bX7 G q1 (o1 + 54) y.2.2.2.2.2.2.2.2.2.2.1 y.2.2.2.2.2.2.2.2.2.2.2.1 y.2.2.2.2.2.2.2.2.2.2.2.2, bA48 G q2 o2 P2]) A) args s 0 0 A) (F0 m 218 ls [])) (n : Nat) : ∀ (P1 : VX10) (P2 : VA48) (v2 : Int32) (v3 : Int32) (v4 : Int32) (H : Heap) (locs : List Loc) (ls : Array Slot), f_L_jail_230 r_218 n P1 P2 v2 v3 v4 = some y → zH G A s.heap [bX10 G q1 o1, bX9 G q1 (o1 + 1) P1.1.1 P1.1.2.1 P1.1.2.2.1 P1.1.2.2.2.1 P1.1.2.2.2.2, bX6 G q1 (o1 + 3) P1.2.1.1 P1.2.1.2, bX8 G q1 (o1 + 12) P1.2.2.1.1 P1.2.2.1.2, bX5 G q1 (o1 + 19) P1.2.2.2.1.2.1 P1.2.2.2.1.2.2.1 P1.2.2.2.1.2.2.2.1 P1.2.2.2.1.2.2.2.2, bX2 G q1 ((o1 + 19) + 2) P1.2.2.2.1.1.1 P1.2.2.2.1.1.2.1 P1.2.2.2.1.1.2.2.1 P1.2.2.2.1.1.2.2.2.1 P1.2.2.2.1.1.2.2.2.2.1 P1.2.2.2.1.1.2.2.2.2.2.1 P1.2.2.2.1.1.2.2.2.2.2.2.1 P1.2.2.2.1.1.2.2.2.2.2.2.2, bX2 G q1 (o1 + 27) P1.2.2.2.2.1.1 P1.2.2.2.2.1.2.1 P1.2.2.2.2.1.2.2.1 P1.2.2.2.2.1.2.2.2.1 P1.2.2.2.2.1.2.2.2.2.1 P1.2.2.2.2.1.2.2.2.2.2.1 P1.2.2.2.2.1.2.2.2.2.2.2.1 P1.2.2.2.2.1.2.2.2.2.2.2.2, bX1 G q1 (o1 + 33) P1.2.2.2.2.2.1.1 P1.2.2.2.2.2.1.2.1 P1.2.2.2.2.2.1.2.2.1 P1.2.2.2.2.2.1.2.2.2, bX4 G q1 (o1 + 36) P1.2.2.2.2.2.2.1.1 P1.2.2.2.2.2.2.1.2, bX3 G q1 (o1 + 38) P1.2.2.2.2.2.2.2.1.1 P1.2.2.2.2.2.2.2.1.2.1 P1.2.2.2.2.2.2.2.1.2.2.1 P1.2.2.2.2.2.2.2.1.2.2.2, bX0 G q1 (o1 + 43) P1.2.2.2.2.2.2.2.2.1.2.2.1 P1.2.2.2.2.2.2.2.2.1.2.2.2, bX2 G q1 ((o1 + 43) + 3) P1.2.2.2.2.2.2.2.2.1.1.1 P1.2.2.2.2.2.2.2.2.1.1.2.1 P1.2.2.2.2.2.2.2.2.1.1.2.2.1 P1.2.2.2.2.2.2.2.2.1.1.2.2.2.1 P1.2.2.2.2.2.2.2.2.1.1.2.2.2.2.1 P1.2.2.2.2.2.2.2.2.1.1.2.2.2.2.2.1 P1.2.2.2.2.2.2.2.2.1.1.2.2.2.2.2.2.1 P1.2.2.2.2.2.2.2.2.1.1.2.2.2.2.2.2.2, bX4 G q1 ((o1 + 43) + 9) P1.2.2.2.2.2.2.2.2.1.2.1.1 P1.2.2.2.2.2.2.2.2.1.2.1.2, bX7 G q1 (o1 + 54) P1.2.2.2.2.2.2.2.2.2.1 P1.2.2.2.2.2.2.2.2.2.2.1 P1.2.2.2.2.2.2.2.2.2.2.2, bA48 G q2 o2 P2] H locs → lv_has ls 5 [(0, .ref (q1 (o1 + 0))), (1, .ref (q2 (o2 + 0))), (2, .int v2), (3, .int v3), (4, .int v4)] → W p l e { frames := 7, cells := 0, slots := 0, locals := 163 } s m args below meth c H locs 0 0 (MQ below (zQ (some (.int y.1)) (zPost G [bX10 G q1 o1, bX9 G q1 (o1 + 1) y.2.1.1 y.2.1.2.1 y.2.1.2.2.1 y.2.1.2.2.2.1 y.2.1.2.2.2.2, bX6 G q1 (o1 + 3) y.2.2.1.1 y.2.2.1.2, bX8 G q1 (o1 + 12) y.2.2.2.1.1 y.2.2.2.1.2, bX5 G q1 (o1 + 19) y.2.2.2.2.1.2.1 y.2.2.2.2.1.2.2.1 y.2.2.2.2.1.2.2.2.1 y.2.2.2.2.1.2.2.2.2, bX2 G q1 ((o1 + 19) + 2) y.2.2.2.2.1.1.1 y.2.2.2.2.1.1.2.1 y.2.2.2.2.1.1.2.2.1 y.2.2.2.2.1.1.2.2.2.1 y.2.2.2.2.1.1.2.2.2.2.1 y.2.2.2.2.1.1.2.2.2.2.2.1 y.2.2.2.2.1.1.2.2.2.2.2.2.1 y.2.2.2.2.1.1.2.2.2.2.2.2.2, bX2 G q1 (o1 + 27) y.2.2.2.2.2.1.1 y.2.2.2.2.2.1.2.1 y.2.2.2.2.2.1.2.2.1 y.2.2.2.2.2.1.2.2.2.1 y.2.2.2.2.2.1.2.2.2.2.1 y.2.2.2.2.2.1.2.2.2.2.2.1 y.2.2.2.2.2.1.2.2.2.2.2.2.1 y.2.2.2.2.2.1.2.2.2.2.2.2.2, bX1 G q1 (o1 + 33) y.2.2.2.2.2.2.1.1 y.2.2.2.2.2.2.1.2.1 y.2.2.2.2.2.2.1.2.2.1 y.2.2.2.2.2.2.1.2.2.2, bX4 G q1 (o1 + 36) y.2.2.2.2.2.2.2.1.1 y.2.2.2.2.2.2.2.1.2, bX3 G q1 (o1 + 38) y.2.2.2.2.2.2.2.2.1.1 y.2.2.2.2.2.2.2.2.1.2.1 y.2.2.2.2.2.2.2.2.1.2.2.1 y.2.2.2.2.2.2.2.2.1.2.2.2, bX0 G q1 (o1 + 43) y.2.2.2.2.2.2.2.2.2.1.2.2.1 y.2.2.2.2.2.2.2.2.2.1.2.2.2, bX2 G q1 ((o1 + 43) + 3) y.2.2.2.2.2.2.2.2.2.1.1.1 y.2.2.2.2.2.2.2.2.2.1.1.2.1 y.2.2.2.2.2.2.2.2.2.1.1.2.2.1 y.2.2.2.2.2.2.2.2.2.1.1.2.2.2.1 y.2.2.2.2.2.2.2.2.2.1.1.2.2.2.2.1 y.2.2.2.2.2.2.2.2.2.1.1.2.2.2.2.2.1 y.2.2.2.2.2.2.2.2.2.1.1.2.2.2.2.2.2.1 y.2.2.2.2.2.2.2.2.2.1.1.2.2.2.2.2.2.2, bX4 G q1 ((o1 + 43) + 9) y.2.2.2.2.2.2.2.2.2.1.2.1.1 y.2.2.2.2.2.2.2.2.2.1.2.1.2, bX7 G q1 (o1 + 54) y.2.2.2.2.2.2.2.2.2.2.1 y.2.2.2.2.2.2.2.2.2.2.2.1 y.2.2.2.2.2.2.2.2.2.2.2.2, bA48 G q2 o2 P2]) A) args s 0 0 A) (F0 m 230 ls []) := by
  obtain ⟨hS0, hr, hlk, hK, hA, hT⟩ := id hZ
  have hx := hS0.1
  have hb := hS0.2.1
  have hml := hS0.2.2.1
  have hown : s.vm.findClass RL = some m.cls := hS0.2.2.2.1
  have hts := hS0.2.2.2.2
  induction n with
  | zero =>
    intro P1 P2 v2 v3 v4 H locs ls hf hw hl
    unfold f_L_jail_230 at hf
    cases hf
  | succ n ih =>
    intro P1 P2 v2 v3 v4 H locs ls hf hw hl
    unfold f_L_jail_230 at hf
    refine lv_iload hx hb dL_jail_230 (lv_at hl 4 rfl) ?_
    refine lv_aload_n hx hb dL_jail_232 rfl (lv_at hl 1 rfl) ?_
    refine lv_iconst (v := 0) hx hb dL_jail_233 rfl ?_
    obtain ⟨g14, hf⟩ := z_gd hf
    refine z_iald hS0 hK hw 14 0 (zIn_vp g14) rfl rfl dL_jail_234 ?_
    refine lv_icmp_ge (tgt := 287) hx hb dL_jail_235 rfl (fun hc => ?_) (fun hc => ?_)
    · have hf := z_t hc hf
      refine lv_iinc (v := (v3 + 1)) (lv' := [(3, .int (v3 + 1)), (0, .ref (q1 (o1 + 0))), (1, .ref (q2 (o2 + 0))), (2, .int v2), (4, .int v4)]) hx hb dL_jail_287 hl (k := 3) rfl rfl (by decide) rfl (fun ls hl => ?_)
      refine lv_goto (tgt := 218) hx hb dL_jail_290 rfl ?_
      exact h_218 _ _ _ _ _ _ _ hf hw (lv_sub hl [1, 2, 3, 0] rfl)
    · have hf := z_f hc hf
      refine lv_aload_n hx hb dL_jail_238 rfl (lv_at hl 1 rfl) ?_
      refine lv_bipush (v := 33) hx hb dL_jail_239 rfl ?_
      refine lv_iload_n hx hb dL_jail_241 rfl (lv_at hl 3 rfl) ?_
      refine lv_iadd hx hb dL_jail_242 ?_
      obtain ⟨g15, hf⟩ := z_gd hf
      refine z_iald hS0 hK hw 14 0 (zIn_vp g15) rfl rfl dL_jail_243 ?_
      refine lv_iload hx hb dL_jail_244 (lv_at hl 4 rfl) ?_
      refine lv_ishr hx hb dL_jail_246 ?_
      refine lv_iconst (v := 1) hx hb dL_jail_247 rfl ?_
      refine lv_iand hx hb dL_jail_248 ?_
      refine lv_if_ne (tgt := 256) hx hb dL_jail_249 rfl (fun hc => ?_) (fun hc => ?_)
      · have hf := z_f hc hf
        refine lv_aload_n hx hb dL_jail_256 rfl (lv_at hl 0 rfl) ?_
        refine lv_aload_n hx hb dL_jail_257 rfl (lv_at hl 0 rfl) ?_
        refine lv_aload_n hx hb dL_jail_258 rfl (lv_at hl 0 rfl) ?_
        refine lv_iload_n hx hb dL_jail_259 rfl (lv_at hl 2 rfl) ?_
        refine lv_bipush (v := 113) hx hb dL_jail_260 rfl ?_
        obtain ⟨r16, e17, hf⟩ := z_bd hf
        refine z_callS1 (As := [.ref (q1 (o1 + 0)), .int v2, .int 113]) (rest := [.ref (q1 (o1 + 0)), .ref (q1 (o1 + 0))]) (bs' := [bX10 G q1 o1, bX9 G q1 (o1 + 1) r16.2.1.1 r16.2.1.2.1 r16.2.1.2.2.1 r16.2.1.2.2.2.1 r16.2.1.2.2.2.2, bX6 G q1 (o1 + 3) r16.2.2.1.1 r16.2.2.1.2, bX8 G q1 (o1 + 12) r16.2.2.2.1.1 r16.2.2.2.1.2, bX5 G q1 (o1 + 19) r16.2.2.2.2.1.2.1 r16.2.2.2.2.1.2.2.1 r16.2.2.2.2.1.2.2.2.1 r16.2.2.2.2.1.2.2.2.2, bX2 G q1 ((o1 + 19) + 2) r16.2.2.2.2.1.1.1 r16.2.2.2.2.1.1.2.1 r16.2.2.2.2.1.1.2.2.1 r16.2.2.2.2.1.1.2.2.2.1 r16.2.2.2.2.1.1.2.2.2.2.1 r16.2.2.2.2.1.1.2.2.2.2.2.1 r16.2.2.2.2.1.1.2.2.2.2.2.2.1 r16.2.2.2.2.1.1.2.2.2.2.2.2.2, bX2 G q1 (o1 + 27) r16.2.2.2.2.2.1.1 r16.2.2.2.2.2.1.2.1 r16.2.2.2.2.2.1.2.2.1 r16.2.2.2.2.2.1.2.2.2.1 r16.2.2.2.2.2.1.2.2.2.2.1 r16.2.2.2.2.2.1.2.2.2.2.2.1 r16.2.2.2.2.2.1.2.2.2.2.2.2.1 r16.2.2.2.2.2.1.2.2.2.2.2.2.2, bX1 G q1 (o1 + 33) r16.2.2.2.2.2.2.1.1 r16.2.2.2.2.2.2.1.2.1 r16.2.2.2.2.2.2.1.2.2.1 r16.2.2.2.2.2.2.1.2.2.2, bX4 G q1 (o1 + 36) r16.2.2.2.2.2.2.2.1.1 r16.2.2.2.2.2.2.2.1.2, bX3 G q1 (o1 + 38) r16.2.2.2.2.2.2.2.2.1.1 r16.2.2.2.2.2.2.2.2.1.2.1 r16.2.2.2.2.2.2.2.2.1.2.2.1 r16.2.2.2.2.2.2.2.2.1.2.2.2, bX0 G q1 (o1 + 43) r16.2.2.2.2.2.2.2.2.2.1.2.2.1 r16.2.2.2.2.2.2.2.2.2.1.2.2.2, bX2 G q1 ((o1 + 43) + 3) r16.2.2.2.2.2.2.2.2.2.1.1.1 r16.2.2.2.2.2.2.2.2.2.1.1.2.1 r16.2.2.2.2.2.2.2.2.2.1.1.2.2.1 r16.2.2.2.2.2.2.2.2.2.1.1.2.2.2.1 r16.2.2.2.2.2.2.2.2.2.1.1.2.2.2.2.1 r16.2.2.2.2.2.2.2.2.2.1.1.2.2.2.2.2.1 r16.2.2.2.2.2.2.2.2.2.1.1.2.2.2.2.2.2.1 r16.2.2.2.2.2.2.2.2.2.1.1.2.2.2.2.2.2.2, bX4 G q1 ((o1 + 43) + 9) r16.2.2.2.2.2.2.2.2.2.1.2.1.1 r16.2.2.2.2.2.2.2.2.2.1.2.1.2, bX7 G q1 (o1 + 54) r16.2.2.2.2.2.2.2.2.2.2.1 r16.2.2.2.2.2.2.2.2.2.2.2.1 r16.2.2.2.2.2.2.2.2.2.2.2.2, bA48 G q2 o2 P2]) hS0 (c_L_put l G q1 o1 P1 v2 113 r16 e17) zc_L_put gL_jail_L_put ⟨Nat.le_of_ble_eq_true rfl, Nat.le_of_ble_eq_true rfl⟩ hK hA hT hw (is := [0, 1, 2, 3, 4, 5, 6, 7, 8, 9, 10, 11, 12, 13]) rfl rfl rfl rfl rfl hl.1 rfl (Nat.le_of_ble_eq_true rfl) dL_jail_262 (fun H locs hw => ?_)
        refine lv_bipush (v := 65) hx hb dL_jail_265 rfl ?_
        refine lv_iload hx hb dL_jail_267 (lv_at hl 4 rfl) ?_
        refine lv_iadd hx hb dL_jail_269 ?_
        obtain ⟨r18, e19, hf⟩ := z_bd hf
        refine z_callS1 (As := [.ref (q1 (o1 + 0)), .int r16.1, .int ((65 : Int32) + v4)]) (rest := [.ref (q1 (o1 + 0))]) (bs' := [bX10 G q1 o1, bX9 G q1 (o1 + 1) r18.2.1.1 r18.2.1.2.1 r18.2.1.2.2.1 r18.2.1.2.2.2.1 r18.2.1.2.2.2.2, bX6 G q1 (o1 + 3) r18.2.2.1.1 r18.2.2.1.2, bX8 G q1 (o1 + 12) r18.2.2.2.1.1 r18.2.2.2.1.2, bX5 G q1 (o1 + 19) r18.2.2.2.2.1.2.1 r18.2.2.2.2.1.2.2.1 r18.2.2.2.2.1.2.2.2.1 r18.2.2.2.2.1.2.2.2.2, bX2 G q1 ((o1 + 19) + 2) r18.2.2.2.2.1.1.1 r18.2.2.2.2.1.1.2.1 r18.2.2.2.2.1.1.2.2.1 r18.2.2.2.2.1.1.2.2.2.1 r18.2.2.2.2.1.1.2.2.2.2.1 r18.2.2.2.2.1.1.2.2.2.2.2.1 r18.2.2.2.2.1.1.2.2.2.2.2.2.1 r18.2.2.2.2.1.1.2.2.2.2.2.2.2, bX2 G q1 (o1 + 27) r18.2.2.2.2.2.1.1 r18.2.2.2.2.2.1.2.1 r18.2.2.2.2.2.1.2.2.1 r18.2.2.2.2.2.1.2.2.2.1 r18.2.2.2.2.2.1.2.2.2.2.1 r18.2.2.2.2.2.1.2.2.2.2.2.1 r18.2.2.2.2.2.1.2.2.2.2.2.2.1 r18.2.2.2.2.2.1.2.2.2.2.2.2.2, bX1 G q1 (o1 + 33) r18.2.2.2.2.2.2.1.1 r18.2.2.2.2.2.2.1.2.1 r18.2.2.2.2.2.2.1.2.2.1 r18.2.2.2.2.2.2.1.2.2.2, bX4 G q1 (o1 + 36) r18.2.2.2.2.2.2.2.1.1 r18.2.2.2.2.2.2.2.1.2, bX3 G q1 (o1 + 38) r18.2.2.2.2.2.2.2.2.1.1 r18.2.2.2.2.2.2.2.2.1.2.1 r18.2.2.2.2.2.2.2.2.1.2.2.1 r18.2.2.2.2.2.2.2.2.1.2.2.2, bX0 G q1 (o1 + 43) r18.2.2.2.2.2.2.2.2.2.1.2.2.1 r18.2.2.2.2.2.2.2.2.2.1.2.2.2, bX2 G q1 ((o1 + 43) + 3) r18.2.2.2.2.2.2.2.2.2.1.1.1 r18.2.2.2.2.2.2.2.2.2.1.1.2.1 r18.2.2.2.2.2.2.2.2.2.1.1.2.2.1 r18.2.2.2.2.2.2.2.2.2.1.1.2.2.2.1 r18.2.2.2.2.2.2.2.2.2.1.1.2.2.2.2.1 r18.2.2.2.2.2.2.2.2.2.1.1.2.2.2.2.2.1 r18.2.2.2.2.2.2.2.2.2.1.1.2.2.2.2.2.2.1 r18.2.2.2.2.2.2.2.2.2.1.1.2.2.2.2.2.2.2, bX4 G q1 ((o1 + 43) + 9) r18.2.2.2.2.2.2.2.2.2.1.2.1.1 r18.2.2.2.2.2.2.2.2.2.1.2.1.2, bX7 G q1 (o1 + 54) r18.2.2.2.2.2.2.2.2.2.2.1 r18.2.2.2.2.2.2.2.2.2.2.2.1 r18.2.2.2.2.2.2.2.2.2.2.2.2, bA48 G q2 o2 P2]) hS0 (c_L_put l G q1 o1 r16.2 r16.1 ((65 : Int32) + v4) r18 e19) zc_L_put gL_jail_L_put ⟨Nat.le_of_ble_eq_true rfl, Nat.le_of_ble_eq_true rfl⟩ hK hA hT hw (is := [0, 1, 2, 3, 4, 5, 6, 7, 8, 9, 10, 11, 12, 13]) rfl rfl rfl rfl rfl hl.1 rfl (Nat.le_of_ble_eq_true rfl) dL_jail_270 (fun H locs hw => ?_)
        refine lv_bipush (v := 65) hx hb dL_jail_273 rfl ?_
        refine lv_iload_n hx hb dL_jail_275 rfl (lv_at hl 3 rfl) ?_
        refine lv_iadd hx hb dL_jail_276 ?_
        obtain ⟨r20, e21, hf⟩ := z_bd hf
        refine z_callS1 (As := [.ref (q1 (o1 + 0)), .int r18.1, .int ((65 : Int32) + v3)]) (rest := []) (bs' := [bX10 G q1 o1, bX9 G q1 (o1 + 1) r20.2.1.1 r20.2.1.2.1 r20.2.1.2.2.1 r20.2.1.2.2.2.1 r20.2.1.2.2.2.2, bX6 G q1 (o1 + 3) r20.2.2.1.1 r20.2.2.1.2, bX8 G q1 (o1 + 12) r20.2.2.2.1.1 r20.2.2.2.1.2, bX5 G q1 (o1 + 19) r20.2.2.2.2.1.2.1 r20.2.2.2.2.1.2.2.1 r20.2.2.2.2.1.2.2.2.1 r20.2.2.2.2.1.2.2.2.2, bX2 G q1 ((o1 + 19) + 2) r20.2.2.2.2.1.1.1 r20.2.2.2.2.1.1.2.1 r20.2.2.2.2.1.1.2.2.1 r20.2.2.2.2.1.1.2.2.2.1 r20.2.2.2.2.1.1.2.2.2.2.1 r20.2.2.2.2.1.1.2.2.2.2.2.1 r20.2.2.2.2.1.1.2.2.2.2.2.2.1 r20.2.2.2.2.1.1.2.2.2.2.2.2.2, bX2 G q1 (o1 + 27) r20.2.2.2.2.2.1.1 r20.2.2.2.2.2.1.2.1 r20.2.2.2.2.2.1.2.2.1 r20.2.2.2.2.2.1.2.2.2.1 r20.2.2.2.2.2.1.2.2.2.2.1 r20.2.2.2.2.2.1.2.2.2.2.2.1 r20.2.2.2.2.2.1.2.2.2.2.2.2.1 r20.2.2.2.2.2.1.2.2.2.2.2.2.2, bX1 G q1 (o1 + 33) r20.2.2.2.2.2.2.1.1 r20.2.2.2.2.2.2.1.2.1 r20.2.2.2.2.2.2.1.2.2.1 r20.2.2.2.2.2.2.1.2.2.2, bX4 G q1 (o1 + 36) r20.2.2.2.2.2.2.2.1.1 r20.2.2.2.2.2.2.2.1.2, bX3 G q1 (o1 + 38) r20.2.2.2.2.2.2.2.2.1.1 r20.2.2.2.2.2.2.2.2.1.2.1 r20.2.2.2.2.2.2.2.2.1.2.2.1 r20.2.2.2.2.2.2.2.2.1.2.2.2, bX0 G q1 (o1 + 43) r20.2.2.2.2.2.2.2.2.2.1.2.2.1 r20.2.2.2.2.2.2.2.2.2.1.2.2.2, bX2 G q1 ((o1 + 43) + 3) r20.2.2.2.2.2.2.2.2.2.1.1.1 r20.2.2.2.2.2.2.2.2.2.1.1.2.1 r20.2.2.2.2.2.2.2.2.2.1.1.2.2.1 r20.2.2.2.2.2.2.2.2.2.1.1.2.2.2.1 r20.2.2.2.2.2.2.2.2.2.1.1.2.2.2.2.1 r20.2.2.2.2.2.2.2.2.2.1.1.2.2.2.2.2.1 r20.2.2.2.2.2.2.2.2.2.1.1.2.2.2.2.2.2.1 r20.2.2.2.2.2.2.2.2.2.1.1.2.2.2.2.2.2.2, bX4 G q1 ((o1 + 43) + 9) r20.2.2.2.2.2.2.2.2.2.1.2.1.1 r20.2.2.2.2.2.2.2.2.2.1.2.1.2, bX7 G q1 (o1 + 54) r20.2.2.2.2.2.2.2.2.2.2.1 r20.2.2.2.2.2.2.2.2.2.2.2.1 r20.2.2.2.2.2.2.2.2.2.2.2.2, bA48 G q2 o2 P2]) hS0 (c_L_put l G q1 o1 r18.2 r18.1 ((65 : Int32) + v3) r20 e21) zc_L_put gL_jail_L_put ⟨Nat.le_of_ble_eq_true rfl, Nat.le_of_ble_eq_true rfl⟩ hK hA hT hw (is := [0, 1, 2, 3, 4, 5, 6, 7, 8, 9, 10, 11, 12, 13]) rfl rfl rfl rfl rfl hl.1 rfl (Nat.le_of_ble_eq_true rfl) dL_jail_277 (fun H locs hw => ?_)
        refine lv_istore_n (lv' := [(2, .int r20.1), (0, .ref (q1 (o1 + 0))), (1, .ref (q2 (o2 + 0))), (3, .int v3), (4, .int v4)]) hx hb dL_jail_280 rfl hl (by decide) rfl (fun ls hl => ?_)
        refine lv_iinc (v := (v4 + 1)) (lv' := [(4, .int (v4 + 1)), (2, .int r20.1), (0, .ref (q1 (o1 + 0))), (1, .ref (q2 (o2 + 0))), (3, .int v3)]) hx hb dL_jail_281 hl (k := 4) rfl rfl (by decide) rfl (fun ls hl => ?_)
        refine lv_goto (tgt := 230) hx hb dL_jail_284 rfl ?_
        exact ih _ _ _ _ _ _ _ _ hf hw (lv_sub hl [2, 3, 1, 4, 0] rfl)
      · have hf := z_t hc hf
        refine lv_iload_n hx hb dL_jail_252 rfl (lv_at hl 2 rfl) ?_
        refine lv_goto (tgt := 280) hx hb dL_jail_253 rfl ?_
        refine lv_istore_n (lv' := [(2, .int v2), (0, .ref (q1 (o1 + 0))), (1, .ref (q2 (o2 + 0))), (3, .int v3), (4, .int v4)]) hx hb dL_jail_280 rfl hl (by decide) rfl (fun ls hl => ?_)
        refine lv_iinc (v := (v4 + 1)) (lv' := [(4, .int (v4 + 1)), (2, .int v2), (0, .ref (q1 (o1 + 0))), (1, .ref (q2 (o2 + 0))), (3, .int v3)]) hx hb dL_jail_281 hl (k := 4) rfl rfl (by decide) rfl (fun ls hl => ?_)
        refine lv_goto (tgt := 230) hx hb dL_jail_284 rfl ?_
        exact ih _ _ _ _ _ _ _ _ hf hw (lv_sub hl [2, 3, 1, 4, 0] rfl)
set_option maxHeartbeats 4000000 in
set_option maxRecDepth 100000 in
theorem k_L_jail_218 {p : Program} {l : Launch} {e : Env} {s : State} {m : MethodId} {args : Array Value} {below : List Frame} {meth : Method} {c : Code} {A : Nat → Prop} {G : zG} {q1 : Nat → Nat} {o1 : Nat} {q2 : Nat → Nat} {o2 : Nat}  (hZ : zZ p s m args meth c A G cL_jail 5 RL wsL_jail (some .boolean)) (y : Int32 × VX10)  (n : Nat) : ∀ (P1 : VX10) (P2 : VA48) (v2 : Int32) (v3 : Int32) (H : Heap) (locs : List Loc) (ls : Array Slot), f_L_jail_218 n P1 P2 v2 v3 = some y → zH G A s.heap [bX10 G q1 o1, bX9 G q1 (o1 + 1) P1.1.1 P1.1.2.1 P1.1.2.2.1 P1.1.2.2.2.1 P1.1.2.2.2.2, bX6 G q1 (o1 + 3) P1.2.1.1 P1.2.1.2, bX8 G q1 (o1 + 12) P1.2.2.1.1 P1.2.2.1.2, bX5 G q1 (o1 + 19) P1.2.2.2.1.2.1 P1.2.2.2.1.2.2.1 P1.2.2.2.1.2.2.2.1 P1.2.2.2.1.2.2.2.2, bX2 G q1 ((o1 + 19) + 2) P1.2.2.2.1.1.1 P1.2.2.2.1.1.2.1 P1.2.2.2.1.1.2.2.1 P1.2.2.2.1.1.2.2.2.1 P1.2.2.2.1.1.2.2.2.2.1 P1.2.2.2.1.1.2.2.2.2.2.1 P1.2.2.2.1.1.2.2.2.2.2.2.1 P1.2.2.2.1.1.2.2.2.2.2.2.2, bX2 G q1 (o1 + 27) P1.2.2.2.2.1.1 P1.2.2.2.2.1.2.1 P1.2.2.2.2.1.2.2.1 P1.2.2.2.2.1.2.2.2.1 P1.2.2.2.2.1.2.2.2.2.1 P1.2.2.2.2.1.2.2.2.2.2.1 P1.2.2.2.2.1.2.2.2.2.2.2.1 P1.2.2.2.2.1.2.2.2.2.2.2.2, bX1 G q1 (o1 + 33) P1.2.2.2.2.2.1.1 P1.2.2.2.2.2.1.2.1 P1.2.2.2.2.2.1.2.2.1 P1.2.2.2.2.2.1.2.2.2, bX4 G q1 (o1 + 36) P1.2.2.2.2.2.2.1.1 P1.2.2.2.2.2.2.1.2, bX3 G q1 (o1 + 38) P1.2.2.2.2.2.2.2.1.1 P1.2.2.2.2.2.2.2.1.2.1 P1.2.2.2.2.2.2.2.1.2.2.1 P1.2.2.2.2.2.2.2.1.2.2.2, bX0 G q1 (o1 + 43) P1.2.2.2.2.2.2.2.2.1.2.2.1 P1.2.2.2.2.2.2.2.2.1.2.2.2, bX2 G q1 ((o1 + 43) + 3) P1.2.2.2.2.2.2.2.2.1.1.1 P1.2.2.2.2.2.2.2.2.1.1.2.1 P1.2.2.2.2.2.2.2.2.1.1.2.2.1 P1.2.2.2.2.2.2.2.2.1.1.2.2.2.1 P1.2.2.2.2.2.2.2.2.1.1.2.2.2.2.1 P1.2.2.2.2.2.2.2.2.1.1.2.2.2.2.2.1 P1.2.2.2.2.2.2.2.2.1.1.2.2.2.2.2.2.1 P1.2.2.2.2.2.2.2.2.1.1.2.2.2.2.2.2.2, bX4 G q1 ((o1 + 43) + 9) P1.2.2.2.2.2.2.2.2.1.2.1.1 P1.2.2.2.2.2.2.2.2.1.2.1.2, bX7 G q1 (o1 + 54) P1.2.2.2.2.2.2.2.2.2.1 P1.2.2.2.2.2.2.2.2.2.2.1 P1.2.2.2.2.2.2.2.2.2.2.2, bA48 G q2 o2 P2] H locs → lv_has ls 5 [(0, .ref (q1 (o1 + 0))), (1, .ref (q2 (o2 + 0))), (2, .int v2), (3, .int v3)] → W p l e { frames := 7, cells := 0, slots := 0, locals := 163 } s m args below meth c H locs 0 0 (MQ below (zQ (some (.int y.1)) (zPost G [bX10 G q1 o1, bX9 G q1 (o1 + 1) y.2.1.1 y.2.1.2.1 y.2.1.2.2.1 y.2.1.2.2.2.1 y.2.1.2.2.2.2, bX6 G q1 (o1 + 3) y.2.2.1.1 y.2.2.1.2, bX8 G q1 (o1 + 12) y.2.2.2.1.1 y.2.2.2.1.2, bX5 G q1 (o1 + 19) y.2.2.2.2.1.2.1 y.2.2.2.2.1.2.2.1 y.2.2.2.2.1.2.2.2.1 y.2.2.2.2.1.2.2.2.2, bX2 G q1 ((o1 + 19) + 2) y.2.2.2.2.1.1.1 y.2.2.2.2.1.1.2.1 y.2.2.2.2.1.1.2.2.1 y.2.2.2.2.1.1.2.2.2.1 y.2.2.2.2.1.1.2.2.2.2.1 y.2.2.2.2.1.1.2.2.2.2.2.1 y.2.2.2.2.1.1.2.2.2.2.2.2.1 y.2.2.2.2.1.1.2.2.2.2.2.2.2, bX2 G q1 (o1 + 27) y.2.2.2.2.2.1.1 y.2.2.2.2.2.1.2.1 y.2.2.2.2.2.1.2.2.1 y.2.2.2.2.2.1.2.2.2.1 y.2.2.2.2.2.1.2.2.2.2.1 y.2.2.2.2.2.1.2.2.2.2.2.1 y.2.2.2.2.2.1.2.2.2.2.2.2.1 y.2.2.2.2.2.1.2.2.2.2.2.2.2, bX1 G q1 (o1 + 33) y.2.2.2.2.2.2.1.1 y.2.2.2.2.2.2.1.2.1 y.2.2.2.2.2.2.1.2.2.1 y.2.2.2.2.2.2.1.2.2.2, bX4 G q1 (o1 + 36) y.2.2.2.2.2.2.2.1.1 y.2.2.2.2.2.2.2.1.2, bX3 G q1 (o1 + 38) y.2.2.2.2.2.2.2.2.1.1 y.2.2.2.2.2.2.2.2.1.2.1 y.2.2.2.2.2.2.2.2.1.2.2.1 y.2.2.2.2.2.2.2.2.1.2.2.2, bX0 G q1 (o1 + 43) y.2.2.2.2.2.2.2.2.2.1.2.2.1 y.2.2.2.2.2.2.2.2.2.1.2.2.2, bX2 G q1 ((o1 + 43) + 3) y.2.2.2.2.2.2.2.2.2.1.1.1 y.2.2.2.2.2.2.2.2.2.1.1.2.1 y.2.2.2.2.2.2.2.2.2.1.1.2.2.1 y.2.2.2.2.2.2.2.2.2.1.1.2.2.2.1 y.2.2.2.2.2.2.2.2.2.1.1.2.2.2.2.1 y.2.2.2.2.2.2.2.2.2.1.1.2.2.2.2.2.1 y.2.2.2.2.2.2.2.2.2.1.1.2.2.2.2.2.2.1 y.2.2.2.2.2.2.2.2.2.1.1.2.2.2.2.2.2.2, bX4 G q1 ((o1 + 43) + 9) y.2.2.2.2.2.2.2.2.2.1.2.1.1 y.2.2.2.2.2.2.2.2.2.1.2.1.2, bX7 G q1 (o1 + 54) y.2.2.2.2.2.2.2.2.2.2.1 y.2.2.2.2.2.2.2.2.2.2.2.1 y.2.2.2.2.2.2.2.2.2.2.2.2, bA48 G q2 o2 P2]) A) args s 0 0 A) (F0 m 218 ls []) := by
  obtain ⟨hS0, hr, hlk, hK, hA, hT⟩ := id hZ
  have hx := hS0.1
  have hb := hS0.2.1
  have hml := hS0.2.2.1
  have hown : s.vm.findClass RL = some m.cls := hS0.2.2.2.1
  have hts := hS0.2.2.2.2
  induction n with
  | zero =>
    intro P1 P2 v2 v3 H locs ls hf hw hl
    unfold f_L_jail_218 at hf
    cases hf
  | succ n ih =>
    intro P1 P2 v2 v3 H locs ls hf hw hl
    unfold f_L_jail_218 at hf
    refine lv_iload_n hx hb dL_jail_218 rfl (lv_at hl 3 rfl) ?_
    refine lv_aload_n hx hb dL_jail_219 rfl (lv_at hl 1 rfl) ?_
    refine lv_iconst (v := 0) hx hb dL_jail_220 rfl ?_
    obtain ⟨g22, hf⟩ := z_gd hf
    refine z_iald hS0 hK hw 14 0 (zIn_vp g22) rfl rfl dL_jail_221 ?_
    refine lv_icmp_ge (tgt := 293) hx hb dL_jail_222 rfl (fun hc => ?_) (fun hc => ?_)
    · have hf := z_t hc hf
      refine lv_iload_n hx hb dL_jail_293 rfl (lv_at hl 2 rfl) ?_
      refine lv_if_le (tgt := 322) hx hb dL_jail_294 rfl (fun hc => ?_) (fun hc => ?_)
      · have hf := z_t hc hf
        refine lv_iconst (v := 0) hx hb dL_jail_322 rfl ?_
        cases hf
        exact z_zret hx hb hr (z_nb (Or.inl rfl)) hlk hw dL_jail_323
      · have hf := z_f hc hf
        refine lv_aload_n hx hb dL_jail_297 rfl (lv_at hl 0 rfl) ?_
        refine lv_iconst (v := 3) hx hb dL_jail_298 rfl ?_
        obtain ⟨r23, e24, hf⟩ := z_bd hf
        refine z_callV1 (As := [.int 3]) (rest := []) (bs' := [bX10 G q1 o1, bX9 G q1 (o1 + 1) r23.2.1.1 r23.2.1.2.1 r23.2.1.2.2.1 r23.2.1.2.2.2.1 r23.2.1.2.2.2.2, bX6 G q1 (o1 + 3) r23.2.2.1.1 r23.2.2.1.2, bX8 G q1 (o1 + 12) r23.2.2.2.1.1 r23.2.2.2.1.2, bX5 G q1 (o1 + 19) r23.2.2.2.2.1.2.1 r23.2.2.2.2.1.2.2.1 r23.2.2.2.2.1.2.2.2.1 r23.2.2.2.2.1.2.2.2.2, bX2 G q1 ((o1 + 19) + 2) r23.2.2.2.2.1.1.1 r23.2.2.2.2.1.1.2.1 r23.2.2.2.2.1.1.2.2.1 r23.2.2.2.2.1.1.2.2.2.1 r23.2.2.2.2.1.1.2.2.2.2.1 r23.2.2.2.2.1.1.2.2.2.2.2.1 r23.2.2.2.2.1.1.2.2.2.2.2.2.1 r23.2.2.2.2.1.1.2.2.2.2.2.2.2, bX2 G q1 (o1 + 27) r23.2.2.2.2.2.1.1 r23.2.2.2.2.2.1.2.1 r23.2.2.2.2.2.1.2.2.1 r23.2.2.2.2.2.1.2.2.2.1 r23.2.2.2.2.2.1.2.2.2.2.1 r23.2.2.2.2.2.1.2.2.2.2.2.1 r23.2.2.2.2.2.1.2.2.2.2.2.2.1 r23.2.2.2.2.2.1.2.2.2.2.2.2.2, bX1 G q1 (o1 + 33) r23.2.2.2.2.2.2.1.1 r23.2.2.2.2.2.2.1.2.1 r23.2.2.2.2.2.2.1.2.2.1 r23.2.2.2.2.2.2.1.2.2.2, bX4 G q1 (o1 + 36) r23.2.2.2.2.2.2.2.1.1 r23.2.2.2.2.2.2.2.1.2, bX3 G q1 (o1 + 38) r23.2.2.2.2.2.2.2.2.1.1 r23.2.2.2.2.2.2.2.2.1.2.1 r23.2.2.2.2.2.2.2.2.1.2.2.1 r23.2.2.2.2.2.2.2.2.1.2.2.2, bX0 G q1 (o1 + 43) r23.2.2.2.2.2.2.2.2.2.1.2.2.1 r23.2.2.2.2.2.2.2.2.2.1.2.2.2, bX2 G q1 ((o1 + 43) + 3) r23.2.2.2.2.2.2.2.2.2.1.1.1 r23.2.2.2.2.2.2.2.2.2.1.1.2.1 r23.2.2.2.2.2.2.2.2.2.1.1.2.2.1 r23.2.2.2.2.2.2.2.2.2.1.1.2.2.2.1 r23.2.2.2.2.2.2.2.2.2.1.1.2.2.2.2.1 r23.2.2.2.2.2.2.2.2.2.1.1.2.2.2.2.2.1 r23.2.2.2.2.2.2.2.2.2.1.1.2.2.2.2.2.2.1 r23.2.2.2.2.2.2.2.2.2.1.1.2.2.2.2.2.2.2, bX4 G q1 ((o1 + 43) + 9) r23.2.2.2.2.2.2.2.2.2.1.2.1.1 r23.2.2.2.2.2.2.2.2.2.1.2.1.2, bX7 G q1 (o1 + 54) r23.2.2.2.2.2.2.2.2.2.2.1 r23.2.2.2.2.2.2.2.2.2.2.2.1 r23.2.2.2.2.2.2.2.2.2.2.2.2, bA48 G q2 o2 P2]) hS0 (c_X10_fault l G q1 o1 P1 3 r23 e24) zc_X10_fault rfl gL_jail_X10_fault ⟨Nat.le_of_ble_eq_true rfl, Nat.le_of_ble_eq_true rfl⟩ hK hA hT hw (is := [0, 1, 2, 3, 4, 5, 6, 7, 8, 9, 10, 11, 12, 13]) rfl rfl rfl rfl rfl rfl rfl hl.1 rfl (Nat.le_of_ble_eq_true rfl) dL_jail_299 (fun H locs hw => ?_)
        refine lv_bipush (v := (-9)) hx hb dL_jail_302 rfl ?_
        refine lv_icmp_ne (tgt := 322) hx hb dL_jail_304 rfl (fun hc => ?_) (fun hc => ?_)
        · have hf := z_f hc hf
          refine lv_iconst (v := 0) hx hb dL_jail_322 rfl ?_
          cases hf
          exact z_zret hx hb hr (z_nb (Or.inl rfl)) hlk hw dL_jail_323
        · have hf := z_t hc hf
          refine lv_aload_n hx hb dL_jail_307 rfl (lv_at hl 0 rfl) ?_
          refine lv_iconst (v := 3) hx hb dL_jail_308 rfl ?_
          obtain ⟨r25, e26, hf⟩ := z_bd hf
          refine z_callV1 (As := [.int 3]) (rest := []) (bs' := [bX10 G q1 o1, bX9 G q1 (o1 + 1) r25.2.1.1 r25.2.1.2.1 r25.2.1.2.2.1 r25.2.1.2.2.2.1 r25.2.1.2.2.2.2, bX6 G q1 (o1 + 3) r25.2.2.1.1 r25.2.2.1.2, bX8 G q1 (o1 + 12) r25.2.2.2.1.1 r25.2.2.2.1.2, bX5 G q1 (o1 + 19) r25.2.2.2.2.1.2.1 r25.2.2.2.2.1.2.2.1 r25.2.2.2.2.1.2.2.2.1 r25.2.2.2.2.1.2.2.2.2, bX2 G q1 ((o1 + 19) + 2) r25.2.2.2.2.1.1.1 r25.2.2.2.2.1.1.2.1 r25.2.2.2.2.1.1.2.2.1 r25.2.2.2.2.1.1.2.2.2.1 r25.2.2.2.2.1.1.2.2.2.2.1 r25.2.2.2.2.1.1.2.2.2.2.2.1 r25.2.2.2.2.1.1.2.2.2.2.2.2.1 r25.2.2.2.2.1.1.2.2.2.2.2.2.2, bX2 G q1 (o1 + 27) r25.2.2.2.2.2.1.1 r25.2.2.2.2.2.1.2.1 r25.2.2.2.2.2.1.2.2.1 r25.2.2.2.2.2.1.2.2.2.1 r25.2.2.2.2.2.1.2.2.2.2.1 r25.2.2.2.2.2.1.2.2.2.2.2.1 r25.2.2.2.2.2.1.2.2.2.2.2.2.1 r25.2.2.2.2.2.1.2.2.2.2.2.2.2, bX1 G q1 (o1 + 33) r25.2.2.2.2.2.2.1.1 r25.2.2.2.2.2.2.1.2.1 r25.2.2.2.2.2.2.1.2.2.1 r25.2.2.2.2.2.2.1.2.2.2, bX4 G q1 (o1 + 36) r25.2.2.2.2.2.2.2.1.1 r25.2.2.2.2.2.2.2.1.2, bX3 G q1 (o1 + 38) r25.2.2.2.2.2.2.2.2.1.1 r25.2.2.2.2.2.2.2.2.1.2.1 r25.2.2.2.2.2.2.2.2.1.2.2.1 r25.2.2.2.2.2.2.2.2.1.2.2.2, bX0 G q1 (o1 + 43) r25.2.2.2.2.2.2.2.2.2.1.2.2.1 r25.2.2.2.2.2.2.2.2.2.1.2.2.2, bX2 G q1 ((o1 + 43) + 3) r25.2.2.2.2.2.2.2.2.2.1.1.1 r25.2.2.2.2.2.2.2.2.2.1.1.2.1 r25.2.2.2.2.2.2.2.2.2.1.1.2.2.1 r25.2.2.2.2.2.2.2.2.2.1.1.2.2.2.1 r25.2.2.2.2.2.2.2.2.2.1.1.2.2.2.2.1 r25.2.2.2.2.2.2.2.2.2.1.1.2.2.2.2.2.1 r25.2.2.2.2.2.2.2.2.2.1.1.2.2.2.2.2.2.1 r25.2.2.2.2.2.2.2.2.2.1.1.2.2.2.2.2.2.2, bX4 G q1 ((o1 + 43) + 9) r25.2.2.2.2.2.2.2.2.2.1.2.1.1 r25.2.2.2.2.2.2.2.2.2.1.2.1.2, bX7 G q1 (o1 + 54) r25.2.2.2.2.2.2.2.2.2.2.1 r25.2.2.2.2.2.2.2.2.2.2.2.1 r25.2.2.2.2.2.2.2.2.2.2.2.2, bA48 G q2 o2 P2]) hS0 (c_X10_jail l G q1 o1 r23.2 3 r25 e26) zc_X10_jail rfl gL_jail_X10_jail ⟨Nat.le_of_ble_eq_true rfl, Nat.le_of_ble_eq_true rfl⟩ hK hA hT hw (is := [0, 1, 2, 3, 4, 5, 6, 7, 8, 9, 10, 11, 12, 13]) rfl rfl rfl rfl rfl rfl rfl hl.1 rfl (Nat.le_of_ble_eq_true rfl) dL_jail_309 (fun H locs hw => ?_)
          refine lv_aload_n hx hb dL_jail_312 rfl (lv_at hl 1 rfl) ?_
          refine lv_iconst (v := 0) hx hb dL_jail_313 rfl ?_
          obtain ⟨g27, hf⟩ := z_gd hf
          refine z_iald hS0 hK hw 14 0 (zIn_vp g27) rfl rfl dL_jail_314 ?_
          refine lv_icmp_ne (tgt := 322) hx hb dL_jail_315 rfl (fun hc => ?_) (fun hc => ?_)
          · have hf := z_f hc hf
            refine lv_iconst (v := 0) hx hb dL_jail_322 rfl ?_
            cases hf
            exact z_zret hx hb hr (z_nb (Or.inl rfl)) hlk hw dL_jail_323
          · have hf := z_t hc hf
            refine lv_iconst (v := 1) hx hb dL_jail_318 rfl ?_
            refine lv_goto (tgt := 323) hx hb dL_jail_319 rfl ?_
            cases hf
            exact z_zret hx hb hr (z_nb (Or.inr rfl)) hlk hw dL_jail_323
    · have hf := z_f hc hf
      refine lv_iload_n hx hb dL_jail_225 rfl (lv_at hl 3 rfl) ?_
      refine lv_iconst (v := 1) hx hb dL_jail_226 rfl ?_
      refine lv_iadd hx hb dL_jail_227 ?_
      refine lv_istore (lv' := [(4, .int (v3 + (1 : Int32))), (0, .ref (q1 (o1 + 0))), (1, .ref (q2 (o2 + 0))), (2, .int v2), (3, .int v3)]) hx hb dL_jail_228 hl (by decide) rfl (fun ls hl => ?_)
      exact k_L_jail_230 hZ _ ih 4096 _ _ _ _ _ _ _ _ hf hw (lv_sub hl [1, 2, 3, 4, 0] rfl)
set_option maxHeartbeats 4000000 in
set_option maxRecDepth 100000 in
theorem k_L_jail_34 {p : Program} {l : Launch} {e : Env} {s : State} {m : MethodId} {args : Array Value} {below : List Frame} {meth : Method} {c : Code} {A : Nat → Prop} {G : zG} {q1 : Nat → Nat} {o1 : Nat} {q2 : Nat → Nat} {o2 : Nat}  (hZ : zZ p s m args meth c A G cL_jail 5 RL wsL_jail (some .boolean)) (y : Int32 × VX10)  (n : Nat) : ∀ (P1 : VX10) (P2 : VA48) (v2 : Int32) (v3 : Int32) (H : Heap) (locs : List Loc) (ls : Array Slot), f_L_jail_34 n P1 P2 v2 v3 = some y → zH G A s.heap [bX10 G q1 o1, bX9 G q1 (o1 + 1) P1.1.1 P1.1.2.1 P1.1.2.2.1 P1.1.2.2.2.1 P1.1.2.2.2.2, bX6 G q1 (o1 + 3) P1.2.1.1 P1.2.1.2, bX8 G q1 (o1 + 12) P1.2.2.1.1 P1.2.2.1.2, bX5 G q1 (o1 + 19) P1.2.2.2.1.2.1 P1.2.2.2.1.2.2.1 P1.2.2.2.1.2.2.2.1 P1.2.2.2.1.2.2.2.2, bX2 G q1 ((o1 + 19) + 2) P1.2.2.2.1.1.1 P1.2.2.2.1.1.2.1 P1.2.2.2.1.1.2.2.1 P1.2.2.2.1.1.2.2.2.1 P1.2.2.2.1.1.2.2.2.2.1 P1.2.2.2.1.1.2.2.2.2.2.1 P1.2.2.2.1.1.2.2.2.2.2.2.1 P1.2.2.2.1.1.2.2.2.2.2.2.2, bX2 G q1 (o1 + 27) P1.2.2.2.2.1.1 P1.2.2.2.2.1.2.1 P1.2.2.2.2.1.2.2.1 P1.2.2.2.2.1.2.2.2.1 P1.2.2.2.2.1.2.2.2.2.1 P1.2.2.2.2.1.2.2.2.2.2.1 P1.2.2.2.2.1.2.2.2.2.2.2.1 P1.2.2.2.2.1.2.2.2.2.2.2.2, bX1 G q1 (o1 + 33) P1.2.2.2.2.2.1.1 P1.2.2.2.2.2.1.2.1 P1.2.2.2.2.2.1.2.2.1 P1.2.2.2.2.2.1.2.2.2, bX4 G q1 (o1 + 36) P1.2.2.2.2.2.2.1.1 P1.2.2.2.2.2.2.1.2, bX3 G q1 (o1 + 38) P1.2.2.2.2.2.2.2.1.1 P1.2.2.2.2.2.2.2.1.2.1 P1.2.2.2.2.2.2.2.1.2.2.1 P1.2.2.2.2.2.2.2.1.2.2.2, bX0 G q1 (o1 + 43) P1.2.2.2.2.2.2.2.2.1.2.2.1 P1.2.2.2.2.2.2.2.2.1.2.2.2, bX2 G q1 ((o1 + 43) + 3) P1.2.2.2.2.2.2.2.2.1.1.1 P1.2.2.2.2.2.2.2.2.1.1.2.1 P1.2.2.2.2.2.2.2.2.1.1.2.2.1 P1.2.2.2.2.2.2.2.2.1.1.2.2.2.1 P1.2.2.2.2.2.2.2.2.1.1.2.2.2.2.1 P1.2.2.2.2.2.2.2.2.1.1.2.2.2.2.2.1 P1.2.2.2.2.2.2.2.2.1.1.2.2.2.2.2.2.1 P1.2.2.2.2.2.2.2.2.1.1.2.2.2.2.2.2.2, bX4 G q1 ((o1 + 43) + 9) P1.2.2.2.2.2.2.2.2.1.2.1.1 P1.2.2.2.2.2.2.2.2.1.2.1.2, bX7 G q1 (o1 + 54) P1.2.2.2.2.2.2.2.2.2.1 P1.2.2.2.2.2.2.2.2.2.2.1 P1.2.2.2.2.2.2.2.2.2.2.2, bA48 G q2 o2 P2] H locs → lv_has ls 5 [(0, .ref (q1 (o1 + 0))), (1, .ref (q2 (o2 + 0))), (2, .int v2), (3, .int v3)] → W p l e { frames := 7, cells := 0, slots := 0, locals := 163 } s m args below meth c H locs 0 0 (MQ below (zQ (some (.int y.1)) (zPost G [bX10 G q1 o1, bX9 G q1 (o1 + 1) y.2.1.1 y.2.1.2.1 y.2.1.2.2.1 y.2.1.2.2.2.1 y.2.1.2.2.2.2, bX6 G q1 (o1 + 3) y.2.2.1.1 y.2.2.1.2, bX8 G q1 (o1 + 12) y.2.2.2.1.1 y.2.2.2.1.2, bX5 G q1 (o1 + 19) y.2.2.2.2.1.2.1 y.2.2.2.2.1.2.2.1 y.2.2.2.2.1.2.2.2.1 y.2.2.2.2.1.2.2.2.2, bX2 G q1 ((o1 + 19) + 2) y.2.2.2.2.1.1.1 y.2.2.2.2.1.1.2.1 y.2.2.2.2.1.1.2.2.1 y.2.2.2.2.1.1.2.2.2.1 y.2.2.2.2.1.1.2.2.2.2.1 y.2.2.2.2.1.1.2.2.2.2.2.1 y.2.2.2.2.1.1.2.2.2.2.2.2.1 y.2.2.2.2.1.1.2.2.2.2.2.2.2, bX2 G q1 (o1 + 27) y.2.2.2.2.2.1.1 y.2.2.2.2.2.1.2.1 y.2.2.2.2.2.1.2.2.1 y.2.2.2.2.2.1.2.2.2.1 y.2.2.2.2.2.1.2.2.2.2.1 y.2.2.2.2.2.1.2.2.2.2.2.1 y.2.2.2.2.2.1.2.2.2.2.2.2.1 y.2.2.2.2.2.1.2.2.2.2.2.2.2, bX1 G q1 (o1 + 33) y.2.2.2.2.2.2.1.1 y.2.2.2.2.2.2.1.2.1 y.2.2.2.2.2.2.1.2.2.1 y.2.2.2.2.2.2.1.2.2.2, bX4 G q1 (o1 + 36) y.2.2.2.2.2.2.2.1.1 y.2.2.2.2.2.2.2.1.2, bX3 G q1 (o1 + 38) y.2.2.2.2.2.2.2.2.1.1 y.2.2.2.2.2.2.2.2.1.2.1 y.2.2.2.2.2.2.2.2.1.2.2.1 y.2.2.2.2.2.2.2.2.1.2.2.2, bX0 G q1 (o1 + 43) y.2.2.2.2.2.2.2.2.2.1.2.2.1 y.2.2.2.2.2.2.2.2.2.1.2.2.2, bX2 G q1 ((o1 + 43) + 3) y.2.2.2.2.2.2.2.2.2.1.1.1 y.2.2.2.2.2.2.2.2.2.1.1.2.1 y.2.2.2.2.2.2.2.2.2.1.1.2.2.1 y.2.2.2.2.2.2.2.2.2.1.1.2.2.2.1 y.2.2.2.2.2.2.2.2.2.1.1.2.2.2.2.1 y.2.2.2.2.2.2.2.2.2.1.1.2.2.2.2.2.1 y.2.2.2.2.2.2.2.2.2.1.1.2.2.2.2.2.2.1 y.2.2.2.2.2.2.2.2.2.1.1.2.2.2.2.2.2.2, bX4 G q1 ((o1 + 43) + 9) y.2.2.2.2.2.2.2.2.2.1.2.1.1 y.2.2.2.2.2.2.2.2.2.1.2.1.2, bX7 G q1 (o1 + 54) y.2.2.2.2.2.2.2.2.2.2.1 y.2.2.2.2.2.2.2.2.2.2.2.1 y.2.2.2.2.2.2.2.2.2.2.2.2, bA48 G q2 o2 P2]) A) args s 0 0 A) (F0 m 34 ls []) := by
  obtain ⟨hS0, hr, hlk, hK, hA, hT⟩ := id hZ
  have hx := hS0.1
  have hb := hS0.2.1
  have hml := hS0.2.2.1
  have hown : s.vm.findClass RL = some m.cls := hS0.2.2.2.1
  have hts := hS0.2.2.2.2
  induction n with
  | zero =>
    intro P1 P2 v2 v3 H locs ls hf hw hl
    unfold f_L_jail_34 at hf
    cases hf
  | succ n ih =>
    intro P1 P2 v2 v3 H locs ls hf hw hl
    unfold f_L_jail_34 at hf
    refine lv_iload_n hx hb dL_jail_34 rfl (lv_at hl 3 rfl) ?_
    refine lv_aload_n hx hb dL_jail_35 rfl (lv_at hl 1 rfl) ?_
    refine lv_iconst (v := 0) hx hb dL_jail_36 rfl ?_
    obtain ⟨g28, hf⟩ := z_gd hf
    refine z_iald hS0 hK hw 14 0 (zIn_vp g28) rfl rfl dL_jail_37 ?_
    refine lv_icmp_ge (tgt := 216) hx hb dL_jail_38 rfl (fun hc => ?_) (fun hc => ?_)
    · have hf := z_t hc hf
      refine lv_iconst (v := 0) hx hb dL_jail_216 rfl ?_
      refine lv_istore_n (lv' := [(3, .int 0), (0, .ref (q1 (o1 + 0))), (1, .ref (q2 (o2 + 0))), (2, .int v2)]) hx hb dL_jail_217 rfl hl (by decide) rfl (fun ls hl => ?_)
      exact k_L_jail_218 hZ _ 4096 _ _ _ _ _ _ _ hf hw (lv_sub hl [1, 2, 3, 0] rfl)
    · have hf := z_f hc hf
      refine lv_aload_n hx hb dL_jail_41 rfl (lv_at hl 1 rfl) ?_
      refine lv_iconst (v := 1) hx hb dL_jail_42 rfl ?_
      refine lv_iconst (v := 4) hx hb dL_jail_43 rfl ?_
      refine lv_iload_n hx hb dL_jail_44 rfl (lv_at hl 3 rfl) ?_
      refine lv_imul hx hb dL_jail_45 ?_
      refine lv_iadd hx hb dL_jail_46 ?_
      obtain ⟨g29, hf⟩ := z_gd hf
      refine z_iald hS0 hK hw 14 0 (zIn_vp g29) rfl rfl dL_jail_47 ?_
      refine lv_istore (lv' := [(4, .int (P2 ((1 : Int32) + ((4 : Int32) * v3)).toNatClampNeg)), (0, .ref (q1 (o1 + 0))), (1, .ref (q2 (o2 + 0))), (2, .int v2), (3, .int v3)]) hx hb dL_jail_48 hl (by decide) rfl (fun ls hl => ?_)
      refine lv_aload_n hx hb dL_jail_50 rfl (lv_at hl 1 rfl) ?_
      refine lv_iload_n hx hb dL_jail_51 rfl (lv_at hl 3 rfl) ?_
      refine lv_iload hx hb dL_jail_52 (lv_at hl 0 rfl) ?_
      refine lv_if_ne (tgt := 62) hx hb dL_jail_54 rfl (fun hc => ?_) (fun hc => ?_)
      · have hf := z_f hc hf
        refine lv_iload hx hb dL_jail_62 (lv_at hl 0 rfl) ?_
        refine lv_iconst (v := 1) hx hb dL_jail_64 rfl ?_
        refine lv_icmp_ne (tgt := 73) hx hb dL_jail_65 rfl (fun hc => ?_) (fun hc => ?_)
        · have hf := z_f hc hf
          refine lv_iload hx hb dL_jail_73 (lv_at hl 0 rfl) ?_
          refine lv_iconst (v := 2) hx hb dL_jail_75 rfl ?_
          refine lv_icmp_ne (tgt := 84) hx hb dL_jail_76 rfl (fun hc => ?_) (fun hc => ?_)
          · have hf := z_f hc hf
            refine lv_iload hx hb dL_jail_84 (lv_at hl 0 rfl) ?_
            refine lv_iconst (v := 3) hx hb dL_jail_86 rfl ?_
            refine lv_icmp_ne (tgt := 95) hx hb dL_jail_87 rfl (fun hc => ?_) (fun hc => ?_)
            · have hf := z_f hc hf
              refine lv_iload hx hb dL_jail_95 (lv_at hl 0 rfl) ?_
              refine lv_iconst (v := 4) hx hb dL_jail_97 rfl ?_
              refine lv_icmp_ne (tgt := 106) hx hb dL_jail_98 rfl (fun hc => ?_) (fun hc => ?_)
              · have hf := z_f hc hf
                refine lv_bipush (v := 98) hx hb dL_jail_106 rfl ?_
                exact k_L_jail_108 hZ _ ih _ _ _ _ _ _ _ _ _ hf hw (lv_sub hl [1, 2, 4, 0] rfl)
              · have hf := z_t hc hf
                refine lv_bipush (v := 115) hx hb dL_jail_101 rfl ?_
                refine lv_goto (tgt := 108) hx hb dL_jail_103 rfl ?_
                exact k_L_jail_108 hZ _ ih _ _ _ _ _ _ _ _ _ hf hw (lv_sub hl [1, 2, 4, 0] rfl)
            · have hf := z_t hc hf
              refine lv_bipush (v := 108) hx hb dL_jail_90 rfl ?_
              refine lv_goto (tgt := 108) hx hb dL_jail_92 rfl ?_
              exact k_L_jail_108 hZ _ ih _ _ _ _ _ _ _ _ _ hf hw (lv_sub hl [1, 2, 4, 0] rfl)
          · have hf := z_t hc hf
            refine lv_bipush (v := 105) hx hb dL_jail_79 rfl ?_
            refine lv_goto (tgt := 108) hx hb dL_jail_81 rfl ?_
            exact k_L_jail_108 hZ _ ih _ _ _ _ _ _ _ _ _ hf hw (lv_sub hl [1, 2, 4, 0] rfl)
        · have hf := z_t hc hf
          refine lv_bipush (v := 116) hx hb dL_jail_68 rfl ?_
          refine lv_goto (tgt := 108) hx hb dL_jail_70 rfl ?_
          exact k_L_jail_108 hZ _ ih _ _ _ _ _ _ _ _ _ hf hw (lv_sub hl [1, 2, 4, 0] rfl)
      · have hf := z_t hc hf
        refine lv_bipush (v := 107) hx hb dL_jail_57 rfl ?_
        refine lv_goto (tgt := 108) hx hb dL_jail_59 rfl ?_
        exact k_L_jail_108 hZ _ ih _ _ _ _ _ _ _ _ _ hf hw (lv_sub hl [1, 2, 4, 0] rfl)
set_option maxHeartbeats 4000000 in
set_option maxRecDepth 100000 in
theorem c_L_jail (l : Launch) (G : zG) (q1 : Nat → Nat) (o1 : Nat) (q2 : Nat → Nat) (o2 : Nat) (P1 : VX10) (P2 : VA48)  (y : Int32 × VX10) (hf : f_L_jail P1 P2 = some y) : zMet l yL_jail wsL_jail 7 163 G [.ref (q1 (o1 + 0)), .ref (q2 (o2 + 0))] [bX10 G q1 o1, bX9 G q1 (o1 + 1) P1.1.1 P1.1.2.1 P1.1.2.2.1 P1.1.2.2.2.1 P1.1.2.2.2.2, bX6 G q1 (o1 + 3) P1.2.1.1 P1.2.1.2, bX8 G q1 (o1 + 12) P1.2.2.1.1 P1.2.2.1.2, bX5 G q1 (o1 + 19) P1.2.2.2.1.2.1 P1.2.2.2.1.2.2.1 P1.2.2.2.1.2.2.2.1 P1.2.2.2.1.2.2.2.2, bX2 G q1 ((o1 + 19) + 2) P1.2.2.2.1.1.1 P1.2.2.2.1.1.2.1 P1.2.2.2.1.1.2.2.1 P1.2.2.2.1.1.2.2.2.1 P1.2.2.2.1.1.2.2.2.2.1 P1.2.2.2.1.1.2.2.2.2.2.1 P1.2.2.2.1.1.2.2.2.2.2.2.1 P1.2.2.2.1.1.2.2.2.2.2.2.2, bX2 G q1 (o1 + 27) P1.2.2.2.2.1.1 P1.2.2.2.2.1.2.1 P1.2.2.2.2.1.2.2.1 P1.2.2.2.2.1.2.2.2.1 P1.2.2.2.2.1.2.2.2.2.1 P1.2.2.2.2.1.2.2.2.2.2.1 P1.2.2.2.2.1.2.2.2.2.2.2.1 P1.2.2.2.2.1.2.2.2.2.2.2.2, bX1 G q1 (o1 + 33) P1.2.2.2.2.2.1.1 P1.2.2.2.2.2.1.2.1 P1.2.2.2.2.2.1.2.2.1 P1.2.2.2.2.2.1.2.2.2, bX4 G q1 (o1 + 36) P1.2.2.2.2.2.2.1.1 P1.2.2.2.2.2.2.1.2, bX3 G q1 (o1 + 38) P1.2.2.2.2.2.2.2.1.1 P1.2.2.2.2.2.2.2.1.2.1 P1.2.2.2.2.2.2.2.1.2.2.1 P1.2.2.2.2.2.2.2.1.2.2.2, bX0 G q1 (o1 + 43) P1.2.2.2.2.2.2.2.2.1.2.2.1 P1.2.2.2.2.2.2.2.2.1.2.2.2, bX2 G q1 ((o1 + 43) + 3) P1.2.2.2.2.2.2.2.2.1.1.1 P1.2.2.2.2.2.2.2.2.1.1.2.1 P1.2.2.2.2.2.2.2.2.1.1.2.2.1 P1.2.2.2.2.2.2.2.2.1.1.2.2.2.1 P1.2.2.2.2.2.2.2.2.1.1.2.2.2.2.1 P1.2.2.2.2.2.2.2.2.1.1.2.2.2.2.2.1 P1.2.2.2.2.2.2.2.2.1.1.2.2.2.2.2.2.1 P1.2.2.2.2.2.2.2.2.1.1.2.2.2.2.2.2.2, bX4 G q1 ((o1 + 43) + 9) P1.2.2.2.2.2.2.2.2.1.2.1.1 P1.2.2.2.2.2.2.2.2.1.2.1.2, bX7 G q1 (o1 + 54) P1.2.2.2.2.2.2.2.2.2.1 P1.2.2.2.2.2.2.2.2.2.2.1 P1.2.2.2.2.2.2.2.2.2.2.2, bA48 G q2 o2 P2] (some (.int y.1)) [bX10 G q1 o1, bX9 G q1 (o1 + 1) y.2.1.1 y.2.1.2.1 y.2.1.2.2.1 y.2.1.2.2.2.1 y.2.1.2.2.2.2, bX6 G q1 (o1 + 3) y.2.2.1.1 y.2.2.1.2, bX8 G q1 (o1 + 12) y.2.2.2.1.1 y.2.2.2.1.2, bX5 G q1 (o1 + 19) y.2.2.2.2.1.2.1 y.2.2.2.2.1.2.2.1 y.2.2.2.2.1.2.2.2.1 y.2.2.2.2.1.2.2.2.2, bX2 G q1 ((o1 + 19) + 2) y.2.2.2.2.1.1.1 y.2.2.2.2.1.1.2.1 y.2.2.2.2.1.1.2.2.1 y.2.2.2.2.1.1.2.2.2.1 y.2.2.2.2.1.1.2.2.2.2.1 y.2.2.2.2.1.1.2.2.2.2.2.1 y.2.2.2.2.1.1.2.2.2.2.2.2.1 y.2.2.2.2.1.1.2.2.2.2.2.2.2, bX2 G q1 (o1 + 27) y.2.2.2.2.2.1.1 y.2.2.2.2.2.1.2.1 y.2.2.2.2.2.1.2.2.1 y.2.2.2.2.2.1.2.2.2.1 y.2.2.2.2.2.1.2.2.2.2.1 y.2.2.2.2.2.1.2.2.2.2.2.1 y.2.2.2.2.2.1.2.2.2.2.2.2.1 y.2.2.2.2.2.1.2.2.2.2.2.2.2, bX1 G q1 (o1 + 33) y.2.2.2.2.2.2.1.1 y.2.2.2.2.2.2.1.2.1 y.2.2.2.2.2.2.1.2.2.1 y.2.2.2.2.2.2.1.2.2.2, bX4 G q1 (o1 + 36) y.2.2.2.2.2.2.2.1.1 y.2.2.2.2.2.2.2.1.2, bX3 G q1 (o1 + 38) y.2.2.2.2.2.2.2.2.1.1 y.2.2.2.2.2.2.2.2.1.2.1 y.2.2.2.2.2.2.2.2.1.2.2.1 y.2.2.2.2.2.2.2.2.1.2.2.2, bX0 G q1 (o1 + 43) y.2.2.2.2.2.2.2.2.2.1.2.2.1 y.2.2.2.2.2.2.2.2.2.1.2.2.2, bX2 G q1 ((o1 + 43) + 3) y.2.2.2.2.2.2.2.2.2.1.1.1 y.2.2.2.2.2.2.2.2.2.1.1.2.1 y.2.2.2.2.2.2.2.2.2.1.1.2.2.1 y.2.2.2.2.2.2.2.2.2.1.1.2.2.2.1 y.2.2.2.2.2.2.2.2.2.1.1.2.2.2.2.1 y.2.2.2.2.2.2.2.2.2.1.1.2.2.2.2.2.1 y.2.2.2.2.2.2.2.2.2.1.1.2.2.2.2.2.2.1 y.2.2.2.2.2.2.2.2.2.1.1.2.2.2.2.2.2.2, bX4 G q1 ((o1 + 43) + 9) y.2.2.2.2.2.2.2.2.2.1.2.1.1 y.2.2.2.2.2.2.2.2.2.1.2.1.2, bX7 G q1 (o1 + 54) y.2.2.2.2.2.2.2.2.2.2.1 y.2.2.2.2.2.2.2.2.2.2.2.1 y.2.2.2.2.2.2.2.2.2.2.2.2, bA48 G q2 o2 P2] := by
  refine z_met zc_L_jail (Nat.le_of_ble_eq_true rfl) ?_
  intro p e s m below meth c A ls hZ hl hw
  have hl : lv_has ls 5 [(0, .ref (q1 (o1 + 0))), (1, .ref (q2 (o2 + 0)))] := hl
  obtain ⟨hS0, hr, hlk, hK, hA, hT⟩ := id hZ
  have hx := hS0.1
  have hb := hS0.2.1
  have hml := hS0.2.2.1
  have hown : s.vm.findClass RL = some m.cls := hS0.2.2.2.1
  have hts := hS0.2.2.2.2
  unfold f_L_jail at hf
  refine lv_aload_n hx hb dL_jail_0 rfl (lv_at hl 0 rfl) ?_
  refine lv_iconst (v := 3) hx hb dL_jail_1 rfl ?_
  refine lv_bipush (v := 100) hx hb dL_jail_2 rfl ?_
  obtain ⟨r30, e31, hf⟩ := z_bd hf
  refine z_callV1 (As := [.int 3, .int 100]) (rest := []) (bs' := [bX10 G q1 o1, bX9 G q1 (o1 + 1) r30.2.1.1 r30.2.1.2.1 r30.2.1.2.2.1 r30.2.1.2.2.2.1 r30.2.1.2.2.2.2, bX6 G q1 (o1 + 3) r30.2.2.1.1 r30.2.2.1.2, bX8 G q1 (o1 + 12) r30.2.2.2.1.1 r30.2.2.2.1.2, bX5 G q1 (o1 + 19) r30.2.2.2.2.1.2.1 r30.2.2.2.2.1.2.2.1 r30.2.2.2.2.1.2.2.2.1 r30.2.2.2.2.1.2.2.2.2, bX2 G q1 ((o1 + 19) + 2) r30.2.2.2.2.1.1.1 r30.2.2.2.2.1.1.2.1 r30.2.2.2.2.1.1.2.2.1 r30.2.2.2.2.1.1.2.2.2.1 r30.2.2.2.2.1.1.2.2.2.2.1 r30.2.2.2.2.1.1.2.2.2.2.2.1 r30.2.2.2.2.1.1.2.2.2.2.2.2.1 r30.2.2.2.2.1.1.2.2.2.2.2.2.2, bX2 G q1 (o1 + 27) r30.2.2.2.2.2.1.1 r30.2.2.2.2.2.1.2.1 r30.2.2.2.2.2.1.2.2.1 r30.2.2.2.2.2.1.2.2.2.1 r30.2.2.2.2.2.1.2.2.2.2.1 r30.2.2.2.2.2.1.2.2.2.2.2.1 r30.2.2.2.2.2.1.2.2.2.2.2.2.1 r30.2.2.2.2.2.1.2.2.2.2.2.2.2, bX1 G q1 (o1 + 33) r30.2.2.2.2.2.2.1.1 r30.2.2.2.2.2.2.1.2.1 r30.2.2.2.2.2.2.1.2.2.1 r30.2.2.2.2.2.2.1.2.2.2, bX4 G q1 (o1 + 36) r30.2.2.2.2.2.2.2.1.1 r30.2.2.2.2.2.2.2.1.2, bX3 G q1 (o1 + 38) r30.2.2.2.2.2.2.2.2.1.1 r30.2.2.2.2.2.2.2.2.1.2.1 r30.2.2.2.2.2.2.2.2.1.2.2.1 r30.2.2.2.2.2.2.2.2.1.2.2.2, bX0 G q1 (o1 + 43) r30.2.2.2.2.2.2.2.2.2.1.2.2.1 r30.2.2.2.2.2.2.2.2.2.1.2.2.2, bX2 G q1 ((o1 + 43) + 3) r30.2.2.2.2.2.2.2.2.2.1.1.1 r30.2.2.2.2.2.2.2.2.2.1.1.2.1 r30.2.2.2.2.2.2.2.2.2.1.1.2.2.1 r30.2.2.2.2.2.2.2.2.2.1.1.2.2.2.1 r30.2.2.2.2.2.2.2.2.2.1.1.2.2.2.2.1 r30.2.2.2.2.2.2.2.2.2.1.1.2.2.2.2.2.1 r30.2.2.2.2.2.2.2.2.2.1.1.2.2.2.2.2.2.1 r30.2.2.2.2.2.2.2.2.2.1.1.2.2.2.2.2.2.2, bX4 G q1 ((o1 + 43) + 9) r30.2.2.2.2.2.2.2.2.2.1.2.1.1 r30.2.2.2.2.2.2.2.2.2.1.2.1.2, bX7 G q1 (o1 + 54) r30.2.2.2.2.2.2.2.2.2.2.1 r30.2.2.2.2.2.2.2.2.2.2.2.1 r30.2.2.2.2.2.2.2.2.2.2.2.2, bA48 G q2 o2 P2]) hS0 (c_X10_text l G q1 o1 P1 3 100 r30 e31) zc_X10_text rfl gL_jail_X10_text ⟨Nat.le_of_ble_eq_true rfl, Nat.le_of_ble_eq_true rfl⟩ hK hA hT hw (is := [0, 1, 2, 3, 4, 5, 6, 7, 8, 9, 10, 11, 12, 13]) rfl rfl rfl rfl rfl rfl rfl hl.1 rfl (Nat.le_of_ble_eq_true rfl) dL_jail_4 (fun H locs hw => ?_)
  refine lv_bipush (v := 100) hx hb dL_jail_7 rfl ?_
  refine lv_icmp_eq (tgt := 14) hx hb dL_jail_9 rfl (fun hc => ?_) (fun hc => ?_)
  · have hf := z_t hc hf
    refine lv_aload_n hx hb dL_jail_14 rfl (lv_at hl 0 rfl) ?_
    refine lv_aload_n hx hb dL_jail_15 rfl (lv_at hl 0 rfl) ?_
    refine lv_iconst (v := 1) hx hb dL_jail_16 rfl ?_
    refine lv_bipush (v := 110) hx hb dL_jail_17 rfl ?_
    obtain ⟨r32, e33, hf⟩ := z_bd hf
    refine z_callS1 (As := [.ref (q1 (o1 + 0)), .int 1, .int 110]) (rest := [.ref (q1 (o1 + 0))]) (bs' := [bX10 G q1 o1, bX9 G q1 (o1 + 1) r32.2.1.1 r32.2.1.2.1 r32.2.1.2.2.1 r32.2.1.2.2.2.1 r32.2.1.2.2.2.2, bX6 G q1 (o1 + 3) r32.2.2.1.1 r32.2.2.1.2, bX8 G q1 (o1 + 12) r32.2.2.2.1.1 r32.2.2.2.1.2, bX5 G q1 (o1 + 19) r32.2.2.2.2.1.2.1 r32.2.2.2.2.1.2.2.1 r32.2.2.2.2.1.2.2.2.1 r32.2.2.2.2.1.2.2.2.2, bX2 G q1 ((o1 + 19) + 2) r32.2.2.2.2.1.1.1 r32.2.2.2.2.1.1.2.1 r32.2.2.2.2.1.1.2.2.1 r32.2.2.2.2.1.1.2.2.2.1 r32.2.2.2.2.1.1.2.2.2.2.1 r32.2.2.2.2.1.1.2.2.2.2.2.1 r32.2.2.2.2.1.1.2.2.2.2.2.2.1 r32.2.2.2.2.1.1.2.2.2.2.2.2.2, bX2 G q1 (o1 + 27) r32.2.2.2.2.2.1.1 r32.2.2.2.2.2.1.2.1 r32.2.2.2.2.2.1.2.2.1 r32.2.2.2.2.2.1.2.2.2.1 r32.2.2.2.2.2.1.2.2.2.2.1 r32.2.2.2.2.2.1.2.2.2.2.2.1 r32.2.2.2.2.2.1.2.2.2.2.2.2.1 r32.2.2.2.2.2.1.2.2.2.2.2.2.2, bX1 G q1 (o1 + 33) r32.2.2.2.2.2.2.1.1 r32.2.2.2.2.2.2.1.2.1 r32.2.2.2.2.2.2.1.2.2.1 r32.2.2.2.2.2.2.1.2.2.2, bX4 G q1 (o1 + 36) r32.2.2.2.2.2.2.2.1.1 r32.2.2.2.2.2.2.2.1.2, bX3 G q1 (o1 + 38) r32.2.2.2.2.2.2.2.2.1.1 r32.2.2.2.2.2.2.2.2.1.2.1 r32.2.2.2.2.2.2.2.2.1.2.2.1 r32.2.2.2.2.2.2.2.2.1.2.2.2, bX0 G q1 (o1 + 43) r32.2.2.2.2.2.2.2.2.2.1.2.2.1 r32.2.2.2.2.2.2.2.2.2.1.2.2.2, bX2 G q1 ((o1 + 43) + 3) r32.2.2.2.2.2.2.2.2.2.1.1.1 r32.2.2.2.2.2.2.2.2.2.1.1.2.1 r32.2.2.2.2.2.2.2.2.2.1.1.2.2.1 r32.2.2.2.2.2.2.2.2.2.1.1.2.2.2.1 r32.2.2.2.2.2.2.2.2.2.1.1.2.2.2.2.1 r32.2.2.2.2.2.2.2.2.2.1.1.2.2.2.2.2.1 r32.2.2.2.2.2.2.2.2.2.1.1.2.2.2.2.2.2.1 r32.2.2.2.2.2.2.2.2.2.1.1.2.2.2.2.2.2.2, bX4 G q1 ((o1 + 43) + 9) r32.2.2.2.2.2.2.2.2.2.1.2.1.1 r32.2.2.2.2.2.2.2.2.2.1.2.1.2, bX7 G q1 (o1 + 54) r32.2.2.2.2.2.2.2.2.2.2.1 r32.2.2.2.2.2.2.2.2.2.2.2.1 r32.2.2.2.2.2.2.2.2.2.2.2.2, bA48 G q2 o2 P2]) hS0 (c_L_put l G q1 o1 r30.2 1 110 r32 e33) zc_L_put gL_jail_L_put ⟨Nat.le_of_ble_eq_true rfl, Nat.le_of_ble_eq_true rfl⟩ hK hA hT hw (is := [0, 1, 2, 3, 4, 5, 6, 7, 8, 9, 10, 11, 12, 13]) rfl rfl rfl rfl rfl hl.1 rfl (Nat.le_of_ble_eq_true rfl) dL_jail_19 (fun H locs hw => ?_)
    refine lv_bipush (v := 48) hx hb dL_jail_22 rfl ?_
    refine lv_aload_n hx hb dL_jail_24 rfl (lv_at hl 1 rfl) ?_
    refine lv_iconst (v := 0) hx hb dL_jail_25 rfl ?_
    obtain ⟨g34, hf⟩ := z_gd hf
    refine z_iald hS0 hK hw 14 0 (zIn_vp g34) rfl rfl dL_jail_26 ?_
    refine lv_iadd hx hb dL_jail_27 ?_
    obtain ⟨r35, e36, hf⟩ := z_bd hf
    refine z_callS1 (As := [.ref (q1 (o1 + 0)), .int r32.1, .int ((48 : Int32) + (P2 (0 : Int32).toNatClampNeg))]) (rest := []) (bs' := [bX10 G q1 o1, bX9 G q1 (o1 + 1) r35.2.1.1 r35.2.1.2.1 r35.2.1.2.2.1 r35.2.1.2.2.2.1 r35.2.1.2.2.2.2, bX6 G q1 (o1 + 3) r35.2.2.1.1 r35.2.2.1.2, bX8 G q1 (o1 + 12) r35.2.2.2.1.1 r35.2.2.2.1.2, bX5 G q1 (o1 + 19) r35.2.2.2.2.1.2.1 r35.2.2.2.2.1.2.2.1 r35.2.2.2.2.1.2.2.2.1 r35.2.2.2.2.1.2.2.2.2, bX2 G q1 ((o1 + 19) + 2) r35.2.2.2.2.1.1.1 r35.2.2.2.2.1.1.2.1 r35.2.2.2.2.1.1.2.2.1 r35.2.2.2.2.1.1.2.2.2.1 r35.2.2.2.2.1.1.2.2.2.2.1 r35.2.2.2.2.1.1.2.2.2.2.2.1 r35.2.2.2.2.1.1.2.2.2.2.2.2.1 r35.2.2.2.2.1.1.2.2.2.2.2.2.2, bX2 G q1 (o1 + 27) r35.2.2.2.2.2.1.1 r35.2.2.2.2.2.1.2.1 r35.2.2.2.2.2.1.2.2.1 r35.2.2.2.2.2.1.2.2.2.1 r35.2.2.2.2.2.1.2.2.2.2.1 r35.2.2.2.2.2.1.2.2.2.2.2.1 r35.2.2.2.2.2.1.2.2.2.2.2.2.1 r35.2.2.2.2.2.1.2.2.2.2.2.2.2, bX1 G q1 (o1 + 33) r35.2.2.2.2.2.2.1.1 r35.2.2.2.2.2.2.1.2.1 r35.2.2.2.2.2.2.1.2.2.1 r35.2.2.2.2.2.2.1.2.2.2, bX4 G q1 (o1 + 36) r35.2.2.2.2.2.2.2.1.1 r35.2.2.2.2.2.2.2.1.2, bX3 G q1 (o1 + 38) r35.2.2.2.2.2.2.2.2.1.1 r35.2.2.2.2.2.2.2.2.1.2.1 r35.2.2.2.2.2.2.2.2.1.2.2.1 r35.2.2.2.2.2.2.2.2.1.2.2.2, bX0 G q1 (o1 + 43) r35.2.2.2.2.2.2.2.2.2.1.2.2.1 r35.2.2.2.2.2.2.2.2.2.1.2.2.2, bX2 G q1 ((o1 + 43) + 3) r35.2.2.2.2.2.2.2.2.2.1.1.1 r35.2.2.2.2.2.2.2.2.2.1.1.2.1 r35.2.2.2.2.2.2.2.2.2.1.1.2.2.1 r35.2.2.2.2.2.2.2.2.2.1.1.2.2.2.1 r35.2.2.2.2.2.2.2.2.2.1.1.2.2.2.2.1 r35.2.2.2.2.2.2.2.2.2.1.1.2.2.2.2.2.1 r35.2.2.2.2.2.2.2.2.2.1.1.2.2.2.2.2.2.1 r35.2.2.2.2.2.2.2.2.2.1.1.2.2.2.2.2.2.2, bX4 G q1 ((o1 + 43) + 9) r35.2.2.2.2.2.2.2.2.2.1.2.1.1 r35.2.2.2.2.2.2.2.2.2.1.2.1.2, bX7 G q1 (o1 + 54) r35.2.2.2.2.2.2.2.2.2.2.1 r35.2.2.2.2.2.2.2.2.2.2.2.1 r35.2.2.2.2.2.2.2.2.2.2.2.2, bA48 G q2 o2 P2]) hS0 (c_L_put l G q1 o1 r32.2 r32.1 ((48 : Int32) + (P2 (0 : Int32).toNatClampNeg)) r35 e36) zc_L_put gL_jail_L_put ⟨Nat.le_of_ble_eq_true rfl, Nat.le_of_ble_eq_true rfl⟩ hK hA hT hw (is := [0, 1, 2, 3, 4, 5, 6, 7, 8, 9, 10, 11, 12, 13]) rfl rfl rfl rfl rfl hl.1 rfl (Nat.le_of_ble_eq_true rfl) dL_jail_28 (fun H locs hw => ?_)
    refine lv_istore_n (lv' := [(2, .int r35.1), (0, .ref (q1 (o1 + 0))), (1, .ref (q2 (o2 + 0)))]) hx hb dL_jail_31 rfl hl (by decide) rfl (fun ls hl => ?_)
    refine lv_iconst (v := 0) hx hb dL_jail_32 rfl ?_
    refine lv_istore_n (lv' := [(3, .int 0), (2, .int r35.1), (0, .ref (q1 (o1 + 0))), (1, .ref (q2 (o2 + 0)))]) hx hb dL_jail_33 rfl hl (by decide) rfl (fun ls hl => ?_)
    exact k_L_jail_34 hZ _ 4096 _ _ _ _ _ _ _ hf hw (lv_sub hl [2, 3, 1, 0] rfl)
  · have hf := z_f hc hf
    refine lv_iconst (v := 0) hx hb dL_jail_12 rfl ?_
    cases hf
    exact z_zret hx hb hr (z_nb (Or.inl rfl)) hlk hw dL_jail_13
theorem zc_L_tells : zC yL_tells wsL_tells cL_tells 2 (some .int) 2 := ⟨⟨_, rfl⟩, by decide +kernel, by decide +kernel, by decide +kernel, by decide +kernel⟩
set_option maxHeartbeats 4000000 in
set_option maxRecDepth 100000 in
theorem c_L_tells (l : Launch) (G : zG) (q1 : Nat → Nat) (o1 : Nat) (P1 : VX10) (v1 : Int32) (y : Int32) (hf : f_L_tells P1 v1 = some y) : zMet l yL_tells wsL_tells 2 40 G [.ref (q1 (o1 + 0)), .int v1] [bX10 G q1 o1, bX9 G q1 (o1 + 1) P1.1.1 P1.1.2.1 P1.1.2.2.1 P1.1.2.2.2.1 P1.1.2.2.2.2, bX6 G q1 (o1 + 3) P1.2.1.1 P1.2.1.2, bX8 G q1 (o1 + 12) P1.2.2.1.1 P1.2.2.1.2, bX5 G q1 (o1 + 19) P1.2.2.2.1.2.1 P1.2.2.2.1.2.2.1 P1.2.2.2.1.2.2.2.1 P1.2.2.2.1.2.2.2.2, bX2 G q1 ((o1 + 19) + 2) P1.2.2.2.1.1.1 P1.2.2.2.1.1.2.1 P1.2.2.2.1.1.2.2.1 P1.2.2.2.1.1.2.2.2.1 P1.2.2.2.1.1.2.2.2.2.1 P1.2.2.2.1.1.2.2.2.2.2.1 P1.2.2.2.1.1.2.2.2.2.2.2.1 P1.2.2.2.1.1.2.2.2.2.2.2.2, bX2 G q1 (o1 + 27) P1.2.2.2.2.1.1 P1.2.2.2.2.1.2.1 P1.2.2.2.2.1.2.2.1 P1.2.2.2.2.1.2.2.2.1 P1.2.2.2.2.1.2.2.2.2.1 P1.2.2.2.2.1.2.2.2.2.2.1 P1.2.2.2.2.1.2.2.2.2.2.2.1 P1.2.2.2.2.1.2.2.2.2.2.2.2, bX1 G q1 (o1 + 33) P1.2.2.2.2.2.1.1 P1.2.2.2.2.2.1.2.1 P1.2.2.2.2.2.1.2.2.1 P1.2.2.2.2.2.1.2.2.2, bX4 G q1 (o1 + 36) P1.2.2.2.2.2.2.1.1 P1.2.2.2.2.2.2.1.2, bX3 G q1 (o1 + 38) P1.2.2.2.2.2.2.2.1.1 P1.2.2.2.2.2.2.2.1.2.1 P1.2.2.2.2.2.2.2.1.2.2.1 P1.2.2.2.2.2.2.2.1.2.2.2, bX0 G q1 (o1 + 43) P1.2.2.2.2.2.2.2.2.1.2.2.1 P1.2.2.2.2.2.2.2.2.1.2.2.2, bX2 G q1 ((o1 + 43) + 3) P1.2.2.2.2.2.2.2.2.1.1.1 P1.2.2.2.2.2.2.2.2.1.1.2.1 P1.2.2.2.2.2.2.2.2.1.1.2.2.1 P1.2.2.2.2.2.2.2.2.1.1.2.2.2.1 P1.2.2.2.2.2.2.2.2.1.1.2.2.2.2.1 P1.2.2.2.2.2.2.2.2.1.1.2.2.2.2.2.1 P1.2.2.2.2.2.2.2.2.1.1.2.2.2.2.2.2.1 P1.2.2.2.2.2.2.2.2.1.1.2.2.2.2.2.2.2, bX4 G q1 ((o1 + 43) + 9) P1.2.2.2.2.2.2.2.2.1.2.1.1 P1.2.2.2.2.2.2.2.2.1.2.1.2, bX7 G q1 (o1 + 54) P1.2.2.2.2.2.2.2.2.2.1 P1.2.2.2.2.2.2.2.2.2.2.1 P1.2.2.2.2.2.2.2.2.2.2.2] (some (.int y)) [bX10 G q1 o1, bX9 G q1 (o1 + 1) P1.1.1 P1.1.2.1 P1.1.2.2.1 P1.1.2.2.2.1 P1.1.2.2.2.2, bX6 G q1 (o1 + 3) P1.2.1.1 P1.2.1.2, bX8 G q1 (o1 + 12) P1.2.2.1.1 P1.2.2.1.2, bX5 G q1 (o1 + 19) P1.2.2.2.1.2.1 P1.2.2.2.1.2.2.1 P1.2.2.2.1.2.2.2.1 P1.2.2.2.1.2.2.2.2, bX2 G q1 ((o1 + 19) + 2) P1.2.2.2.1.1.1 P1.2.2.2.1.1.2.1 P1.2.2.2.1.1.2.2.1 P1.2.2.2.1.1.2.2.2.1 P1.2.2.2.1.1.2.2.2.2.1 P1.2.2.2.1.1.2.2.2.2.2.1 P1.2.2.2.1.1.2.2.2.2.2.2.1 P1.2.2.2.1.1.2.2.2.2.2.2.2, bX2 G q1 (o1 + 27) P1.2.2.2.2.1.1 P1.2.2.2.2.1.2.1 P1.2.2.2.2.1.2.2.1 P1.2.2.2.2.1.2.2.2.1 P1.2.2.2.2.1.2.2.2.2.1 P1.2.2.2.2.1.2.2.2.2.2.1 P1.2.2.2.2.1.2.2.2.2.2.2.1 P1.2.2.2.2.1.2.2.2.2.2.2.2, bX1 G q1 (o1 + 33) P1.2.2.2.2.2.1.1 P1.2.2.2.2.2.1.2.1 P1.2.2.2.2.2.1.2.2.1 P1.2.2.2.2.2.1.2.2.2, bX4 G q1 (o1 + 36) P1.2.2.2.2.2.2.1.1 P1.2.2.2.2.2.2.1.2, bX3 G q1 (o1 + 38) P1.2.2.2.2.2.2.2.1.1 P1.2.2.2.2.2.2.2.1.2.1 P1.2.2.2.2.2.2.2.1.2.2.1 P1.2.2.2.2.2.2.2.1.2.2.2, bX0 G q1 (o1 + 43) P1.2.2.2.2.2.2.2.2.1.2.2.1 P1.2.2.2.2.2.2.2.2.1.2.2.2, bX2 G q1 ((o1 + 43) + 3) P1.2.2.2.2.2.2.2.2.1.1.1 P1.2.2.2.2.2.2.2.2.1.1.2.1 P1.2.2.2.2.2.2.2.2.1.1.2.2.1 P1.2.2.2.2.2.2.2.2.1.1.2.2.2.1 P1.2.2.2.2.2.2.2.2.1.1.2.2.2.2.1 P1.2.2.2.2.2.2.2.2.1.1.2.2.2.2.2.1 P1.2.2.2.2.2.2.2.2.1.1.2.2.2.2.2.2.1 P1.2.2.2.2.2.2.2.2.1.1.2.2.2.2.2.2.2, bX4 G q1 ((o1 + 43) + 9) P1.2.2.2.2.2.2.2.2.1.2.1.1 P1.2.2.2.2.2.2.2.2.1.2.1.2, bX7 G q1 (o1 + 54) P1.2.2.2.2.2.2.2.2.2.1 P1.2.2.2.2.2.2.2.2.2.2.1 P1.2.2.2.2.2.2.2.2.2.2.2] := by
  refine z_met zc_L_tells (Nat.le_of_ble_eq_true rfl) ?_
  intro p e s m below meth c A ls hZ hl hw
  have hl : lv_has ls 2 [(0, .ref (q1 (o1 + 0))), (1, .int v1)] := hl
  obtain ⟨hS0, hr, hlk, hK, hA, hT⟩ := id hZ
  have hx := hS0.1
  have hb := hS0.2.1
  have hml := hS0.2.2.1
  have hown : s.vm.findClass RL = some m.cls := hS0.2.2.2.1
  have hts := hS0.2.2.2.2
  unfold f_L_tells at hf
  refine lv_iload_n hx hb dL_tells_0 rfl (lv_at hl 1 rfl) ?_
  refine lv_iconst (v := 1) hx hb dL_tells_1 rfl ?_
  refine lv_icmp_ne (tgt := 12) hx hb dL_tells_2 rfl (fun hc => ?_) (fun hc => ?_)
  · have hf := z_f hc hf
    refine lv_sipush (v := (-7777)) hx hb dL_tells_12 rfl ?_
    cases hf
    exact z_iret hx hb hr hlk hw dL_tells_15
  · have hf := z_t hc hf
    refine lv_aload_n hx hb dL_tells_5 rfl (lv_at hl 0 rfl) ?_
    obtain ⟨r1, e2, hf⟩ := z_bd hf
    refine z_callV1 (As := []) (rest := []) (bs' := [bX10 G q1 o1, bX9 G q1 (o1 + 1) P1.1.1 P1.1.2.1 P1.1.2.2.1 P1.1.2.2.2.1 P1.1.2.2.2.2, bX6 G q1 (o1 + 3) P1.2.1.1 P1.2.1.2, bX8 G q1 (o1 + 12) P1.2.2.1.1 P1.2.2.1.2, bX5 G q1 (o1 + 19) P1.2.2.2.1.2.1 P1.2.2.2.1.2.2.1 P1.2.2.2.1.2.2.2.1 P1.2.2.2.1.2.2.2.2, bX2 G q1 ((o1 + 19) + 2) P1.2.2.2.1.1.1 P1.2.2.2.1.1.2.1 P1.2.2.2.1.1.2.2.1 P1.2.2.2.1.1.2.2.2.1 P1.2.2.2.1.1.2.2.2.2.1 P1.2.2.2.1.1.2.2.2.2.2.1 P1.2.2.2.1.1.2.2.2.2.2.2.1 P1.2.2.2.1.1.2.2.2.2.2.2.2, bX2 G q1 (o1 + 27) P1.2.2.2.2.1.1 P1.2.2.2.2.1.2.1 P1.2.2.2.2.1.2.2.1 P1.2.2.2.2.1.2.2.2.1 P1.2.2.2.2.1.2.2.2.2.1 P1.2.2.2.2.1.2.2.2.2.2.1 P1.2.2.2.2.1.2.2.2.2.2.2.1 P1.2.2.2.2.1.2.2.2.2.2.2.2, bX1 G q1 (o1 + 33) P1.2.2.2.2.2.1.1 P1.2.2.2.2.2.1.2.1 P1.2.2.2.2.2.1.2.2.1 P1.2.2.2.2.2.1.2.2.2, bX4 G q1 (o1 + 36) P1.2.2.2.2.2.2.1.1 P1.2.2.2.2.2.2.1.2, bX3 G q1 (o1 + 38) P1.2.2.2.2.2.2.2.1.1 P1.2.2.2.2.2.2.2.1.2.1 P1.2.2.2.2.2.2.2.1.2.2.1 P1.2.2.2.2.2.2.2.1.2.2.2, bX0 G q1 (o1 + 43) P1.2.2.2.2.2.2.2.2.1.2.2.1 P1.2.2.2.2.2.2.2.2.1.2.2.2, bX2 G q1 ((o1 + 43) + 3) P1.2.2.2.2.2.2.2.2.1.1.1 P1.2.2.2.2.2.2.2.2.1.1.2.1 P1.2.2.2.2.2.2.2.2.1.1.2.2.1 P1.2.2.2.2.2.2.2.2.1.1.2.2.2.1 P1.2.2.2.2.2.2.2.2.1.1.2.2.2.2.1 P1.2.2.2.2.2.2.2.2.1.1.2.2.2.2.2.1 P1.2.2.2.2.2.2.2.2.1.1.2.2.2.2.2.2.1 P1.2.2.2.2.2.2.2.2.1.1.2.2.2.2.2.2.2, bX4 G q1 ((o1 + 43) + 9) P1.2.2.2.2.2.2.2.2.1.2.1.1 P1.2.2.2.2.2.2.2.2.1.2.1.2, bX7 G q1 (o1 + 54) P1.2.2.2.2.2.2.2.2.2.1 P1.2.2.2.2.2.2.2.2.2.2.1 P1.2.2.2.2.2.2.2.2.2.2.2]) hS0 (c_X10_asked l G q1 o1 P1 r1 e2) zc_X10_asked rfl gL_tells_X10_asked ⟨Nat.le_of_ble_eq_true rfl, Nat.le_of_ble_eq_true rfl⟩ hK hA hT hw (is := [0, 1, 2, 3, 4, 5, 6, 7, 8, 9, 10, 11, 12, 13]) rfl rfl rfl rfl rfl rfl rfl hl.1 rfl (Nat.le_of_ble_eq_true rfl) dL_tells_6 (fun H locs hw => ?_)
    refine lv_goto (tgt := 15) hx hb dL_tells_9 rfl ?_
    cases hf
    exact z_iret hx hb hr hlk hw dL_tells_15
theorem zc_L_nights : zC yL_nights wsL_nights cL_nights 12 (some .boolean) 4 := ⟨⟨_, rfl⟩, by decide +kernel, by decide +kernel, by decide +kernel, by decide +kernel⟩
set_option maxHeartbeats 4000000 in
set_option maxRecDepth 100000 in
theorem k_L_nights_257 {p : Program} {l : Launch} {e : Env} {s : State} {m : MethodId} {args : Array Value} {below : List Frame} {meth : Method} {c : Code} {A : Nat → Prop} {G : zG} {q1 : Nat → Nat} {o1 : Nat}  (hZ : zZ p s m args meth c A G cL_nights 12 RL wsL_nights (some .boolean)) (y : Int32 × VX10)  : ∀ (P1 : VX10) (v4 : Int32) (v5 : Int32) (H : Heap) (locs : List Loc) (ls : Array Slot), f_L_nights_257 (zX G) P1 v4 v5 = some y → zH G A s.heap [bX10 G q1 o1, bX9 G q1 (o1 + 1) P1.1.1 P1.1.2.1 P1.1.2.2.1 P1.1.2.2.2.1 P1.1.2.2.2.2, bX6 G q1 (o1 + 3) P1.2.1.1 P1.2.1.2, bX8 G q1 (o1 + 12) P1.2.2.1.1 P1.2.2.1.2, bX5 G q1 (o1 + 19) P1.2.2.2.1.2.1 P1.2.2.2.1.2.2.1 P1.2.2.2.1.2.2.2.1 P1.2.2.2.1.2.2.2.2, bX2 G q1 ((o1 + 19) + 2) P1.2.2.2.1.1.1 P1.2.2.2.1.1.2.1 P1.2.2.2.1.1.2.2.1 P1.2.2.2.1.1.2.2.2.1 P1.2.2.2.1.1.2.2.2.2.1 P1.2.2.2.1.1.2.2.2.2.2.1 P1.2.2.2.1.1.2.2.2.2.2.2.1 P1.2.2.2.1.1.2.2.2.2.2.2.2, bX2 G q1 (o1 + 27) P1.2.2.2.2.1.1 P1.2.2.2.2.1.2.1 P1.2.2.2.2.1.2.2.1 P1.2.2.2.2.1.2.2.2.1 P1.2.2.2.2.1.2.2.2.2.1 P1.2.2.2.2.1.2.2.2.2.2.1 P1.2.2.2.2.1.2.2.2.2.2.2.1 P1.2.2.2.2.1.2.2.2.2.2.2.2, bX1 G q1 (o1 + 33) P1.2.2.2.2.2.1.1 P1.2.2.2.2.2.1.2.1 P1.2.2.2.2.2.1.2.2.1 P1.2.2.2.2.2.1.2.2.2, bX4 G q1 (o1 + 36) P1.2.2.2.2.2.2.1.1 P1.2.2.2.2.2.2.1.2, bX3 G q1 (o1 + 38) P1.2.2.2.2.2.2.2.1.1 P1.2.2.2.2.2.2.2.1.2.1 P1.2.2.2.2.2.2.2.1.2.2.1 P1.2.2.2.2.2.2.2.1.2.2.2, bX0 G q1 (o1 + 43) P1.2.2.2.2.2.2.2.2.1.2.2.1 P1.2.2.2.2.2.2.2.2.1.2.2.2, bX2 G q1 ((o1 + 43) + 3) P1.2.2.2.2.2.2.2.2.1.1.1 P1.2.2.2.2.2.2.2.2.1.1.2.1 P1.2.2.2.2.2.2.2.2.1.1.2.2.1 P1.2.2.2.2.2.2.2.2.1.1.2.2.2.1 P1.2.2.2.2.2.2.2.2.1.1.2.2.2.2.1 P1.2.2.2.2.2.2.2.2.1.1.2.2.2.2.2.1 P1.2.2.2.2.2.2.2.2.1.1.2.2.2.2.2.2.1 P1.2.2.2.2.2.2.2.2.1.1.2.2.2.2.2.2.2, bX4 G q1 ((o1 + 43) + 9) P1.2.2.2.2.2.2.2.2.1.2.1.1 P1.2.2.2.2.2.2.2.2.1.2.1.2, bX7 G q1 (o1 + 54) P1.2.2.2.2.2.2.2.2.2.1 P1.2.2.2.2.2.2.2.2.2.2.1 P1.2.2.2.2.2.2.2.2.2.2.2] H locs → lv_has ls 12 [(0, .ref (q1 (o1 + 0))), (4, .int v4), (5, .int v5)] → W p l e { frames := 6, cells := 0, slots := 0, locals := 152 } s m args below meth c H locs 0 0 (MQ below (zQ (some (.int y.1)) (zPost G [bX10 G q1 o1, bX9 G q1 (o1 + 1) y.2.1.1 y.2.1.2.1 y.2.1.2.2.1 y.2.1.2.2.2.1 y.2.1.2.2.2.2, bX6 G q1 (o1 + 3) y.2.2.1.1 y.2.2.1.2, bX8 G q1 (o1 + 12) y.2.2.2.1.1 y.2.2.2.1.2, bX5 G q1 (o1 + 19) y.2.2.2.2.1.2.1 y.2.2.2.2.1.2.2.1 y.2.2.2.2.1.2.2.2.1 y.2.2.2.2.1.2.2.2.2, bX2 G q1 ((o1 + 19) + 2) y.2.2.2.2.1.1.1 y.2.2.2.2.1.1.2.1 y.2.2.2.2.1.1.2.2.1 y.2.2.2.2.1.1.2.2.2.1 y.2.2.2.2.1.1.2.2.2.2.1 y.2.2.2.2.1.1.2.2.2.2.2.1 y.2.2.2.2.1.1.2.2.2.2.2.2.1 y.2.2.2.2.1.1.2.2.2.2.2.2.2, bX2 G q1 (o1 + 27) y.2.2.2.2.2.1.1 y.2.2.2.2.2.1.2.1 y.2.2.2.2.2.1.2.2.1 y.2.2.2.2.2.1.2.2.2.1 y.2.2.2.2.2.1.2.2.2.2.1 y.2.2.2.2.2.1.2.2.2.2.2.1 y.2.2.2.2.2.1.2.2.2.2.2.2.1 y.2.2.2.2.2.1.2.2.2.2.2.2.2, bX1 G q1 (o1 + 33) y.2.2.2.2.2.2.1.1 y.2.2.2.2.2.2.1.2.1 y.2.2.2.2.2.2.1.2.2.1 y.2.2.2.2.2.2.1.2.2.2, bX4 G q1 (o1 + 36) y.2.2.2.2.2.2.2.1.1 y.2.2.2.2.2.2.2.1.2, bX3 G q1 (o1 + 38) y.2.2.2.2.2.2.2.2.1.1 y.2.2.2.2.2.2.2.2.1.2.1 y.2.2.2.2.2.2.2.2.1.2.2.1 y.2.2.2.2.2.2.2.2.1.2.2.2, bX0 G q1 (o1 + 43) y.2.2.2.2.2.2.2.2.2.1.2.2.1 y.2.2.2.2.2.2.2.2.2.1.2.2.2, bX2 G q1 ((o1 + 43) + 3) y.2.2.2.2.2.2.2.2.2.1.1.1 y.2.2.2.2.2.2.2.2.2.1.1.2.1 y.2.2.2.2.2.2.2.2.2.1.1.2.2.1 y.2.2.2.2.2.2.2.2.2.1.1.2.2.2.1 y.2.2.2.2.2.2.2.2.2.1.1.2.2.2.2.1 y.2.2.2.2.2.2.2.2.2.1.1.2.2.2.2.2.1 y.2.2.2.2.2.2.2.2.2.1.1.2.2.2.2.2.2.1 y.2.2.2.2.2.2.2.2.2.1.1.2.2.2.2.2.2.2, bX4 G q1 ((o1 + 43) + 9) y.2.2.2.2.2.2.2.2.2.1.2.1.1 y.2.2.2.2.2.2.2.2.2.1.2.1.2, bX7 G q1 (o1 + 54) y.2.2.2.2.2.2.2.2.2.2.1 y.2.2.2.2.2.2.2.2.2.2.2.1 y.2.2.2.2.2.2.2.2.2.2.2.2]) A) args s 0 0 A) (F0 m 257 ls []) := by
  obtain ⟨hS0, hr, hlk, hK, hA, hT⟩ := id hZ
  have hx := hS0.1
  have hb := hS0.2.1
  have hml := hS0.2.2.1
  have hown : s.vm.findClass RL = some m.cls := hS0.2.2.2.1
  have hts := hS0.2.2.2.2
  intro P1 v4 v5 H locs ls hf hw hl
  unfold f_L_nights_257 at hf
  refine lv_aload_n hx hb dL_nights_257 rfl (lv_at hl 0 rfl) ?_
  refine lv_bipush (v := 99) hx hb dL_nights_258 rfl ?_
  obtain ⟨r1, e2, hf⟩ := z_bd hf
  refine z_callV1 (As := [.int 99]) (rest := []) (bs' := [bX10 G q1 o1, bX9 G q1 (o1 + 1) r1.2.1.1 r1.2.1.2.1 r1.2.1.2.2.1 r1.2.1.2.2.2.1 r1.2.1.2.2.2.2, bX6 G q1 (o1 + 3) r1.2.2.1.1 r1.2.2.1.2, bX8 G q1 (o1 + 12) r1.2.2.2.1.1 r1.2.2.2.1.2, bX5 G q1 (o1 + 19) r1.2.2.2.2.1.2.1 r1.2.2.2.2.1.2.2.1 r1.2.2.2.2.1.2.2.2.1 r1.2.2.2.2.1.2.2.2.2, bX2 G q1 ((o1 + 19) + 2) r1.2.2.2.2.1.1.1 r1.2.2.2.2.1.1.2.1 r1.2.2.2.2.1.1.2.2.1 r1.2.2.2.2.1.1.2.2.2.1 r1.2.2.2.2.1.1.2.2.2.2.1 r1.2.2.2.2.1.1.2.2.2.2.2.1 r1.2.2.2.2.1.1.2.2.2.2.2.2.1 r1.2.2.2.2.1.1.2.2.2.2.2.2.2, bX2 G q1 (o1 + 27) r1.2.2.2.2.2.1.1 r1.2.2.2.2.2.1.2.1 r1.2.2.2.2.2.1.2.2.1 r1.2.2.2.2.2.1.2.2.2.1 r1.2.2.2.2.2.1.2.2.2.2.1 r1.2.2.2.2.2.1.2.2.2.2.2.1 r1.2.2.2.2.2.1.2.2.2.2.2.2.1 r1.2.2.2.2.2.1.2.2.2.2.2.2.2, bX1 G q1 (o1 + 33) r1.2.2.2.2.2.2.1.1 r1.2.2.2.2.2.2.1.2.1 r1.2.2.2.2.2.2.1.2.2.1 r1.2.2.2.2.2.2.1.2.2.2, bX4 G q1 (o1 + 36) r1.2.2.2.2.2.2.2.1.1 r1.2.2.2.2.2.2.2.1.2, bX3 G q1 (o1 + 38) r1.2.2.2.2.2.2.2.2.1.1 r1.2.2.2.2.2.2.2.2.1.2.1 r1.2.2.2.2.2.2.2.2.1.2.2.1 r1.2.2.2.2.2.2.2.2.1.2.2.2, bX0 G q1 (o1 + 43) r1.2.2.2.2.2.2.2.2.2.1.2.2.1 r1.2.2.2.2.2.2.2.2.2.1.2.2.2, bX2 G q1 ((o1 + 43) + 3) r1.2.2.2.2.2.2.2.2.2.1.1.1 r1.2.2.2.2.2.2.2.2.2.1.1.2.1 r1.2.2.2.2.2.2.2.2.2.1.1.2.2.1 r1.2.2.2.2.2.2.2.2.2.1.1.2.2.2.1 r1.2.2.2.2.2.2.2.2.2.1.1.2.2.2.2.1 r1.2.2.2.2.2.2.2.2.2.1.1.2.2.2.2.2.1 r1.2.2.2.2.2.2.2.2.2.1.1.2.2.2.2.2.2.1 r1.2.2.2.2.2.2.2.2.2.1.1.2.2.2.2.2.2.2, bX4 G q1 ((o1 + 43) + 9) r1.2.2.2.2.2.2.2.2.2.1.2.1.1 r1.2.2.2.2.2.2.2.2.2.1.2.1.2, bX7 G q1 (o1 + 54) r1.2.2.2.2.2.2.2.2.2.2.1 r1.2.2.2.2.2.2.2.2.2.2.2.1 r1.2.2.2.2.2.2.2.2.2.2.2.2]) hS0 (c_X10_culprits l G q1 o1 P1 99 r1 e2) zc_X10_culprits rfl gL_nights_X10_culprits ⟨Nat.le_of_ble_eq_true rfl, Nat.le_of_ble_eq_true rfl⟩ hK hA hT hw (is := [0, 1, 2, 3, 4, 5, 6, 7, 8, 9, 10, 11, 12, 13]) rfl rfl rfl rfl rfl rfl rfl hl.1 rfl (Nat.le_of_ble_eq_true rfl) dL_nights_260 (fun H locs hw => ?_)
  refine lv_bipush (v := (-9)) hx hb dL_nights_263 rfl ?_
  refine lv_icmp_lt (tgt := 292) hx hb dL_nights_265 rfl (fun hc => ?_) (fun hc => ?_)
  · have hf := z_t hc hf
    refine lv_iconst (v := 0) hx hb dL_nights_292 rfl ?_
    cases hf
    exact z_zret hx hb hr (z_nb (Or.inl rfl)) hlk hw dL_nights_293
  · have hf := z_f hc hf
    refine lv_aload_n hx hb dL_nights_268 rfl (lv_at hl 0 rfl) ?_
    refine lv_iconst (v := 0) hx hb dL_nights_269 rfl ?_
    obtain ⟨r3, e4, hf⟩ := z_bd hf
    refine z_callV1 (As := [.int 0]) (rest := []) (bs' := [bX10 G q1 o1, bX9 G q1 (o1 + 1) r3.2.1.1 r3.2.1.2.1 r3.2.1.2.2.1 r3.2.1.2.2.2.1 r3.2.1.2.2.2.2, bX6 G q1 (o1 + 3) r3.2.2.1.1 r3.2.2.1.2, bX8 G q1 (o1 + 12) r3.2.2.2.1.1 r3.2.2.2.1.2, bX5 G q1 (o1 + 19) r3.2.2.2.2.1.2.1 r3.2.2.2.2.1.2.2.1 r3.2.2.2.2.1.2.2.2.1 r3.2.2.2.2.1.2.2.2.2, bX2 G q1 ((o1 + 19) + 2) r3.2.2.2.2.1.1.1 r3.2.2.2.2.1.1.2.1 r3.2.2.2.2.1.1.2.2.1 r3.2.2.2.2.1.1.2.2.2.1 r3.2.2.2.2.1.1.2.2.2.2.1 r3.2.2.2.2.1.1.2.2.2.2.2.1 r3.2.2.2.2.1.1.2.2.2.2.2.2.1 r3.2.2.2.2.1.1.2.2.2.2.2.2.2, bX2 G q1 (o1 + 27) r3.2.2.2.2.2.1.1 r3.2.2.2.2.2.1.2.1 r3.2.2.2.2.2.1.2.2.1 r3.2.2.2.2.2.1.2.2.2.1 r3.2.2.2.2.2.1.2.2.2.2.1 r3.2.2.2.2.2.1.2.2.2.2.2.1 r3.2.2.2.2.2.1.2.2.2.2.2.2.1 r3.2.2.2.2.2.1.2.2.2.2.2.2.2, bX1 G q1 (o1 + 33) r3.2.2.2.2.2.2.1.1 r3.2.2.2.2.2.2.1.2.1 r3.2.2.2.2.2.2.1.2.2.1 r3.2.2.2.2.2.2.1.2.2.2, bX4 G q1 (o1 + 36) r3.2.2.2.2.2.2.2.1.1 r3.2.2.2.2.2.2.2.1.2, bX3 G q1 (o1 + 38) r3.2.2.2.2.2.2.2.2.1.1 r3.2.2.2.2.2.2.2.2.1.2.1 r3.2.2.2.2.2.2.2.2.1.2.2.1 r3.2.2.2.2.2.2.2.2.1.2.2.2, bX0 G q1 (o1 + 43) r3.2.2.2.2.2.2.2.2.2.1.2.2.1 r3.2.2.2.2.2.2.2.2.2.1.2.2.2, bX2 G q1 ((o1 + 43) + 3) r3.2.2.2.2.2.2.2.2.2.1.1.1 r3.2.2.2.2.2.2.2.2.2.1.1.2.1 r3.2.2.2.2.2.2.2.2.2.1.1.2.2.1 r3.2.2.2.2.2.2.2.2.2.1.1.2.2.2.1 r3.2.2.2.2.2.2.2.2.2.1.1.2.2.2.2.1 r3.2.2.2.2.2.2.2.2.2.1.1.2.2.2.2.2.1 r3.2.2.2.2.2.2.2.2.2.1.1.2.2.2.2.2.2.1 r3.2.2.2.2.2.2.2.2.2.1.1.2.2.2.2.2.2.2, bX4 G q1 ((o1 + 43) + 9) r3.2.2.2.2.2.2.2.2.2.1.2.1.1 r3.2.2.2.2.2.2.2.2.2.1.2.1.2, bX7 G q1 (o1 + 54) r3.2.2.2.2.2.2.2.2.2.2.1 r3.2.2.2.2.2.2.2.2.2.2.2.1 r3.2.2.2.2.2.2.2.2.2.2.2.2]) hS0 (c_X10_forget l G q1 o1 r1.2 0 r3 e4) zc_X10_forget rfl gL_nights_X10_forget ⟨Nat.le_of_ble_eq_true rfl, Nat.le_of_ble_eq_true rfl⟩ hK hA hT hw (is := [0, 1, 2, 3, 4, 5, 6, 7, 8, 9, 10, 11, 12, 13]) rfl rfl rfl rfl rfl rfl rfl hl.1 rfl (Nat.le_of_ble_eq_true rfl) dL_nights_270 (fun H locs hw => ?_)
    refine lv_iconst (v := 1) hx hb dL_nights_273 rfl ?_
    refine lv_icmp_ne (tgt := 292) hx hb dL_nights_274 rfl (fun hc => ?_) (fun hc => ?_)
    · have hf := z_f hc hf
      refine lv_iconst (v := 0) hx hb dL_nights_292 rfl ?_
      cases hf
      exact z_zret hx hb hr (z_nb (Or.inl rfl)) hlk hw dL_nights_293
    · have hf := z_t hc hf
      refine lv_aload_n hx hb dL_nights_277 rfl (lv_at hl 0 rfl) ?_
      refine lv_iload hx hb dL_nights_278 (lv_at hl 1 rfl) ?_
      obtain ⟨r5, e6, hf⟩ := z_bd hf
      refine z_callV1 (As := [.int v4]) (rest := []) (bs' := [bX10 G q1 o1, bX9 G q1 (o1 + 1) r5.2.1.1 r5.2.1.2.1 r5.2.1.2.2.1 r5.2.1.2.2.2.1 r5.2.1.2.2.2.2, bX6 G q1 (o1 + 3) r5.2.2.1.1 r5.2.2.1.2, bX8 G q1 (o1 + 12) r5.2.2.2.1.1 r5.2.2.2.1.2, bX5 G q1 (o1 + 19) r5.2.2.2.2.1.2.1 r5.2.2.2.2.1.2.2.1 r5.2.2.2.2.1.2.2.2.1 r5.2.2.2.2.1.2.2.2.2, bX2 G q1 ((o1 + 19) + 2) r5.2.2.2.2.1.1.1 r5.2.2.2.2.1.1.2.1 r5.2.2.2.2.1.1.2.2.1 r5.2.2.2.2.1.1.2.2.2.1 r5.2.2.2.2.1.1.2.2.2.2.1 r5.2.2.2.2.1.1.2.2.2.2.2.1 r5.2.2.2.2.1.1.2.2.2.2.2.2.1 r5.2.2.2.2.1.1.2.2.2.2.2.2.2, bX2 G q1 (o1 + 27) r5.2.2.2.2.2.1.1 r5.2.2.2.2.2.1.2.1 r5.2.2.2.2.2.1.2.2.1 r5.2.2.2.2.2.1.2.2.2.1 r5.2.2.2.2.2.1.2.2.2.2.1 r5.2.2.2.2.2.1.2.2.2.2.2.1 r5.2.2.2.2.2.1.2.2.2.2.2.2.1 r5.2.2.2.2.2.1.2.2.2.2.2.2.2, bX1 G q1 (o1 + 33) r5.2.2.2.2.2.2.1.1 r5.2.2.2.2.2.2.1.2.1 r5.2.2.2.2.2.2.1.2.2.1 r5.2.2.2.2.2.2.1.2.2.2, bX4 G q1 (o1 + 36) r5.2.2.2.2.2.2.2.1.1 r5.2.2.2.2.2.2.2.1.2, bX3 G q1 (o1 + 38) r5.2.2.2.2.2.2.2.2.1.1 r5.2.2.2.2.2.2.2.2.1.2.1 r5.2.2.2.2.2.2.2.2.1.2.2.1 r5.2.2.2.2.2.2.2.2.1.2.2.2, bX0 G q1 (o1 + 43) r5.2.2.2.2.2.2.2.2.2.1.2.2.1 r5.2.2.2.2.2.2.2.2.2.1.2.2.2, bX2 G q1 ((o1 + 43) + 3) r5.2.2.2.2.2.2.2.2.2.1.1.1 r5.2.2.2.2.2.2.2.2.2.1.1.2.1 r5.2.2.2.2.2.2.2.2.2.1.1.2.2.1 r5.2.2.2.2.2.2.2.2.2.1.1.2.2.2.1 r5.2.2.2.2.2.2.2.2.2.1.1.2.2.2.2.1 r5.2.2.2.2.2.2.2.2.2.1.1.2.2.2.2.2.1 r5.2.2.2.2.2.2.2.2.2.1.1.2.2.2.2.2.2.1 r5.2.2.2.2.2.2.2.2.2.1.1.2.2.2.2.2.2.2, bX4 G q1 ((o1 + 43) + 9) r5.2.2.2.2.2.2.2.2.2.1.2.1.1 r5.2.2.2.2.2.2.2.2.2.1.2.1.2, bX7 G q1 (o1 + 54) r5.2.2.2.2.2.2.2.2.2.2.1 r5.2.2.2.2.2.2.2.2.2.2.2.1 r5.2.2.2.2.2.2.2.2.2.2.2.2]) hS0 (c_X10_culprits l G q1 o1 r3.2 v4 r5 e6) zc_X10_culprits rfl gL_nights_X10_culprits ⟨Nat.le_of_ble_eq_true rfl, Nat.le_of_ble_eq_true rfl⟩ hK hA hT hw (is := [0, 1, 2, 3, 4, 5, 6, 7, 8, 9, 10, 11, 12, 13]) rfl rfl rfl rfl rfl rfl rfl hl.1 rfl (Nat.le_of_ble_eq_true rfl) dL_nights_280 (fun H locs hw => ?_)
      refine lv_iload hx hb dL_nights_283 (lv_at hl 2 rfl) ?_
      refine lv_icmp_ne (tgt := 292) hx hb dL_nights_285 rfl (fun hc => ?_) (fun hc => ?_)
      · have hf := z_f hc hf
        refine lv_iconst (v := 0) hx hb dL_nights_292 rfl ?_
        cases hf
        exact z_zret hx hb hr (z_nb (Or.inl rfl)) hlk hw dL_nights_293
      · have hf := z_t hc hf
        refine lv_iconst (v := 1) hx hb dL_nights_288 rfl ?_
        refine lv_goto (tgt := 293) hx hb dL_nights_289 rfl ?_
        cases hf
        exact z_zret hx hb hr (z_nb (Or.inr rfl)) hlk hw dL_nights_293
set_option maxHeartbeats 4000000 in
set_option maxRecDepth 100000 in
theorem k_L_nights_252 {p : Program} {l : Launch} {e : Env} {s : State} {m : MethodId} {args : Array Value} {below : List Frame} {meth : Method} {c : Code} {A : Nat → Prop} {G : zG} {q1 : Nat → Nat} {o1 : Nat}  (hZ : zZ p s m args meth c A G cL_nights 12 RL wsL_nights (some .boolean)) (y : Int32 × VX10)  : ∀ (P1 : VX10) (v4 : Int32) (v5 : Int32) (t0 : Int32) (t1 : Int32) (H : Heap) (locs : List Loc) (ls : Array Slot), f_L_nights_252 (zX G) P1 v4 v5 t0 t1 = some y → zH G A s.heap [bX10 G q1 o1, bX9 G q1 (o1 + 1) P1.1.1 P1.1.2.1 P1.1.2.2.1 P1.1.2.2.2.1 P1.1.2.2.2.2, bX6 G q1 (o1 + 3) P1.2.1.1 P1.2.1.2, bX8 G q1 (o1 + 12) P1.2.2.1.1 P1.2.2.1.2, bX5 G q1 (o1 + 19) P1.2.2.2.1.2.1 P1.2.2.2.1.2.2.1 P1.2.2.2.1.2.2.2.1 P1.2.2.2.1.2.2.2.2, bX2 G q1 ((o1 + 19) + 2) P1.2.2.2.1.1.1 P1.2.2.2.1.1.2.1 P1.2.2.2.1.1.2.2.1 P1.2.2.2.1.1.2.2.2.1 P1.2.2.2.1.1.2.2.2.2.1 P1.2.2.2.1.1.2.2.2.2.2.1 P1.2.2.2.1.1.2.2.2.2.2.2.1 P1.2.2.2.1.1.2.2.2.2.2.2.2, bX2 G q1 (o1 + 27) P1.2.2.2.2.1.1 P1.2.2.2.2.1.2.1 P1.2.2.2.2.1.2.2.1 P1.2.2.2.2.1.2.2.2.1 P1.2.2.2.2.1.2.2.2.2.1 P1.2.2.2.2.1.2.2.2.2.2.1 P1.2.2.2.2.1.2.2.2.2.2.2.1 P1.2.2.2.2.1.2.2.2.2.2.2.2, bX1 G q1 (o1 + 33) P1.2.2.2.2.2.1.1 P1.2.2.2.2.2.1.2.1 P1.2.2.2.2.2.1.2.2.1 P1.2.2.2.2.2.1.2.2.2, bX4 G q1 (o1 + 36) P1.2.2.2.2.2.2.1.1 P1.2.2.2.2.2.2.1.2, bX3 G q1 (o1 + 38) P1.2.2.2.2.2.2.2.1.1 P1.2.2.2.2.2.2.2.1.2.1 P1.2.2.2.2.2.2.2.1.2.2.1 P1.2.2.2.2.2.2.2.1.2.2.2, bX0 G q1 (o1 + 43) P1.2.2.2.2.2.2.2.2.1.2.2.1 P1.2.2.2.2.2.2.2.2.1.2.2.2, bX2 G q1 ((o1 + 43) + 3) P1.2.2.2.2.2.2.2.2.1.1.1 P1.2.2.2.2.2.2.2.2.1.1.2.1 P1.2.2.2.2.2.2.2.2.1.1.2.2.1 P1.2.2.2.2.2.2.2.2.1.1.2.2.2.1 P1.2.2.2.2.2.2.2.2.1.1.2.2.2.2.1 P1.2.2.2.2.2.2.2.2.1.1.2.2.2.2.2.1 P1.2.2.2.2.2.2.2.2.1.1.2.2.2.2.2.2.1 P1.2.2.2.2.2.2.2.2.1.1.2.2.2.2.2.2.2, bX4 G q1 ((o1 + 43) + 9) P1.2.2.2.2.2.2.2.2.1.2.1.1 P1.2.2.2.2.2.2.2.2.1.2.1.2, bX7 G q1 (o1 + 54) P1.2.2.2.2.2.2.2.2.2.1 P1.2.2.2.2.2.2.2.2.2.2.1 P1.2.2.2.2.2.2.2.2.2.2.2] H locs → lv_has ls 12 [(0, .ref (q1 (o1 + 0))), (4, .int v4), (5, .int v5)] → W p l e { frames := 6, cells := 0, slots := 0, locals := 152 } s m args below meth c H locs 0 0 (MQ below (zQ (some (.int y.1)) (zPost G [bX10 G q1 o1, bX9 G q1 (o1 + 1) y.2.1.1 y.2.1.2.1 y.2.1.2.2.1 y.2.1.2.2.2.1 y.2.1.2.2.2.2, bX6 G q1 (o1 + 3) y.2.2.1.1 y.2.2.1.2, bX8 G q1 (o1 + 12) y.2.2.2.1.1 y.2.2.2.1.2, bX5 G q1 (o1 + 19) y.2.2.2.2.1.2.1 y.2.2.2.2.1.2.2.1 y.2.2.2.2.1.2.2.2.1 y.2.2.2.2.1.2.2.2.2, bX2 G q1 ((o1 + 19) + 2) y.2.2.2.2.1.1.1 y.2.2.2.2.1.1.2.1 y.2.2.2.2.1.1.2.2.1 y.2.2.2.2.1.1.2.2.2.1 y.2.2.2.2.1.1.2.2.2.2.1 y.2.2.2.2.1.1.2.2.2.2.2.1 y.2.2.2.2.1.1.2.2.2.2.2.2.1 y.2.2.2.2.1.1.2.2.2.2.2.2.2, bX2 G q1 (o1 + 27) y.2.2.2.2.2.1.1 y.2.2.2.2.2.1.2.1 y.2.2.2.2.2.1.2.2.1 y.2.2.2.2.2.1.2.2.2.1 y.2.2.2.2.2.1.2.2.2.2.1 y.2.2.2.2.2.1.2.2.2.2.2.1 y.2.2.2.2.2.1.2.2.2.2.2.2.1 y.2.2.2.2.2.1.2.2.2.2.2.2.2, bX1 G q1 (o1 + 33) y.2.2.2.2.2.2.1.1 y.2.2.2.2.2.2.1.2.1 y.2.2.2.2.2.2.1.2.2.1 y.2.2.2.2.2.2.1.2.2.2, bX4 G q1 (o1 + 36) y.2.2.2.2.2.2.2.1.1 y.2.2.2.2.2.2.2.1.2, bX3 G q1 (o1 + 38) y.2.2.2.2.2.2.2.2.1.1 y.2.2.2.2.2.2.2.2.1.2.1 y.2.2.2.2.2.2.2.2.1.2.2.1 y.2.2.2.2.2.2.2.2.1.2.2.2, bX0 G q1 (o1 + 43) y.2.2.2.2.2.2.2.2.2.1.2.2.1 y.2.2.2.2.2.2.2.2.2.1.2.2.2, bX2 G q1 ((o1 + 43) + 3) y.2.2.2.2.2.2.2.2.2.1.1.1 y.2.2.2.2.2.2.2.2.2.1.1.2.1 y.2.2.2.2.2.2.2.2.2.1.1.2.2.1 y.2.2.2.2.2.2.2.2.2.1.1.2.2.2.1 y.2.2.2.2.2.2.2.2.2.1.1.2.2.2.2.1 y.2.2.2.2.2.2.2.2.2.1.1.2.2.2.2.2.1 y.2.2.2.2.2.2.2.2.2.1.1.2.2.2.2.2.2.1 y.2.2.2.2.2.2.2.2.2.1.1.2.2.2.2.2.2.2, bX4 G q1 ((o1 + 43) + 9) y.2.2.2.2.2.2.2.2.2.1.2.1.1 y.2.2.2.2.2.2.2.2.2.1.2.1.2, bX7 G q1 (o1 + 54) y.2.2.2.2.2.2.2.2.2.2.1 y.2.2.2.2.2.2.2.2.2.2.2.1 y.2.2.2.2.2.2.2.2.2.2.2.2]) A) args s 0 0 A) (F0 m 252 ls [.int t0, .int t1]) := by
  obtain ⟨hS0, hr, hlk, hK, hA, hT⟩ := id hZ
  have hx := hS0.1
  have hb := hS0.2.1
  have hml := hS0.2.2.1
  have hown : s.vm.findClass RL = some m.cls := hS0.2.2.2.1
  have hts := hS0.2.2.2.2
  intro P1 v4 v5 t0 t1 H locs ls hf hw hl
  unfold f_L_nights_252 at hf
  refine lv_icmp_eq (tgt := 257) hx hb dL_nights_252 rfl (fun hc => ?_) (fun hc => ?_)
  · have hf := z_t hc hf
    exact k_L_nights_257 hZ _ _ _ _ _ _ _ hf hw (lv_sub hl [0, 1, 2] rfl)
  · have hf := z_f hc hf
    refine lv_iconst (v := 0) hx hb dL_nights_255 rfl ?_
    cases hf
    exact z_zret hx hb hr (z_nb (Or.inl rfl)) hlk hw dL_nights_256
set_option maxHeartbeats 4000000 in
set_option maxRecDepth 100000 in
theorem k_L_nights_231 {p : Program} {l : Launch} {e : Env} {s : State} {m : MethodId} {args : Array Value} {below : List Frame} {meth : Method} {c : Code} {A : Nat → Prop} {G : zG} {q1 : Nat → Nat} {o1 : Nat}  (hZ : zZ p s m args meth c A G cL_nights 12 RL wsL_nights (some .boolean)) (y : Int32 × VX10)  : ∀ (P1 : VX10) (v4 : Int32) (v5 : Int32) (v7 : Int32) (v8 : Int32) (v11 : Int32) (t0 : Int32) (t1 : Int32) (H : Heap) (locs : List Loc) (ls : Array Slot), f_L_nights_231 (zX G) P1 v4 v5 v7 v8 v11 t0 t1 = some y → zH G A s.heap [bX10 G q1 o1, bX9 G q1 (o1 + 1) P1.1.1 P1.1.2.1 P1.1.2.2.1 P1.1.2.2.2.1 P1.1.2.2.2.2, bX6 G q1 (o1 + 3) P1.2.1.1 P1.2.1.2, bX8 G q1 (o1 + 12) P1.2.2.1.1 P1.2.2.1.2, bX5 G q1 (o1 + 19) P1.2.2.2.1.2.1 P1.2.2.2.1.2.2.1 P1.2.2.2.1.2.2.2.1 P1.2.2.2.1.2.2.2.2, bX2 G q1 ((o1 + 19) + 2) P1.2.2.2.1.1.1 P1.2.2.2.1.1.2.1 P1.2.2.2.1.1.2.2.1 P1.2.2.2.1.1.2.2.2.1 P1.2.2.2.1.1.2.2.2.2.1 P1.2.2.2.1.1.2.2.2.2.2.1 P1.2.2.2.1.1.2.2.2.2.2.2.1 P1.2.2.2.1.1.2.2.2.2.2.2.2, bX2 G q1 (o1 + 27) P1.2.2.2.2.1.1 P1.2.2.2.2.1.2.1 P1.2.2.2.2.1.2.2.1 P1.2.2.2.2.1.2.2.2.1 P1.2.2.2.2.1.2.2.2.2.1 P1.2.2.2.2.1.2.2.2.2.2.1 P1.2.2.2.2.1.2.2.2.2.2.2.1 P1.2.2.2.2.1.2.2.2.2.2.2.2, bX1 G q1 (o1 + 33) P1.2.2.2.2.2.1.1 P1.2.2.2.2.2.1.2.1 P1.2.2.2.2.2.1.2.2.1 P1.2.2.2.2.2.1.2.2.2, bX4 G q1 (o1 + 36) P1.2.2.2.2.2.2.1.1 P1.2.2.2.2.2.2.1.2, bX3 G q1 (o1 + 38) P1.2.2.2.2.2.2.2.1.1 P1.2.2.2.2.2.2.2.1.2.1 P1.2.2.2.2.2.2.2.1.2.2.1 P1.2.2.2.2.2.2.2.1.2.2.2, bX0 G q1 (o1 + 43) P1.2.2.2.2.2.2.2.2.1.2.2.1 P1.2.2.2.2.2.2.2.2.1.2.2.2, bX2 G q1 ((o1 + 43) + 3) P1.2.2.2.2.2.2.2.2.1.1.1 P1.2.2.2.2.2.2.2.2.1.1.2.1 P1.2.2.2.2.2.2.2.2.1.1.2.2.1 P1.2.2.2.2.2.2.2.2.1.1.2.2.2.1 P1.2.2.2.2.2.2.2.2.1.1.2.2.2.2.1 P1.2.2.2.2.2.2.2.2.1.1.2.2.2.2.2.1 P1.2.2.2.2.2.2.2.2.1.1.2.2.2.2.2.2.1 P1.2.2.2.2.2.2.2.2.1.1.2.2.2.2.2.2.2, bX4 G q1 ((o1 + 43) + 9) P1.2.2.2.2.2.2.2.2.1.2.1.1 P1.2.2.2.2.2.2.2.2.1.2.1.2, bX7 G q1 (o1 + 54) P1.2.2.2.2.2.2.2.2.2.1 P1.2.2.2.2.2.2.2.2.2.2.1 P1.2.2.2.2.2.2.2.2.2.2.2] H locs → lv_has ls 12 [(0, .ref (q1 (o1 + 0))), (4, .int v4), (5, .int v5), (7, .int v7), (8, .int v8), (11, .int v11)] → W p l e { frames := 6, cells := 0, slots := 0, locals := 152 } s m args below meth c H locs 0 0 (MQ below (zQ (some (.int y.1)) (zPost G [bX10 G q1 o1, bX9 G q1 (o1 + 1) y.2.1.1 y.2.1.2.1 y.2.1.2.2.1 y.2.1.2.2.2.1 y.2.1.2.2.2.2, bX6 G q1 (o1 + 3) y.2.2.1.1 y.2.2.1.2, bX8 G q1 (o1 + 12) y.2.2.2.1.1 y.2.2.2.1.2, bX5 G q1 (o1 + 19) y.2.2.2.2.1.2.1 y.2.2.2.2.1.2.2.1 y.2.2.2.2.1.2.2.2.1 y.2.2.2.2.1.2.2.2.2, bX2 G q1 ((o1 + 19) + 2) y.2.2.2.2.1.1.1 y.2.2.2.2.1.1.2.1 y.2.2.2.2.1.1.2.2.1 y.2.2.2.2.1.1.2.2.2.1 y.2.2.2.2.1.1.2.2.2.2.1 y.2.2.2.2.1.1.2.2.2.2.2.1 y.2.2.2.2.1.1.2.2.2.2.2.2.1 y.2.2.2.2.1.1.2.2.2.2.2.2.2, bX2 G q1 (o1 + 27) y.2.2.2.2.2.1.1 y.2.2.2.2.2.1.2.1 y.2.2.2.2.2.1.2.2.1 y.2.2.2.2.2.1.2.2.2.1 y.2.2.2.2.2.1.2.2.2.2.1 y.2.2.2.2.2.1.2.2.2.2.2.1 y.2.2.2.2.2.1.2.2.2.2.2.2.1 y.2.2.2.2.2.1.2.2.2.2.2.2.2, bX1 G q1 (o1 + 33) y.2.2.2.2.2.2.1.1 y.2.2.2.2.2.2.1.2.1 y.2.2.2.2.2.2.1.2.2.1 y.2.2.2.2.2.2.1.2.2.2, bX4 G q1 (o1 + 36) y.2.2.2.2.2.2.2.1.1 y.2.2.2.2.2.2.2.1.2, bX3 G q1 (o1 + 38) y.2.2.2.2.2.2.2.2.1.1 y.2.2.2.2.2.2.2.2.1.2.1 y.2.2.2.2.2.2.2.2.1.2.2.1 y.2.2.2.2.2.2.2.2.1.2.2.2, bX0 G q1 (o1 + 43) y.2.2.2.2.2.2.2.2.2.1.2.2.1 y.2.2.2.2.2.2.2.2.2.1.2.2.2, bX2 G q1 ((o1 + 43) + 3) y.2.2.2.2.2.2.2.2.2.1.1.1 y.2.2.2.2.2.2.2.2.2.1.1.2.1 y.2.2.2.2.2.2.2.2.2.1.1.2.2.1 y.2.2.2.2.2.2.2.2.2.1.1.2.2.2.1 y.2.2.2.2.2.2.2.2.2.1.1.2.2.2.2.1 y.2.2.2.2.2.2.2.2.2.1.1.2.2.2.2.2.1 y.2.2.2.2.2.2.2.2.2.1.1.2.2.2.2.2.2.1 y.2.2.2.2.2.2.2.2.2.1.1.2.2.2.2.2.2.2, bX4 G q1 ((o1 + 43) + 9) y.2.2.2.2.2.2.2.2.2.1.2.1.1 y.2.2.2.2.2.2.2.2.2.1.2.1.2, bX7 G q1 (o1 + 54) y.2.2.2.2.2.2.2.2.2.2.1 y.2.2.2.2.2.2.2.2.2.2.2.1 y.2.2.2.2.2.2.2.2.2.2.2.2]) A) args s 0 0 A) (F0 m 231 ls [.int t0, .int t1]) := by
  obtain ⟨hS0, hr, hlk, hK, hA, hT⟩ := id hZ
  have hx := hS0.1
  have hb := hS0.2.1
  have hml := hS0.2.2.1
  have hown : s.vm.findClass RL = some m.cls := hS0.2.2.2.1
  have hts := hS0.2.2.2.2
  intro P1 v4 v5 v7 v8 v11 t0 t1 H locs ls hf hw hl
  unfold f_L_nights_231 at hf
  refine lv_icmp_ne (tgt := 255) hx hb dL_nights_231 rfl (fun hc => ?_) (fun hc => ?_)
  · have hf := z_f hc hf
    refine lv_iconst (v := 0) hx hb dL_nights_255 rfl ?_
    cases hf
    exact z_zret hx hb hr (z_nb (Or.inl rfl)) hlk hw dL_nights_256
  · have hf := z_t hc hf
    refine lv_iload hx hb dL_nights_234 (lv_at hl 5 rfl) ?_
    refine lv_iload hx hb dL_nights_236 (lv_at hl 3 rfl) ?_
    obtain ⟨r7, e8, hf⟩ := z_bd hf
    refine z_callS1 (As := [.int v11, .int v7]) (rest := []) (bs' := [bX10 G q1 o1, bX9 G q1 (o1 + 1) P1.1.1 P1.1.2.1 P1.1.2.2.1 P1.1.2.2.2.1 P1.1.2.2.2.2, bX6 G q1 (o1 + 3) P1.2.1.1 P1.2.1.2, bX8 G q1 (o1 + 12) P1.2.2.1.1 P1.2.2.1.2, bX5 G q1 (o1 + 19) P1.2.2.2.1.2.1 P1.2.2.2.1.2.2.1 P1.2.2.2.1.2.2.2.1 P1.2.2.2.1.2.2.2.2, bX2 G q1 ((o1 + 19) + 2) P1.2.2.2.1.1.1 P1.2.2.2.1.1.2.1 P1.2.2.2.1.1.2.2.1 P1.2.2.2.1.1.2.2.2.1 P1.2.2.2.1.1.2.2.2.2.1 P1.2.2.2.1.1.2.2.2.2.2.1 P1.2.2.2.1.1.2.2.2.2.2.2.1 P1.2.2.2.1.1.2.2.2.2.2.2.2, bX2 G q1 (o1 + 27) P1.2.2.2.2.1.1 P1.2.2.2.2.1.2.1 P1.2.2.2.2.1.2.2.1 P1.2.2.2.2.1.2.2.2.1 P1.2.2.2.2.1.2.2.2.2.1 P1.2.2.2.2.1.2.2.2.2.2.1 P1.2.2.2.2.1.2.2.2.2.2.2.1 P1.2.2.2.2.1.2.2.2.2.2.2.2, bX1 G q1 (o1 + 33) P1.2.2.2.2.2.1.1 P1.2.2.2.2.2.1.2.1 P1.2.2.2.2.2.1.2.2.1 P1.2.2.2.2.2.1.2.2.2, bX4 G q1 (o1 + 36) P1.2.2.2.2.2.2.1.1 P1.2.2.2.2.2.2.1.2, bX3 G q1 (o1 + 38) P1.2.2.2.2.2.2.2.1.1 P1.2.2.2.2.2.2.2.1.2.1 P1.2.2.2.2.2.2.2.1.2.2.1 P1.2.2.2.2.2.2.2.1.2.2.2, bX0 G q1 (o1 + 43) P1.2.2.2.2.2.2.2.2.1.2.2.1 P1.2.2.2.2.2.2.2.2.1.2.2.2, bX2 G q1 ((o1 + 43) + 3) P1.2.2.2.2.2.2.2.2.1.1.1 P1.2.2.2.2.2.2.2.2.1.1.2.1 P1.2.2.2.2.2.2.2.2.1.1.2.2.1 P1.2.2.2.2.2.2.2.2.1.1.2.2.2.1 P1.2.2.2.2.2.2.2.2.1.1.2.2.2.2.1 P1.2.2.2.2.2.2.2.2.1.1.2.2.2.2.2.1 P1.2.2.2.2.2.2.2.2.1.1.2.2.2.2.2.2.1 P1.2.2.2.2.2.2.2.2.1.1.2.2.2.2.2.2.2, bX4 G q1 ((o1 + 43) + 9) P1.2.2.2.2.2.2.2.2.1.2.1.1 P1.2.2.2.2.2.2.2.2.1.2.1.2, bX7 G q1 (o1 + 54) P1.2.2.2.2.2.2.2.2.2.1 P1.2.2.2.2.2.2.2.2.2.2.1 P1.2.2.2.2.2.2.2.2.2.2.2]) hS0 (c_L_in l G v11 v7 r7 e8) zc_L_in gL_nights_L_in ⟨Nat.le_of_ble_eq_true rfl, Nat.le_of_ble_eq_true rfl⟩ hK hA hT hw (is := []) rfl rfl rfl rfl rfl hl.1 rfl (Nat.le_of_ble_eq_true rfl) dL_nights_238 (fun H locs hw => ?_)
    refine lv_iload hx hb dL_nights_241 (lv_at hl 4 rfl) ?_
    refine lv_iconst (v := 1) hx hb dL_nights_243 rfl ?_
    refine lv_icmp_ne (tgt := 251) hx hb dL_nights_244 rfl (fun hc => ?_) (fun hc => ?_)
    · have hf := z_f hc hf
      refine lv_iconst (v := 0) hx hb dL_nights_251 rfl ?_
      exact k_L_nights_252 hZ _ _ _ _ _ _ _ _ _ hf hw (lv_sub hl [0, 1, 2] rfl)
    · have hf := z_t hc hf
      refine lv_iconst (v := 1) hx hb dL_nights_247 rfl ?_
      refine lv_goto (tgt := 252) hx hb dL_nights_248 rfl ?_
      exact k_L_nights_252 hZ _ _ _ _ _ _ _ _ _ hf hw (lv_sub hl [0, 1, 2] rfl)
set_option maxHeartbeats 4000000 in
set_option maxRecDepth 100000 in
theorem k_L_nights_188 {p : Program} {l : Launch} {e : Env} {s : State} {m : MethodId} {args : Array Value} {below : List Frame} {meth : Method} {c : Code} {A : Nat → Prop} {G : zG} {q1 : Nat → Nat} {o1 : Nat}  (hZ : zZ p s m args meth c A G cL_nights 12 RL wsL_nights (some .boolean)) (y : Int32 × VX10)  : ∀ (P1 : VX10) (v4 : Int32) (v5 : Int32) (v7 : Int32) (v8 : Int32) (v10 : Int32) (v11 : Int32) (H : Heap) (locs : List Loc) (ls : Array Slot), f_L_nights_188 (zX G) P1 v4 v5 v7 v8 v10 v11 = some y → zH G A s.heap [bX10 G q1 o1, bX9 G q1 (o1 + 1) P1.1.1 P1.1.2.1 P1.1.2.2.1 P1.1.2.2.2.1 P1.1.2.2.2.2, bX6 G q1 (o1 + 3) P1.2.1.1 P1.2.1.2, bX8 G q1 (o1 + 12) P1.2.2.1.1 P1.2.2.1.2, bX5 G q1 (o1 + 19) P1.2.2.2.1.2.1 P1.2.2.2.1.2.2.1 P1.2.2.2.1.2.2.2.1 P1.2.2.2.1.2.2.2.2, bX2 G q1 ((o1 + 19) + 2) P1.2.2.2.1.1.1 P1.2.2.2.1.1.2.1 P1.2.2.2.1.1.2.2.1 P1.2.2.2.1.1.2.2.2.1 P1.2.2.2.1.1.2.2.2.2.1 P1.2.2.2.1.1.2.2.2.2.2.1 P1.2.2.2.1.1.2.2.2.2.2.2.1 P1.2.2.2.1.1.2.2.2.2.2.2.2, bX2 G q1 (o1 + 27) P1.2.2.2.2.1.1 P1.2.2.2.2.1.2.1 P1.2.2.2.2.1.2.2.1 P1.2.2.2.2.1.2.2.2.1 P1.2.2.2.2.1.2.2.2.2.1 P1.2.2.2.2.1.2.2.2.2.2.1 P1.2.2.2.2.1.2.2.2.2.2.2.1 P1.2.2.2.2.1.2.2.2.2.2.2.2, bX1 G q1 (o1 + 33) P1.2.2.2.2.2.1.1 P1.2.2.2.2.2.1.2.1 P1.2.2.2.2.2.1.2.2.1 P1.2.2.2.2.2.1.2.2.2, bX4 G q1 (o1 + 36) P1.2.2.2.2.2.2.1.1 P1.2.2.2.2.2.2.1.2, bX3 G q1 (o1 + 38) P1.2.2.2.2.2.2.2.1.1 P1.2.2.2.2.2.2.2.1.2.1 P1.2.2.2.2.2.2.2.1.2.2.1 P1.2.2.2.2.2.2.2.1.2.2.2, bX0 G q1 (o1 + 43) P1.2.2.2.2.2.2.2.2.1.2.2.1 P1.2.2.2.2.2.2.2.2.1.2.2.2, bX2 G q1 ((o1 + 43) + 3) P1.2.2.2.2.2.2.2.2.1.1.1 P1.2.2.2.2.2.2.2.2.1.1.2.1 P1.2.2.2.2.2.2.2.2.1.1.2.2.1 P1.2.2.2.2.2.2.2.2.1.1.2.2.2.1 P1.2.2.2.2.2.2.2.2.1.1.2.2.2.2.1 P1.2.2.2.2.2.2.2.2.1.1.2.2.2.2.2.1 P1.2.2.2.2.2.2.2.2.1.1.2.2.2.2.2.2.1 P1.2.2.2.2.2.2.2.2.1.1.2.2.2.2.2.2.2, bX4 G q1 ((o1 + 43) + 9) P1.2.2.2.2.2.2.2.2.1.2.1.1 P1.2.2.2.2.2.2.2.2.1.2.1.2, bX7 G q1 (o1 + 54) P1.2.2.2.2.2.2.2.2.2.1 P1.2.2.2.2.2.2.2.2.2.2.1 P1.2.2.2.2.2.2.2.2.2.2.2] H locs → lv_has ls 12 [(0, .ref (q1 (o1 + 0))), (4, .int v4), (5, .int v5), (7, .int v7), (8, .int v8), (10, .int v10), (11, .int v11)] → W p l e { frames := 6, cells := 0, slots := 0, locals := 152 } s m args below meth c H locs 0 0 (MQ below (zQ (some (.int y.1)) (zPost G [bX10 G q1 o1, bX9 G q1 (o1 + 1) y.2.1.1 y.2.1.2.1 y.2.1.2.2.1 y.2.1.2.2.2.1 y.2.1.2.2.2.2, bX6 G q1 (o1 + 3) y.2.2.1.1 y.2.2.1.2, bX8 G q1 (o1 + 12) y.2.2.2.1.1 y.2.2.2.1.2, bX5 G q1 (o1 + 19) y.2.2.2.2.1.2.1 y.2.2.2.2.1.2.2.1 y.2.2.2.2.1.2.2.2.1 y.2.2.2.2.1.2.2.2.2, bX2 G q1 ((o1 + 19) + 2) y.2.2.2.2.1.1.1 y.2.2.2.2.1.1.2.1 y.2.2.2.2.1.1.2.2.1 y.2.2.2.2.1.1.2.2.2.1 y.2.2.2.2.1.1.2.2.2.2.1 y.2.2.2.2.1.1.2.2.2.2.2.1 y.2.2.2.2.1.1.2.2.2.2.2.2.1 y.2.2.2.2.1.1.2.2.2.2.2.2.2, bX2 G q1 (o1 + 27) y.2.2.2.2.2.1.1 y.2.2.2.2.2.1.2.1 y.2.2.2.2.2.1.2.2.1 y.2.2.2.2.2.1.2.2.2.1 y.2.2.2.2.2.1.2.2.2.2.1 y.2.2.2.2.2.1.2.2.2.2.2.1 y.2.2.2.2.2.1.2.2.2.2.2.2.1 y.2.2.2.2.2.1.2.2.2.2.2.2.2, bX1 G q1 (o1 + 33) y.2.2.2.2.2.2.1.1 y.2.2.2.2.2.2.1.2.1 y.2.2.2.2.2.2.1.2.2.1 y.2.2.2.2.2.2.1.2.2.2, bX4 G q1 (o1 + 36) y.2.2.2.2.2.2.2.1.1 y.2.2.2.2.2.2.2.1.2, bX3 G q1 (o1 + 38) y.2.2.2.2.2.2.2.2.1.1 y.2.2.2.2.2.2.2.2.1.2.1 y.2.2.2.2.2.2.2.2.1.2.2.1 y.2.2.2.2.2.2.2.2.1.2.2.2, bX0 G q1 (o1 + 43) y.2.2.2.2.2.2.2.2.2.1.2.2.1 y.2.2.2.2.2.2.2.2.2.1.2.2.2, bX2 G q1 ((o1 + 43) + 3) y.2.2.2.2.2.2.2.2.2.1.1.1 y.2.2.2.2.2.2.2.2.2.1.1.2.1 y.2.2.2.2.2.2.2.2.2.1.1.2.2.1 y.2.2.2.2.2.2.2.2.2.1.1.2.2.2.1 y.2.2.2.2.2.2.2.2.2.1.1.2.2.2.2.1 y.2.2.2.2.2.2.2.2.2.1.1.2.2.2.2.2.1 y.2.2.2.2.2.2.2.2.2.1.1.2.2.2.2.2.2.1 y.2.2.2.2.2.2.2.2.2.1.1.2.2.2.2.2.2.2, bX4 G q1 ((o1 + 43) + 9) y.2.2.2.2.2.2.2.2.2.1.2.1.1 y.2.2.2.2.2.2.2.2.2.1.2.1.2, bX7 G q1 (o1 + 54) y.2.2.2.2.2.2.2.2.2.2.1 y.2.2.2.2.2.2.2.2.2.2.2.1 y.2.2.2.2.2.2.2.2.2.2.2.2]) A) args s 0 0 A) (F0 m 188 ls []) := by
  obtain ⟨hS0, hr, hlk, hK, hA, hT⟩ := id hZ
  have hx := hS0.1
  have hb := hS0.2.1
  have hml := hS0.2.2.1
  have hown : s.vm.findClass RL = some m.cls := hS0.2.2.2.1
  have hts := hS0.2.2.2.2
  intro P1 v4 v5 v7 v8 v10 v11 H locs ls hf hw hl
  unfold f_L_nights_188 at hf
  refine lv_iload hx hb dL_nights_188 (lv_at hl 5 rfl) ?_
  refine lv_if_lt (tgt := 257) hx hb dL_nights_190 rfl (fun hc => ?_) (fun hc => ?_)
  · have hf := z_t hc hf
    exact k_L_nights_257 hZ _ _ _ _ _ _ _ hf hw (lv_sub hl [0, 1, 2] rfl)
  · have hf := z_f hc hf
    refine lv_iload hx hb dL_nights_193 (lv_at hl 5 rfl) ?_
    refine lv_iload hx hb dL_nights_195 (lv_at hl 2 rfl) ?_
    refine lv_iconst (v := (-1)) hx hb dL_nights_197 rfl ?_
    refine lv_ixor hx hb dL_nights_198 ?_
    refine lv_iand hx hb dL_nights_199 ?_
    refine lv_if_ne (tgt := 255) hx hb dL_nights_200 rfl (fun hc => ?_) (fun hc => ?_)
    · have hf := z_f hc hf
      refine lv_iconst (v := 0) hx hb dL_nights_255 rfl ?_
      cases hf
      exact z_zret hx hb hr (z_nb (Or.inl rfl)) hlk hw dL_nights_256
    · have hf := z_t hc hf
      refine lv_iload hx hb dL_nights_203 (lv_at hl 6 rfl) ?_
      refine lv_iload hx hb dL_nights_205 (lv_at hl 5 rfl) ?_
      refine lv_iconst (v := (-1)) hx hb dL_nights_207 rfl ?_
      refine lv_ixor hx hb dL_nights_208 ?_
      refine lv_iand hx hb dL_nights_209 ?_
      refine lv_if_ne (tgt := 255) hx hb dL_nights_210 rfl (fun hc => ?_) (fun hc => ?_)
      · have hf := z_f hc hf
        refine lv_iconst (v := 0) hx hb dL_nights_255 rfl ?_
        cases hf
        exact z_zret hx hb hr (z_nb (Or.inl rfl)) hlk hw dL_nights_256
      · have hf := z_t hc hf
        refine lv_iload hx hb dL_nights_213 (lv_at hl 5 rfl) ?_
        refine lv_iload hx hb dL_nights_215 (lv_at hl 3 rfl) ?_
        obtain ⟨r9, e10, hf⟩ := z_bd hf
        refine z_callS1 (As := [.int v10, .int v7]) (rest := []) (bs' := [bX10 G q1 o1, bX9 G q1 (o1 + 1) P1.1.1 P1.1.2.1 P1.1.2.2.1 P1.1.2.2.2.1 P1.1.2.2.2.2, bX6 G q1 (o1 + 3) P1.2.1.1 P1.2.1.2, bX8 G q1 (o1 + 12) P1.2.2.1.1 P1.2.2.1.2, bX5 G q1 (o1 + 19) P1.2.2.2.1.2.1 P1.2.2.2.1.2.2.1 P1.2.2.2.1.2.2.2.1 P1.2.2.2.1.2.2.2.2, bX2 G q1 ((o1 + 19) + 2) P1.2.2.2.1.1.1 P1.2.2.2.1.1.2.1 P1.2.2.2.1.1.2.2.1 P1.2.2.2.1.1.2.2.2.1 P1.2.2.2.1.1.2.2.2.2.1 P1.2.2.2.1.1.2.2.2.2.2.1 P1.2.2.2.1.1.2.2.2.2.2.2.1 P1.2.2.2.1.1.2.2.2.2.2.2.2, bX2 G q1 (o1 + 27) P1.2.2.2.2.1.1 P1.2.2.2.2.1.2.1 P1.2.2.2.2.1.2.2.1 P1.2.2.2.2.1.2.2.2.1 P1.2.2.2.2.1.2.2.2.2.1 P1.2.2.2.2.1.2.2.2.2.2.1 P1.2.2.2.2.1.2.2.2.2.2.2.1 P1.2.2.2.2.1.2.2.2.2.2.2.2, bX1 G q1 (o1 + 33) P1.2.2.2.2.2.1.1 P1.2.2.2.2.2.1.2.1 P1.2.2.2.2.2.1.2.2.1 P1.2.2.2.2.2.1.2.2.2, bX4 G q1 (o1 + 36) P1.2.2.2.2.2.2.1.1 P1.2.2.2.2.2.2.1.2, bX3 G q1 (o1 + 38) P1.2.2.2.2.2.2.2.1.1 P1.2.2.2.2.2.2.2.1.2.1 P1.2.2.2.2.2.2.2.1.2.2.1 P1.2.2.2.2.2.2.2.1.2.2.2, bX0 G q1 (o1 + 43) P1.2.2.2.2.2.2.2.2.1.2.2.1 P1.2.2.2.2.2.2.2.2.1.2.2.2, bX2 G q1 ((o1 + 43) + 3) P1.2.2.2.2.2.2.2.2.1.1.1 P1.2.2.2.2.2.2.2.2.1.1.2.1 P1.2.2.2.2.2.2.2.2.1.1.2.2.1 P1.2.2.2.2.2.2.2.2.1.1.2.2.2.1 P1.2.2.2.2.2.2.2.2.1.1.2.2.2.2.1 P1.2.2.2.2.2.2.2.2.1.1.2.2.2.2.2.1 P1.2.2.2.2.2.2.2.2.1.1.2.2.2.2.2.2.1 P1.2.2.2.2.2.2.2.2.1.1.2.2.2.2.2.2.2, bX4 G q1 ((o1 + 43) + 9) P1.2.2.2.2.2.2.2.2.1.2.1.1 P1.2.2.2.2.2.2.2.2.1.2.1.2, bX7 G q1 (o1 + 54) P1.2.2.2.2.2.2.2.2.2.1 P1.2.2.2.2.2.2.2.2.2.2.1 P1.2.2.2.2.2.2.2.2.2.2.2]) hS0 (c_L_in l G v10 v7 r9 e10) zc_L_in gL_nights_L_in ⟨Nat.le_of_ble_eq_true rfl, Nat.le_of_ble_eq_true rfl⟩ hK hA hT hw (is := []) rfl rfl rfl rfl rfl hl.1 rfl (Nat.le_of_ble_eq_true rfl) dL_nights_217 (fun H locs hw => ?_)
        refine lv_iload hx hb dL_nights_220 (lv_at hl 4 rfl) ?_
        refine lv_iconst (v := 1) hx hb dL_nights_222 rfl ?_
        refine lv_icmp_ne (tgt := 230) hx hb dL_nights_223 rfl (fun hc => ?_) (fun hc => ?_)
        · have hf := z_f hc hf
          refine lv_iconst (v := 0) hx hb dL_nights_230 rfl ?_
          exact k_L_nights_231 hZ _ _ _ _ _ _ _ _ _ _ _ _ hf hw (lv_sub hl [0, 1, 2, 3, 4, 6] rfl)
        · have hf := z_t hc hf
          refine lv_iconst (v := 1) hx hb dL_nights_226 rfl ?_
          refine lv_goto (tgt := 231) hx hb dL_nights_227 rfl ?_
          exact k_L_nights_231 hZ _ _ _ _ _ _ _ _ _ _ _ _ hf hw (lv_sub hl [0, 1, 2, 3, 4, 6] rfl)
set_option maxHeartbeats 4000000 in
set_option maxRecDepth 100000 in
theorem k_L_nights_178 {p : Program} {l : Launch} {e : Env} {s : State} {m : MethodId} {args : Array Value} {below : List Frame} {meth : Method} {c : Code} {A : Nat → Prop} {G : zG} {q1 : Nat → Nat} {o1 : Nat}  (hZ : zZ p s m args meth c A G cL_nights 12 RL wsL_nights (some .boolean)) (y : Int32 × VX10)  : ∀ (P1 : VX10) (v4 : Int32) (v5 : Int32) (v7 : Int32) (v8 : Int32) (v10 : Int32) (v11 : Int32) (H : Heap) (locs : List Loc) (ls : Array Slot), f_L_nights_178 (zX G) P1 v4 v5 v7 v8 v10 v11 = some y → zH G A s.heap [bX10 G q1 o1, bX9 G q1 (o1 + 1) P1.1.1 P1.1.2.1 P1.1.2.2.1 P1.1.2.2.2.1 P1.1.2.2.2.2, bX6 G q1 (o1 + 3) P1.2.1.1 P1.2.1.2, bX8 G q1 (o1 + 12) P1.2.2.1.1 P1.2.2.1.2, bX5 G q1 (o1 + 19) P1.2.2.2.1.2.1 P1.2.2.2.1.2.2.1 P1.2.2.2.1.2.2.2.1 P1.2.2.2.1.2.2.2.2, bX2 G q1 ((o1 + 19) + 2) P1.2.2.2.1.1.1 P1.2.2.2.1.1.2.1 P1.2.2.2.1.1.2.2.1 P1.2.2.2.1.1.2.2.2.1 P1.2.2.2.1.1.2.2.2.2.1 P1.2.2.2.1.1.2.2.2.2.2.1 P1.2.2.2.1.1.2.2.2.2.2.2.1 P1.2.2.2.1.1.2.2.2.2.2.2.2, bX2 G q1 (o1 + 27) P1.2.2.2.2.1.1 P1.2.2.2.2.1.2.1 P1.2.2.2.2.1.2.2.1 P1.2.2.2.2.1.2.2.2.1 P1.2.2.2.2.1.2.2.2.2.1 P1.2.2.2.2.1.2.2.2.2.2.1 P1.2.2.2.2.1.2.2.2.2.2.2.1 P1.2.2.2.2.1.2.2.2.2.2.2.2, bX1 G q1 (o1 + 33) P1.2.2.2.2.2.1.1 P1.2.2.2.2.2.1.2.1 P1.2.2.2.2.2.1.2.2.1 P1.2.2.2.2.2.1.2.2.2, bX4 G q1 (o1 + 36) P1.2.2.2.2.2.2.1.1 P1.2.2.2.2.2.2.1.2, bX3 G q1 (o1 + 38) P1.2.2.2.2.2.2.2.1.1 P1.2.2.2.2.2.2.2.1.2.1 P1.2.2.2.2.2.2.2.1.2.2.1 P1.2.2.2.2.2.2.2.1.2.2.2, bX0 G q1 (o1 + 43) P1.2.2.2.2.2.2.2.2.1.2.2.1 P1.2.2.2.2.2.2.2.2.1.2.2.2, bX2 G q1 ((o1 + 43) + 3) P1.2.2.2.2.2.2.2.2.1.1.1 P1.2.2.2.2.2.2.2.2.1.1.2.1 P1.2.2.2.2.2.2.2.2.1.1.2.2.1 P1.2.2.2.2.2.2.2.2.1.1.2.2.2.1 P1.2.2.2.2.2.2.2.2.1.1.2.2.2.2.1 P1.2.2.2.2.2.2.2.2.1.1.2.2.2.2.2.1 P1.2.2.2.2.2.2.2.2.1.1.2.2.2.2.2.2.1 P1.2.2.2.2.2.2.2.2.1.1.2.2.2.2.2.2.2, bX4 G q1 ((o1 + 43) + 9) P1.2.2.2.2.2.2.2.2.1.2.1.1 P1.2.2.2.2.2.2.2.2.1.2.1.2, bX7 G q1 (o1 + 54) P1.2.2.2.2.2.2.2.2.2.1 P1.2.2.2.2.2.2.2.2.2.2.1 P1.2.2.2.2.2.2.2.2.2.2.2] H locs → lv_has ls 12 [(0, .ref (q1 (o1 + 0))), (4, .int v4), (5, .int v5), (7, .int v7), (8, .int v8), (10, .int v10), (11, .int v11)] → W p l e { frames := 6, cells := 0, slots := 0, locals := 152 } s m args below meth c H locs 0 0 (MQ below (zQ (some (.int y.1)) (zPost G [bX10 G q1 o1, bX9 G q1 (o1 + 1) y.2.1.1 y.2.1.2.1 y.2.1.2.2.1 y.2.1.2.2.2.1 y.2.1.2.2.2.2, bX6 G q1 (o1 + 3) y.2.2.1.1 y.2.2.1.2, bX8 G q1 (o1 + 12) y.2.2.2.1.1 y.2.2.2.1.2, bX5 G q1 (o1 + 19) y.2.2.2.2.1.2.1 y.2.2.2.2.1.2.2.1 y.2.2.2.2.1.2.2.2.1 y.2.2.2.2.1.2.2.2.2, bX2 G q1 ((o1 + 19) + 2) y.2.2.2.2.1.1.1 y.2.2.2.2.1.1.2.1 y.2.2.2.2.1.1.2.2.1 y.2.2.2.2.1.1.2.2.2.1 y.2.2.2.2.1.1.2.2.2.2.1 y.2.2.2.2.1.1.2.2.2.2.2.1 y.2.2.2.2.1.1.2.2.2.2.2.2.1 y.2.2.2.2.1.1.2.2.2.2.2.2.2, bX2 G q1 (o1 + 27) y.2.2.2.2.2.1.1 y.2.2.2.2.2.1.2.1 y.2.2.2.2.2.1.2.2.1 y.2.2.2.2.2.1.2.2.2.1 y.2.2.2.2.2.1.2.2.2.2.1 y.2.2.2.2.2.1.2.2.2.2.2.1 y.2.2.2.2.2.1.2.2.2.2.2.2.1 y.2.2.2.2.2.1.2.2.2.2.2.2.2, bX1 G q1 (o1 + 33) y.2.2.2.2.2.2.1.1 y.2.2.2.2.2.2.1.2.1 y.2.2.2.2.2.2.1.2.2.1 y.2.2.2.2.2.2.1.2.2.2, bX4 G q1 (o1 + 36) y.2.2.2.2.2.2.2.1.1 y.2.2.2.2.2.2.2.1.2, bX3 G q1 (o1 + 38) y.2.2.2.2.2.2.2.2.1.1 y.2.2.2.2.2.2.2.2.1.2.1 y.2.2.2.2.2.2.2.2.1.2.2.1 y.2.2.2.2.2.2.2.2.1.2.2.2, bX0 G q1 (o1 + 43) y.2.2.2.2.2.2.2.2.2.1.2.2.1 y.2.2.2.2.2.2.2.2.2.1.2.2.2, bX2 G q1 ((o1 + 43) + 3) y.2.2.2.2.2.2.2.2.2.1.1.1 y.2.2.2.2.2.2.2.2.2.1.1.2.1 y.2.2.2.2.2.2.2.2.2.1.1.2.2.1 y.2.2.2.2.2.2.2.2.2.1.1.2.2.2.1 y.2.2.2.2.2.2.2.2.2.1.1.2.2.2.2.1 y.2.2.2.2.2.2.2.2.2.1.1.2.2.2.2.2.1 y.2.2.2.2.2.2.2.2.2.1.1.2.2.2.2.2.2.1 y.2.2.2.2.2.2.2.2.2.1.1.2.2.2.2.2.2.2, bX4 G q1 ((o1 + 43) + 9) y.2.2.2.2.2.2.2.2.2.1.2.1.1 y.2.2.2.2.2.2.2.2.2.1.2.1.2, bX7 G q1 (o1 + 54) y.2.2.2.2.2.2.2.2.2.2.1 y.2.2.2.2.2.2.2.2.2.2.2.1 y.2.2.2.2.2.2.2.2.2.2.2.2]) A) args s 0 0 A) (F0 m 178 ls []) := by
  obtain ⟨hS0, hr, hlk, hK, hA, hT⟩ := id hZ
  have hx := hS0.1
  have hb := hS0.2.1
  have hml := hS0.2.2.1
  have hown : s.vm.findClass RL = some m.cls := hS0.2.2.2.1
  have hts := hS0.2.2.2.2
  intro P1 v4 v5 v7 v8 v10 v11 H locs ls hf hw hl
  unfold f_L_nights_178 at hf
  refine lv_iload hx hb dL_nights_178 (lv_at hl 4 rfl) ?_
  refine lv_if_ne (tgt := 188) hx hb dL_nights_180 rfl (fun hc => ?_) (fun hc => ?_)
  · have hf := z_f hc hf
    exact k_L_nights_188 hZ _ _ _ _ _ _ _ _ _ _ _ hf hw (lv_sub hl [0, 1, 2, 3, 4, 5, 6] rfl)
  · have hf := z_t hc hf
    refine lv_iload hx hb dL_nights_183 (lv_at hl 5 rfl) ?_
    refine lv_if_lt (tgt := 255) hx hb dL_nights_185 rfl (fun hc => ?_) (fun hc => ?_)
    · have hf := z_t hc hf
      refine lv_iconst (v := 0) hx hb dL_nights_255 rfl ?_
      cases hf
      exact z_zret hx hb hr (z_nb (Or.inl rfl)) hlk hw dL_nights_256
    · have hf := z_f hc hf
      exact k_L_nights_188 hZ _ _ _ _ _ _ _ _ _ _ _ hf hw (lv_sub hl [0, 1, 2, 3, 4, 5, 6] rfl)
set_option maxHeartbeats 4000000 in
set_option maxRecDepth 100000 in
theorem k_L_nights_175 {p : Program} {l : Launch} {e : Env} {s : State} {m : MethodId} {args : Array Value} {below : List Frame} {meth : Method} {c : Code} {A : Nat → Prop} {G : zG} {q1 : Nat → Nat} {o1 : Nat}  (hZ : zZ p s m args meth c A G cL_nights 12 RL wsL_nights (some .boolean)) (y : Int32 × VX10)  : ∀ (P1 : VX10) (v4 : Int32) (v5 : Int32) (v7 : Int32) (v8 : Int32) (v10 : Int32) (v11 : Int32) (t0 : Int32) (t1 : Int32) (H : Heap) (locs : List Loc) (ls : Array Slot), f_L_nights_175 (zX G) P1 v4 v5 v7 v8 v10 v11 t0 t1 = some y → zH G A s.heap [bX10 G q1 o1, bX9 G q1 (o1 + 1) P1.1.1 P1.1.2.1 P1.1.2.2.1 P1.1.2.2.2.1 P1.1.2.2.2.2, bX6 G q1 (o1 + 3) P1.2.1.1 P1.2.1.2, bX8 G q1 (o1 + 12) P1.2.2.1.1 P1.2.2.1.2, bX5 G q1 (o1 + 19) P1.2.2.2.1.2.1 P1.2.2.2.1.2.2.1 P1.2.2.2.1.2.2.2.1 P1.2.2.2.1.2.2.2.2, bX2 G q1 ((o1 + 19) + 2) P1.2.2.2.1.1.1 P1.2.2.2.1.1.2.1 P1.2.2.2.1.1.2.2.1 P1.2.2.2.1.1.2.2.2.1 P1.2.2.2.1.1.2.2.2.2.1 P1.2.2.2.1.1.2.2.2.2.2.1 P1.2.2.2.1.1.2.2.2.2.2.2.1 P1.2.2.2.1.1.2.2.2.2.2.2.2, bX2 G q1 (o1 + 27) P1.2.2.2.2.1.1 P1.2.2.2.2.1.2.1 P1.2.2.2.2.1.2.2.1 P1.2.2.2.2.1.2.2.2.1 P1.2.2.2.2.1.2.2.2.2.1 P1.2.2.2.2.1.2.2.2.2.2.1 P1.2.2.2.2.1.2.2.2.2.2.2.1 P1.2.2.2.2.1.2.2.2.2.2.2.2, bX1 G q1 (o1 + 33) P1.2.2.2.2.2.1.1 P1.2.2.2.2.2.1.2.1 P1.2.2.2.2.2.1.2.2.1 P1.2.2.2.2.2.1.2.2.2, bX4 G q1 (o1 + 36) P1.2.2.2.2.2.2.1.1 P1.2.2.2.2.2.2.1.2, bX3 G q1 (o1 + 38) P1.2.2.2.2.2.2.2.1.1 P1.2.2.2.2.2.2.2.1.2.1 P1.2.2.2.2.2.2.2.1.2.2.1 P1.2.2.2.2.2.2.2.1.2.2.2, bX0 G q1 (o1 + 43) P1.2.2.2.2.2.2.2.2.1.2.2.1 P1.2.2.2.2.2.2.2.2.1.2.2.2, bX2 G q1 ((o1 + 43) + 3) P1.2.2.2.2.2.2.2.2.1.1.1 P1.2.2.2.2.2.2.2.2.1.1.2.1 P1.2.2.2.2.2.2.2.2.1.1.2.2.1 P1.2.2.2.2.2.2.2.2.1.1.2.2.2.1 P1.2.2.2.2.2.2.2.2.1.1.2.2.2.2.1 P1.2.2.2.2.2.2.2.2.1.1.2.2.2.2.2.1 P1.2.2.2.2.2.2.2.2.1.1.2.2.2.2.2.2.1 P1.2.2.2.2.2.2.2.2.1.1.2.2.2.2.2.2.2, bX4 G q1 ((o1 + 43) + 9) P1.2.2.2.2.2.2.2.2.1.2.1.1 P1.2.2.2.2.2.2.2.2.1.2.1.2, bX7 G q1 (o1 + 54) P1.2.2.2.2.2.2.2.2.2.1 P1.2.2.2.2.2.2.2.2.2.2.1 P1.2.2.2.2.2.2.2.2.2.2.2] H locs → lv_has ls 12 [(0, .ref (q1 (o1 + 0))), (4, .int v4), (5, .int v5), (7, .int v7), (8, .int v8), (10, .int v10), (11, .int v11)] → W p l e { frames := 6, cells := 0, slots := 0, locals := 152 } s m args below meth c H locs 0 0 (MQ below (zQ (some (.int y.1)) (zPost G [bX10 G q1 o1, bX9 G q1 (o1 + 1) y.2.1.1 y.2.1.2.1 y.2.1.2.2.1 y.2.1.2.2.2.1 y.2.1.2.2.2.2, bX6 G q1 (o1 + 3) y.2.2.1.1 y.2.2.1.2, bX8 G q1 (o1 + 12) y.2.2.2.1.1 y.2.2.2.1.2, bX5 G q1 (o1 + 19) y.2.2.2.2.1.2.1 y.2.2.2.2.1.2.2.1 y.2.2.2.2.1.2.2.2.1 y.2.2.2.2.1.2.2.2.2, bX2 G q1 ((o1 + 19) + 2) y.2.2.2.2.1.1.1 y.2.2.2.2.1.1.2.1 y.2.2.2.2.1.1.2.2.1 y.2.2.2.2.1.1.2.2.2.1 y.2.2.2.2.1.1.2.2.2.2.1 y.2.2.2.2.1.1.2.2.2.2.2.1 y.2.2.2.2.1.1.2.2.2.2.2.2.1 y.2.2.2.2.1.1.2.2.2.2.2.2.2, bX2 G q1 (o1 + 27) y.2.2.2.2.2.1.1 y.2.2.2.2.2.1.2.1 y.2.2.2.2.2.1.2.2.1 y.2.2.2.2.2.1.2.2.2.1 y.2.2.2.2.2.1.2.2.2.2.1 y.2.2.2.2.2.1.2.2.2.2.2.1 y.2.2.2.2.2.1.2.2.2.2.2.2.1 y.2.2.2.2.2.1.2.2.2.2.2.2.2, bX1 G q1 (o1 + 33) y.2.2.2.2.2.2.1.1 y.2.2.2.2.2.2.1.2.1 y.2.2.2.2.2.2.1.2.2.1 y.2.2.2.2.2.2.1.2.2.2, bX4 G q1 (o1 + 36) y.2.2.2.2.2.2.2.1.1 y.2.2.2.2.2.2.2.1.2, bX3 G q1 (o1 + 38) y.2.2.2.2.2.2.2.2.1.1 y.2.2.2.2.2.2.2.2.1.2.1 y.2.2.2.2.2.2.2.2.1.2.2.1 y.2.2.2.2.2.2.2.2.1.2.2.2, bX0 G q1 (o1 + 43) y.2.2.2.2.2.2.2.2.2.1.2.2.1 y.2.2.2.2.2.2.2.2.2.1.2.2.2, bX2 G q1 ((o1 + 43) + 3) y.2.2.2.2.2.2.2.2.2.1.1.1 y.2.2.2.2.2.2.2.2.2.1.1.2.1 y.2.2.2.2.2.2.2.2.2.1.1.2.2.1 y.2.2.2.2.2.2.2.2.2.1.1.2.2.2.1 y.2.2.2.2.2.2.2.2.2.1.1.2.2.2.2.1 y.2.2.2.2.2.2.2.2.2.1.1.2.2.2.2.2.1 y.2.2.2.2.2.2.2.2.2.1.1.2.2.2.2.2.2.1 y.2.2.2.2.2.2.2.2.2.1.1.2.2.2.2.2.2.2, bX4 G q1 ((o1 + 43) + 9) y.2.2.2.2.2.2.2.2.2.1.2.1.1 y.2.2.2.2.2.2.2.2.2.1.2.1.2, bX7 G q1 (o1 + 54) y.2.2.2.2.2.2.2.2.2.2.1 y.2.2.2.2.2.2.2.2.2.2.2.1 y.2.2.2.2.2.2.2.2.2.2.2.2]) A) args s 0 0 A) (F0 m 175 ls [.int t0, .int t1]) := by
  obtain ⟨hS0, hr, hlk, hK, hA, hT⟩ := id hZ
  have hx := hS0.1
  have hb := hS0.2.1
  have hml := hS0.2.2.1
  have hown : s.vm.findClass RL = some m.cls := hS0.2.2.2.1
  have hts := hS0.2.2.2.2
  intro P1 v4 v5 v7 v8 v10 v11 t0 t1 H locs ls hf hw hl
  unfold f_L_nights_175 at hf
  refine lv_icmp_ne (tgt := 255) hx hb dL_nights_175 rfl (fun hc => ?_) (fun hc => ?_)
  · have hf := z_f hc hf
    refine lv_iconst (v := 0) hx hb dL_nights_255 rfl ?_
    cases hf
    exact z_zret hx hb hr (z_nb (Or.inl rfl)) hlk hw dL_nights_256
  · have hf := z_t hc hf
    exact k_L_nights_178 hZ _ _ _ _ _ _ _ _ _ _ _ hf hw (lv_sub hl [0, 1, 2, 3, 4, 5, 6] rfl)
set_option maxHeartbeats 4000000 in
set_option maxRecDepth 100000 in
theorem k_L_nights_165 {p : Program} {l : Launch} {e : Env} {s : State} {m : MethodId} {args : Array Value} {below : List Frame} {meth : Method} {c : Code} {A : Nat → Prop} {G : zG} {q1 : Nat → Nat} {o1 : Nat}  (hZ : zZ p s m args meth c A G cL_nights 12 RL wsL_nights (some .boolean)) (y : Int32 × VX10)  : ∀ (P1 : VX10) (v4 : Int32) (v5 : Int32) (v7 : Int32) (v8 : Int32) (v9 : Int32) (v10 : Int32) (v11 : Int32) (t0 : Int32) (H : Heap) (locs : List Loc) (ls : Array Slot), f_L_nights_165 (zX G) P1 v4 v5 v7 v8 v9 v10 v11 t0 = some y → zH G A s.heap [bX10 G q1 o1, bX9 G q1 (o1 + 1) P1.1.1 P1.1.2.1 P1.1.2.2.1 P1.1.2.2.2.1 P1.1.2.2.2.2, bX6 G q1 (o1 + 3) P1.2.1.1 P1.2.1.2, bX8 G q1 (o1 + 12) P1.2.2.1.1 P1.2.2.1.2, bX5 G q1 (o1 + 19) P1.2.2.2.1.2.1 P1.2.2.2.1.2.2.1 P1.2.2.2.1.2.2.2.1 P1.2.2.2.1.2.2.2.2, bX2 G q1 ((o1 + 19) + 2) P1.2.2.2.1.1.1 P1.2.2.2.1.1.2.1 P1.2.2.2.1.1.2.2.1 P1.2.2.2.1.1.2.2.2.1 P1.2.2.2.1.1.2.2.2.2.1 P1.2.2.2.1.1.2.2.2.2.2.1 P1.2.2.2.1.1.2.2.2.2.2.2.1 P1.2.2.2.1.1.2.2.2.2.2.2.2, bX2 G q1 (o1 + 27) P1.2.2.2.2.1.1 P1.2.2.2.2.1.2.1 P1.2.2.2.2.1.2.2.1 P1.2.2.2.2.1.2.2.2.1 P1.2.2.2.2.1.2.2.2.2.1 P1.2.2.2.2.1.2.2.2.2.2.1 P1.2.2.2.2.1.2.2.2.2.2.2.1 P1.2.2.2.2.1.2.2.2.2.2.2.2, bX1 G q1 (o1 + 33) P1.2.2.2.2.2.1.1 P1.2.2.2.2.2.1.2.1 P1.2.2.2.2.2.1.2.2.1 P1.2.2.2.2.2.1.2.2.2, bX4 G q1 (o1 + 36) P1.2.2.2.2.2.2.1.1 P1.2.2.2.2.2.2.1.2, bX3 G q1 (o1 + 38) P1.2.2.2.2.2.2.2.1.1 P1.2.2.2.2.2.2.2.1.2.1 P1.2.2.2.2.2.2.2.1.2.2.1 P1.2.2.2.2.2.2.2.1.2.2.2, bX0 G q1 (o1 + 43) P1.2.2.2.2.2.2.2.2.1.2.2.1 P1.2.2.2.2.2.2.2.2.1.2.2.2, bX2 G q1 ((o1 + 43) + 3) P1.2.2.2.2.2.2.2.2.1.1.1 P1.2.2.2.2.2.2.2.2.1.1.2.1 P1.2.2.2.2.2.2.2.2.1.1.2.2.1 P1.2.2.2.2.2.2.2.2.1.1.2.2.2.1 P1.2.2.2.2.2.2.2.2.1.1.2.2.2.2.1 P1.2.2.2.2.2.2.2.2.1.1.2.2.2.2.2.1 P1.2.2.2.2.2.2.2.2.1.1.2.2.2.2.2.2.1 P1.2.2.2.2.2.2.2.2.1.1.2.2.2.2.2.2.2, bX4 G q1 ((o1 + 43) + 9) P1.2.2.2.2.2.2.2.2.1.2.1.1 P1.2.2.2.2.2.2.2.2.1.2.1.2, bX7 G q1 (o1 + 54) P1.2.2.2.2.2.2.2.2.2.1 P1.2.2.2.2.2.2.2.2.2.2.1 P1.2.2.2.2.2.2.2.2.2.2.2] H locs → lv_has ls 12 [(0, .ref (q1 (o1 + 0))), (4, .int v4), (5, .int v5), (7, .int v7), (8, .int v8), (9, .int v9), (10, .int v10), (11, .int v11)] → W p l e { frames := 6, cells := 0, slots := 0, locals := 152 } s m args below meth c H locs 0 0 (MQ below (zQ (some (.int y.1)) (zPost G [bX10 G q1 o1, bX9 G q1 (o1 + 1) y.2.1.1 y.2.1.2.1 y.2.1.2.2.1 y.2.1.2.2.2.1 y.2.1.2.2.2.2, bX6 G q1 (o1 + 3) y.2.2.1.1 y.2.2.1.2, bX8 G q1 (o1 + 12) y.2.2.2.1.1 y.2.2.2.1.2, bX5 G q1 (o1 + 19) y.2.2.2.2.1.2.1 y.2.2.2.2.1.2.2.1 y.2.2.2.2.1.2.2.2.1 y.2.2.2.2.1.2.2.2.2, bX2 G q1 ((o1 + 19) + 2) y.2.2.2.2.1.1.1 y.2.2.2.2.1.1.2.1 y.2.2.2.2.1.1.2.2.1 y.2.2.2.2.1.1.2.2.2.1 y.2.2.2.2.1.1.2.2.2.2.1 y.2.2.2.2.1.1.2.2.2.2.2.1 y.2.2.2.2.1.1.2.2.2.2.2.2.1 y.2.2.2.2.1.1.2.2.2.2.2.2.2, bX2 G q1 (o1 + 27) y.2.2.2.2.2.1.1 y.2.2.2.2.2.1.2.1 y.2.2.2.2.2.1.2.2.1 y.2.2.2.2.2.1.2.2.2.1 y.2.2.2.2.2.1.2.2.2.2.1 y.2.2.2.2.2.1.2.2.2.2.2.1 y.2.2.2.2.2.1.2.2.2.2.2.2.1 y.2.2.2.2.2.1.2.2.2.2.2.2.2, bX1 G q1 (o1 + 33) y.2.2.2.2.2.2.1.1 y.2.2.2.2.2.2.1.2.1 y.2.2.2.2.2.2.1.2.2.1 y.2.2.2.2.2.2.1.2.2.2, bX4 G q1 (o1 + 36) y.2.2.2.2.2.2.2.1.1 y.2.2.2.2.2.2.2.1.2, bX3 G q1 (o1 + 38) y.2.2.2.2.2.2.2.2.1.1 y.2.2.2.2.2.2.2.2.1.2.1 y.2.2.2.2.2.2.2.2.1.2.2.1 y.2.2.2.2.2.2.2.2.1.2.2.2, bX0 G q1 (o1 + 43) y.2.2.2.2.2.2.2.2.2.1.2.2.1 y.2.2.2.2.2.2.2.2.2.1.2.2.2, bX2 G q1 ((o1 + 43) + 3) y.2.2.2.2.2.2.2.2.2.1.1.1 y.2.2.2.2.2.2.2.2.2.1.1.2.1 y.2.2.2.2.2.2.2.2.2.1.1.2.2.1 y.2.2.2.2.2.2.2.2.2.1.1.2.2.2.1 y.2.2.2.2.2.2.2.2.2.1.1.2.2.2.2.1 y.2.2.2.2.2.2.2.2.2.1.1.2.2.2.2.2.1 y.2.2.2.2.2.2.2.2.2.1.1.2.2.2.2.2.2.1 y.2.2.2.2.2.2.2.2.2.1.1.2.2.2.2.2.2.2, bX4 G q1 ((o1 + 43) + 9) y.2.2.2.2.2.2.2.2.2.1.2.1.1 y.2.2.2.2.2.2.2.2.2.1.2.1.2, bX7 G q1 (o1 + 54) y.2.2.2.2.2.2.2.2.2.2.1 y.2.2.2.2.2.2.2.2.2.2.2.1 y.2.2.2.2.2.2.2.2.2.2.2.2]) A) args s 0 0 A) (F0 m 165 ls [.int t0]) := by
  obtain ⟨hS0, hr, hlk, hK, hA, hT⟩ := id hZ
  have hx := hS0.1
  have hb := hS0.2.1
  have hml := hS0.2.2.1
  have hown : s.vm.findClass RL = some m.cls := hS0.2.2.2.1
  have hts := hS0.2.2.2.2
  intro P1 v4 v5 v7 v8 v9 v10 v11 t0 H locs ls hf hw hl
  unfold f_L_nights_165 at hf
  refine lv_iload hx hb dL_nights_165 (lv_at hl 5 rfl) ?_
  refine lv_if_le (tgt := 174) hx hb dL_nights_167 rfl (fun hc => ?_) (fun hc => ?_)
  · have hf := z_t hc hf
    refine lv_iconst (v := 0) hx hb dL_nights_174 rfl ?_
    exact k_L_nights_175 hZ _ _ _ _ _ _ _ _ _ _ _ _ _ hf hw (lv_sub hl [0, 1, 2, 3, 4, 6, 7] rfl)
  · have hf := z_f hc hf
    refine lv_iconst (v := 1) hx hb dL_nights_170 rfl ?_
    refine lv_goto (tgt := 175) hx hb dL_nights_171 rfl ?_
    exact k_L_nights_175 hZ _ _ _ _ _ _ _ _ _ _ _ _ _ hf hw (lv_sub hl [0, 1, 2, 3, 4, 6, 7] rfl)
set_option maxHeartbeats 4000000 in
set_option maxRecDepth 100000 in
theorem k_L_nights_88 {p : Program} {l : Launch} {e : Env} {s : State} {m : MethodId} {args : Array Value} {below : List Frame} {meth : Method} {c : Code} {A : Nat → Prop} {G : zG} {q1 : Nat → Nat} {o1 : Nat}  (hZ : zZ p s m args meth c A G cL_nights 12 RL wsL_nights (some .boolean)) (y : Int32 × VX10)  : ∀ (P1 : VX10) (v4 : Int32) (v5 : Int32) (v7 : Int32) (v8 : Int32) (v9 : Int32) (t0 : Int32) (H : Heap) (locs : List Loc) (ls : Array Slot), f_L_nights_88 (zX G) P1 v4 v5 v7 v8 v9 t0 = some y → zH G A s.heap [bX10 G q1 o1, bX9 G q1 (o1 + 1) P1.1.1 P1.1.2.1 P1.1.2.2.1 P1.1.2.2.2.1 P1.1.2.2.2.2, bX6 G q1 (o1 + 3) P1.2.1.1 P1.2.1.2, bX8 G q1 (o1 + 12) P1.2.2.1.1 P1.2.2.1.2, bX5 G q1 (o1 + 19) P1.2.2.2.1.2.1 P1.2.2.2.1.2.2.1 P1.2.2.2.1.2.2.2.1 P1.2.2.2.1.2.2.2.2, bX2 G q1 ((o1 + 19) + 2) P1.2.2.2.1.1.1 P1.2.2.2.1.1.2.1 P1.2.2.2.1.1.2.2.1 P1.2.2.2.1.1.2.2.2.1 P1.2.2.2.1.1.2.2.2.2.1 P1.2.2.2.1.1.2.2.2.2.2.1 P1.2.2.2.1.1.2.2.2.2.2.2.1 P1.2.2.2.1.1.2.2.2.2.2.2.2, bX2 G q1 (o1 + 27) P1.2.2.2.2.1.1 P1.2.2.2.2.1.2.1 P1.2.2.2.2.1.2.2.1 P1.2.2.2.2.1.2.2.2.1 P1.2.2.2.2.1.2.2.2.2.1 P1.2.2.2.2.1.2.2.2.2.2.1 P1.2.2.2.2.1.2.2.2.2.2.2.1 P1.2.2.2.2.1.2.2.2.2.2.2.2, bX1 G q1 (o1 + 33) P1.2.2.2.2.2.1.1 P1.2.2.2.2.2.1.2.1 P1.2.2.2.2.2.1.2.2.1 P1.2.2.2.2.2.1.2.2.2, bX4 G q1 (o1 + 36) P1.2.2.2.2.2.2.1.1 P1.2.2.2.2.2.2.1.2, bX3 G q1 (o1 + 38) P1.2.2.2.2.2.2.2.1.1 P1.2.2.2.2.2.2.2.1.2.1 P1.2.2.2.2.2.2.2.1.2.2.1 P1.2.2.2.2.2.2.2.1.2.2.2, bX0 G q1 (o1 + 43) P1.2.2.2.2.2.2.2.2.1.2.2.1 P1.2.2.2.2.2.2.2.2.1.2.2.2, bX2 G q1 ((o1 + 43) + 3) P1.2.2.2.2.2.2.2.2.1.1.1 P1.2.2.2.2.2.2.2.2.1.1.2.1 P1.2.2.2.2.2.2.2.2.1.1.2.2.1 P1.2.2.2.2.2.2.2.2.1.1.2.2.2.1 P1.2.2.2.2.2.2.2.2.1.1.2.2.2.2.1 P1.2.2.2.2.2.2.2.2.1.1.2.2.2.2.2.1 P1.2.2.2.2.2.2.2.2.1.1.2.2.2.2.2.2.1 P1.2.2.2.2.2.2.2.2.1.1.2.2.2.2.2.2.2, bX4 G q1 ((o1 + 43) + 9) P1.2.2.2.2.2.2.2.2.1.2.1.1 P1.2.2.2.2.2.2.2.2.1.2.1.2, bX7 G q1 (o1 + 54) P1.2.2.2.2.2.2.2.2.2.1 P1.2.2.2.2.2.2.2.2.2.2.1 P1.2.2.2.2.2.2.2.2.2.2.2] H locs → lv_has ls 12 [(0, .ref (q1 (o1 + 0))), (4, .int v4), (5, .int v5), (7, .int v7), (8, .int v8), (9, .int v9)] → W p l e { frames := 6, cells := 0, slots := 0, locals := 152 } s m args below meth c H locs 0 0 (MQ below (zQ (some (.int y.1)) (zPost G [bX10 G q1 o1, bX9 G q1 (o1 + 1) y.2.1.1 y.2.1.2.1 y.2.1.2.2.1 y.2.1.2.2.2.1 y.2.1.2.2.2.2, bX6 G q1 (o1 + 3) y.2.2.1.1 y.2.2.1.2, bX8 G q1 (o1 + 12) y.2.2.2.1.1 y.2.2.2.1.2, bX5 G q1 (o1 + 19) y.2.2.2.2.1.2.1 y.2.2.2.2.1.2.2.1 y.2.2.2.2.1.2.2.2.1 y.2.2.2.2.1.2.2.2.2, bX2 G q1 ((o1 + 19) + 2) y.2.2.2.2.1.1.1 y.2.2.2.2.1.1.2.1 y.2.2.2.2.1.1.2.2.1 y.2.2.2.2.1.1.2.2.2.1 y.2.2.2.2.1.1.2.2.2.2.1 y.2.2.2.2.1.1.2.2.2.2.2.1 y.2.2.2.2.1.1.2.2.2.2.2.2.1 y.2.2.2.2.1.1.2.2.2.2.2.2.2, bX2 G q1 (o1 + 27) y.2.2.2.2.2.1.1 y.2.2.2.2.2.1.2.1 y.2.2.2.2.2.1.2.2.1 y.2.2.2.2.2.1.2.2.2.1 y.2.2.2.2.2.1.2.2.2.2.1 y.2.2.2.2.2.1.2.2.2.2.2.1 y.2.2.2.2.2.1.2.2.2.2.2.2.1 y.2.2.2.2.2.1.2.2.2.2.2.2.2, bX1 G q1 (o1 + 33) y.2.2.2.2.2.2.1.1 y.2.2.2.2.2.2.1.2.1 y.2.2.2.2.2.2.1.2.2.1 y.2.2.2.2.2.2.1.2.2.2, bX4 G q1 (o1 + 36) y.2.2.2.2.2.2.2.1.1 y.2.2.2.2.2.2.2.1.2, bX3 G q1 (o1 + 38) y.2.2.2.2.2.2.2.2.1.1 y.2.2.2.2.2.2.2.2.1.2.1 y.2.2.2.2.2.2.2.2.1.2.2.1 y.2.2.2.2.2.2.2.2.1.2.2.2, bX0 G q1 (o1 + 43) y.2.2.2.2.2.2.2.2.2.1.2.2.1 y.2.2.2.2.2.2.2.2.2.1.2.2.2, bX2 G q1 ((o1 + 43) + 3) y.2.2.2.2.2.2.2.2.2.1.1.1 y.2.2.2.2.2.2.2.2.2.1.1.2.1 y.2.2.2.2.2.2.2.2.2.1.1.2.2.1 y.2.2.2.2.2.2.2.2.2.1.1.2.2.2.1 y.2.2.2.2.2.2.2.2.2.1.1.2.2.2.2.1 y.2.2.2.2.2.2.2.2.2.1.1.2.2.2.2.2.1 y.2.2.2.2.2.2.2.2.2.1.1.2.2.2.2.2.2.1 y.2.2.2.2.2.2.2.2.2.1.1.2.2.2.2.2.2.2, bX4 G q1 ((o1 + 43) + 9) y.2.2.2.2.2.2.2.2.2.1.2.1.1 y.2.2.2.2.2.2.2.2.2.1.2.1.2, bX7 G q1 (o1 + 54) y.2.2.2.2.2.2.2.2.2.2.1 y.2.2.2.2.2.2.2.2.2.2.2.1 y.2.2.2.2.2.2.2.2.2.2.2.2]) A) args s 0 0 A) (F0 m 88 ls [.int t0]) := by
  obtain ⟨hS0, hr, hlk, hK, hA, hT⟩ := id hZ
  have hx := hS0.1
  have hb := hS0.2.1
  have hml := hS0.2.2.1
  have hown : s.vm.findClass RL = some m.cls := hS0.2.2.2.1
  have hts := hS0.2.2.2.2
  intro P1 v4 v5 v7 v8 v9 t0 H locs ls hf hw hl
  unfold f_L_nights_88 at hf
  refine lv_iload hx hb dL_nights_88 (lv_at hl 2 rfl) ?_
  refine lv_iload hx hb dL_nights_90 (lv_at hl 3 rfl) ?_
  obtain ⟨r11, e12, hf⟩ := z_bd hf
  refine z_callS1 (As := [.int v5, .int v7]) (rest := [.int t0]) (bs' := [bX10 G q1 o1, bX9 G q1 (o1 + 1) P1.1.1 P1.1.2.1 P1.1.2.2.1 P1.1.2.2.2.1 P1.1.2.2.2.2, bX6 G q1 (o1 + 3) P1.2.1.1 P1.2.1.2, bX8 G q1 (o1 + 12) P1.2.2.1.1 P1.2.2.1.2, bX5 G q1 (o1 + 19) P1.2.2.2.1.2.1 P1.2.2.2.1.2.2.1 P1.2.2.2.1.2.2.2.1 P1.2.2.2.1.2.2.2.2, bX2 G q1 ((o1 + 19) + 2) P1.2.2.2.1.1.1 P1.2.2.2.1.1.2.1 P1.2.2.2.1.1.2.2.1 P1.2.2.2.1.1.2.2.2.1 P1.2.2.2.1.1.2.2.2.2.1 P1.2.2.2.1.1.2.2.2.2.2.1 P1.2.2.2.1.1.2.2.2.2.2.2.1 P1.2.2.2.1.1.2.2.2.2.2.2.2, bX2 G q1 (o1 + 27) P1.2.2.2.2.1.1 P1.2.2.2.2.1.2.1 P1.2.2.2.2.1.2.2.1 P1.2.2.2.2.1.2.2.2.1 P1.2.2.2.2.1.2.2.2.2.1 P1.2.2.2.2.1.2.2.2.2.2.1 P1.2.2.2.2.1.2.2.2.2.2.2.1 P1.2.2.2.2.1.2.2.2.2.2.2.2, bX1 G q1 (o1 + 33) P1.2.2.2.2.2.1.1 P1.2.2.2.2.2.1.2.1 P1.2.2.2.2.2.1.2.2.1 P1.2.2.2.2.2.1.2.2.2, bX4 G q1 (o1 + 36) P1.2.2.2.2.2.2.1.1 P1.2.2.2.2.2.2.1.2, bX3 G q1 (o1 + 38) P1.2.2.2.2.2.2.2.1.1 P1.2.2.2.2.2.2.2.1.2.1 P1.2.2.2.2.2.2.2.1.2.2.1 P1.2.2.2.2.2.2.2.1.2.2.2, bX0 G q1 (o1 + 43) P1.2.2.2.2.2.2.2.2.1.2.2.1 P1.2.2.2.2.2.2.2.2.1.2.2.2, bX2 G q1 ((o1 + 43) + 3) P1.2.2.2.2.2.2.2.2.1.1.1 P1.2.2.2.2.2.2.2.2.1.1.2.1 P1.2.2.2.2.2.2.2.2.1.1.2.2.1 P1.2.2.2.2.2.2.2.2.1.1.2.2.2.1 P1.2.2.2.2.2.2.2.2.1.1.2.2.2.2.1 P1.2.2.2.2.2.2.2.2.1.1.2.2.2.2.2.1 P1.2.2.2.2.2.2.2.2.1.1.2.2.2.2.2.2.1 P1.2.2.2.2.2.2.2.2.1.1.2.2.2.2.2.2.2, bX4 G q1 ((o1 + 43) + 9) P1.2.2.2.2.2.2.2.2.1.2.1.1 P1.2.2.2.2.2.2.2.2.1.2.1.2, bX7 G q1 (o1 + 54) P1.2.2.2.2.2.2.2.2.2.1 P1.2.2.2.2.2.2.2.2.2.2.1 P1.2.2.2.2.2.2.2.2.2.2.2]) hS0 (c_L_in l G v5 v7 r11 e12) zc_L_in gL_nights_L_in ⟨Nat.le_of_ble_eq_true rfl, Nat.le_of_ble_eq_true rfl⟩ hK hA hT hw (is := []) rfl rfl rfl rfl rfl hl.1 rfl (Nat.le_of_ble_eq_true rfl) dL_nights_92 (fun H locs hw => ?_)
  refine lv_icmp_ne (tgt := 133) hx hb dL_nights_95 rfl (fun hc => ?_) (fun hc => ?_)
  · have hf := z_f hc hf
    refine lv_iconst (v := 0) hx hb dL_nights_133 rfl ?_
    cases hf
    exact z_zret hx hb hr (z_nb (Or.inl rfl)) hlk hw dL_nights_134
  · have hf := z_t hc hf
    refine lv_aload_n hx hb dL_nights_98 rfl (lv_at hl 0 rfl) ?_
    obtain ⟨r13, e14, hf⟩ := z_bd hf
    refine z_callV1 (As := []) (rest := []) (bs' := [bX10 G q1 o1, bX9 G q1 (o1 + 1) P1.1.1 P1.1.2.1 P1.1.2.2.1 P1.1.2.2.2.1 P1.1.2.2.2.2, bX6 G q1 (o1 + 3) P1.2.1.1 P1.2.1.2, bX8 G q1 (o1 + 12) P1.2.2.1.1 P1.2.2.1.2, bX5 G q1 (o1 + 19) P1.2.2.2.1.2.1 P1.2.2.2.1.2.2.1 P1.2.2.2.1.2.2.2.1 P1.2.2.2.1.2.2.2.2, bX2 G q1 ((o1 + 19) + 2) P1.2.2.2.1.1.1 P1.2.2.2.1.1.2.1 P1.2.2.2.1.1.2.2.1 P1.2.2.2.1.1.2.2.2.1 P1.2.2.2.1.1.2.2.2.2.1 P1.2.2.2.1.1.2.2.2.2.2.1 P1.2.2.2.1.1.2.2.2.2.2.2.1 P1.2.2.2.1.1.2.2.2.2.2.2.2, bX2 G q1 (o1 + 27) P1.2.2.2.2.1.1 P1.2.2.2.2.1.2.1 P1.2.2.2.2.1.2.2.1 P1.2.2.2.2.1.2.2.2.1 P1.2.2.2.2.1.2.2.2.2.1 P1.2.2.2.2.1.2.2.2.2.2.1 P1.2.2.2.2.1.2.2.2.2.2.2.1 P1.2.2.2.2.1.2.2.2.2.2.2.2, bX1 G q1 (o1 + 33) P1.2.2.2.2.2.1.1 P1.2.2.2.2.2.1.2.1 P1.2.2.2.2.2.1.2.2.1 P1.2.2.2.2.2.1.2.2.2, bX4 G q1 (o1 + 36) P1.2.2.2.2.2.2.1.1 P1.2.2.2.2.2.2.1.2, bX3 G q1 (o1 + 38) P1.2.2.2.2.2.2.2.1.1 P1.2.2.2.2.2.2.2.1.2.1 P1.2.2.2.2.2.2.2.1.2.2.1 P1.2.2.2.2.2.2.2.1.2.2.2, bX0 G q1 (o1 + 43) P1.2.2.2.2.2.2.2.2.1.2.2.1 P1.2.2.2.2.2.2.2.2.1.2.2.2, bX2 G q1 ((o1 + 43) + 3) P1.2.2.2.2.2.2.2.2.1.1.1 P1.2.2.2.2.2.2.2.2.1.1.2.1 P1.2.2.2.2.2.2.2.2.1.1.2.2.1 P1.2.2.2.2.2.2.2.2.1.1.2.2.2.1 P1.2.2.2.2.2.2.2.2.1.1.2.2.2.2.1 P1.2.2.2.2.2.2.2.2.1.1.2.2.2.2.2.1 P1.2.2.2.2.2.2.2.2.1.1.2.2.2.2.2.2.1 P1.2.2.2.2.2.2.2.2.1.1.2.2.2.2.2.2.2, bX4 G q1 ((o1 + 43) + 9) P1.2.2.2.2.2.2.2.2.1.2.1.1 P1.2.2.2.2.2.2.2.2.1.2.1.2, bX7 G q1 (o1 + 54) P1.2.2.2.2.2.2.2.2.2.1 P1.2.2.2.2.2.2.2.2.2.2.1 P1.2.2.2.2.2.2.2.2.2.2.2]) hS0 (c_X10_upper l G q1 o1 P1 r13 e14) zc_X10_upper rfl gL_nights_X10_upper ⟨Nat.le_of_ble_eq_true rfl, Nat.le_of_ble_eq_true rfl⟩ hK hA hT hw (is := [0, 1, 2, 3, 4, 5, 6, 7, 8, 9, 10, 11, 12, 13]) rfl rfl rfl rfl rfl rfl rfl hl.1 rfl (Nat.le_of_ble_eq_true rfl) dL_nights_99 (fun H locs hw => ?_)
    refine lv_aload_n hx hb dL_nights_102 rfl (lv_at hl 0 rfl) ?_
    obtain ⟨r15, e16, hf⟩ := z_bd hf
    refine z_callV1 (As := []) (rest := [.long r13]) (bs' := [bX10 G q1 o1, bX9 G q1 (o1 + 1) P1.1.1 P1.1.2.1 P1.1.2.2.1 P1.1.2.2.2.1 P1.1.2.2.2.2, bX6 G q1 (o1 + 3) P1.2.1.1 P1.2.1.2, bX8 G q1 (o1 + 12) P1.2.2.1.1 P1.2.2.1.2, bX5 G q1 (o1 + 19) P1.2.2.2.1.2.1 P1.2.2.2.1.2.2.1 P1.2.2.2.1.2.2.2.1 P1.2.2.2.1.2.2.2.2, bX2 G q1 ((o1 + 19) + 2) P1.2.2.2.1.1.1 P1.2.2.2.1.1.2.1 P1.2.2.2.1.1.2.2.1 P1.2.2.2.1.1.2.2.2.1 P1.2.2.2.1.1.2.2.2.2.1 P1.2.2.2.1.1.2.2.2.2.2.1 P1.2.2.2.1.1.2.2.2.2.2.2.1 P1.2.2.2.1.1.2.2.2.2.2.2.2, bX2 G q1 (o1 + 27) P1.2.2.2.2.1.1 P1.2.2.2.2.1.2.1 P1.2.2.2.2.1.2.2.1 P1.2.2.2.2.1.2.2.2.1 P1.2.2.2.2.1.2.2.2.2.1 P1.2.2.2.2.1.2.2.2.2.2.1 P1.2.2.2.2.1.2.2.2.2.2.2.1 P1.2.2.2.2.1.2.2.2.2.2.2.2, bX1 G q1 (o1 + 33) P1.2.2.2.2.2.1.1 P1.2.2.2.2.2.1.2.1 P1.2.2.2.2.2.1.2.2.1 P1.2.2.2.2.2.1.2.2.2, bX4 G q1 (o1 + 36) P1.2.2.2.2.2.2.1.1 P1.2.2.2.2.2.2.1.2, bX3 G q1 (o1 + 38) P1.2.2.2.2.2.2.2.1.1 P1.2.2.2.2.2.2.2.1.2.1 P1.2.2.2.2.2.2.2.1.2.2.1 P1.2.2.2.2.2.2.2.1.2.2.2, bX0 G q1 (o1 + 43) P1.2.2.2.2.2.2.2.2.1.2.2.1 P1.2.2.2.2.2.2.2.2.1.2.2.2, bX2 G q1 ((o1 + 43) + 3) P1.2.2.2.2.2.2.2.2.1.1.1 P1.2.2.2.2.2.2.2.2.1.1.2.1 P1.2.2.2.2.2.2.2.2.1.1.2.2.1 P1.2.2.2.2.2.2.2.2.1.1.2.2.2.1 P1.2.2.2.2.2.2.2.2.1.1.2.2.2.2.1 P1.2.2.2.2.2.2.2.2.1.1.2.2.2.2.2.1 P1.2.2.2.2.2.2.2.2.1.1.2.2.2.2.2.2.1 P1.2.2.2.2.2.2.2.2.1.1.2.2.2.2.2.2.2, bX4 G q1 ((o1 + 43) + 9) P1.2.2.2.2.2.2.2.2.1.2.1.1 P1.2.2.2.2.2.2.2.2.1.2.1.2, bX7 G q1 (o1 + 54) P1.2.2.2.2.2.2.2.2.2.1 P1.2.2.2.2.2.2.2.2.2.2.1 P1.2.2.2.2.2.2.2.2.2.2.2]) hS0 (c_X10_lower l G q1 o1 P1 r15 e16) zc_X10_lower rfl gL_nights_X10_lower ⟨Nat.le_of_ble_eq_true rfl, Nat.le_of_ble_eq_true rfl⟩ hK hA hT hw (is := [0, 1, 2, 3, 4, 5, 6, 7, 8, 9, 10, 11, 12, 13]) rfl rfl rfl rfl rfl rfl rfl hl.1 rfl (Nat.le_of_ble_eq_true rfl) dL_nights_103 (fun H locs hw => ?_)
    refine W.lcmp hx hb dL_nights_106 ?_
    refine lv_if_gt (tgt := 133) hx hb dL_nights_107 rfl (fun hc => ?_) (fun hc => ?_)
    · have hf := z_t hc hf
      refine lv_iconst (v := 0) hx hb dL_nights_133 rfl ?_
      cases hf
      exact z_zret hx hb hr (z_nb (Or.inl rfl)) hlk hw dL_nights_134
    · have hf := z_f hc hf
      refine lv_aload_n hx hb dL_nights_110 rfl (lv_at hl 0 rfl) ?_
      obtain ⟨r17, e18, hf⟩ := z_bd hf
      refine z_callV1 (As := []) (rest := []) (bs' := [bX10 G q1 o1, bX9 G q1 (o1 + 1) P1.1.1 P1.1.2.1 P1.1.2.2.1 P1.1.2.2.2.1 P1.1.2.2.2.2, bX6 G q1 (o1 + 3) P1.2.1.1 P1.2.1.2, bX8 G q1 (o1 + 12) P1.2.2.1.1 P1.2.2.1.2, bX5 G q1 (o1 + 19) P1.2.2.2.1.2.1 P1.2.2.2.1.2.2.1 P1.2.2.2.1.2.2.2.1 P1.2.2.2.1.2.2.2.2, bX2 G q1 ((o1 + 19) + 2) P1.2.2.2.1.1.1 P1.2.2.2.1.1.2.1 P1.2.2.2.1.1.2.2.1 P1.2.2.2.1.1.2.2.2.1 P1.2.2.2.1.1.2.2.2.2.1 P1.2.2.2.1.1.2.2.2.2.2.1 P1.2.2.2.1.1.2.2.2.2.2.2.1 P1.2.2.2.1.1.2.2.2.2.2.2.2, bX2 G q1 (o1 + 27) P1.2.2.2.2.1.1 P1.2.2.2.2.1.2.1 P1.2.2.2.2.1.2.2.1 P1.2.2.2.2.1.2.2.2.1 P1.2.2.2.2.1.2.2.2.2.1 P1.2.2.2.2.1.2.2.2.2.2.1 P1.2.2.2.2.1.2.2.2.2.2.2.1 P1.2.2.2.2.1.2.2.2.2.2.2.2, bX1 G q1 (o1 + 33) P1.2.2.2.2.2.1.1 P1.2.2.2.2.2.1.2.1 P1.2.2.2.2.2.1.2.2.1 P1.2.2.2.2.2.1.2.2.2, bX4 G q1 (o1 + 36) P1.2.2.2.2.2.2.1.1 P1.2.2.2.2.2.2.1.2, bX3 G q1 (o1 + 38) P1.2.2.2.2.2.2.2.1.1 P1.2.2.2.2.2.2.2.1.2.1 P1.2.2.2.2.2.2.2.1.2.2.1 P1.2.2.2.2.2.2.2.1.2.2.2, bX0 G q1 (o1 + 43) P1.2.2.2.2.2.2.2.2.1.2.2.1 P1.2.2.2.2.2.2.2.2.1.2.2.2, bX2 G q1 ((o1 + 43) + 3) P1.2.2.2.2.2.2.2.2.1.1.1 P1.2.2.2.2.2.2.2.2.1.1.2.1 P1.2.2.2.2.2.2.2.2.1.1.2.2.1 P1.2.2.2.2.2.2.2.2.1.1.2.2.2.1 P1.2.2.2.2.2.2.2.2.1.1.2.2.2.2.1 P1.2.2.2.2.2.2.2.2.1.1.2.2.2.2.2.1 P1.2.2.2.2.2.2.2.2.1.1.2.2.2.2.2.2.1 P1.2.2.2.2.2.2.2.2.1.1.2.2.2.2.2.2.2, bX4 G q1 ((o1 + 43) + 9) P1.2.2.2.2.2.2.2.2.1.2.1.1 P1.2.2.2.2.2.2.2.2.1.2.1.2, bX7 G q1 (o1 + 54) P1.2.2.2.2.2.2.2.2.2.1 P1.2.2.2.2.2.2.2.2.2.2.1 P1.2.2.2.2.2.2.2.2.2.2.2]) hS0 (c_X10_upper l G q1 o1 P1 r17 e18) zc_X10_upper rfl gL_nights_X10_upper ⟨Nat.le_of_ble_eq_true rfl, Nat.le_of_ble_eq_true rfl⟩ hK hA hT hw (is := [0, 1, 2, 3, 4, 5, 6, 7, 8, 9, 10, 11, 12, 13]) rfl rfl rfl rfl rfl rfl rfl hl.1 rfl (Nat.le_of_ble_eq_true rfl) dL_nights_111 (fun H locs hw => ?_)
      refine lv_aload_n hx hb dL_nights_114 rfl (lv_at hl 0 rfl) ?_
      obtain ⟨r19, e20, hf⟩ := z_bd hf
      refine z_callV1 (As := []) (rest := [.long r17]) (bs' := [bX10 G q1 o1, bX9 G q1 (o1 + 1) P1.1.1 P1.1.2.1 P1.1.2.2.1 P1.1.2.2.2.1 P1.1.2.2.2.2, bX6 G q1 (o1 + 3) P1.2.1.1 P1.2.1.2, bX8 G q1 (o1 + 12) P1.2.2.1.1 P1.2.2.1.2, bX5 G q1 (o1 + 19) P1.2.2.2.1.2.1 P1.2.2.2.1.2.2.1 P1.2.2.2.1.2.2.2.1 P1.2.2.2.1.2.2.2.2, bX2 G q1 ((o1 + 19) + 2) P1.2.2.2.1.1.1 P1.2.2.2.1.1.2.1 P1.2.2.2.1.1.2.2.1 P1.2.2.2.1.1.2.2.2.1 P1.2.2.2.1.1.2.2.2.2.1 P1.2.2.2.1.1.2.2.2.2.2.1 P1.2.2.2.1.1.2.2.2.2.2.2.1 P1.2.2.2.1.1.2.2.2.2.2.2.2, bX2 G q1 (o1 + 27) P1.2.2.2.2.1.1 P1.2.2.2.2.1.2.1 P1.2.2.2.2.1.2.2.1 P1.2.2.2.2.1.2.2.2.1 P1.2.2.2.2.1.2.2.2.2.1 P1.2.2.2.2.1.2.2.2.2.2.1 P1.2.2.2.2.1.2.2.2.2.2.2.1 P1.2.2.2.2.1.2.2.2.2.2.2.2, bX1 G q1 (o1 + 33) P1.2.2.2.2.2.1.1 P1.2.2.2.2.2.1.2.1 P1.2.2.2.2.2.1.2.2.1 P1.2.2.2.2.2.1.2.2.2, bX4 G q1 (o1 + 36) P1.2.2.2.2.2.2.1.1 P1.2.2.2.2.2.2.1.2, bX3 G q1 (o1 + 38) P1.2.2.2.2.2.2.2.1.1 P1.2.2.2.2.2.2.2.1.2.1 P1.2.2.2.2.2.2.2.1.2.2.1 P1.2.2.2.2.2.2.2.1.2.2.2, bX0 G q1 (o1 + 43) P1.2.2.2.2.2.2.2.2.1.2.2.1 P1.2.2.2.2.2.2.2.2.1.2.2.2, bX2 G q1 ((o1 + 43) + 3) P1.2.2.2.2.2.2.2.2.1.1.1 P1.2.2.2.2.2.2.2.2.1.1.2.1 P1.2.2.2.2.2.2.2.2.1.1.2.2.1 P1.2.2.2.2.2.2.2.2.1.1.2.2.2.1 P1.2.2.2.2.2.2.2.2.1.1.2.2.2.2.1 P1.2.2.2.2.2.2.2.2.1.1.2.2.2.2.2.1 P1.2.2.2.2.2.2.2.2.1.1.2.2.2.2.2.2.1 P1.2.2.2.2.2.2.2.2.1.1.2.2.2.2.2.2.2, bX4 G q1 ((o1 + 43) + 9) P1.2.2.2.2.2.2.2.2.1.2.1.1 P1.2.2.2.2.2.2.2.2.1.2.1.2, bX7 G q1 (o1 + 54) P1.2.2.2.2.2.2.2.2.2.1 P1.2.2.2.2.2.2.2.2.2.2.1 P1.2.2.2.2.2.2.2.2.2.2.2]) hS0 (c_X10_lower l G q1 o1 P1 r19 e20) zc_X10_lower rfl gL_nights_X10_lower ⟨Nat.le_of_ble_eq_true rfl, Nat.le_of_ble_eq_true rfl⟩ hK hA hT hw (is := [0, 1, 2, 3, 4, 5, 6, 7, 8, 9, 10, 11, 12, 13]) rfl rfl rfl rfl rfl rfl rfl hl.1 rfl (Nat.le_of_ble_eq_true rfl) dL_nights_115 (fun H locs hw => ?_)
      refine W.lcmp hx hb dL_nights_118 ?_
      refine lv_if_eq (tgt := 133) hx hb dL_nights_119 rfl (fun hc => ?_) (fun hc => ?_)
      · have hf := z_t hc hf
        refine lv_iconst (v := 0) hx hb dL_nights_133 rfl ?_
        cases hf
        exact z_zret hx hb hr (z_nb (Or.inl rfl)) hlk hw dL_nights_134
      · have hf := z_f hc hf
        refine lv_aload_n hx hb dL_nights_122 rfl (lv_at hl 0 rfl) ?_
        refine lv_iload hx hb dL_nights_123 (lv_at hl 3 rfl) ?_
        refine lv_iload hx hb dL_nights_125 (lv_at hl 4 rfl) ?_
        obtain ⟨r21, e22, hf⟩ := z_bd hf
        refine z_callV1 (As := [.int v7, .int v8]) (rest := []) (bs' := [bX10 G q1 o1, bX9 G q1 (o1 + 1) r21.2.1.1 r21.2.1.2.1 r21.2.1.2.2.1 r21.2.1.2.2.2.1 r21.2.1.2.2.2.2, bX6 G q1 (o1 + 3) r21.2.2.1.1 r21.2.2.1.2, bX8 G q1 (o1 + 12) r21.2.2.2.1.1 r21.2.2.2.1.2, bX5 G q1 (o1 + 19) r21.2.2.2.2.1.2.1 r21.2.2.2.2.1.2.2.1 r21.2.2.2.2.1.2.2.2.1 r21.2.2.2.2.1.2.2.2.2, bX2 G q1 ((o1 + 19) + 2) r21.2.2.2.2.1.1.1 r21.2.2.2.2.1.1.2.1 r21.2.2.2.2.1.1.2.2.1 r21.2.2.2.2.1.1.2.2.2.1 r21.2.2.2.2.1.1.2.2.2.2.1 r21.2.2.2.2.1.1.2.2.2.2.2.1 r21.2.2.2.2.1.1.2.2.2.2.2.2.1 r21.2.2.2.2.1.1.2.2.2.2.2.2.2, bX2 G q1 (o1 + 27) r21.2.2.2.2.2.1.1 r21.2.2.2.2.2.1.2.1 r21.2.2.2.2.2.1.2.2.1 r21.2.2.2.2.2.1.2.2.2.1 r21.2.2.2.2.2.1.2.2.2.2.1 r21.2.2.2.2.2.1.2.2.2.2.2.1 r21.2.2.2.2.2.1.2.2.2.2.2.2.1 r21.2.2.2.2.2.1.2.2.2.2.2.2.2, bX1 G q1 (o1 + 33) r21.2.2.2.2.2.2.1.1 r21.2.2.2.2.2.2.1.2.1 r21.2.2.2.2.2.2.1.2.2.1 r21.2.2.2.2.2.2.1.2.2.2, bX4 G q1 (o1 + 36) r21.2.2.2.2.2.2.2.1.1 r21.2.2.2.2.2.2.2.1.2, bX3 G q1 (o1 + 38) r21.2.2.2.2.2.2.2.2.1.1 r21.2.2.2.2.2.2.2.2.1.2.1 r21.2.2.2.2.2.2.2.2.1.2.2.1 r21.2.2.2.2.2.2.2.2.1.2.2.2, bX0 G q1 (o1 + 43) r21.2.2.2.2.2.2.2.2.2.1.2.2.1 r21.2.2.2.2.2.2.2.2.2.1.2.2.2, bX2 G q1 ((o1 + 43) + 3) r21.2.2.2.2.2.2.2.2.2.1.1.1 r21.2.2.2.2.2.2.2.2.2.1.1.2.1 r21.2.2.2.2.2.2.2.2.2.1.1.2.2.1 r21.2.2.2.2.2.2.2.2.2.1.1.2.2.2.1 r21.2.2.2.2.2.2.2.2.2.1.1.2.2.2.2.1 r21.2.2.2.2.2.2.2.2.2.1.1.2.2.2.2.2.1 r21.2.2.2.2.2.2.2.2.2.1.1.2.2.2.2.2.2.1 r21.2.2.2.2.2.2.2.2.2.1.1.2.2.2.2.2.2.2, bX4 G q1 ((o1 + 43) + 9) r21.2.2.2.2.2.2.2.2.2.1.2.1.1 r21.2.2.2.2.2.2.2.2.2.1.2.1.2, bX7 G q1 (o1 + 54) r21.2.2.2.2.2.2.2.2.2.2.1 r21.2.2.2.2.2.2.2.2.2.2.2.1 r21.2.2.2.2.2.2.2.2.2.2.2.2]) hS0 (c_X10_saw l G q1 o1 P1 v7 v8 r21 e22) zc_X10_saw rfl gL_nights_X10_saw ⟨Nat.le_of_ble_eq_true rfl, Nat.le_of_ble_eq_true rfl⟩ hK hA hT hw (is := [0, 1, 2, 3, 4, 5, 6, 7, 8, 9, 10, 11, 12, 13]) rfl rfl rfl rfl rfl rfl rfl hl.1 rfl (Nat.le_of_ble_eq_true rfl) dL_nights_127 (fun H locs hw => ?_)
        refine lv_if_eq (tgt := 135) hx hb dL_nights_130 rfl (fun hc => ?_) (fun hc => ?_)
        · have hf := z_t hc hf
          refine lv_aload_n hx hb dL_nights_135 rfl (lv_at hl 0 rfl) ?_
          refine lv_iload hx hb dL_nights_136 (lv_at hl 1 rfl) ?_
          obtain ⟨r23, e24, hf⟩ := z_bd hf
          refine z_callV1 (As := [.int v4]) (rest := []) (bs' := [bX10 G q1 o1, bX9 G q1 (o1 + 1) r23.2.1.1 r23.2.1.2.1 r23.2.1.2.2.1 r23.2.1.2.2.2.1 r23.2.1.2.2.2.2, bX6 G q1 (o1 + 3) r23.2.2.1.1 r23.2.2.1.2, bX8 G q1 (o1 + 12) r23.2.2.2.1.1 r23.2.2.2.1.2, bX5 G q1 (o1 + 19) r23.2.2.2.2.1.2.1 r23.2.2.2.2.1.2.2.1 r23.2.2.2.2.1.2.2.2.1 r23.2.2.2.2.1.2.2.2.2, bX2 G q1 ((o1 + 19) + 2) r23.2.2.2.2.1.1.1 r23.2.2.2.2.1.1.2.1 r23.2.2.2.2.1.1.2.2.1 r23.2.2.2.2.1.1.2.2.2.1 r23.2.2.2.2.1.1.2.2.2.2.1 r23.2.2.2.2.1.1.2.2.2.2.2.1 r23.2.2.2.2.1.1.2.2.2.2.2.2.1 r23.2.2.2.2.1.1.2.2.2.2.2.2.2, bX2 G q1 (o1 + 27) r23.2.2.2.2.2.1.1 r23.2.2.2.2.2.1.2.1 r23.2.2.2.2.2.1.2.2.1 r23.2.2.2.2.2.1.2.2.2.1 r23.2.2.2.2.2.1.2.2.2.2.1 r23.2.2.2.2.2.1.2.2.2.2.2.1 r23.2.2.2.2.2.1.2.2.2.2.2.2.1 r23.2.2.2.2.2.1.2.2.2.2.2.2.2, bX1 G q1 (o1 + 33) r23.2.2.2.2.2.2.1.1 r23.2.2.2.2.2.2.1.2.1 r23.2.2.2.2.2.2.1.2.2.1 r23.2.2.2.2.2.2.1.2.2.2, bX4 G q1 (o1 + 36) r23.2.2.2.2.2.2.2.1.1 r23.2.2.2.2.2.2.2.1.2, bX3 G q1 (o1 + 38) r23.2.2.2.2.2.2.2.2.1.1 r23.2.2.2.2.2.2.2.2.1.2.1 r23.2.2.2.2.2.2.2.2.1.2.2.1 r23.2.2.2.2.2.2.2.2.1.2.2.2, bX0 G q1 (o1 + 43) r23.2.2.2.2.2.2.2.2.2.1.2.2.1 r23.2.2.2.2.2.2.2.2.2.1.2.2.2, bX2 G q1 ((o1 + 43) + 3) r23.2.2.2.2.2.2.2.2.2.1.1.1 r23.2.2.2.2.2.2.2.2.2.1.1.2.1 r23.2.2.2.2.2.2.2.2.2.1.1.2.2.1 r23.2.2.2.2.2.2.2.2.2.1.1.2.2.2.1 r23.2.2.2.2.2.2.2.2.2.1.1.2.2.2.2.1 r23.2.2.2.2.2.2.2.2.2.1.1.2.2.2.2.2.1 r23.2.2.2.2.2.2.2.2.2.1.1.2.2.2.2.2.2.1 r23.2.2.2.2.2.2.2.2.2.1.1.2.2.2.2.2.2.2, bX4 G q1 ((o1 + 43) + 9) r23.2.2.2.2.2.2.2.2.2.1.2.1.1 r23.2.2.2.2.2.2.2.2.2.1.2.1.2, bX7 G q1 (o1 + 54) r23.2.2.2.2.2.2.2.2.2.2.1 r23.2.2.2.2.2.2.2.2.2.2.2.1 r23.2.2.2.2.2.2.2.2.2.2.2.2]) hS0 (c_X10_culprits l G q1 o1 r21.2 v4 r23 e24) zc_X10_culprits rfl gL_nights_X10_culprits ⟨Nat.le_of_ble_eq_true rfl, Nat.le_of_ble_eq_true rfl⟩ hK hA hT hw (is := [0, 1, 2, 3, 4, 5, 6, 7, 8, 9, 10, 11, 12, 13]) rfl rfl rfl rfl rfl rfl rfl hl.1 rfl (Nat.le_of_ble_eq_true rfl) dL_nights_138 (fun H locs hw => ?_)
          refine lv_istore (lv' := [(10, .int r23.1), (0, .ref (q1 (o1 + 0))), (4, .int v4), (5, .int v5), (7, .int v7), (8, .int v8), (9, .int v9)]) hx hb dL_nights_141 hl (by decide) rfl (fun ls hl => ?_)
          refine lv_aload_n hx hb dL_nights_143 rfl (lv_at hl 1 rfl) ?_
          obtain ⟨r25, e26, hf⟩ := z_bd hf
          refine z_callV1 (As := []) (rest := []) (bs' := [bX10 G q1 o1, bX9 G q1 (o1 + 1) r23.2.1.1 r23.2.1.2.1 r23.2.1.2.2.1 r23.2.1.2.2.2.1 r23.2.1.2.2.2.2, bX6 G q1 (o1 + 3) r23.2.2.1.1 r23.2.2.1.2, bX8 G q1 (o1 + 12) r23.2.2.2.1.1 r23.2.2.2.1.2, bX5 G q1 (o1 + 19) r23.2.2.2.2.1.2.1 r23.2.2.2.2.1.2.2.1 r23.2.2.2.2.1.2.2.2.1 r23.2.2.2.2.1.2.2.2.2, bX2 G q1 ((o1 + 19) + 2) r23.2.2.2.2.1.1.1 r23.2.2.2.2.1.1.2.1 r23.2.2.2.2.1.1.2.2.1 r23.2.2.2.2.1.1.2.2.2.1 r23.2.2.2.2.1.1.2.2.2.2.1 r23.2.2.2.2.1.1.2.2.2.2.2.1 r23.2.2.2.2.1.1.2.2.2.2.2.2.1 r23.2.2.2.2.1.1.2.2.2.2.2.2.2, bX2 G q1 (o1 + 27) r23.2.2.2.2.2.1.1 r23.2.2.2.2.2.1.2.1 r23.2.2.2.2.2.1.2.2.1 r23.2.2.2.2.2.1.2.2.2.1 r23.2.2.2.2.2.1.2.2.2.2.1 r23.2.2.2.2.2.1.2.2.2.2.2.1 r23.2.2.2.2.2.1.2.2.2.2.2.2.1 r23.2.2.2.2.2.1.2.2.2.2.2.2.2, bX1 G q1 (o1 + 33) r23.2.2.2.2.2.2.1.1 r23.2.2.2.2.2.2.1.2.1 r23.2.2.2.2.2.2.1.2.2.1 r23.2.2.2.2.2.2.1.2.2.2, bX4 G q1 (o1 + 36) r23.2.2.2.2.2.2.2.1.1 r23.2.2.2.2.2.2.2.1.2, bX3 G q1 (o1 + 38) r23.2.2.2.2.2.2.2.2.1.1 r23.2.2.2.2.2.2.2.2.1.2.1 r23.2.2.2.2.2.2.2.2.1.2.2.1 r23.2.2.2.2.2.2.2.2.1.2.2.2, bX0 G q1 (o1 + 43) r23.2.2.2.2.2.2.2.2.2.1.2.2.1 r23.2.2.2.2.2.2.2.2.2.1.2.2.2, bX2 G q1 ((o1 + 43) + 3) r23.2.2.2.2.2.2.2.2.2.1.1.1 r23.2.2.2.2.2.2.2.2.2.1.1.2.1 r23.2.2.2.2.2.2.2.2.2.1.1.2.2.1 r23.2.2.2.2.2.2.2.2.2.1.1.2.2.2.1 r23.2.2.2.2.2.2.2.2.2.1.1.2.2.2.2.1 r23.2.2.2.2.2.2.2.2.2.1.1.2.2.2.2.2.1 r23.2.2.2.2.2.2.2.2.2.1.1.2.2.2.2.2.2.1 r23.2.2.2.2.2.2.2.2.2.1.1.2.2.2.2.2.2.2, bX4 G q1 ((o1 + 43) + 9) r23.2.2.2.2.2.2.2.2.2.1.2.1.1 r23.2.2.2.2.2.2.2.2.2.1.2.1.2, bX7 G q1 (o1 + 54) r23.2.2.2.2.2.2.2.2.2.2.1 r23.2.2.2.2.2.2.2.2.2.2.2.1 r23.2.2.2.2.2.2.2.2.2.2.2.2]) hS0 (c_X10_asked l G q1 o1 r23.2 r25 e26) zc_X10_asked rfl gL_nights_X10_asked ⟨Nat.le_of_ble_eq_true rfl, Nat.le_of_ble_eq_true rfl⟩ hK hA hT hw (is := [0, 1, 2, 3, 4, 5, 6, 7, 8, 9, 10, 11, 12, 13]) rfl rfl rfl rfl rfl rfl rfl hl.1 rfl (Nat.le_of_ble_eq_true rfl) dL_nights_144 (fun H locs hw => ?_)
          refine lv_istore (lv' := [(11, .int r25), (10, .int r23.1), (0, .ref (q1 (o1 + 0))), (4, .int v4), (5, .int v5), (7, .int v7), (8, .int v8), (9, .int v9)]) hx hb dL_nights_147 hl (by decide) rfl (fun ls hl => ?_)
          refine lv_iload hx hb dL_nights_149 (lv_at hl 6 rfl) ?_
          refine lv_iconst (v := 1) hx hb dL_nights_151 rfl ?_
          refine lv_icmp_ne (tgt := 178) hx hb dL_nights_152 rfl (fun hc => ?_) (fun hc => ?_)
          · have hf := z_f hc hf
            exact k_L_nights_178 hZ _ _ _ _ _ _ _ _ _ _ _ hf hw (lv_sub hl [2, 3, 4, 5, 6, 1, 0] rfl)
          · have hf := z_t hc hf
            refine lv_iload hx hb dL_nights_155 (lv_at hl 1 rfl) ?_
            refine lv_if_lt (tgt := 164) hx hb dL_nights_157 rfl (fun hc => ?_) (fun hc => ?_)
            · have hf := z_t hc hf
              refine lv_iconst (v := 0) hx hb dL_nights_164 rfl ?_
              exact k_L_nights_165 hZ _ _ _ _ _ _ _ _ _ _ _ _ _ hf hw (lv_sub hl [2, 3, 4, 5, 6, 7, 1, 0] rfl)
            · have hf := z_f hc hf
              refine lv_iconst (v := 1) hx hb dL_nights_160 rfl ?_
              refine lv_goto (tgt := 165) hx hb dL_nights_161 rfl ?_
              exact k_L_nights_165 hZ _ _ _ _ _ _ _ _ _ _ _ _ _ hf hw (lv_sub hl [2, 3, 4, 5, 6, 7, 1, 0] rfl)
        · have hf := z_f hc hf
          refine lv_iconst (v := 0) hx hb dL_nights_133 rfl ?_
          cases hf
          exact z_zret hx hb hr (z_nb (Or.inl rfl)) hlk hw dL_nights_134
set_option maxHeartbeats 4000000 in
set_option maxRecDepth 100000 in
theorem c_L_nights (l : Launch) (G : zG) (q1 : Nat → Nat) (o1 : Nat) (P1 : VX10) (v2 : Int32) (v3 : Int32) (y : Int32 × VX10) (hf : f_L_nights (zX G) P1 v2 v3 = some y) : zMet l yL_nights wsL_nights 6 152 G [.ref (q1 (o1 + 0)), .ref (zb G), .int v2, .int v3] [bX10 G q1 o1, bX9 G q1 (o1 + 1) P1.1.1 P1.1.2.1 P1.1.2.2.1 P1.1.2.2.2.1 P1.1.2.2.2.2, bX6 G q1 (o1 + 3) P1.2.1.1 P1.2.1.2, bX8 G q1 (o1 + 12) P1.2.2.1.1 P1.2.2.1.2, bX5 G q1 (o1 + 19) P1.2.2.2.1.2.1 P1.2.2.2.1.2.2.1 P1.2.2.2.1.2.2.2.1 P1.2.2.2.1.2.2.2.2, bX2 G q1 ((o1 + 19) + 2) P1.2.2.2.1.1.1 P1.2.2.2.1.1.2.1 P1.2.2.2.1.1.2.2.1 P1.2.2.2.1.1.2.2.2.1 P1.2.2.2.1.1.2.2.2.2.1 P1.2.2.2.1.1.2.2.2.2.2.1 P1.2.2.2.1.1.2.2.2.2.2.2.1 P1.2.2.2.1.1.2.2.2.2.2.2.2, bX2 G q1 (o1 + 27) P1.2.2.2.2.1.1 P1.2.2.2.2.1.2.1 P1.2.2.2.2.1.2.2.1 P1.2.2.2.2.1.2.2.2.1 P1.2.2.2.2.1.2.2.2.2.1 P1.2.2.2.2.1.2.2.2.2.2.1 P1.2.2.2.2.1.2.2.2.2.2.2.1 P1.2.2.2.2.1.2.2.2.2.2.2.2, bX1 G q1 (o1 + 33) P1.2.2.2.2.2.1.1 P1.2.2.2.2.2.1.2.1 P1.2.2.2.2.2.1.2.2.1 P1.2.2.2.2.2.1.2.2.2, bX4 G q1 (o1 + 36) P1.2.2.2.2.2.2.1.1 P1.2.2.2.2.2.2.1.2, bX3 G q1 (o1 + 38) P1.2.2.2.2.2.2.2.1.1 P1.2.2.2.2.2.2.2.1.2.1 P1.2.2.2.2.2.2.2.1.2.2.1 P1.2.2.2.2.2.2.2.1.2.2.2, bX0 G q1 (o1 + 43) P1.2.2.2.2.2.2.2.2.1.2.2.1 P1.2.2.2.2.2.2.2.2.1.2.2.2, bX2 G q1 ((o1 + 43) + 3) P1.2.2.2.2.2.2.2.2.1.1.1 P1.2.2.2.2.2.2.2.2.1.1.2.1 P1.2.2.2.2.2.2.2.2.1.1.2.2.1 P1.2.2.2.2.2.2.2.2.1.1.2.2.2.1 P1.2.2.2.2.2.2.2.2.1.1.2.2.2.2.1 P1.2.2.2.2.2.2.2.2.1.1.2.2.2.2.2.1 P1.2.2.2.2.2.2.2.2.1.1.2.2.2.2.2.2.1 P1.2.2.2.2.2.2.2.2.1.1.2.2.2.2.2.2.2, bX4 G q1 ((o1 + 43) + 9) P1.2.2.2.2.2.2.2.2.1.2.1.1 P1.2.2.2.2.2.2.2.2.1.2.1.2, bX7 G q1 (o1 + 54) P1.2.2.2.2.2.2.2.2.2.1 P1.2.2.2.2.2.2.2.2.2.2.1 P1.2.2.2.2.2.2.2.2.2.2.2] (some (.int y.1)) [bX10 G q1 o1, bX9 G q1 (o1 + 1) y.2.1.1 y.2.1.2.1 y.2.1.2.2.1 y.2.1.2.2.2.1 y.2.1.2.2.2.2, bX6 G q1 (o1 + 3) y.2.2.1.1 y.2.2.1.2, bX8 G q1 (o1 + 12) y.2.2.2.1.1 y.2.2.2.1.2, bX5 G q1 (o1 + 19) y.2.2.2.2.1.2.1 y.2.2.2.2.1.2.2.1 y.2.2.2.2.1.2.2.2.1 y.2.2.2.2.1.2.2.2.2, bX2 G q1 ((o1 + 19) + 2) y.2.2.2.2.1.1.1 y.2.2.2.2.1.1.2.1 y.2.2.2.2.1.1.2.2.1 y.2.2.2.2.1.1.2.2.2.1 y.2.2.2.2.1.1.2.2.2.2.1 y.2.2.2.2.1.1.2.2.2.2.2.1 y.2.2.2.2.1.1.2.2.2.2.2.2.1 y.2.2.2.2.1.1.2.2.2.2.2.2.2, bX2 G q1 (o1 + 27) y.2.2.2.2.2.1.1 y.2.2.2.2.2.1.2.1 y.2.2.2.2.2.1.2.2.1 y.2.2.2.2.2.1.2.2.2.1 y.2.2.2.2.2.1.2.2.2.2.1 y.2.2.2.2.2.1.2.2.2.2.2.1 y.2.2.2.2.2.1.2.2.2.2.2.2.1 y.2.2.2.2.2.1.2.2.2.2.2.2.2, bX1 G q1 (o1 + 33) y.2.2.2.2.2.2.1.1 y.2.2.2.2.2.2.1.2.1 y.2.2.2.2.2.2.1.2.2.1 y.2.2.2.2.2.2.1.2.2.2, bX4 G q1 (o1 + 36) y.2.2.2.2.2.2.2.1.1 y.2.2.2.2.2.2.2.1.2, bX3 G q1 (o1 + 38) y.2.2.2.2.2.2.2.2.1.1 y.2.2.2.2.2.2.2.2.1.2.1 y.2.2.2.2.2.2.2.2.1.2.2.1 y.2.2.2.2.2.2.2.2.1.2.2.2, bX0 G q1 (o1 + 43) y.2.2.2.2.2.2.2.2.2.1.2.2.1 y.2.2.2.2.2.2.2.2.2.1.2.2.2, bX2 G q1 ((o1 + 43) + 3) y.2.2.2.2.2.2.2.2.2.1.1.1 y.2.2.2.2.2.2.2.2.2.1.1.2.1 y.2.2.2.2.2.2.2.2.2.1.1.2.2.1 y.2.2.2.2.2.2.2.2.2.1.1.2.2.2.1 y.2.2.2.2.2.2.2.2.2.1.1.2.2.2.2.1 y.2.2.2.2.2.2.2.2.2.1.1.2.2.2.2.2.1 y.2.2.2.2.2.2.2.2.2.1.1.2.2.2.2.2.2.1 y.2.2.2.2.2.2.2.2.2.1.1.2.2.2.2.2.2.2, bX4 G q1 ((o1 + 43) + 9) y.2.2.2.2.2.2.2.2.2.1.2.1.1 y.2.2.2.2.2.2.2.2.2.1.2.1.2, bX7 G q1 (o1 + 54) y.2.2.2.2.2.2.2.2.2.2.1 y.2.2.2.2.2.2.2.2.2.2.2.1 y.2.2.2.2.2.2.2.2.2.2.2.2] := by
  refine z_met zc_L_nights (Nat.le_of_ble_eq_true rfl) ?_
  intro p e s m below meth c A ls hZ hl hw
  have hl : lv_has ls 12 [(0, .ref (q1 (o1 + 0))), (1, .ref (zb G)), (2, .int v2), (3, .int v3)] := hl
  obtain ⟨hS0, hr, hlk, hK, hA, hT⟩ := id hZ
  have hx := hS0.1
  have hb := hS0.2.1
  have hml := hS0.2.2.1
  have hown : s.vm.findClass RL = some m.cls := hS0.2.2.2.1
  have hts := hS0.2.2.2.2
  unfold f_L_nights at hf
  refine lv_aload_n hx hb dL_nights_0 rfl (lv_at hl 1 rfl) ?_
  refine lv_iconst (v := 0) hx hb dL_nights_1 rfl ?_
  obtain ⟨r27, e28, hf⟩ := z_bd hf
  refine z_callS1 (As := [.ref (zb G), .int 0]) (rest := []) (bs' := [bX10 G q1 o1, bX9 G q1 (o1 + 1) P1.1.1 P1.1.2.1 P1.1.2.2.1 P1.1.2.2.2.1 P1.1.2.2.2.2, bX6 G q1 (o1 + 3) P1.2.1.1 P1.2.1.2, bX8 G q1 (o1 + 12) P1.2.2.1.1 P1.2.2.1.2, bX5 G q1 (o1 + 19) P1.2.2.2.1.2.1 P1.2.2.2.1.2.2.1 P1.2.2.2.1.2.2.2.1 P1.2.2.2.1.2.2.2.2, bX2 G q1 ((o1 + 19) + 2) P1.2.2.2.1.1.1 P1.2.2.2.1.1.2.1 P1.2.2.2.1.1.2.2.1 P1.2.2.2.1.1.2.2.2.1 P1.2.2.2.1.1.2.2.2.2.1 P1.2.2.2.1.1.2.2.2.2.2.1 P1.2.2.2.1.1.2.2.2.2.2.2.1 P1.2.2.2.1.1.2.2.2.2.2.2.2, bX2 G q1 (o1 + 27) P1.2.2.2.2.1.1 P1.2.2.2.2.1.2.1 P1.2.2.2.2.1.2.2.1 P1.2.2.2.2.1.2.2.2.1 P1.2.2.2.2.1.2.2.2.2.1 P1.2.2.2.2.1.2.2.2.2.2.1 P1.2.2.2.2.1.2.2.2.2.2.2.1 P1.2.2.2.2.1.2.2.2.2.2.2.2, bX1 G q1 (o1 + 33) P1.2.2.2.2.2.1.1 P1.2.2.2.2.2.1.2.1 P1.2.2.2.2.2.1.2.2.1 P1.2.2.2.2.2.1.2.2.2, bX4 G q1 (o1 + 36) P1.2.2.2.2.2.2.1.1 P1.2.2.2.2.2.2.1.2, bX3 G q1 (o1 + 38) P1.2.2.2.2.2.2.2.1.1 P1.2.2.2.2.2.2.2.1.2.1 P1.2.2.2.2.2.2.2.1.2.2.1 P1.2.2.2.2.2.2.2.1.2.2.2, bX0 G q1 (o1 + 43) P1.2.2.2.2.2.2.2.2.1.2.2.1 P1.2.2.2.2.2.2.2.2.1.2.2.2, bX2 G q1 ((o1 + 43) + 3) P1.2.2.2.2.2.2.2.2.1.1.1 P1.2.2.2.2.2.2.2.2.1.1.2.1 P1.2.2.2.2.2.2.2.2.1.1.2.2.1 P1.2.2.2.2.2.2.2.2.1.1.2.2.2.1 P1.2.2.2.2.2.2.2.2.1.1.2.2.2.2.1 P1.2.2.2.2.2.2.2.2.1.1.2.2.2.2.2.1 P1.2.2.2.2.2.2.2.2.1.1.2.2.2.2.2.2.1 P1.2.2.2.2.2.2.2.2.1.1.2.2.2.2.2.2.2, bX4 G q1 ((o1 + 43) + 9) P1.2.2.2.2.2.2.2.2.1.2.1.1 P1.2.2.2.2.2.2.2.2.1.2.1.2, bX7 G q1 (o1 + 54) P1.2.2.2.2.2.2.2.2.2.1 P1.2.2.2.2.2.2.2.2.2.2.1 P1.2.2.2.2.2.2.2.2.2.2.2]) hS0 (c_L_cell l G 0 r27 e28) zc_L_cell gL_nights_L_cell ⟨Nat.le_of_ble_eq_true rfl, Nat.le_of_ble_eq_true rfl⟩ hK hA hT hw (is := []) rfl rfl rfl rfl rfl hl.1 rfl (Nat.le_of_ble_eq_true rfl) dL_nights_2 (fun H locs hw => ?_)
  refine lv_bipush (v := 20) hx hb dL_nights_5 rfl ?_
  refine lv_irem hx hb dL_nights_7 (by decide) ?_
  refine lv_istore (lv' := [(4, .int (r27 - r27 / 20 * 20)), (0, .ref (q1 (o1 + 0))), (1, .ref (zb G)), (2, .int v2), (3, .int v3)]) hx hb dL_nights_8 hl (by decide) rfl (fun ls hl => ?_)
  refine lv_aload_n hx hb dL_nights_10 rfl (lv_at hl 1 rfl) ?_
  refine lv_iload hx hb dL_nights_11 (lv_at hl 0 rfl) ?_
  obtain ⟨r29, e30, hf⟩ := z_bd hf
  refine z_callV1 (As := [.int (r27 - r27 / 20 * 20)]) (rest := []) (bs' := [bX10 G q1 o1, bX9 G q1 (o1 + 1) r29.2.1.1 r29.2.1.2.1 r29.2.1.2.2.1 r29.2.1.2.2.2.1 r29.2.1.2.2.2.2, bX6 G q1 (o1 + 3) r29.2.2.1.1 r29.2.2.1.2, bX8 G q1 (o1 + 12) r29.2.2.2.1.1 r29.2.2.2.1.2, bX5 G q1 (o1 + 19) r29.2.2.2.2.1.2.1 r29.2.2.2.2.1.2.2.1 r29.2.2.2.2.1.2.2.2.1 r29.2.2.2.2.1.2.2.2.2, bX2 G q1 ((o1 + 19) + 2) r29.2.2.2.2.1.1.1 r29.2.2.2.2.1.1.2.1 r29.2.2.2.2.1.1.2.2.1 r29.2.2.2.2.1.1.2.2.2.1 r29.2.2.2.2.1.1.2.2.2.2.1 r29.2.2.2.2.1.1.2.2.2.2.2.1 r29.2.2.2.2.1.1.2.2.2.2.2.2.1 r29.2.2.2.2.1.1.2.2.2.2.2.2.2, bX2 G q1 (o1 + 27) r29.2.2.2.2.2.1.1 r29.2.2.2.2.2.1.2.1 r29.2.2.2.2.2.1.2.2.1 r29.2.2.2.2.2.1.2.2.2.1 r29.2.2.2.2.2.1.2.2.2.2.1 r29.2.2.2.2.2.1.2.2.2.2.2.1 r29.2.2.2.2.2.1.2.2.2.2.2.2.1 r29.2.2.2.2.2.1.2.2.2.2.2.2.2, bX1 G q1 (o1 + 33) r29.2.2.2.2.2.2.1.1 r29.2.2.2.2.2.2.1.2.1 r29.2.2.2.2.2.2.1.2.2.1 r29.2.2.2.2.2.2.1.2.2.2, bX4 G q1 (o1 + 36) r29.2.2.2.2.2.2.2.1.1 r29.2.2.2.2.2.2.2.1.2, bX3 G q1 (o1 + 38) r29.2.2.2.2.2.2.2.2.1.1 r29.2.2.2.2.2.2.2.2.1.2.1 r29.2.2.2.2.2.2.2.2.1.2.2.1 r29.2.2.2.2.2.2.2.2.1.2.2.2, bX0 G q1 (o1 + 43) r29.2.2.2.2.2.2.2.2.2.1.2.2.1 r29.2.2.2.2.2.2.2.2.2.1.2.2.2, bX2 G q1 ((o1 + 43) + 3) r29.2.2.2.2.2.2.2.2.2.1.1.1 r29.2.2.2.2.2.2.2.2.2.1.1.2.1 r29.2.2.2.2.2.2.2.2.2.1.1.2.2.1 r29.2.2.2.2.2.2.2.2.2.1.1.2.2.2.1 r29.2.2.2.2.2.2.2.2.2.1.1.2.2.2.2.1 r29.2.2.2.2.2.2.2.2.2.1.1.2.2.2.2.2.1 r29.2.2.2.2.2.2.2.2.2.1.1.2.2.2.2.2.2.1 r29.2.2.2.2.2.2.2.2.2.1.1.2.2.2.2.2.2.2, bX4 G q1 ((o1 + 43) + 9) r29.2.2.2.2.2.2.2.2.2.1.2.1.1 r29.2.2.2.2.2.2.2.2.2.1.2.1.2, bX7 G q1 (o1 + 54) r29.2.2.2.2.2.2.2.2.2.2.1 r29.2.2.2.2.2.2.2.2.2.2.2.1 r29.2.2.2.2.2.2.2.2.2.2.2.2]) hS0 (c_X10_culprits l G q1 o1 P1 (r27 - r27 / 20 * 20) r29 e30) zc_X10_culprits rfl gL_nights_X10_culprits ⟨Nat.le_of_ble_eq_true rfl, Nat.le_of_ble_eq_true rfl⟩ hK hA hT hw (is := [0, 1, 2, 3, 4, 5, 6, 7, 8, 9, 10, 11, 12, 13]) rfl rfl rfl rfl rfl rfl rfl hl.1 rfl (Nat.le_of_ble_eq_true rfl) dL_nights_13 (fun H locs hw => ?_)
  refine lv_istore (lv' := [(5, .int r29.1), (4, .int (r27 - r27 / 20 * 20)), (0, .ref (q1 (o1 + 0))), (1, .ref (zb G)), (2, .int v2), (3, .int v3)]) hx hb dL_nights_16 hl (by decide) rfl (fun ls hl => ?_)
  refine lv_aload_n hx hb dL_nights_18 rfl (lv_at hl 2 rfl) ?_
  obtain ⟨r31, e32, hf⟩ := z_bd hf
  refine z_callV1 (As := []) (rest := []) (bs' := [bX10 G q1 o1, bX9 G q1 (o1 + 1) r29.2.1.1 r29.2.1.2.1 r29.2.1.2.2.1 r29.2.1.2.2.2.1 r29.2.1.2.2.2.2, bX6 G q1 (o1 + 3) r29.2.2.1.1 r29.2.2.1.2, bX8 G q1 (o1 + 12) r29.2.2.2.1.1 r29.2.2.2.1.2, bX5 G q1 (o1 + 19) r29.2.2.2.2.1.2.1 r29.2.2.2.2.1.2.2.1 r29.2.2.2.2.1.2.2.2.1 r29.2.2.2.2.1.2.2.2.2, bX2 G q1 ((o1 + 19) + 2) r29.2.2.2.2.1.1.1 r29.2.2.2.2.1.1.2.1 r29.2.2.2.2.1.1.2.2.1 r29.2.2.2.2.1.1.2.2.2.1 r29.2.2.2.2.1.1.2.2.2.2.1 r29.2.2.2.2.1.1.2.2.2.2.2.1 r29.2.2.2.2.1.1.2.2.2.2.2.2.1 r29.2.2.2.2.1.1.2.2.2.2.2.2.2, bX2 G q1 (o1 + 27) r29.2.2.2.2.2.1.1 r29.2.2.2.2.2.1.2.1 r29.2.2.2.2.2.1.2.2.1 r29.2.2.2.2.2.1.2.2.2.1 r29.2.2.2.2.2.1.2.2.2.2.1 r29.2.2.2.2.2.1.2.2.2.2.2.1 r29.2.2.2.2.2.1.2.2.2.2.2.2.1 r29.2.2.2.2.2.1.2.2.2.2.2.2.2, bX1 G q1 (o1 + 33) r29.2.2.2.2.2.2.1.1 r29.2.2.2.2.2.2.1.2.1 r29.2.2.2.2.2.2.1.2.2.1 r29.2.2.2.2.2.2.1.2.2.2, bX4 G q1 (o1 + 36) r29.2.2.2.2.2.2.2.1.1 r29.2.2.2.2.2.2.2.1.2, bX3 G q1 (o1 + 38) r29.2.2.2.2.2.2.2.2.1.1 r29.2.2.2.2.2.2.2.2.1.2.1 r29.2.2.2.2.2.2.2.2.1.2.2.1 r29.2.2.2.2.2.2.2.2.1.2.2.2, bX0 G q1 (o1 + 43) r29.2.2.2.2.2.2.2.2.2.1.2.2.1 r29.2.2.2.2.2.2.2.2.2.1.2.2.2, bX2 G q1 ((o1 + 43) + 3) r29.2.2.2.2.2.2.2.2.2.1.1.1 r29.2.2.2.2.2.2.2.2.2.1.1.2.1 r29.2.2.2.2.2.2.2.2.2.1.1.2.2.1 r29.2.2.2.2.2.2.2.2.2.1.1.2.2.2.1 r29.2.2.2.2.2.2.2.2.2.1.1.2.2.2.2.1 r29.2.2.2.2.2.2.2.2.2.1.1.2.2.2.2.2.1 r29.2.2.2.2.2.2.2.2.2.1.1.2.2.2.2.2.2.1 r29.2.2.2.2.2.2.2.2.2.1.1.2.2.2.2.2.2.2, bX4 G q1 ((o1 + 43) + 9) r29.2.2.2.2.2.2.2.2.2.1.2.1.1 r29.2.2.2.2.2.2.2.2.2.1.2.1.2, bX7 G q1 (o1 + 54) r29.2.2.2.2.2.2.2.2.2.2.1 r29.2.2.2.2.2.2.2.2.2.2.2.1 r29.2.2.2.2.2.2.2.2.2.2.2.2]) hS0 (c_X10_asked l G q1 o1 r29.2 r31 e32) zc_X10_asked rfl gL_nights_X10_asked ⟨Nat.le_of_ble_eq_true rfl, Nat.le_of_ble_eq_true rfl⟩ hK hA hT hw (is := [0, 1, 2, 3, 4, 5, 6, 7, 8, 9, 10, 11, 12, 13]) rfl rfl rfl rfl rfl rfl rfl hl.1 rfl (Nat.le_of_ble_eq_true rfl) dL_nights_19 (fun H locs hw => ?_)
  refine lv_istore (lv' := [(6, .int r31), (5, .int r29.1), (4, .int (r27 - r27 / 20 * 20)), (0, .ref (q1 (o1 + 0))), (1, .ref (zb G)), (2, .int v2), (3, .int v3)]) hx hb dL_nights_22 hl (by decide) rfl (fun ls hl => ?_)
  refine lv_iload hx hb dL_nights_24 (lv_at hl 1 rfl) ?_
  refine lv_if_lt (tgt := 43) hx hb dL_nights_26 rfl (fun hc => ?_) (fun hc => ?_)
  · have hf := z_t hc hf
    refine lv_iconst (v := 0) hx hb dL_nights_43 rfl ?_
    cases hf
    exact z_zret hx hb hr (z_nb (Or.inl rfl)) hlk hw dL_nights_44
  · have hf := z_f hc hf
    refine lv_iload hx hb dL_nights_29 (lv_at hl 0 rfl) ?_
    refine lv_if_ne (tgt := 43) hx hb dL_nights_31 rfl (fun hc => ?_) (fun hc => ?_)
    · have hf := z_f hc hf
      refine lv_iconst (v := 0) hx hb dL_nights_43 rfl ?_
      cases hf
      exact z_zret hx hb hr (z_nb (Or.inl rfl)) hlk hw dL_nights_44
    · have hf := z_t hc hf
      refine lv_iload hx hb dL_nights_34 (lv_at hl 1 rfl) ?_
      refine lv_iload_n hx hb dL_nights_36 rfl (lv_at hl 6 rfl) ?_
      refine lv_iconst (v := (-1)) hx hb dL_nights_37 rfl ?_
      refine lv_ixor hx hb dL_nights_38 ?_
      refine lv_iand hx hb dL_nights_39 ?_
      refine lv_if_eq (tgt := 45) hx hb dL_nights_40 rfl (fun hc => ?_) (fun hc => ?_)
      · have hf := z_t hc hf
        refine lv_aload_n hx hb dL_nights_45 rfl (lv_at hl 4 rfl) ?_
        refine lv_iconst (v := 1) hx hb dL_nights_46 rfl ?_
        obtain ⟨r33, e34, hf⟩ := z_bd hf
        refine z_callS1 (As := [.ref (zb G), .int 1]) (rest := []) (bs' := [bX10 G q1 o1, bX9 G q1 (o1 + 1) r29.2.1.1 r29.2.1.2.1 r29.2.1.2.2.1 r29.2.1.2.2.2.1 r29.2.1.2.2.2.2, bX6 G q1 (o1 + 3) r29.2.2.1.1 r29.2.2.1.2, bX8 G q1 (o1 + 12) r29.2.2.2.1.1 r29.2.2.2.1.2, bX5 G q1 (o1 + 19) r29.2.2.2.2.1.2.1 r29.2.2.2.2.1.2.2.1 r29.2.2.2.2.1.2.2.2.1 r29.2.2.2.2.1.2.2.2.2, bX2 G q1 ((o1 + 19) + 2) r29.2.2.2.2.1.1.1 r29.2.2.2.2.1.1.2.1 r29.2.2.2.2.1.1.2.2.1 r29.2.2.2.2.1.1.2.2.2.1 r29.2.2.2.2.1.1.2.2.2.2.1 r29.2.2.2.2.1.1.2.2.2.2.2.1 r29.2.2.2.2.1.1.2.2.2.2.2.2.1 r29.2.2.2.2.1.1.2.2.2.2.2.2.2, bX2 G q1 (o1 + 27) r29.2.2.2.2.2.1.1 r29.2.2.2.2.2.1.2.1 r29.2.2.2.2.2.1.2.2.1 r29.2.2.2.2.2.1.2.2.2.1 r29.2.2.2.2.2.1.2.2.2.2.1 r29.2.2.2.2.2.1.2.2.2.2.2.1 r29.2.2.2.2.2.1.2.2.2.2.2.2.1 r29.2.2.2.2.2.1.2.2.2.2.2.2.2, bX1 G q1 (o1 + 33) r29.2.2.2.2.2.2.1.1 r29.2.2.2.2.2.2.1.2.1 r29.2.2.2.2.2.2.1.2.2.1 r29.2.2.2.2.2.2.1.2.2.2, bX4 G q1 (o1 + 36) r29.2.2.2.2.2.2.2.1.1 r29.2.2.2.2.2.2.2.1.2, bX3 G q1 (o1 + 38) r29.2.2.2.2.2.2.2.2.1.1 r29.2.2.2.2.2.2.2.2.1.2.1 r29.2.2.2.2.2.2.2.2.1.2.2.1 r29.2.2.2.2.2.2.2.2.1.2.2.2, bX0 G q1 (o1 + 43) r29.2.2.2.2.2.2.2.2.2.1.2.2.1 r29.2.2.2.2.2.2.2.2.2.1.2.2.2, bX2 G q1 ((o1 + 43) + 3) r29.2.2.2.2.2.2.2.2.2.1.1.1 r29.2.2.2.2.2.2.2.2.2.1.1.2.1 r29.2.2.2.2.2.2.2.2.2.1.1.2.2.1 r29.2.2.2.2.2.2.2.2.2.1.1.2.2.2.1 r29.2.2.2.2.2.2.2.2.2.1.1.2.2.2.2.1 r29.2.2.2.2.2.2.2.2.2.1.1.2.2.2.2.2.1 r29.2.2.2.2.2.2.2.2.2.1.1.2.2.2.2.2.2.1 r29.2.2.2.2.2.2.2.2.2.1.1.2.2.2.2.2.2.2, bX4 G q1 ((o1 + 43) + 9) r29.2.2.2.2.2.2.2.2.2.1.2.1.1 r29.2.2.2.2.2.2.2.2.2.1.2.1.2, bX7 G q1 (o1 + 54) r29.2.2.2.2.2.2.2.2.2.2.1 r29.2.2.2.2.2.2.2.2.2.2.2.1 r29.2.2.2.2.2.2.2.2.2.2.2.2]) hS0 (c_L_cell l G 1 r33 e34) zc_L_cell gL_nights_L_cell ⟨Nat.le_of_ble_eq_true rfl, Nat.le_of_ble_eq_true rfl⟩ hK hA hT hw (is := []) rfl rfl rfl rfl rfl hl.1 rfl (Nat.le_of_ble_eq_true rfl) dL_nights_47 (fun H locs hw => ?_)
        refine lv_iload_n hx hb dL_nights_50 rfl (lv_at hl 5 rfl) ?_
        obtain ⟨g35, hf⟩ := z_gn hf
        refine lv_irem hx hb dL_nights_51 g35 ?_
        refine lv_istore (lv' := [(7, .int (r33 - r33 / v2 * v2)), (6, .int r31), (5, .int r29.1), (4, .int (r27 - r27 / 20 * 20)), (0, .ref (q1 (o1 + 0))), (1, .ref (zb G)), (2, .int v2), (3, .int v3)]) hx hb dL_nights_52 hl (by decide) rfl (fun ls hl => ?_)
        refine lv_aload_n hx hb dL_nights_54 rfl (lv_at hl 5 rfl) ?_
        refine lv_iconst (v := 2) hx hb dL_nights_55 rfl ?_
        obtain ⟨r36, e37, hf⟩ := z_bd hf
        refine z_callS1 (As := [.ref (zb G), .int 2]) (rest := []) (bs' := [bX10 G q1 o1, bX9 G q1 (o1 + 1) r29.2.1.1 r29.2.1.2.1 r29.2.1.2.2.1 r29.2.1.2.2.2.1 r29.2.1.2.2.2.2, bX6 G q1 (o1 + 3) r29.2.2.1.1 r29.2.2.1.2, bX8 G q1 (o1 + 12) r29.2.2.2.1.1 r29.2.2.2.1.2, bX5 G q1 (o1 + 19) r29.2.2.2.2.1.2.1 r29.2.2.2.2.1.2.2.1 r29.2.2.2.2.1.2.2.2.1 r29.2.2.2.2.1.2.2.2.2, bX2 G q1 ((o1 + 19) + 2) r29.2.2.2.2.1.1.1 r29.2.2.2.2.1.1.2.1 r29.2.2.2.2.1.1.2.2.1 r29.2.2.2.2.1.1.2.2.2.1 r29.2.2.2.2.1.1.2.2.2.2.1 r29.2.2.2.2.1.1.2.2.2.2.2.1 r29.2.2.2.2.1.1.2.2.2.2.2.2.1 r29.2.2.2.2.1.1.2.2.2.2.2.2.2, bX2 G q1 (o1 + 27) r29.2.2.2.2.2.1.1 r29.2.2.2.2.2.1.2.1 r29.2.2.2.2.2.1.2.2.1 r29.2.2.2.2.2.1.2.2.2.1 r29.2.2.2.2.2.1.2.2.2.2.1 r29.2.2.2.2.2.1.2.2.2.2.2.1 r29.2.2.2.2.2.1.2.2.2.2.2.2.1 r29.2.2.2.2.2.1.2.2.2.2.2.2.2, bX1 G q1 (o1 + 33) r29.2.2.2.2.2.2.1.1 r29.2.2.2.2.2.2.1.2.1 r29.2.2.2.2.2.2.1.2.2.1 r29.2.2.2.2.2.2.1.2.2.2, bX4 G q1 (o1 + 36) r29.2.2.2.2.2.2.2.1.1 r29.2.2.2.2.2.2.2.1.2, bX3 G q1 (o1 + 38) r29.2.2.2.2.2.2.2.2.1.1 r29.2.2.2.2.2.2.2.2.1.2.1 r29.2.2.2.2.2.2.2.2.1.2.2.1 r29.2.2.2.2.2.2.2.2.1.2.2.2, bX0 G q1 (o1 + 43) r29.2.2.2.2.2.2.2.2.2.1.2.2.1 r29.2.2.2.2.2.2.2.2.2.1.2.2.2, bX2 G q1 ((o1 + 43) + 3) r29.2.2.2.2.2.2.2.2.2.1.1.1 r29.2.2.2.2.2.2.2.2.2.1.1.2.1 r29.2.2.2.2.2.2.2.2.2.1.1.2.2.1 r29.2.2.2.2.2.2.2.2.2.1.1.2.2.2.1 r29.2.2.2.2.2.2.2.2.2.1.1.2.2.2.2.1 r29.2.2.2.2.2.2.2.2.2.1.1.2.2.2.2.2.1 r29.2.2.2.2.2.2.2.2.2.1.1.2.2.2.2.2.2.1 r29.2.2.2.2.2.2.2.2.2.1.1.2.2.2.2.2.2.2, bX4 G q1 ((o1 + 43) + 9) r29.2.2.2.2.2.2.2.2.2.1.2.1.1 r29.2.2.2.2.2.2.2.2.2.1.2.1.2, bX7 G q1 (o1 + 54) r29.2.2.2.2.2.2.2.2.2.2.1 r29.2.2.2.2.2.2.2.2.2.2.2.1 r29.2.2.2.2.2.2.2.2.2.2.2.2]) hS0 (c_L_cell l G 2 r36 e37) zc_L_cell gL_nights_L_cell ⟨Nat.le_of_ble_eq_true rfl, Nat.le_of_ble_eq_true rfl⟩ hK hA hT hw (is := []) rfl rfl rfl rfl rfl hl.1 rfl (Nat.le_of_ble_eq_true rfl) dL_nights_56 (fun H locs hw => ?_)
        refine lv_iconst (v := 2) hx hb dL_nights_59 rfl ?_
        refine lv_irem hx hb dL_nights_60 (by decide) ?_
        refine lv_istore (lv' := [(8, .int (r36 - r36 / 2 * 2)), (7, .int (r33 - r33 / v2 * v2)), (6, .int r31), (5, .int r29.1), (4, .int (r27 - r27 / 20 * 20)), (0, .ref (q1 (o1 + 0))), (1, .ref (zb G)), (2, .int v2), (3, .int v3)]) hx hb dL_nights_61 hl (by decide) rfl (fun ls hl => ?_)
        refine lv_aload_n hx hb dL_nights_63 rfl (lv_at hl 5 rfl) ?_
        refine lv_iload hx hb dL_nights_64 (lv_at hl 4 rfl) ?_
        refine lv_iload hx hb dL_nights_66 (lv_at hl 1 rfl) ?_
        obtain ⟨r38, e39, hf⟩ := z_bd hf
        refine z_callV1 (As := [.int (r27 - r27 / 20 * 20), .int (r33 - r33 / v2 * v2)]) (rest := []) (bs' := [bX10 G q1 o1, bX9 G q1 (o1 + 1) r38.2.1.1 r38.2.1.2.1 r38.2.1.2.2.1 r38.2.1.2.2.2.1 r38.2.1.2.2.2.2, bX6 G q1 (o1 + 3) r38.2.2.1.1 r38.2.2.1.2, bX8 G q1 (o1 + 12) r38.2.2.2.1.1 r38.2.2.2.1.2, bX5 G q1 (o1 + 19) r38.2.2.2.2.1.2.1 r38.2.2.2.2.1.2.2.1 r38.2.2.2.2.1.2.2.2.1 r38.2.2.2.2.1.2.2.2.2, bX2 G q1 ((o1 + 19) + 2) r38.2.2.2.2.1.1.1 r38.2.2.2.2.1.1.2.1 r38.2.2.2.2.1.1.2.2.1 r38.2.2.2.2.1.1.2.2.2.1 r38.2.2.2.2.1.1.2.2.2.2.1 r38.2.2.2.2.1.1.2.2.2.2.2.1 r38.2.2.2.2.1.1.2.2.2.2.2.2.1 r38.2.2.2.2.1.1.2.2.2.2.2.2.2, bX2 G q1 (o1 + 27) r38.2.2.2.2.2.1.1 r38.2.2.2.2.2.1.2.1 r38.2.2.2.2.2.1.2.2.1 r38.2.2.2.2.2.1.2.2.2.1 r38.2.2.2.2.2.1.2.2.2.2.1 r38.2.2.2.2.2.1.2.2.2.2.2.1 r38.2.2.2.2.2.1.2.2.2.2.2.2.1 r38.2.2.2.2.2.1.2.2.2.2.2.2.2, bX1 G q1 (o1 + 33) r38.2.2.2.2.2.2.1.1 r38.2.2.2.2.2.2.1.2.1 r38.2.2.2.2.2.2.1.2.2.1 r38.2.2.2.2.2.2.1.2.2.2, bX4 G q1 (o1 + 36) r38.2.2.2.2.2.2.2.1.1 r38.2.2.2.2.2.2.2.1.2, bX3 G q1 (o1 + 38) r38.2.2.2.2.2.2.2.2.1.1 r38.2.2.2.2.2.2.2.2.1.2.1 r38.2.2.2.2.2.2.2.2.1.2.2.1 r38.2.2.2.2.2.2.2.2.1.2.2.2, bX0 G q1 (o1 + 43) r38.2.2.2.2.2.2.2.2.2.1.2.2.1 r38.2.2.2.2.2.2.2.2.2.1.2.2.2, bX2 G q1 ((o1 + 43) + 3) r38.2.2.2.2.2.2.2.2.2.1.1.1 r38.2.2.2.2.2.2.2.2.2.1.1.2.1 r38.2.2.2.2.2.2.2.2.2.1.1.2.2.1 r38.2.2.2.2.2.2.2.2.2.1.1.2.2.2.1 r38.2.2.2.2.2.2.2.2.2.1.1.2.2.2.2.1 r38.2.2.2.2.2.2.2.2.2.1.1.2.2.2.2.2.1 r38.2.2.2.2.2.2.2.2.2.1.1.2.2.2.2.2.2.1 r38.2.2.2.2.2.2.2.2.2.1.1.2.2.2.2.2.2.2, bX4 G q1 ((o1 + 43) + 9) r38.2.2.2.2.2.2.2.2.2.1.2.1.1 r38.2.2.2.2.2.2.2.2.2.1.2.1.2, bX7 G q1 (o1 + 54) r38.2.2.2.2.2.2.2.2.2.2.1 r38.2.2.2.2.2.2.2.2.2.2.2.1 r38.2.2.2.2.2.2.2.2.2.2.2.2]) hS0 (c_X10_odds l G q1 o1 r29.2 (r27 - r27 / 20 * 20) (r33 - r33 / v2 * v2) r38 e39) zc_X10_odds rfl gL_nights_X10_odds ⟨Nat.le_of_ble_eq_true rfl, Nat.le_of_ble_eq_true rfl⟩ hK hA hT hw (is := [0, 1, 2, 3, 4, 5, 6, 7, 8, 9, 10, 11, 12, 13]) rfl rfl rfl rfl rfl rfl rfl hl.1 rfl (Nat.le_of_ble_eq_true rfl) dL_nights_68 (fun H locs hw => ?_)
        refine lv_istore (lv' := [(9, .int r38.1), (8, .int (r36 - r36 / 2 * 2)), (7, .int (r33 - r33 / v2 * v2)), (6, .int r31), (5, .int r29.1), (4, .int (r27 - r27 / 20 * 20)), (0, .ref (q1 (o1 + 0))), (1, .ref (zb G)), (2, .int v2), (3, .int v3)]) hx hb dL_nights_71 hl (by decide) rfl (fun ls hl => ?_)
        refine lv_iload hx hb dL_nights_73 (lv_at hl 0 rfl) ?_
        refine lv_if_lt (tgt := 133) hx hb dL_nights_75 rfl (fun hc => ?_) (fun hc => ?_)
        · have hf := z_t hc hf
          refine lv_iconst (v := 0) hx hb dL_nights_133 rfl ?_
          cases hf
          exact z_zret hx hb hr (z_nb (Or.inl rfl)) hlk hw dL_nights_134
        · have hf := z_f hc hf
          refine lv_iload hx hb dL_nights_78 (lv_at hl 0 rfl) ?_
          refine lv_if_le (tgt := 87) hx hb dL_nights_80 rfl (fun hc => ?_) (fun hc => ?_)
          · have hf := z_t hc hf
            refine lv_iconst (v := 0) hx hb dL_nights_87 rfl ?_
            exact k_L_nights_88 hZ _ _ _ _ _ _ _ _ _ _ _ hf hw (lv_sub hl [6, 5, 4, 2, 1, 0] rfl)
          · have hf := z_f hc hf
            refine lv_iconst (v := 1) hx hb dL_nights_83 rfl ?_
            refine lv_goto (tgt := 88) hx hb dL_nights_84 rfl ?_
            exact k_L_nights_88 hZ _ _ _ _ _ _ _ _ _ _ _ hf hw (lv_sub hl [6, 5, 4, 2, 1, 0] rfl)
      · have hf := z_f hc hf
        refine lv_iconst (v := 0) hx hb dL_nights_43 rfl ?_
        cases hf
        exact z_zret hx hb hr (z_nb (Or.inl rfl)) hlk hw dL_nights_44
theorem zc_L_friends : zC yL_friends wsL_friends cL_friends 13 (some .boolean) 5 := ⟨⟨_, rfl⟩, by decide +kernel, by decide +kernel, by decide +kernel, by decide +kernel⟩
set_option maxHeartbeats 4000000 in
set_option maxRecDepth 100000 in
theorem k_L_friends_12 {p : Program} {l : Launch} {e : Env} {s : State} {m : MethodId} {args : Array Value} {below : List Frame} {meth : Method} {c : Code} {A : Nat → Prop} {G : zG} {q1 : Nat → Nat} {o1 : Nat} {q2 : Nat → Nat} {o2 : Nat} {r_3 : VX10 → VA48 → Int32 → Int32 → Int32 → Option (Int32 × VX10)} (hZ : zZ p s m args meth c A G cL_friends 13 RL wsL_friends (some .boolean)) (y : Int32 × VX10) (h_3 : ∀ (P1 : VX10) (P2 : VA48) (v3 : Int32) (v4 : Int32) (v5 : Int32) (H : Heap) (locs : List Loc) (ls : Array Slot), r_3 P1 P2 v3 v4 v5 = some y → zH G A s.heap [bX10 G q1 o1, bX9 G q1 (o1 + 1) P1.1.1 P1.1.2.1 P1.1.2.2.1 P1.1.2.2.2.1 P1.1.2.2.2.2, bX6 G q1 (o1 + 3) P1.2.1.1 P1.2.1.2, bX8 G q1 (o1 + 12) P1.2.2.1.1 P1.2.2.1.2, bX5 G q1 (o1 + 19) P1.2.2.2.1.2.1 P1.2.2.2.1.2.2.1 P1.2.2.2.1.2.2.2.1 P1.2.2.2.1.2.2.2.2, bX2 G q1 ((o1 + 19) + 2) P1.2.2.2.1.1.1 P1.2.2.2.1.1.2.1 P1.2.2.2.1.1.2.2.1 P1.2.2.2.1.1.2.2.2.1 P1.2.2.2.1.1.2.2.2.2.1 P1.2.2.2.1.1.2.2.2.2.2.1 P1.2.2.2.1.1.2.2.2.2.2.2.1 P1.2.2.2.1.1.2.2.2.2.2.2.2, bX2 G q1 (o1 + 27) P1.2.2.2.2.1.1 P1.2.2.2.2.1.2.1 P1.2.2.2.2.1.2.2.1 P1.2.2.2.2.1.2.2.2.1 P1.2.2.2.2.1.2.2.2.2.1 P1.2.2.2.2.1.2.2.2.2.2.1 P1.2.2.2.2.1.2.2.2.2.2.2.1 P1.2.2.2.2.1.2.2.2.2.2.2.2, bX1 G q1 (o1 + 33) P1.2.2.2.2.2.1.1 P1.2.2.2.2.2.1.2.1 P1.2.2.2.2.2.1.2.2.1 P1.2.2.2.2.2.1.2.2.2, bX4 G q1 (o1 + 36) P1.2.2.2.2.2.2.1.1 P1.2.2.2.2.2.2.1.2, bX3 G q1 (o1 + 38) P1.2.2.2.2.2.2.2.1.1 P1.2.2.2.2.2.2.2.1.2.1 P1.2.2.2.2.2.2.2.1.2.2.1 P1.2.2.2.2.2.2.2.1.2.2.2, bX0 G q1 (o1 + 43) P1.2.2.2.2.2.2.2.2.1.2.2.1 P1.2.2.2.2.2.2.2.2.1.2.2.2, bX2 G q1 ((o1 + 43) + 3) P1.2.2.2.2.2.2.2.2.1.1.1 P1.2.2.2.2.2.2.2.2.1.1.2.1 P1.2.2.2.2.2.2.2.2.1.1.2.2.1 P1.2.2.2.2.2.2.2.2.1.1.2.2.2.1 P1.2.2.2.2.2.2.2.2.1.1.2.2.2.2.1 P1.2.2.2.2.2.2.2.2.1.1.2.2.2.2.2.1 P1.2.2.2.2.2.2.2.2.1.1.2.2.2.2.2.2.1 P1.2.2.2.2.2.2.2.2.1.1.2.2.2.2.2.2.2, bX4 G q1 ((o1 + 43) + 9) P1.2.2.2.2.2.2.2.2.1.2.1.1 P1.2.2.2.2.2.2.2.2.1.2.1.2, bX7 G q1 (o1 + 54) P1.2.2.2.2.2.2.2.2.2.1 P1.2.2.2.2.2.2.2.2.2.2.1 P1.2.2.2.2.2.2.2.2.2.2.2, bA48 G q2 o2 P2] H locs → lv_has ls 13 [(0, .ref (q1 (o1 + 0))), (2, .ref (q2 (o2 + 0))), (3, .int v3), (4, .int v4), (5, .int v5)] → W p l e { frames := 7, cells := 0, slots := 0, locals := 176 } s m args below meth c H locs 0 0 (MQ below (zQ (some (.int y.1)) (zPost G [bX10 G q1 o1, bX9 G q1 (o1 + 1) y.2.1.1 y.2.1.2.1 y.2.1.2.2.1 y.2.1.2.2.2.1 y.2.1.2.2.2.2, bX6 G q1 (o1 + 3) y.2.2.1.1 y.2.2.1.2, bX8 G q1 (o1 + 12) y.2.2.2.1.1 y.2.2.2.1.2, bX5 G q1 (o1 + 19) y.2.2.2.2.1.2.1 y.2.2.2.2.1.2.2.1 y.2.2.2.2.1.2.2.2.1 y.2.2.2.2.1.2.2.2.2, bX2 G q1 ((o1 + 19) + 2) y.2.2.2.2.1.1.1 y.2.2.2.2.1.1.2.1 y.2.2.2.2.1.1.2.2.1 y.2.2.2.2.1.1.2.2.2.1 y.2.2.2.2.1.1.2.2.2.2.1 y.2.2.2.2.1.1.2.2.2.2.2.1 y.2.2.2.2.1.1.2.2.2.2.2.2.1 y.2.2.2.2.1.1.2.2.2.2.2.2.2, bX2 G q1 (o1 + 27) y.2.2.2.2.2.1.1 y.2.2.2.2.2.1.2.1 y.2.2.2.2.2.1.2.2.1 y.2.2.2.2.2.1.2.2.2.1 y.2.2.2.2.2.1.2.2.2.2.1 y.2.2.2.2.2.1.2.2.2.2.2.1 y.2.2.2.2.2.1.2.2.2.2.2.2.1 y.2.2.2.2.2.1.2.2.2.2.2.2.2, bX1 G q1 (o1 + 33) y.2.2.2.2.2.2.1.1 y.2.2.2.2.2.2.1.2.1 y.2.2.2.2.2.2.1.2.2.1 y.2.2.2.2.2.2.1.2.2.2, bX4 G q1 (o1 + 36) y.2.2.2.2.2.2.2.1.1 y.2.2.2.2.2.2.2.1.2, bX3 G q1 (o1 + 38) y.2.2.2.2.2.2.2.2.1.1 y.2.2.2.2.2.2.2.2.1.2.1 y.2.2.2.2.2.2.2.2.1.2.2.1 y.2.2.2.2.2.2.2.2.1.2.2.2, bX0 G q1 (o1 + 43) y.2.2.2.2.2.2.2.2.2.1.2.2.1 y.2.2.2.2.2.2.2.2.2.1.2.2.2, bX2 G q1 ((o1 + 43) + 3) y.2.2.2.2.2.2.2.2.2.1.1.1 y.2.2.2.2.2.2.2.2.2.1.1.2.1 y.2.2.2.2.2.2.2.2.2.1.1.2.2.1 y.2.2.2.2.2.2.2.2.2.1.1.2.2.2.1 y.2.2.2.2.2.2.2.2.2.1.1.2.2.2.2.1 y.2.2.2.2.2.2.2.2.2.1.1.2.2.2.2.2.1 y.2.2.2.2.2.2.2.2.2.1.1.2.2.2.2.2.2.1 y.2.2.2.2.2.2.2.2.2.1.1.2.2.2.2.2.2.2, bX4 G q1 ((o1 + 43) + 9) y.2.2.2.2.2.2.2.2.2.1.2.1.1 y.2.2.2.2.2.2.2.2.2.1.2.1.2, bX7 G q1 (o1 + 54) y.2.2.2.2.2.2.2.2.2.2.1 y.2.2.2.2.2.2.2.2.2.2.2.1 y.2.2.2.2.2.2.2.2.2.2.2.2, bA48 G q2 o2 P2]) A) args s 0 0 A) (F0 m 3 ls [])) (n : Nat) : ∀ (P1 : VX10) (P2 : VA48) (v3 : Int32) (v4 : Int32) (v5 : Int32) (v6 : Int32) (H : Heap) (locs : List Loc) (ls : Array Slot), f_L_friends_12 (zX G) r_3 n P1 P2 v3 v4 v5 v6 = some y → zH G A s.heap [bX10 G q1 o1, bX9 G q1 (o1 + 1) P1.1.1 P1.1.2.1 P1.1.2.2.1 P1.1.2.2.2.1 P1.1.2.2.2.2, bX6 G q1 (o1 + 3) P1.2.1.1 P1.2.1.2, bX8 G q1 (o1 + 12) P1.2.2.1.1 P1.2.2.1.2, bX5 G q1 (o1 + 19) P1.2.2.2.1.2.1 P1.2.2.2.1.2.2.1 P1.2.2.2.1.2.2.2.1 P1.2.2.2.1.2.2.2.2, bX2 G q1 ((o1 + 19) + 2) P1.2.2.2.1.1.1 P1.2.2.2.1.1.2.1 P1.2.2.2.1.1.2.2.1 P1.2.2.2.1.1.2.2.2.1 P1.2.2.2.1.1.2.2.2.2.1 P1.2.2.2.1.1.2.2.2.2.2.1 P1.2.2.2.1.1.2.2.2.2.2.2.1 P1.2.2.2.1.1.2.2.2.2.2.2.2, bX2 G q1 (o1 + 27) P1.2.2.2.2.1.1 P1.2.2.2.2.1.2.1 P1.2.2.2.2.1.2.2.1 P1.2.2.2.2.1.2.2.2.1 P1.2.2.2.2.1.2.2.2.2.1 P1.2.2.2.2.1.2.2.2.2.2.1 P1.2.2.2.2.1.2.2.2.2.2.2.1 P1.2.2.2.2.1.2.2.2.2.2.2.2, bX1 G q1 (o1 + 33) P1.2.2.2.2.2.1.1 P1.2.2.2.2.2.1.2.1 P1.2.2.2.2.2.1.2.2.1 P1.2.2.2.2.2.1.2.2.2, bX4 G q1 (o1 + 36) P1.2.2.2.2.2.2.1.1 P1.2.2.2.2.2.2.1.2, bX3 G q1 (o1 + 38) P1.2.2.2.2.2.2.2.1.1 P1.2.2.2.2.2.2.2.1.2.1 P1.2.2.2.2.2.2.2.1.2.2.1 P1.2.2.2.2.2.2.2.1.2.2.2, bX0 G q1 (o1 + 43) P1.2.2.2.2.2.2.2.2.1.2.2.1 P1.2.2.2.2.2.2.2.2.1.2.2.2, bX2 G q1 ((o1 + 43) + 3) P1.2.2.2.2.2.2.2.2.1.1.1 P1.2.2.2.2.2.2.2.2.1.1.2.1 P1.2.2.2.2.2.2.2.2.1.1.2.2.1 P1.2.2.2.2.2.2.2.2.1.1.2.2.2.1 P1.2.2.2.2.2.2.2.2.1.1.2.2.2.2.1 P1.2.2.2.2.2.2.2.2.1.1.2.2.2.2.2.1 P1.2.2.2.2.2.2.2.2.1.1.2.2.2.2.2.2.1 P1.2.2.2.2.2.2.2.2.1.1.2.2.2.2.2.2.2, bX4 G q1 ((o1 + 43) + 9) P1.2.2.2.2.2.2.2.2.1.2.1.1 P1.2.2.2.2.2.2.2.2.1.2.1.2, bX7 G q1 (o1 + 54) P1.2.2.2.2.2.2.2.2.2.1 P1.2.2.2.2.2.2.2.2.2.2.1 P1.2.2.2.2.2.2.2.2.2.2.2, bA48 G q2 o2 P2] H locs → lv_has ls 13 [(0, .ref (q1 (o1 + 0))), (2, .ref (q2 (o2 + 0))), (3, .int v3), (4, .int v4), (5, .int v5), (6, .int v6)] → W p l e { frames := 7, cells := 0, slots := 0, locals := 176 } s m args below meth c H locs 0 0 (MQ below (zQ (some (.int y.1)) (zPost G [bX10 G q1 o1, bX9 G q1 (o1 + 1) y.2.1.1 y.2.1.2.1 y.2.1.2.2.1 y.2.1.2.2.2.1 y.2.1.2.2.2.2, bX6 G q1 (o1 + 3) y.2.2.1.1 y.2.2.1.2, bX8 G q1 (o1 + 12) y.2.2.2.1.1 y.2.2.2.1.2, bX5 G q1 (o1 + 19) y.2.2.2.2.1.2.1 y.2.2.2.2.1.2.2.1 y.2.2.2.2.1.2.2.2.1 y.2.2.2.2.1.2.2.2.2, bX2 G q1 ((o1 + 19) + 2) y.2.2.2.2.1.1.1 y.2.2.2.2.1.1.2.1 y.2.2.2.2.1.1.2.2.1 y.2.2.2.2.1.1.2.2.2.1 y.2.2.2.2.1.1.2.2.2.2.1 y.2.2.2.2.1.1.2.2.2.2.2.1 y.2.2.2.2.1.1.2.2.2.2.2.2.1 y.2.2.2.2.1.1.2.2.2.2.2.2.2, bX2 G q1 (o1 + 27) y.2.2.2.2.2.1.1 y.2.2.2.2.2.1.2.1 y.2.2.2.2.2.1.2.2.1 y.2.2.2.2.2.1.2.2.2.1 y.2.2.2.2.2.1.2.2.2.2.1 y.2.2.2.2.2.1.2.2.2.2.2.1 y.2.2.2.2.2.1.2.2.2.2.2.2.1 y.2.2.2.2.2.1.2.2.2.2.2.2.2, bX1 G q1 (o1 + 33) y.2.2.2.2.2.2.1.1 y.2.2.2.2.2.2.1.2.1 y.2.2.2.2.2.2.1.2.2.1 y.2.2.2.2.2.2.1.2.2.2, bX4 G q1 (o1 + 36) y.2.2.2.2.2.2.2.1.1 y.2.2.2.2.2.2.2.1.2, bX3 G q1 (o1 + 38) y.2.2.2.2.2.2.2.2.1.1 y.2.2.2.2.2.2.2.2.1.2.1 y.2.2.2.2.2.2.2.2.1.2.2.1 y.2.2.2.2.2.2.2.2.1.2.2.2, bX0 G q1 (o1 + 43) y.2.2.2.2.2.2.2.2.2.1.2.2.1 y.2.2.2.2.2.2.2.2.2.1.2.2.2, bX2 G q1 ((o1 + 43) + 3) y.2.2.2.2.2.2.2.2.2.1.1.1 y.2.2.2.2.2.2.2.2.2.1.1.2.1 y.2.2.2.2.2.2.2.2.2.1.1.2.2.1 y.2.2.2.2.2.2.2.2.2.1.1.2.2.2.1 y.2.2.2.2.2.2.2.2.2.1.1.2.2.2.2.1 y.2.2.2.2.2.2.2.2.2.1.1.2.2.2.2.2.1 y.2.2.2.2.2.2.2.2.2.1.1.2.2.2.2.2.2.1 y.2.2.2.2.2.2.2.2.2.1.1.2.2.2.2.2.2.2, bX4 G q1 ((o1 + 43) + 9) y.2.2.2.2.2.2.2.2.2.1.2.1.1 y.2.2.2.2.2.2.2.2.2.1.2.1.2, bX7 G q1 (o1 + 54) y.2.2.2.2.2.2.2.2.2.2.1 y.2.2.2.2.2.2.2.2.2.2.2.1 y.2.2.2.2.2.2.2.2.2.2.2.2, bA48 G q2 o2 P2]) A) args s 0 0 A) (F0 m 12 ls []) := by
  obtain ⟨hS0, hr, hlk, hK, hA, hT⟩ := id hZ
  have hx := hS0.1
  have hb := hS0.2.1
  have hml := hS0.2.2.1
  have hown : s.vm.findClass RL = some m.cls := hS0.2.2.2.1
  have hts := hS0.2.2.2.2
  induction n with
  | zero =>
    intro P1 P2 v3 v4 v5 v6 H locs ls hf hw hl
    unfold f_L_friends_12 at hf
    cases hf
  | succ n ih =>
    intro P1 P2 v3 v4 v5 v6 H locs ls hf hw hl
    unfold f_L_friends_12 at hf
    refine lv_iload hx hb dL_friends_12 (lv_at hl 5 rfl) ?_
    refine lv_iload hx hb dL_friends_14 (lv_at hl 4 rfl) ?_
    refine lv_icmp_ge (tgt := 63) hx hb dL_friends_16 rfl (fun hc => ?_) (fun hc => ?_)
    · have hf := z_t hc hf
      refine lv_iinc (v := (v5 + 1)) (lv' := [(5, .int (v5 + 1)), (0, .ref (q1 (o1 + 0))), (2, .ref (q2 (o2 + 0))), (3, .int v3), (4, .int v4), (6, .int v6)]) hx hb dL_friends_63 hl (k := 4) rfl rfl (by decide) rfl (fun ls hl => ?_)
      refine lv_goto (tgt := 3) hx hb dL_friends_66 rfl ?_
      exact h_3 _ _ _ _ _ _ _ _ hf hw (lv_sub hl [1, 2, 3, 4, 0] rfl)
    · have hf := z_f hc hf
      refine lv_aload_n hx hb dL_friends_19 rfl (lv_at hl 0 rfl) ?_
      refine lv_iload hx hb dL_friends_20 (lv_at hl 4 rfl) ?_
      refine lv_iload hx hb dL_friends_22 (lv_at hl 5 rfl) ?_
      refine lv_iconst (v := 0) hx hb dL_friends_24 rfl ?_
      obtain ⟨r1, e2, hf⟩ := z_bd hf
      refine z_callV1 (As := [.int v5, .int v6, .int 0]) (rest := []) (bs' := [bX10 G q1 o1, bX9 G q1 (o1 + 1) r1.2.1.1 r1.2.1.2.1 r1.2.1.2.2.1 r1.2.1.2.2.2.1 r1.2.1.2.2.2.2, bX6 G q1 (o1 + 3) r1.2.2.1.1 r1.2.2.1.2, bX8 G q1 (o1 + 12) r1.2.2.2.1.1 r1.2.2.2.1.2, bX5 G q1 (o1 + 19) r1.2.2.2.2.1.2.1 r1.2.2.2.2.1.2.2.1 r1.2.2.2.2.1.2.2.2.1 r1.2.2.2.2.1.2.2.2.2, bX2 G q1 ((o1 + 19) + 2) r1.2.2.2.2.1.1.1 r1.2.2.2.2.1.1.2.1 r1.2.2.2.2.1.1.2.2.1 r1.2.2.2.2.1.1.2.2.2.1 r1.2.2.2.2.1.1.2.2.2.2.1 r1.2.2.2.2.1.1.2.2.2.2.2.1 r1.2.2.2.2.1.1.2.2.2.2.2.2.1 r1.2.2.2.2.1.1.2.2.2.2.2.2.2, bX2 G q1 (o1 + 27) r1.2.2.2.2.2.1.1 r1.2.2.2.2.2.1.2.1 r1.2.2.2.2.2.1.2.2.1 r1.2.2.2.2.2.1.2.2.2.1 r1.2.2.2.2.2.1.2.2.2.2.1 r1.2.2.2.2.2.1.2.2.2.2.2.1 r1.2.2.2.2.2.1.2.2.2.2.2.2.1 r1.2.2.2.2.2.1.2.2.2.2.2.2.2, bX1 G q1 (o1 + 33) r1.2.2.2.2.2.2.1.1 r1.2.2.2.2.2.2.1.2.1 r1.2.2.2.2.2.2.1.2.2.1 r1.2.2.2.2.2.2.1.2.2.2, bX4 G q1 (o1 + 36) r1.2.2.2.2.2.2.2.1.1 r1.2.2.2.2.2.2.2.1.2, bX3 G q1 (o1 + 38) r1.2.2.2.2.2.2.2.2.1.1 r1.2.2.2.2.2.2.2.2.1.2.1 r1.2.2.2.2.2.2.2.2.1.2.2.1 r1.2.2.2.2.2.2.2.2.1.2.2.2, bX0 G q1 (o1 + 43) r1.2.2.2.2.2.2.2.2.2.1.2.2.1 r1.2.2.2.2.2.2.2.2.2.1.2.2.2, bX2 G q1 ((o1 + 43) + 3) r1.2.2.2.2.2.2.2.2.2.1.1.1 r1.2.2.2.2.2.2.2.2.2.1.1.2.1 r1.2.2.2.2.2.2.2.2.2.1.1.2.2.1 r1.2.2.2.2.2.2.2.2.2.1.1.2.2.2.1 r1.2.2.2.2.2.2.2.2.2.1.1.2.2.2.2.1 r1.2.2.2.2.2.2.2.2.2.1.1.2.2.2.2.2.1 r1.2.2.2.2.2.2.2.2.2.1.1.2.2.2.2.2.2.1 r1.2.2.2.2.2.2.2.2.2.1.1.2.2.2.2.2.2.2, bX4 G q1 ((o1 + 43) + 9) r1.2.2.2.2.2.2.2.2.2.1.2.1.1 r1.2.2.2.2.2.2.2.2.2.1.2.1.2, bX7 G q1 (o1 + 54) r1.2.2.2.2.2.2.2.2.2.2.1 r1.2.2.2.2.2.2.2.2.2.2.2.1 r1.2.2.2.2.2.2.2.2.2.2.2.2, bA48 G q2 o2 P2]) hS0 (c_X10_quarrel l G q1 o1 P1 v5 v6 0 r1 e2) zc_X10_quarrel rfl gL_friends_X10_quarrel ⟨Nat.le_of_ble_eq_true rfl, Nat.le_of_ble_eq_true rfl⟩ hK hA hT hw (is := [0, 1, 2, 3, 4, 5, 6, 7, 8, 9, 10, 11, 12, 13]) rfl rfl rfl rfl rfl rfl rfl hl.1 rfl (Nat.le_of_ble_eq_true rfl) dL_friends_25 (fun H locs hw => ?_)
      refine lv_aload_n hx hb dL_friends_28 rfl (lv_at hl 1 rfl) ?_
      refine lv_bipush (v := 33) hx hb dL_friends_29 rfl ?_
      refine lv_iload hx hb dL_friends_31 (lv_at hl 4 rfl) ?_
      refine lv_iadd hx hb dL_friends_33 ?_
      obtain ⟨g3, hf⟩ := z_gd hf
      refine z_iald hS0 hK hw 14 0 (zIn_vp g3) rfl rfl dL_friends_34 ?_
      refine lv_iload hx hb dL_friends_35 (lv_at hl 5 rfl) ?_
      refine lv_ishr hx hb dL_friends_37 ?_
      refine lv_iconst (v := 1) hx hb dL_friends_38 rfl ?_
      refine lv_iand hx hb dL_friends_39 ?_
      refine lv_icmp_ne (tgt := 55) hx hb dL_friends_40 rfl (fun hc => ?_) (fun hc => ?_)
      · have hf := z_f hc hf
        refine lv_iconst (v := 0) hx hb dL_friends_55 rfl ?_
        cases hf
        exact z_zret hx hb hr (z_nb (Or.inl rfl)) hlk hw dL_friends_56
      · have hf := z_t hc hf
        refine lv_aload_n hx hb dL_friends_43 rfl (lv_at hl 0 rfl) ?_
        refine lv_iload hx hb dL_friends_44 (lv_at hl 5 rfl) ?_
        refine lv_iload hx hb dL_friends_46 (lv_at hl 4 rfl) ?_
        refine lv_iconst (v := 0) hx hb dL_friends_48 rfl ?_
        obtain ⟨r4, e5, hf⟩ := z_bd hf
        refine z_callV1 (As := [.int v6, .int v5, .int 0]) (rest := []) (bs' := [bX10 G q1 o1, bX9 G q1 (o1 + 1) r4.2.1.1 r4.2.1.2.1 r4.2.1.2.2.1 r4.2.1.2.2.2.1 r4.2.1.2.2.2.2, bX6 G q1 (o1 + 3) r4.2.2.1.1 r4.2.2.1.2, bX8 G q1 (o1 + 12) r4.2.2.2.1.1 r4.2.2.2.1.2, bX5 G q1 (o1 + 19) r4.2.2.2.2.1.2.1 r4.2.2.2.2.1.2.2.1 r4.2.2.2.2.1.2.2.2.1 r4.2.2.2.2.1.2.2.2.2, bX2 G q1 ((o1 + 19) + 2) r4.2.2.2.2.1.1.1 r4.2.2.2.2.1.1.2.1 r4.2.2.2.2.1.1.2.2.1 r4.2.2.2.2.1.1.2.2.2.1 r4.2.2.2.2.1.1.2.2.2.2.1 r4.2.2.2.2.1.1.2.2.2.2.2.1 r4.2.2.2.2.1.1.2.2.2.2.2.2.1 r4.2.2.2.2.1.1.2.2.2.2.2.2.2, bX2 G q1 (o1 + 27) r4.2.2.2.2.2.1.1 r4.2.2.2.2.2.1.2.1 r4.2.2.2.2.2.1.2.2.1 r4.2.2.2.2.2.1.2.2.2.1 r4.2.2.2.2.2.1.2.2.2.2.1 r4.2.2.2.2.2.1.2.2.2.2.2.1 r4.2.2.2.2.2.1.2.2.2.2.2.2.1 r4.2.2.2.2.2.1.2.2.2.2.2.2.2, bX1 G q1 (o1 + 33) r4.2.2.2.2.2.2.1.1 r4.2.2.2.2.2.2.1.2.1 r4.2.2.2.2.2.2.1.2.2.1 r4.2.2.2.2.2.2.1.2.2.2, bX4 G q1 (o1 + 36) r4.2.2.2.2.2.2.2.1.1 r4.2.2.2.2.2.2.2.1.2, bX3 G q1 (o1 + 38) r4.2.2.2.2.2.2.2.2.1.1 r4.2.2.2.2.2.2.2.2.1.2.1 r4.2.2.2.2.2.2.2.2.1.2.2.1 r4.2.2.2.2.2.2.2.2.1.2.2.2, bX0 G q1 (o1 + 43) r4.2.2.2.2.2.2.2.2.2.1.2.2.1 r4.2.2.2.2.2.2.2.2.2.1.2.2.2, bX2 G q1 ((o1 + 43) + 3) r4.2.2.2.2.2.2.2.2.2.1.1.1 r4.2.2.2.2.2.2.2.2.2.1.1.2.1 r4.2.2.2.2.2.2.2.2.2.1.1.2.2.1 r4.2.2.2.2.2.2.2.2.2.1.1.2.2.2.1 r4.2.2.2.2.2.2.2.2.2.1.1.2.2.2.2.1 r4.2.2.2.2.2.2.2.2.2.1.1.2.2.2.2.2.1 r4.2.2.2.2.2.2.2.2.2.1.1.2.2.2.2.2.2.1 r4.2.2.2.2.2.2.2.2.2.1.1.2.2.2.2.2.2.2, bX4 G q1 ((o1 + 43) + 9) r4.2.2.2.2.2.2.2.2.2.1.2.1.1 r4.2.2.2.2.2.2.2.2.2.1.2.1.2, bX7 G q1 (o1 + 54) r4.2.2.2.2.2.2.2.2.2.2.1 r4.2.2.2.2.2.2.2.2.2.2.2.1 r4.2.2.2.2.2.2.2.2.2.2.2.2, bA48 G q2 o2 P2]) hS0 (c_X10_quarrel l G q1 o1 r1.2 v6 v5 0 r4 e5) zc_X10_quarrel rfl gL_friends_X10_quarrel ⟨Nat.le_of_ble_eq_true rfl, Nat.le_of_ble_eq_true rfl⟩ hK hA hT hw (is := [0, 1, 2, 3, 4, 5, 6, 7, 8, 9, 10, 11, 12, 13]) rfl rfl rfl rfl rfl rfl rfl hl.1 rfl (Nat.le_of_ble_eq_true rfl) dL_friends_49 (fun H locs hw => ?_)
        refine lv_if_eq (tgt := 57) hx hb dL_friends_52 rfl (fun hc => ?_) (fun hc => ?_)
        · have hf := z_t hc hf
          refine lv_iinc (v := (v6 + 1)) (lv' := [(6, .int (v6 + 1)), (0, .ref (q1 (o1 + 0))), (2, .ref (q2 (o2 + 0))), (3, .int v3), (4, .int v4), (5, .int v5)]) hx hb dL_friends_57 hl (k := 5) rfl rfl (by decide) rfl (fun ls hl => ?_)
          refine lv_goto (tgt := 12) hx hb dL_friends_60 rfl ?_
          exact ih _ _ _ _ _ _ _ _ _ hf hw (lv_sub hl [1, 2, 3, 4, 5, 0] rfl)
        · have hf := z_f hc hf
          refine lv_iconst (v := 0) hx hb dL_friends_55 rfl ?_
          cases hf
          exact z_zret hx hb hr (z_nb (Or.inl rfl)) hlk hw dL_friends_56
set_option maxHeartbeats 4000000 in
set_option maxRecDepth 100000 in
theorem k_L_friends_291 {p : Program} {l : Launch} {e : Env} {s : State} {m : MethodId} {args : Array Value} {below : List Frame} {meth : Method} {c : Code} {A : Nat → Prop} {G : zG} {q1 : Nat → Nat} {o1 : Nat} {q2 : Nat → Nat} {o2 : Nat} {r_211 : VX10 → VA48 → Int32 → Int32 → Int64 → Int32 → Int32 → Int32 → Option (Int32 × VX10)} (hZ : zZ p s m args meth c A G cL_friends 13 RL wsL_friends (some .boolean)) (y : Int32 × VX10) (h_211 : ∀ (P1 : VX10) (P2 : VA48) (v3 : Int32) (v5 : Int32) (v6 : Int64) (v9 : Int32) (v10 : Int32) (v11 : Int32) (H : Heap) (locs : List Loc) (ls : Array Slot), r_211 P1 P2 v3 v5 v6 v9 v10 v11 = some y → zH G A s.heap [bX10 G q1 o1, bX9 G q1 (o1 + 1) P1.1.1 P1.1.2.1 P1.1.2.2.1 P1.1.2.2.2.1 P1.1.2.2.2.2, bX6 G q1 (o1 + 3) P1.2.1.1 P1.2.1.2, bX8 G q1 (o1 + 12) P1.2.2.1.1 P1.2.2.1.2, bX5 G q1 (o1 + 19) P1.2.2.2.1.2.1 P1.2.2.2.1.2.2.1 P1.2.2.2.1.2.2.2.1 P1.2.2.2.1.2.2.2.2, bX2 G q1 ((o1 + 19) + 2) P1.2.2.2.1.1.1 P1.2.2.2.1.1.2.1 P1.2.2.2.1.1.2.2.1 P1.2.2.2.1.1.2.2.2.1 P1.2.2.2.1.1.2.2.2.2.1 P1.2.2.2.1.1.2.2.2.2.2.1 P1.2.2.2.1.1.2.2.2.2.2.2.1 P1.2.2.2.1.1.2.2.2.2.2.2.2, bX2 G q1 (o1 + 27) P1.2.2.2.2.1.1 P1.2.2.2.2.1.2.1 P1.2.2.2.2.1.2.2.1 P1.2.2.2.2.1.2.2.2.1 P1.2.2.2.2.1.2.2.2.2.1 P1.2.2.2.2.1.2.2.2.2.2.1 P1.2.2.2.2.1.2.2.2.2.2.2.1 P1.2.2.2.2.1.2.2.2.2.2.2.2, bX1 G q1 (o1 + 33) P1.2.2.2.2.2.1.1 P1.2.2.2.2.2.1.2.1 P1.2.2.2.2.2.1.2.2.1 P1.2.2.2.2.2.1.2.2.2, bX4 G q1 (o1 + 36) P1.2.2.2.2.2.2.1.1 P1.2.2.2.2.2.2.1.2, bX3 G q1 (o1 + 38) P1.2.2.2.2.2.2.2.1.1 P1.2.2.2.2.2.2.2.1.2.1 P1.2.2.2.2.2.2.2.1.2.2.1 P1.2.2.2.2.2.2.2.1.2.2.2, bX0 G q1 (o1 + 43) P1.2.2.2.2.2.2.2.2.1.2.2.1 P1.2.2.2.2.2.2.2.2.1.2.2.2, bX2 G q1 ((o1 + 43) + 3) P1.2.2.2.2.2.2.2.2.1.1.1 P1.2.2.2.2.2.2.2.2.1.1.2.1 P1.2.2.2.2.2.2.2.2.1.1.2.2.1 P1.2.2.2.2.2.2.2.2.1.1.2.2.2.1 P1.2.2.2.2.2.2.2.2.1.1.2.2.2.2.1 P1.2.2.2.2.2.2.2.2.1.1.2.2.2.2.2.1 P1.2.2.2.2.2.2.2.2.1.1.2.2.2.2.2.2.1 P1.2.2.2.2.2.2.2.2.1.1.2.2.2.2.2.2.2, bX4 G q1 ((o1 + 43) + 9) P1.2.2.2.2.2.2.2.2.1.2.1.1 P1.2.2.2.2.2.2.2.2.1.2.1.2, bX7 G q1 (o1 + 54) P1.2.2.2.2.2.2.2.2.2.1 P1.2.2.2.2.2.2.2.2.2.2.1 P1.2.2.2.2.2.2.2.2.2.2.2, bA48 G q2 o2 P2] H locs → lv_has ls 13 [(0, .ref (q1 (o1 + 0))), (2, .ref (q2 (o2 + 0))), (3, .int v3), (5, .int v5), (6, .long v6), (9, .int v9), (10, .int v10), (11, .int v11)] → W p l e { frames := 7, cells := 0, slots := 0, locals := 176 } s m args below meth c H locs 0 0 (MQ below (zQ (some (.int y.1)) (zPost G [bX10 G q1 o1, bX9 G q1 (o1 + 1) y.2.1.1 y.2.1.2.1 y.2.1.2.2.1 y.2.1.2.2.2.1 y.2.1.2.2.2.2, bX6 G q1 (o1 + 3) y.2.2.1.1 y.2.2.1.2, bX8 G q1 (o1 + 12) y.2.2.2.1.1 y.2.2.2.1.2, bX5 G q1 (o1 + 19) y.2.2.2.2.1.2.1 y.2.2.2.2.1.2.2.1 y.2.2.2.2.1.2.2.2.1 y.2.2.2.2.1.2.2.2.2, bX2 G q1 ((o1 + 19) + 2) y.2.2.2.2.1.1.1 y.2.2.2.2.1.1.2.1 y.2.2.2.2.1.1.2.2.1 y.2.2.2.2.1.1.2.2.2.1 y.2.2.2.2.1.1.2.2.2.2.1 y.2.2.2.2.1.1.2.2.2.2.2.1 y.2.2.2.2.1.1.2.2.2.2.2.2.1 y.2.2.2.2.1.1.2.2.2.2.2.2.2, bX2 G q1 (o1 + 27) y.2.2.2.2.2.1.1 y.2.2.2.2.2.1.2.1 y.2.2.2.2.2.1.2.2.1 y.2.2.2.2.2.1.2.2.2.1 y.2.2.2.2.2.1.2.2.2.2.1 y.2.2.2.2.2.1.2.2.2.2.2.1 y.2.2.2.2.2.1.2.2.2.2.2.2.1 y.2.2.2.2.2.1.2.2.2.2.2.2.2, bX1 G q1 (o1 + 33) y.2.2.2.2.2.2.1.1 y.2.2.2.2.2.2.1.2.1 y.2.2.2.2.2.2.1.2.2.1 y.2.2.2.2.2.2.1.2.2.2, bX4 G q1 (o1 + 36) y.2.2.2.2.2.2.2.1.1 y.2.2.2.2.2.2.2.1.2, bX3 G q1 (o1 + 38) y.2.2.2.2.2.2.2.2.1.1 y.2.2.2.2.2.2.2.2.1.2.1 y.2.2.2.2.2.2.2.2.1.2.2.1 y.2.2.2.2.2.2.2.2.1.2.2.2, bX0 G q1 (o1 + 43) y.2.2.2.2.2.2.2.2.2.1.2.2.1 y.2.2.2.2.2.2.2.2.2.1.2.2.2, bX2 G q1 ((o1 + 43) + 3) y.2.2.2.2.2.2.2.2.2.1.1.1 y.2.2.2.2.2.2.2.2.2.1.1.2.1 y.2.2.2.2.2.2.2.2.2.1.1.2.2.1 y.2.2.2.2.2.2.2.2.2.1.1.2.2.2.1 y.2.2.2.2.2.2.2.2.2.1.1.2.2.2.2.1 y.2.2.2.2.2.2.2.2.2.1.1.2.2.2.2.2.1 y.2.2.2.2.2.2.2.2.2.1.1.2.2.2.2.2.2.1 y.2.2.2.2.2.2.2.2.2.1.1.2.2.2.2.2.2.2, bX4 G q1 ((o1 + 43) + 9) y.2.2.2.2.2.2.2.2.2.1.2.1.1 y.2.2.2.2.2.2.2.2.2.1.2.1.2, bX7 G q1 (o1 + 54) y.2.2.2.2.2.2.2.2.2.2.1 y.2.2.2.2.2.2.2.2.2.2.2.1 y.2.2.2.2.2.2.2.2.2.2.2.2, bA48 G q2 o2 P2]) A) args s 0 0 A) (F0 m 211 ls [])) : ∀ (P1 : VX10) (P2 : VA48) (v3 : Int32) (v5 : Int32) (v6 : Int64) (v9 : Int32) (v10 : Int32) (v11 : Int32) (H : Heap) (locs : List Loc) (ls : Array Slot), f_L_friends_291 (zX G) r_211 P1 P2 v3 v5 v6 v9 v10 v11 = some y → zH G A s.heap [bX10 G q1 o1, bX9 G q1 (o1 + 1) P1.1.1 P1.1.2.1 P1.1.2.2.1 P1.1.2.2.2.1 P1.1.2.2.2.2, bX6 G q1 (o1 + 3) P1.2.1.1 P1.2.1.2, bX8 G q1 (o1 + 12) P1.2.2.1.1 P1.2.2.1.2, bX5 G q1 (o1 + 19) P1.2.2.2.1.2.1 P1.2.2.2.1.2.2.1 P1.2.2.2.1.2.2.2.1 P1.2.2.2.1.2.2.2.2, bX2 G q1 ((o1 + 19) + 2) P1.2.2.2.1.1.1 P1.2.2.2.1.1.2.1 P1.2.2.2.1.1.2.2.1 P1.2.2.2.1.1.2.2.2.1 P1.2.2.2.1.1.2.2.2.2.1 P1.2.2.2.1.1.2.2.2.2.2.1 P1.2.2.2.1.1.2.2.2.2.2.2.1 P1.2.2.2.1.1.2.2.2.2.2.2.2, bX2 G q1 (o1 + 27) P1.2.2.2.2.1.1 P1.2.2.2.2.1.2.1 P1.2.2.2.2.1.2.2.1 P1.2.2.2.2.1.2.2.2.1 P1.2.2.2.2.1.2.2.2.2.1 P1.2.2.2.2.1.2.2.2.2.2.1 P1.2.2.2.2.1.2.2.2.2.2.2.1 P1.2.2.2.2.1.2.2.2.2.2.2.2, bX1 G q1 (o1 + 33) P1.2.2.2.2.2.1.1 P1.2.2.2.2.2.1.2.1 P1.2.2.2.2.2.1.2.2.1 P1.2.2.2.2.2.1.2.2.2, bX4 G q1 (o1 + 36) P1.2.2.2.2.2.2.1.1 P1.2.2.2.2.2.2.1.2, bX3 G q1 (o1 + 38) P1.2.2.2.2.2.2.2.1.1 P1.2.2.2.2.2.2.2.1.2.1 P1.2.2.2.2.2.2.2.1.2.2.1 P1.2.2.2.2.2.2.2.1.2.2.2, bX0 G q1 (o1 + 43) P1.2.2.2.2.2.2.2.2.1.2.2.1 P1.2.2.2.2.2.2.2.2.1.2.2.2, bX2 G q1 ((o1 + 43) + 3) P1.2.2.2.2.2.2.2.2.1.1.1 P1.2.2.2.2.2.2.2.2.1.1.2.1 P1.2.2.2.2.2.2.2.2.1.1.2.2.1 P1.2.2.2.2.2.2.2.2.1.1.2.2.2.1 P1.2.2.2.2.2.2.2.2.1.1.2.2.2.2.1 P1.2.2.2.2.2.2.2.2.1.1.2.2.2.2.2.1 P1.2.2.2.2.2.2.2.2.1.1.2.2.2.2.2.2.1 P1.2.2.2.2.2.2.2.2.1.1.2.2.2.2.2.2.2, bX4 G q1 ((o1 + 43) + 9) P1.2.2.2.2.2.2.2.2.1.2.1.1 P1.2.2.2.2.2.2.2.2.1.2.1.2, bX7 G q1 (o1 + 54) P1.2.2.2.2.2.2.2.2.2.1 P1.2.2.2.2.2.2.2.2.2.2.1 P1.2.2.2.2.2.2.2.2.2.2.2, bA48 G q2 o2 P2] H locs → lv_has ls 13 [(0, .ref (q1 (o1 + 0))), (2, .ref (q2 (o2 + 0))), (3, .int v3), (5, .int v5), (6, .long v6), (9, .int v9), (10, .int v10), (11, .int v11)] → W p l e { frames := 7, cells := 0, slots := 0, locals := 176 } s m args below meth c H locs 0 0 (MQ below (zQ (some (.int y.1)) (zPost G [bX10 G q1 o1, bX9 G q1 (o1 + 1) y.2.1.1 y.2.1.2.1 y.2.1.2.2.1 y.2.1.2.2.2.1 y.2.1.2.2.2.2, bX6 G q1 (o1 + 3) y.2.2.1.1 y.2.2.1.2, bX8 G q1 (o1 + 12) y.2.2.2.1.1 y.2.2.2.1.2, bX5 G q1 (o1 + 19) y.2.2.2.2.1.2.1 y.2.2.2.2.1.2.2.1 y.2.2.2.2.1.2.2.2.1 y.2.2.2.2.1.2.2.2.2, bX2 G q1 ((o1 + 19) + 2) y.2.2.2.2.1.1.1 y.2.2.2.2.1.1.2.1 y.2.2.2.2.1.1.2.2.1 y.2.2.2.2.1.1.2.2.2.1 y.2.2.2.2.1.1.2.2.2.2.1 y.2.2.2.2.1.1.2.2.2.2.2.1 y.2.2.2.2.1.1.2.2.2.2.2.2.1 y.2.2.2.2.1.1.2.2.2.2.2.2.2, bX2 G q1 (o1 + 27) y.2.2.2.2.2.1.1 y.2.2.2.2.2.1.2.1 y.2.2.2.2.2.1.2.2.1 y.2.2.2.2.2.1.2.2.2.1 y.2.2.2.2.2.1.2.2.2.2.1 y.2.2.2.2.2.1.2.2.2.2.2.1 y.2.2.2.2.2.1.2.2.2.2.2.2.1 y.2.2.2.2.2.1.2.2.2.2.2.2.2, bX1 G q1 (o1 + 33) y.2.2.2.2.2.2.1.1 y.2.2.2.2.2.2.1.2.1 y.2.2.2.2.2.2.1.2.2.1 y.2.2.2.2.2.2.1.2.2.2, bX4 G q1 (o1 + 36) y.2.2.2.2.2.2.2.1.1 y.2.2.2.2.2.2.2.1.2, bX3 G q1 (o1 + 38) y.2.2.2.2.2.2.2.2.1.1 y.2.2.2.2.2.2.2.2.1.2.1 y.2.2.2.2.2.2.2.2.1.2.2.1 y.2.2.2.2.2.2.2.2.1.2.2.2, bX0 G q1 (o1 + 43) y.2.2.2.2.2.2.2.2.2.1.2.2.1 y.2.2.2.2.2.2.2.2.2.1.2.2.2, bX2 G q1 ((o1 + 43) + 3) y.2.2.2.2.2.2.2.2.2.1.1.1 y.2.2.2.2.2.2.2.2.2.1.1.2.1 y.2.2.2.2.2.2.2.2.2.1.1.2.2.1 y.2.2.2.2.2.2.2.2.2.1.1.2.2.2.1 y.2.2.2.2.2.2.2.2.2.1.1.2.2.2.2.1 y.2.2.2.2.2.2.2.2.2.1.1.2.2.2.2.2.1 y.2.2.2.2.2.2.2.2.2.1.1.2.2.2.2.2.2.1 y.2.2.2.2.2.2.2.2.2.1.1.2.2.2.2.2.2.2, bX4 G q1 ((o1 + 43) + 9) y.2.2.2.2.2.2.2.2.2.1.2.1.1 y.2.2.2.2.2.2.2.2.2.1.2.1.2, bX7 G q1 (o1 + 54) y.2.2.2.2.2.2.2.2.2.2.1 y.2.2.2.2.2.2.2.2.2.2.2.1 y.2.2.2.2.2.2.2.2.2.2.2.2, bA48 G q2 o2 P2]) A) args s 0 0 A) (F0 m 291 ls []) := by
  obtain ⟨hS0, hr, hlk, hK, hA, hT⟩ := id hZ
  have hx := hS0.1
  have hb := hS0.2.1
  have hml := hS0.2.2.1
  have hown : s.vm.findClass RL = some m.cls := hS0.2.2.2.1
  have hts := hS0.2.2.2.2
  intro P1 P2 v3 v5 v6 v9 v10 v11 H locs ls hf hw hl
  unfold f_L_friends_291 at hf
  refine lv_aload_n hx hb dL_friends_291 rfl (lv_at hl 0 rfl) ?_
  refine lv_aload_n hx hb dL_friends_292 rfl (lv_at hl 0 rfl) ?_
  refine lv_iload hx hb dL_friends_293 (lv_at hl 7 rfl) ?_
  refine lv_iconst (v := 0) hx hb dL_friends_295 rfl ?_
  obtain ⟨r6, e7, hf⟩ := z_bd hf
  refine z_callV1 (As := [.int v11, .int 0]) (rest := [.ref (q1 (o1 + 0))]) (bs' := [bX10 G q1 o1, bX9 G q1 (o1 + 1) r6.2.1.1 r6.2.1.2.1 r6.2.1.2.2.1 r6.2.1.2.2.2.1 r6.2.1.2.2.2.2, bX6 G q1 (o1 + 3) r6.2.2.1.1 r6.2.2.1.2, bX8 G q1 (o1 + 12) r6.2.2.2.1.1 r6.2.2.2.1.2, bX5 G q1 (o1 + 19) r6.2.2.2.2.1.2.1 r6.2.2.2.2.1.2.2.1 r6.2.2.2.2.1.2.2.2.1 r6.2.2.2.2.1.2.2.2.2, bX2 G q1 ((o1 + 19) + 2) r6.2.2.2.2.1.1.1 r6.2.2.2.2.1.1.2.1 r6.2.2.2.2.1.1.2.2.1 r6.2.2.2.2.1.1.2.2.2.1 r6.2.2.2.2.1.1.2.2.2.2.1 r6.2.2.2.2.1.1.2.2.2.2.2.1 r6.2.2.2.2.1.1.2.2.2.2.2.2.1 r6.2.2.2.2.1.1.2.2.2.2.2.2.2, bX2 G q1 (o1 + 27) r6.2.2.2.2.2.1.1 r6.2.2.2.2.2.1.2.1 r6.2.2.2.2.2.1.2.2.1 r6.2.2.2.2.2.1.2.2.2.1 r6.2.2.2.2.2.1.2.2.2.2.1 r6.2.2.2.2.2.1.2.2.2.2.2.1 r6.2.2.2.2.2.1.2.2.2.2.2.2.1 r6.2.2.2.2.2.1.2.2.2.2.2.2.2, bX1 G q1 (o1 + 33) r6.2.2.2.2.2.2.1.1 r6.2.2.2.2.2.2.1.2.1 r6.2.2.2.2.2.2.1.2.2.1 r6.2.2.2.2.2.2.1.2.2.2, bX4 G q1 (o1 + 36) r6.2.2.2.2.2.2.2.1.1 r6.2.2.2.2.2.2.2.1.2, bX3 G q1 (o1 + 38) r6.2.2.2.2.2.2.2.2.1.1 r6.2.2.2.2.2.2.2.2.1.2.1 r6.2.2.2.2.2.2.2.2.1.2.2.1 r6.2.2.2.2.2.2.2.2.1.2.2.2, bX0 G q1 (o1 + 43) r6.2.2.2.2.2.2.2.2.2.1.2.2.1 r6.2.2.2.2.2.2.2.2.2.1.2.2.2, bX2 G q1 ((o1 + 43) + 3) r6.2.2.2.2.2.2.2.2.2.1.1.1 r6.2.2.2.2.2.2.2.2.2.1.1.2.1 r6.2.2.2.2.2.2.2.2.2.1.1.2.2.1 r6.2.2.2.2.2.2.2.2.2.1.1.2.2.2.1 r6.2.2.2.2.2.2.2.2.2.1.1.2.2.2.2.1 r6.2.2.2.2.2.2.2.2.2.1.1.2.2.2.2.2.1 r6.2.2.2.2.2.2.2.2.2.1.1.2.2.2.2.2.2.1 r6.2.2.2.2.2.2.2.2.2.1.1.2.2.2.2.2.2.2, bX4 G q1 ((o1 + 43) + 9) r6.2.2.2.2.2.2.2.2.2.1.2.1.1 r6.2.2.2.2.2.2.2.2.2.1.2.1.2, bX7 G q1 (o1 + 54) r6.2.2.2.2.2.2.2.2.2.2.1 r6.2.2.2.2.2.2.2.2.2.2.2.1 r6.2.2.2.2.2.2.2.2.2.2.2.2, bA48 G q2 o2 P2]) hS0 (c_X10_door l G q1 o1 P1 v11 0 r6 e7) zc_X10_door rfl gL_friends_X10_door ⟨Nat.le_of_ble_eq_true rfl, Nat.le_of_ble_eq_true rfl⟩ hK hA hT hw (is := [0, 1, 2, 3, 4, 5, 6, 7, 8, 9, 10, 11, 12, 13]) rfl rfl rfl rfl rfl rfl rfl hl.1 rfl (Nat.le_of_ble_eq_true rfl) dL_friends_296 (fun H locs hw => ?_)
  obtain ⟨r8, e9, hf⟩ := z_bd hf
  refine z_callS1 (As := [.ref (q1 (o1 + 0)), .int r6.1]) (rest := []) (bs' := [bX10 G q1 o1, bX9 G q1 (o1 + 1) r6.2.1.1 r6.2.1.2.1 r6.2.1.2.2.1 r6.2.1.2.2.2.1 r6.2.1.2.2.2.2, bX6 G q1 (o1 + 3) r6.2.2.1.1 r6.2.2.1.2, bX8 G q1 (o1 + 12) r6.2.2.2.1.1 r6.2.2.2.1.2, bX5 G q1 (o1 + 19) r6.2.2.2.2.1.2.1 r6.2.2.2.2.1.2.2.1 r6.2.2.2.2.1.2.2.2.1 r6.2.2.2.2.1.2.2.2.2, bX2 G q1 ((o1 + 19) + 2) r6.2.2.2.2.1.1.1 r6.2.2.2.2.1.1.2.1 r6.2.2.2.2.1.1.2.2.1 r6.2.2.2.2.1.1.2.2.2.1 r6.2.2.2.2.1.1.2.2.2.2.1 r6.2.2.2.2.1.1.2.2.2.2.2.1 r6.2.2.2.2.1.1.2.2.2.2.2.2.1 r6.2.2.2.2.1.1.2.2.2.2.2.2.2, bX2 G q1 (o1 + 27) r6.2.2.2.2.2.1.1 r6.2.2.2.2.2.1.2.1 r6.2.2.2.2.2.1.2.2.1 r6.2.2.2.2.2.1.2.2.2.1 r6.2.2.2.2.2.1.2.2.2.2.1 r6.2.2.2.2.2.1.2.2.2.2.2.1 r6.2.2.2.2.2.1.2.2.2.2.2.2.1 r6.2.2.2.2.2.1.2.2.2.2.2.2.2, bX1 G q1 (o1 + 33) r6.2.2.2.2.2.2.1.1 r6.2.2.2.2.2.2.1.2.1 r6.2.2.2.2.2.2.1.2.2.1 r6.2.2.2.2.2.2.1.2.2.2, bX4 G q1 (o1 + 36) r6.2.2.2.2.2.2.2.1.1 r6.2.2.2.2.2.2.2.1.2, bX3 G q1 (o1 + 38) r6.2.2.2.2.2.2.2.2.1.1 r6.2.2.2.2.2.2.2.2.1.2.1 r6.2.2.2.2.2.2.2.2.1.2.2.1 r6.2.2.2.2.2.2.2.2.1.2.2.2, bX0 G q1 (o1 + 43) r6.2.2.2.2.2.2.2.2.2.1.2.2.1 r6.2.2.2.2.2.2.2.2.2.1.2.2.2, bX2 G q1 ((o1 + 43) + 3) r6.2.2.2.2.2.2.2.2.2.1.1.1 r6.2.2.2.2.2.2.2.2.2.1.1.2.1 r6.2.2.2.2.2.2.2.2.2.1.1.2.2.1 r6.2.2.2.2.2.2.2.2.2.1.1.2.2.2.1 r6.2.2.2.2.2.2.2.2.2.1.1.2.2.2.2.1 r6.2.2.2.2.2.2.2.2.2.1.1.2.2.2.2.2.1 r6.2.2.2.2.2.2.2.2.2.1.1.2.2.2.2.2.2.1 r6.2.2.2.2.2.2.2.2.2.1.1.2.2.2.2.2.2.2, bX4 G q1 ((o1 + 43) + 9) r6.2.2.2.2.2.2.2.2.2.1.2.1.1 r6.2.2.2.2.2.2.2.2.2.1.2.1.2, bX7 G q1 (o1 + 54) r6.2.2.2.2.2.2.2.2.2.2.1 r6.2.2.2.2.2.2.2.2.2.2.2.1 r6.2.2.2.2.2.2.2.2.2.2.2.2, bA48 G q2 o2 P2]) hS0 (c_L_tells l G q1 o1 r6.2 r6.1 r8 e9) zc_L_tells gL_friends_L_tells ⟨Nat.le_of_ble_eq_true rfl, Nat.le_of_ble_eq_true rfl⟩ hK hA hT hw (is := [0, 1, 2, 3, 4, 5, 6, 7, 8, 9, 10, 11, 12, 13]) rfl rfl rfl rfl rfl hl.1 rfl (Nat.le_of_ble_eq_true rfl) dL_friends_299 (fun H locs hw => ?_)
  refine lv_aload_n hx hb dL_friends_302 rfl (lv_at hl 1 rfl) ?_
  refine lv_iconst (v := 1) hx hb dL_friends_303 rfl ?_
  refine lv_iconst (v := 4) hx hb dL_friends_304 rfl ?_
  refine lv_iload hx hb dL_friends_305 (lv_at hl 7 rfl) ?_
  refine lv_imul hx hb dL_friends_307 ?_
  refine lv_iadd hx hb dL_friends_308 ?_
  obtain ⟨g10, hf⟩ := z_gd hf
  refine z_iald hS0 hK hw 14 0 (zIn_vp g10) rfl rfl dL_friends_309 ?_
  refine lv_icmp_ne (tgt := 335) hx hb dL_friends_310 rfl (fun hc => ?_) (fun hc => ?_)
  · have hf := z_f hc hf
    refine lv_iconst (v := 0) hx hb dL_friends_335 rfl ?_
    cases hf
    exact z_zret hx hb hr (z_nb (Or.inl rfl)) hlk hw dL_friends_336
  · have hf := z_t hc hf
    refine lv_aload_n hx hb dL_friends_313 rfl (lv_at hl 0 rfl) ?_
    refine lv_aload_n hx hb dL_friends_314 rfl (lv_at hl 0 rfl) ?_
    refine lv_iload hx hb dL_friends_315 (lv_at hl 7 rfl) ?_
    refine lv_iconst (v := 2) hx hb dL_friends_317 rfl ?_
    obtain ⟨r11, e12, hf⟩ := z_bd hf
    refine z_callV1 (As := [.int v11, .int 2]) (rest := [.ref (q1 (o1 + 0))]) (bs' := [bX10 G q1 o1, bX9 G q1 (o1 + 1) r11.2.1.1 r11.2.1.2.1 r11.2.1.2.2.1 r11.2.1.2.2.2.1 r11.2.1.2.2.2.2, bX6 G q1 (o1 + 3) r11.2.2.1.1 r11.2.2.1.2, bX8 G q1 (o1 + 12) r11.2.2.2.1.1 r11.2.2.2.1.2, bX5 G q1 (o1 + 19) r11.2.2.2.2.1.2.1 r11.2.2.2.2.1.2.2.1 r11.2.2.2.2.1.2.2.2.1 r11.2.2.2.2.1.2.2.2.2, bX2 G q1 ((o1 + 19) + 2) r11.2.2.2.2.1.1.1 r11.2.2.2.2.1.1.2.1 r11.2.2.2.2.1.1.2.2.1 r11.2.2.2.2.1.1.2.2.2.1 r11.2.2.2.2.1.1.2.2.2.2.1 r11.2.2.2.2.1.1.2.2.2.2.2.1 r11.2.2.2.2.1.1.2.2.2.2.2.2.1 r11.2.2.2.2.1.1.2.2.2.2.2.2.2, bX2 G q1 (o1 + 27) r11.2.2.2.2.2.1.1 r11.2.2.2.2.2.1.2.1 r11.2.2.2.2.2.1.2.2.1 r11.2.2.2.2.2.1.2.2.2.1 r11.2.2.2.2.2.1.2.2.2.2.1 r11.2.2.2.2.2.1.2.2.2.2.2.1 r11.2.2.2.2.2.1.2.2.2.2.2.2.1 r11.2.2.2.2.2.1.2.2.2.2.2.2.2, bX1 G q1 (o1 + 33) r11.2.2.2.2.2.2.1.1 r11.2.2.2.2.2.2.1.2.1 r11.2.2.2.2.2.2.1.2.2.1 r11.2.2.2.2.2.2.1.2.2.2, bX4 G q1 (o1 + 36) r11.2.2.2.2.2.2.2.1.1 r11.2.2.2.2.2.2.2.1.2, bX3 G q1 (o1 + 38) r11.2.2.2.2.2.2.2.2.1.1 r11.2.2.2.2.2.2.2.2.1.2.1 r11.2.2.2.2.2.2.2.2.1.2.2.1 r11.2.2.2.2.2.2.2.2.1.2.2.2, bX0 G q1 (o1 + 43) r11.2.2.2.2.2.2.2.2.2.1.2.2.1 r11.2.2.2.2.2.2.2.2.2.1.2.2.2, bX2 G q1 ((o1 + 43) + 3) r11.2.2.2.2.2.2.2.2.2.1.1.1 r11.2.2.2.2.2.2.2.2.2.1.1.2.1 r11.2.2.2.2.2.2.2.2.2.1.1.2.2.1 r11.2.2.2.2.2.2.2.2.2.1.1.2.2.2.1 r11.2.2.2.2.2.2.2.2.2.1.1.2.2.2.2.1 r11.2.2.2.2.2.2.2.2.2.1.1.2.2.2.2.2.1 r11.2.2.2.2.2.2.2.2.2.1.1.2.2.2.2.2.2.1 r11.2.2.2.2.2.2.2.2.2.1.1.2.2.2.2.2.2.2, bX4 G q1 ((o1 + 43) + 9) r11.2.2.2.2.2.2.2.2.2.1.2.1.1 r11.2.2.2.2.2.2.2.2.2.1.2.1.2, bX7 G q1 (o1 + 54) r11.2.2.2.2.2.2.2.2.2.2.1 r11.2.2.2.2.2.2.2.2.2.2.2.1 r11.2.2.2.2.2.2.2.2.2.2.2.2, bA48 G q2 o2 P2]) hS0 (c_X10_door l G q1 o1 r6.2 v11 2 r11 e12) zc_X10_door rfl gL_friends_X10_door ⟨Nat.le_of_ble_eq_true rfl, Nat.le_of_ble_eq_true rfl⟩ hK hA hT hw (is := [0, 1, 2, 3, 4, 5, 6, 7, 8, 9, 10, 11, 12, 13]) rfl rfl rfl rfl rfl rfl rfl hl.1 rfl (Nat.le_of_ble_eq_true rfl) dL_friends_318 (fun H locs hw => ?_)
    obtain ⟨r13, e14, hf⟩ := z_bd hf
    refine z_callS1 (As := [.ref (q1 (o1 + 0)), .int r11.1]) (rest := []) (bs' := [bX10 G q1 o1, bX9 G q1 (o1 + 1) r11.2.1.1 r11.2.1.2.1 r11.2.1.2.2.1 r11.2.1.2.2.2.1 r11.2.1.2.2.2.2, bX6 G q1 (o1 + 3) r11.2.2.1.1 r11.2.2.1.2, bX8 G q1 (o1 + 12) r11.2.2.2.1.1 r11.2.2.2.1.2, bX5 G q1 (o1 + 19) r11.2.2.2.2.1.2.1 r11.2.2.2.2.1.2.2.1 r11.2.2.2.2.1.2.2.2.1 r11.2.2.2.2.1.2.2.2.2, bX2 G q1 ((o1 + 19) + 2) r11.2.2.2.2.1.1.1 r11.2.2.2.2.1.1.2.1 r11.2.2.2.2.1.1.2.2.1 r11.2.2.2.2.1.1.2.2.2.1 r11.2.2.2.2.1.1.2.2.2.2.1 r11.2.2.2.2.1.1.2.2.2.2.2.1 r11.2.2.2.2.1.1.2.2.2.2.2.2.1 r11.2.2.2.2.1.1.2.2.2.2.2.2.2, bX2 G q1 (o1 + 27) r11.2.2.2.2.2.1.1 r11.2.2.2.2.2.1.2.1 r11.2.2.2.2.2.1.2.2.1 r11.2.2.2.2.2.1.2.2.2.1 r11.2.2.2.2.2.1.2.2.2.2.1 r11.2.2.2.2.2.1.2.2.2.2.2.1 r11.2.2.2.2.2.1.2.2.2.2.2.2.1 r11.2.2.2.2.2.1.2.2.2.2.2.2.2, bX1 G q1 (o1 + 33) r11.2.2.2.2.2.2.1.1 r11.2.2.2.2.2.2.1.2.1 r11.2.2.2.2.2.2.1.2.2.1 r11.2.2.2.2.2.2.1.2.2.2, bX4 G q1 (o1 + 36) r11.2.2.2.2.2.2.2.1.1 r11.2.2.2.2.2.2.2.1.2, bX3 G q1 (o1 + 38) r11.2.2.2.2.2.2.2.2.1.1 r11.2.2.2.2.2.2.2.2.1.2.1 r11.2.2.2.2.2.2.2.2.1.2.2.1 r11.2.2.2.2.2.2.2.2.1.2.2.2, bX0 G q1 (o1 + 43) r11.2.2.2.2.2.2.2.2.2.1.2.2.1 r11.2.2.2.2.2.2.2.2.2.1.2.2.2, bX2 G q1 ((o1 + 43) + 3) r11.2.2.2.2.2.2.2.2.2.1.1.1 r11.2.2.2.2.2.2.2.2.2.1.1.2.1 r11.2.2.2.2.2.2.2.2.2.1.1.2.2.1 r11.2.2.2.2.2.2.2.2.2.1.1.2.2.2.1 r11.2.2.2.2.2.2.2.2.2.1.1.2.2.2.2.1 r11.2.2.2.2.2.2.2.2.2.1.1.2.2.2.2.2.1 r11.2.2.2.2.2.2.2.2.2.1.1.2.2.2.2.2.2.1 r11.2.2.2.2.2.2.2.2.2.1.1.2.2.2.2.2.2.2, bX4 G q1 ((o1 + 43) + 9) r11.2.2.2.2.2.2.2.2.2.1.2.1.1 r11.2.2.2.2.2.2.2.2.2.1.2.1.2, bX7 G q1 (o1 + 54) r11.2.2.2.2.2.2.2.2.2.2.1 r11.2.2.2.2.2.2.2.2.2.2.2.1 r11.2.2.2.2.2.2.2.2.2.2.2.2, bA48 G q2 o2 P2]) hS0 (c_L_tells l G q1 o1 r11.2 r11.1 r13 e14) zc_L_tells gL_friends_L_tells ⟨Nat.le_of_ble_eq_true rfl, Nat.le_of_ble_eq_true rfl⟩ hK hA hT hw (is := [0, 1, 2, 3, 4, 5, 6, 7, 8, 9, 10, 11, 12, 13]) rfl rfl rfl rfl rfl hl.1 rfl (Nat.le_of_ble_eq_true rfl) dL_friends_321 (fun H locs hw => ?_)
    refine lv_aload_n hx hb dL_friends_324 rfl (lv_at hl 1 rfl) ?_
    refine lv_iconst (v := 3) hx hb dL_friends_325 rfl ?_
    refine lv_iconst (v := 4) hx hb dL_friends_326 rfl ?_
    refine lv_iload hx hb dL_friends_327 (lv_at hl 7 rfl) ?_
    refine lv_imul hx hb dL_friends_329 ?_
    refine lv_iadd hx hb dL_friends_330 ?_
    obtain ⟨g15, hf⟩ := z_gd hf
    refine z_iald hS0 hK hw 14 0 (zIn_vp g15) rfl rfl dL_friends_331 ?_
    refine lv_icmp_eq (tgt := 337) hx hb dL_friends_332 rfl (fun hc => ?_) (fun hc => ?_)
    · have hf := z_t hc hf
      refine lv_iinc (v := (v11 + 1)) (lv' := [(11, .int (v11 + 1)), (0, .ref (q1 (o1 + 0))), (2, .ref (q2 (o2 + 0))), (3, .int v3), (5, .int v5), (6, .long v6), (9, .int v9), (10, .int v10)]) hx hb dL_friends_337 hl (k := 7) rfl rfl (by decide) rfl (fun ls hl => ?_)
      refine lv_goto (tgt := 211) hx hb dL_friends_340 rfl ?_
      exact h_211 _ _ _ _ _ _ _ _ _ _ _ hf hw (lv_sub hl [1, 2, 3, 4, 5, 6, 7, 0] rfl)
    · have hf := z_f hc hf
      refine lv_iconst (v := 0) hx hb dL_friends_335 rfl ?_
      cases hf
      exact z_zret hx hb hr (z_nb (Or.inl rfl)) hlk hw dL_friends_336
set_option maxHeartbeats 4000000 in
set_option maxRecDepth 100000 in
theorem k_L_friends_263 {p : Program} {l : Launch} {e : Env} {s : State} {m : MethodId} {args : Array Value} {below : List Frame} {meth : Method} {c : Code} {A : Nat → Prop} {G : zG} {q1 : Nat → Nat} {o1 : Nat} {q2 : Nat → Nat} {o2 : Nat} {r_211 : VX10 → VA48 → Int32 → Int32 → Int64 → Int32 → Int32 → Int32 → Option (Int32 × VX10)} (hZ : zZ p s m args meth c A G cL_friends 13 RL wsL_friends (some .boolean)) (y : Int32 × VX10) (h_211 : ∀ (P1 : VX10) (P2 : VA48) (v3 : Int32) (v5 : Int32) (v6 : Int64) (v9 : Int32) (v10 : Int32) (v11 : Int32) (H : Heap) (locs : List Loc) (ls : Array Slot), r_211 P1 P2 v3 v5 v6 v9 v10 v11 = some y → zH G A s.heap [bX10 G q1 o1, bX9 G q1 (o1 + 1) P1.1.1 P1.1.2.1 P1.1.2.2.1 P1.1.2.2.2.1 P1.1.2.2.2.2, bX6 G q1 (o1 + 3) P1.2.1.1 P1.2.1.2, bX8 G q1 (o1 + 12) P1.2.2.1.1 P1.2.2.1.2, bX5 G q1 (o1 + 19) P1.2.2.2.1.2.1 P1.2.2.2.1.2.2.1 P1.2.2.2.1.2.2.2.1 P1.2.2.2.1.2.2.2.2, bX2 G q1 ((o1 + 19) + 2) P1.2.2.2.1.1.1 P1.2.2.2.1.1.2.1 P1.2.2.2.1.1.2.2.1 P1.2.2.2.1.1.2.2.2.1 P1.2.2.2.1.1.2.2.2.2.1 P1.2.2.2.1.1.2.2.2.2.2.1 P1.2.2.2.1.1.2.2.2.2.2.2.1 P1.2.2.2.1.1.2.2.2.2.2.2.2, bX2 G q1 (o1 + 27) P1.2.2.2.2.1.1 P1.2.2.2.2.1.2.1 P1.2.2.2.2.1.2.2.1 P1.2.2.2.2.1.2.2.2.1 P1.2.2.2.2.1.2.2.2.2.1 P1.2.2.2.2.1.2.2.2.2.2.1 P1.2.2.2.2.1.2.2.2.2.2.2.1 P1.2.2.2.2.1.2.2.2.2.2.2.2, bX1 G q1 (o1 + 33) P1.2.2.2.2.2.1.1 P1.2.2.2.2.2.1.2.1 P1.2.2.2.2.2.1.2.2.1 P1.2.2.2.2.2.1.2.2.2, bX4 G q1 (o1 + 36) P1.2.2.2.2.2.2.1.1 P1.2.2.2.2.2.2.1.2, bX3 G q1 (o1 + 38) P1.2.2.2.2.2.2.2.1.1 P1.2.2.2.2.2.2.2.1.2.1 P1.2.2.2.2.2.2.2.1.2.2.1 P1.2.2.2.2.2.2.2.1.2.2.2, bX0 G q1 (o1 + 43) P1.2.2.2.2.2.2.2.2.1.2.2.1 P1.2.2.2.2.2.2.2.2.1.2.2.2, bX2 G q1 ((o1 + 43) + 3) P1.2.2.2.2.2.2.2.2.1.1.1 P1.2.2.2.2.2.2.2.2.1.1.2.1 P1.2.2.2.2.2.2.2.2.1.1.2.2.1 P1.2.2.2.2.2.2.2.2.1.1.2.2.2.1 P1.2.2.2.2.2.2.2.2.1.1.2.2.2.2.1 P1.2.2.2.2.2.2.2.2.1.1.2.2.2.2.2.1 P1.2.2.2.2.2.2.2.2.1.1.2.2.2.2.2.2.1 P1.2.2.2.2.2.2.2.2.1.1.2.2.2.2.2.2.2, bX4 G q1 ((o1 + 43) + 9) P1.2.2.2.2.2.2.2.2.1.2.1.1 P1.2.2.2.2.2.2.2.2.1.2.1.2, bX7 G q1 (o1 + 54) P1.2.2.2.2.2.2.2.2.2.1 P1.2.2.2.2.2.2.2.2.2.2.1 P1.2.2.2.2.2.2.2.2.2.2.2, bA48 G q2 o2 P2] H locs → lv_has ls 13 [(0, .ref (q1 (o1 + 0))), (2, .ref (q2 (o2 + 0))), (3, .int v3), (5, .int v5), (6, .long v6), (9, .int v9), (10, .int v10), (11, .int v11)] → W p l e { frames := 7, cells := 0, slots := 0, locals := 176 } s m args below meth c H locs 0 0 (MQ below (zQ (some (.int y.1)) (zPost G [bX10 G q1 o1, bX9 G q1 (o1 + 1) y.2.1.1 y.2.1.2.1 y.2.1.2.2.1 y.2.1.2.2.2.1 y.2.1.2.2.2.2, bX6 G q1 (o1 + 3) y.2.2.1.1 y.2.2.1.2, bX8 G q1 (o1 + 12) y.2.2.2.1.1 y.2.2.2.1.2, bX5 G q1 (o1 + 19) y.2.2.2.2.1.2.1 y.2.2.2.2.1.2.2.1 y.2.2.2.2.1.2.2.2.1 y.2.2.2.2.1.2.2.2.2, bX2 G q1 ((o1 + 19) + 2) y.2.2.2.2.1.1.1 y.2.2.2.2.1.1.2.1 y.2.2.2.2.1.1.2.2.1 y.2.2.2.2.1.1.2.2.2.1 y.2.2.2.2.1.1.2.2.2.2.1 y.2.2.2.2.1.1.2.2.2.2.2.1 y.2.2.2.2.1.1.2.2.2.2.2.2.1 y.2.2.2.2.1.1.2.2.2.2.2.2.2, bX2 G q1 (o1 + 27) y.2.2.2.2.2.1.1 y.2.2.2.2.2.1.2.1 y.2.2.2.2.2.1.2.2.1 y.2.2.2.2.2.1.2.2.2.1 y.2.2.2.2.2.1.2.2.2.2.1 y.2.2.2.2.2.1.2.2.2.2.2.1 y.2.2.2.2.2.1.2.2.2.2.2.2.1 y.2.2.2.2.2.1.2.2.2.2.2.2.2, bX1 G q1 (o1 + 33) y.2.2.2.2.2.2.1.1 y.2.2.2.2.2.2.1.2.1 y.2.2.2.2.2.2.1.2.2.1 y.2.2.2.2.2.2.1.2.2.2, bX4 G q1 (o1 + 36) y.2.2.2.2.2.2.2.1.1 y.2.2.2.2.2.2.2.1.2, bX3 G q1 (o1 + 38) y.2.2.2.2.2.2.2.2.1.1 y.2.2.2.2.2.2.2.2.1.2.1 y.2.2.2.2.2.2.2.2.1.2.2.1 y.2.2.2.2.2.2.2.2.1.2.2.2, bX0 G q1 (o1 + 43) y.2.2.2.2.2.2.2.2.2.1.2.2.1 y.2.2.2.2.2.2.2.2.2.1.2.2.2, bX2 G q1 ((o1 + 43) + 3) y.2.2.2.2.2.2.2.2.2.1.1.1 y.2.2.2.2.2.2.2.2.2.1.1.2.1 y.2.2.2.2.2.2.2.2.2.1.1.2.2.1 y.2.2.2.2.2.2.2.2.2.1.1.2.2.2.1 y.2.2.2.2.2.2.2.2.2.1.1.2.2.2.2.1 y.2.2.2.2.2.2.2.2.2.1.1.2.2.2.2.2.1 y.2.2.2.2.2.2.2.2.2.1.1.2.2.2.2.2.2.1 y.2.2.2.2.2.2.2.2.2.1.1.2.2.2.2.2.2.2, bX4 G q1 ((o1 + 43) + 9) y.2.2.2.2.2.2.2.2.2.1.2.1.1 y.2.2.2.2.2.2.2.2.2.1.2.1.2, bX7 G q1 (o1 + 54) y.2.2.2.2.2.2.2.2.2.2.1 y.2.2.2.2.2.2.2.2.2.2.2.1 y.2.2.2.2.2.2.2.2.2.2.2.2, bA48 G q2 o2 P2]) A) args s 0 0 A) (F0 m 211 ls [])) : ∀ (P1 : VX10) (P2 : VA48) (v3 : Int32) (v5 : Int32) (v6 : Int64) (v9 : Int32) (v11 : Int32) (v12 : Int32) (t0 : Int32) (t1 : Int32) (H : Heap) (locs : List Loc) (ls : Array Slot), f_L_friends_263 (zX G) r_211 P1 P2 v3 v5 v6 v9 v11 v12 t0 t1 = some y → zH G A s.heap [bX10 G q1 o1, bX9 G q1 (o1 + 1) P1.1.1 P1.1.2.1 P1.1.2.2.1 P1.1.2.2.2.1 P1.1.2.2.2.2, bX6 G q1 (o1 + 3) P1.2.1.1 P1.2.1.2, bX8 G q1 (o1 + 12) P1.2.2.1.1 P1.2.2.1.2, bX5 G q1 (o1 + 19) P1.2.2.2.1.2.1 P1.2.2.2.1.2.2.1 P1.2.2.2.1.2.2.2.1 P1.2.2.2.1.2.2.2.2, bX2 G q1 ((o1 + 19) + 2) P1.2.2.2.1.1.1 P1.2.2.2.1.1.2.1 P1.2.2.2.1.1.2.2.1 P1.2.2.2.1.1.2.2.2.1 P1.2.2.2.1.1.2.2.2.2.1 P1.2.2.2.1.1.2.2.2.2.2.1 P1.2.2.2.1.1.2.2.2.2.2.2.1 P1.2.2.2.1.1.2.2.2.2.2.2.2, bX2 G q1 (o1 + 27) P1.2.2.2.2.1.1 P1.2.2.2.2.1.2.1 P1.2.2.2.2.1.2.2.1 P1.2.2.2.2.1.2.2.2.1 P1.2.2.2.2.1.2.2.2.2.1 P1.2.2.2.2.1.2.2.2.2.2.1 P1.2.2.2.2.1.2.2.2.2.2.2.1 P1.2.2.2.2.1.2.2.2.2.2.2.2, bX1 G q1 (o1 + 33) P1.2.2.2.2.2.1.1 P1.2.2.2.2.2.1.2.1 P1.2.2.2.2.2.1.2.2.1 P1.2.2.2.2.2.1.2.2.2, bX4 G q1 (o1 + 36) P1.2.2.2.2.2.2.1.1 P1.2.2.2.2.2.2.1.2, bX3 G q1 (o1 + 38) P1.2.2.2.2.2.2.2.1.1 P1.2.2.2.2.2.2.2.1.2.1 P1.2.2.2.2.2.2.2.1.2.2.1 P1.2.2.2.2.2.2.2.1.2.2.2, bX0 G q1 (o1 + 43) P1.2.2.2.2.2.2.2.2.1.2.2.1 P1.2.2.2.2.2.2.2.2.1.2.2.2, bX2 G q1 ((o1 + 43) + 3) P1.2.2.2.2.2.2.2.2.1.1.1 P1.2.2.2.2.2.2.2.2.1.1.2.1 P1.2.2.2.2.2.2.2.2.1.1.2.2.1 P1.2.2.2.2.2.2.2.2.1.1.2.2.2.1 P1.2.2.2.2.2.2.2.2.1.1.2.2.2.2.1 P1.2.2.2.2.2.2.2.2.1.1.2.2.2.2.2.1 P1.2.2.2.2.2.2.2.2.1.1.2.2.2.2.2.2.1 P1.2.2.2.2.2.2.2.2.1.1.2.2.2.2.2.2.2, bX4 G q1 ((o1 + 43) + 9) P1.2.2.2.2.2.2.2.2.1.2.1.1 P1.2.2.2.2.2.2.2.2.1.2.1.2, bX7 G q1 (o1 + 54) P1.2.2.2.2.2.2.2.2.2.1 P1.2.2.2.2.2.2.2.2.2.2.1 P1.2.2.2.2.2.2.2.2.2.2.2, bA48 G q2 o2 P2] H locs → lv_has ls 13 [(0, .ref (q1 (o1 + 0))), (2, .ref (q2 (o2 + 0))), (3, .int v3), (5, .int v5), (6, .long v6), (9, .int v9), (11, .int v11), (12, .int v12)] → W p l e { frames := 7, cells := 0, slots := 0, locals := 176 } s m args below meth c H locs 0 0 (MQ below (zQ (some (.int y.1)) (zPost G [bX10 G q1 o1, bX9 G q1 (o1 + 1) y.2.1.1 y.2.1.2.1 y.2.1.2.2.1 y.2.1.2.2.2.1 y.2.1.2.2.2.2, bX6 G q1 (o1 + 3) y.2.2.1.1 y.2.2.1.2, bX8 G q1 (o1 + 12) y.2.2.2.1.1 y.2.2.2.1.2, bX5 G q1 (o1 + 19) y.2.2.2.2.1.2.1 y.2.2.2.2.1.2.2.1 y.2.2.2.2.1.2.2.2.1 y.2.2.2.2.1.2.2.2.2, bX2 G q1 ((o1 + 19) + 2) y.2.2.2.2.1.1.1 y.2.2.2.2.1.1.2.1 y.2.2.2.2.1.1.2.2.1 y.2.2.2.2.1.1.2.2.2.1 y.2.2.2.2.1.1.2.2.2.2.1 y.2.2.2.2.1.1.2.2.2.2.2.1 y.2.2.2.2.1.1.2.2.2.2.2.2.1 y.2.2.2.2.1.1.2.2.2.2.2.2.2, bX2 G q1 (o1 + 27) y.2.2.2.2.2.1.1 y.2.2.2.2.2.1.2.1 y.2.2.2.2.2.1.2.2.1 y.2.2.2.2.2.1.2.2.2.1 y.2.2.2.2.2.1.2.2.2.2.1 y.2.2.2.2.2.1.2.2.2.2.2.1 y.2.2.2.2.2.1.2.2.2.2.2.2.1 y.2.2.2.2.2.1.2.2.2.2.2.2.2, bX1 G q1 (o1 + 33) y.2.2.2.2.2.2.1.1 y.2.2.2.2.2.2.1.2.1 y.2.2.2.2.2.2.1.2.2.1 y.2.2.2.2.2.2.1.2.2.2, bX4 G q1 (o1 + 36) y.2.2.2.2.2.2.2.1.1 y.2.2.2.2.2.2.2.1.2, bX3 G q1 (o1 + 38) y.2.2.2.2.2.2.2.2.1.1 y.2.2.2.2.2.2.2.2.1.2.1 y.2.2.2.2.2.2.2.2.1.2.2.1 y.2.2.2.2.2.2.2.2.1.2.2.2, bX0 G q1 (o1 + 43) y.2.2.2.2.2.2.2.2.2.1.2.2.1 y.2.2.2.2.2.2.2.2.2.1.2.2.2, bX2 G q1 ((o1 + 43) + 3) y.2.2.2.2.2.2.2.2.2.1.1.1 y.2.2.2.2.2.2.2.2.2.1.1.2.1 y.2.2.2.2.2.2.2.2.2.1.1.2.2.1 y.2.2.2.2.2.2.2.2.2.1.1.2.2.2.1 y.2.2.2.2.2.2.2.2.2.1.1.2.2.2.2.1 y.2.2.2.2.2.2.2.2.2.1.1.2.2.2.2.2.1 y.2.2.2.2.2.2.2.2.2.1.1.2.2.2.2.2.2.1 y.2.2.2.2.2.2.2.2.2.1.1.2.2.2.2.2.2.2, bX4 G q1 ((o1 + 43) + 9) y.2.2.2.2.2.2.2.2.2.1.2.1.1 y.2.2.2.2.2.2.2.2.2.1.2.1.2, bX7 G q1 (o1 + 54) y.2.2.2.2.2.2.2.2.2.2.1 y.2.2.2.2.2.2.2.2.2.2.2.1 y.2.2.2.2.2.2.2.2.2.2.2.2, bA48 G q2 o2 P2]) A) args s 0 0 A) (F0 m 263 ls [.int t0, .int t1]) := by
  obtain ⟨hS0, hr, hlk, hK, hA, hT⟩ := id hZ
  have hx := hS0.1
  have hb := hS0.2.1
  have hml := hS0.2.2.1
  have hown : s.vm.findClass RL = some m.cls := hS0.2.2.2.1
  have hts := hS0.2.2.2.2
  intro P1 P2 v3 v5 v6 v9 v11 v12 t0 t1 H locs ls hf hw hl
  unfold f_L_friends_263 at hf
  refine lv_iadd hx hb dL_friends_263 ?_
  refine lv_istore (lv' := [(10, .int (t1 + t0)), (0, .ref (q1 (o1 + 0))), (2, .ref (q2 (o2 + 0))), (3, .int v3), (5, .int v5), (6, .long v6), (9, .int v9), (11, .int v11), (12, .int v12)]) hx hb dL_friends_264 hl (by decide) rfl (fun ls hl => ?_)
  refine lv_iload hx hb dL_friends_266 (lv_at hl 8 rfl) ?_
  refine lv_iload hx hb dL_friends_268 (lv_at hl 7 rfl) ?_
  refine lv_icmp_eq (tgt := 335) hx hb dL_friends_270 rfl (fun hc => ?_) (fun hc => ?_)
  · have hf := z_t hc hf
    refine lv_iconst (v := 0) hx hb dL_friends_335 rfl ?_
    cases hf
    exact z_zret hx hb hr (z_nb (Or.inl rfl)) hlk hw dL_friends_336
  · have hf := z_f hc hf
    refine lv_iload hx hb dL_friends_273 (lv_at hl 8 rfl) ?_
    refine lv_aload_n hx hb dL_friends_275 rfl (lv_at hl 2 rfl) ?_
    refine lv_iconst (v := 3) hx hb dL_friends_276 rfl ?_
    refine lv_iconst (v := 4) hx hb dL_friends_277 rfl ?_
    refine lv_iload hx hb dL_friends_278 (lv_at hl 7 rfl) ?_
    refine lv_imul hx hb dL_friends_280 ?_
    refine lv_iadd hx hb dL_friends_281 ?_
    obtain ⟨g16, hf⟩ := z_gd hf
    refine z_iald hS0 hK hw 14 0 (zIn_vp g16) rfl rfl dL_friends_282 ?_
    refine lv_icmp_ne (tgt := 291) hx hb dL_friends_283 rfl (fun hc => ?_) (fun hc => ?_)
    · have hf := z_f hc hf
      exact k_L_friends_291 hZ _ h_211 _ _ _ _ _ _ _ _ _ _ _ hf hw (lv_sub hl [1, 2, 3, 4, 5, 6, 0, 7] rfl)
    · have hf := z_t hc hf
      refine lv_iload hx hb dL_friends_286 (lv_at hl 8 rfl) ?_
      refine lv_if_ge (tgt := 335) hx hb dL_friends_288 rfl (fun hc => ?_) (fun hc => ?_)
      · have hf := z_t hc hf
        refine lv_iconst (v := 0) hx hb dL_friends_335 rfl ?_
        cases hf
        exact z_zret hx hb hr (z_nb (Or.inl rfl)) hlk hw dL_friends_336
      · have hf := z_f hc hf
        exact k_L_friends_291 hZ _ h_211 _ _ _ _ _ _ _ _ _ _ _ hf hw (lv_sub hl [1, 2, 3, 4, 5, 6, 0, 7] rfl)
set_option maxHeartbeats 4000000 in
set_option maxRecDepth 100000 in
theorem k_L_friends_242 {p : Program} {l : Launch} {e : Env} {s : State} {m : MethodId} {args : Array Value} {below : List Frame} {meth : Method} {c : Code} {A : Nat → Prop} {G : zG} {q1 : Nat → Nat} {o1 : Nat} {q2 : Nat → Nat} {o2 : Nat} {r_211 : VX10 → VA48 → Int32 → Int32 → Int64 → Int32 → Int32 → Int32 → Option (Int32 × VX10)} (hZ : zZ p s m args meth c A G cL_friends 13 RL wsL_friends (some .boolean)) (y : Int32 × VX10) (h_211 : ∀ (P1 : VX10) (P2 : VA48) (v3 : Int32) (v5 : Int32) (v6 : Int64) (v9 : Int32) (v10 : Int32) (v11 : Int32) (H : Heap) (locs : List Loc) (ls : Array Slot), r_211 P1 P2 v3 v5 v6 v9 v10 v11 = some y → zH G A s.heap [bX10 G q1 o1, bX9 G q1 (o1 + 1) P1.1.1 P1.1.2.1 P1.1.2.2.1 P1.1.2.2.2.1 P1.1.2.2.2.2, bX6 G q1 (o1 + 3) P1.2.1.1 P1.2.1.2, bX8 G q1 (o1 + 12) P1.2.2.1.1 P1.2.2.1.2, bX5 G q1 (o1 + 19) P1.2.2.2.1.2.1 P1.2.2.2.1.2.2.1 P1.2.2.2.1.2.2.2.1 P1.2.2.2.1.2.2.2.2, bX2 G q1 ((o1 + 19) + 2) P1.2.2.2.1.1.1 P1.2.2.2.1.1.2.1 P1.2.2.2.1.1.2.2.1 P1.2.2.2.1.1.2.2.2.1 P1.2.2.2.1.1.2.2.2.2.1 P1.2.2.2.1.1.2.2.2.2.2.1 P1.2.2.2.1.1.2.2.2.2.2.2.1 P1.2.2.2.1.1.2.2.2.2.2.2.2, bX2 G q1 (o1 + 27) P1.2.2.2.2.1.1 P1.2.2.2.2.1.2.1 P1.2.2.2.2.1.2.2.1 P1.2.2.2.2.1.2.2.2.1 P1.2.2.2.2.1.2.2.2.2.1 P1.2.2.2.2.1.2.2.2.2.2.1 P1.2.2.2.2.1.2.2.2.2.2.2.1 P1.2.2.2.2.1.2.2.2.2.2.2.2, bX1 G q1 (o1 + 33) P1.2.2.2.2.2.1.1 P1.2.2.2.2.2.1.2.1 P1.2.2.2.2.2.1.2.2.1 P1.2.2.2.2.2.1.2.2.2, bX4 G q1 (o1 + 36) P1.2.2.2.2.2.2.1.1 P1.2.2.2.2.2.2.1.2, bX3 G q1 (o1 + 38) P1.2.2.2.2.2.2.2.1.1 P1.2.2.2.2.2.2.2.1.2.1 P1.2.2.2.2.2.2.2.1.2.2.1 P1.2.2.2.2.2.2.2.1.2.2.2, bX0 G q1 (o1 + 43) P1.2.2.2.2.2.2.2.2.1.2.2.1 P1.2.2.2.2.2.2.2.2.1.2.2.2, bX2 G q1 ((o1 + 43) + 3) P1.2.2.2.2.2.2.2.2.1.1.1 P1.2.2.2.2.2.2.2.2.1.1.2.1 P1.2.2.2.2.2.2.2.2.1.1.2.2.1 P1.2.2.2.2.2.2.2.2.1.1.2.2.2.1 P1.2.2.2.2.2.2.2.2.1.1.2.2.2.2.1 P1.2.2.2.2.2.2.2.2.1.1.2.2.2.2.2.1 P1.2.2.2.2.2.2.2.2.1.1.2.2.2.2.2.2.1 P1.2.2.2.2.2.2.2.2.1.1.2.2.2.2.2.2.2, bX4 G q1 ((o1 + 43) + 9) P1.2.2.2.2.2.2.2.2.1.2.1.1 P1.2.2.2.2.2.2.2.2.1.2.1.2, bX7 G q1 (o1 + 54) P1.2.2.2.2.2.2.2.2.2.1 P1.2.2.2.2.2.2.2.2.2.2.1 P1.2.2.2.2.2.2.2.2.2.2.2, bA48 G q2 o2 P2] H locs → lv_has ls 13 [(0, .ref (q1 (o1 + 0))), (2, .ref (q2 (o2 + 0))), (3, .int v3), (5, .int v5), (6, .long v6), (9, .int v9), (10, .int v10), (11, .int v11)] → W p l e { frames := 7, cells := 0, slots := 0, locals := 176 } s m args below meth c H locs 0 0 (MQ below (zQ (some (.int y.1)) (zPost G [bX10 G q1 o1, bX9 G q1 (o1 + 1) y.2.1.1 y.2.1.2.1 y.2.1.2.2.1 y.2.1.2.2.2.1 y.2.1.2.2.2.2, bX6 G q1 (o1 + 3) y.2.2.1.1 y.2.2.1.2, bX8 G q1 (o1 + 12) y.2.2.2.1.1 y.2.2.2.1.2, bX5 G q1 (o1 + 19) y.2.2.2.2.1.2.1 y.2.2.2.2.1.2.2.1 y.2.2.2.2.1.2.2.2.1 y.2.2.2.2.1.2.2.2.2, bX2 G q1 ((o1 + 19) + 2) y.2.2.2.2.1.1.1 y.2.2.2.2.1.1.2.1 y.2.2.2.2.1.1.2.2.1 y.2.2.2.2.1.1.2.2.2.1 y.2.2.2.2.1.1.2.2.2.2.1 y.2.2.2.2.1.1.2.2.2.2.2.1 y.2.2.2.2.1.1.2.2.2.2.2.2.1 y.2.2.2.2.1.1.2.2.2.2.2.2.2, bX2 G q1 (o1 + 27) y.2.2.2.2.2.1.1 y.2.2.2.2.2.1.2.1 y.2.2.2.2.2.1.2.2.1 y.2.2.2.2.2.1.2.2.2.1 y.2.2.2.2.2.1.2.2.2.2.1 y.2.2.2.2.2.1.2.2.2.2.2.1 y.2.2.2.2.2.1.2.2.2.2.2.2.1 y.2.2.2.2.2.1.2.2.2.2.2.2.2, bX1 G q1 (o1 + 33) y.2.2.2.2.2.2.1.1 y.2.2.2.2.2.2.1.2.1 y.2.2.2.2.2.2.1.2.2.1 y.2.2.2.2.2.2.1.2.2.2, bX4 G q1 (o1 + 36) y.2.2.2.2.2.2.2.1.1 y.2.2.2.2.2.2.2.1.2, bX3 G q1 (o1 + 38) y.2.2.2.2.2.2.2.2.1.1 y.2.2.2.2.2.2.2.2.1.2.1 y.2.2.2.2.2.2.2.2.1.2.2.1 y.2.2.2.2.2.2.2.2.1.2.2.2, bX0 G q1 (o1 + 43) y.2.2.2.2.2.2.2.2.2.1.2.2.1 y.2.2.2.2.2.2.2.2.2.1.2.2.2, bX2 G q1 ((o1 + 43) + 3) y.2.2.2.2.2.2.2.2.2.1.1.1 y.2.2.2.2.2.2.2.2.2.1.1.2.1 y.2.2.2.2.2.2.2.2.2.1.1.2.2.1 y.2.2.2.2.2.2.2.2.2.1.1.2.2.2.1 y.2.2.2.2.2.2.2.2.2.1.1.2.2.2.2.1 y.2.2.2.2.2.2.2.2.2.1.1.2.2.2.2.2.1 y.2.2.2.2.2.2.2.2.2.1.1.2.2.2.2.2.2.1 y.2.2.2.2.2.2.2.2.2.1.1.2.2.2.2.2.2.2, bX4 G q1 ((o1 + 43) + 9) y.2.2.2.2.2.2.2.2.2.1.2.1.1 y.2.2.2.2.2.2.2.2.2.1.2.1.2, bX7 G q1 (o1 + 54) y.2.2.2.2.2.2.2.2.2.2.1 y.2.2.2.2.2.2.2.2.2.2.2.1 y.2.2.2.2.2.2.2.2.2.2.2.2, bA48 G q2 o2 P2]) A) args s 0 0 A) (F0 m 211 ls [])) : ∀ (P1 : VX10) (P2 : VA48) (v3 : Int32) (v5 : Int32) (v6 : Int64) (v10 : Int32) (v11 : Int32) (v12 : Int32) (t0 : Int32) (t1 : Int32) (H : Heap) (locs : List Loc) (ls : Array Slot), f_L_friends_242 (zX G) r_211 P1 P2 v3 v5 v6 v10 v11 v12 t0 t1 = some y → zH G A s.heap [bX10 G q1 o1, bX9 G q1 (o1 + 1) P1.1.1 P1.1.2.1 P1.1.2.2.1 P1.1.2.2.2.1 P1.1.2.2.2.2, bX6 G q1 (o1 + 3) P1.2.1.1 P1.2.1.2, bX8 G q1 (o1 + 12) P1.2.2.1.1 P1.2.2.1.2, bX5 G q1 (o1 + 19) P1.2.2.2.1.2.1 P1.2.2.2.1.2.2.1 P1.2.2.2.1.2.2.2.1 P1.2.2.2.1.2.2.2.2, bX2 G q1 ((o1 + 19) + 2) P1.2.2.2.1.1.1 P1.2.2.2.1.1.2.1 P1.2.2.2.1.1.2.2.1 P1.2.2.2.1.1.2.2.2.1 P1.2.2.2.1.1.2.2.2.2.1 P1.2.2.2.1.1.2.2.2.2.2.1 P1.2.2.2.1.1.2.2.2.2.2.2.1 P1.2.2.2.1.1.2.2.2.2.2.2.2, bX2 G q1 (o1 + 27) P1.2.2.2.2.1.1 P1.2.2.2.2.1.2.1 P1.2.2.2.2.1.2.2.1 P1.2.2.2.2.1.2.2.2.1 P1.2.2.2.2.1.2.2.2.2.1 P1.2.2.2.2.1.2.2.2.2.2.1 P1.2.2.2.2.1.2.2.2.2.2.2.1 P1.2.2.2.2.1.2.2.2.2.2.2.2, bX1 G q1 (o1 + 33) P1.2.2.2.2.2.1.1 P1.2.2.2.2.2.1.2.1 P1.2.2.2.2.2.1.2.2.1 P1.2.2.2.2.2.1.2.2.2, bX4 G q1 (o1 + 36) P1.2.2.2.2.2.2.1.1 P1.2.2.2.2.2.2.1.2, bX3 G q1 (o1 + 38) P1.2.2.2.2.2.2.2.1.1 P1.2.2.2.2.2.2.2.1.2.1 P1.2.2.2.2.2.2.2.1.2.2.1 P1.2.2.2.2.2.2.2.1.2.2.2, bX0 G q1 (o1 + 43) P1.2.2.2.2.2.2.2.2.1.2.2.1 P1.2.2.2.2.2.2.2.2.1.2.2.2, bX2 G q1 ((o1 + 43) + 3) P1.2.2.2.2.2.2.2.2.1.1.1 P1.2.2.2.2.2.2.2.2.1.1.2.1 P1.2.2.2.2.2.2.2.2.1.1.2.2.1 P1.2.2.2.2.2.2.2.2.1.1.2.2.2.1 P1.2.2.2.2.2.2.2.2.1.1.2.2.2.2.1 P1.2.2.2.2.2.2.2.2.1.1.2.2.2.2.2.1 P1.2.2.2.2.2.2.2.2.1.1.2.2.2.2.2.2.1 P1.2.2.2.2.2.2.2.2.1.1.2.2.2.2.2.2.2, bX4 G q1 ((o1 + 43) + 9) P1.2.2.2.2.2.2.2.2.1.2.1.1 P1.2.2.2.2.2.2.2.2.1.2.1.2, bX7 G q1 (o1 + 54) P1.2.2.2.2.2.2.2.2.2.1 P1.2.2.2.2.2.2.2.2.2.2.1 P1.2.2.2.2.2.2.2.2.2.2.2, bA48 G q2 o2 P2] H locs → lv_has ls 13 [(0, .ref (q1 (o1 + 0))), (2, .ref (q2 (o2 + 0))), (3, .int v3), (5, .int v5), (6, .long v6), (10, .int v10), (11, .int v11), (12, .int v12)] → W p l e { frames := 7, cells := 0, slots := 0, locals := 176 } s m args below meth c H locs 0 0 (MQ below (zQ (some (.int y.1)) (zPost G [bX10 G q1 o1, bX9 G q1 (o1 + 1) y.2.1.1 y.2.1.2.1 y.2.1.2.2.1 y.2.1.2.2.2.1 y.2.1.2.2.2.2, bX6 G q1 (o1 + 3) y.2.2.1.1 y.2.2.1.2, bX8 G q1 (o1 + 12) y.2.2.2.1.1 y.2.2.2.1.2, bX5 G q1 (o1 + 19) y.2.2.2.2.1.2.1 y.2.2.2.2.1.2.2.1 y.2.2.2.2.1.2.2.2.1 y.2.2.2.2.1.2.2.2.2, bX2 G q1 ((o1 + 19) + 2) y.2.2.2.2.1.1.1 y.2.2.2.2.1.1.2.1 y.2.2.2.2.1.1.2.2.1 y.2.2.2.2.1.1.2.2.2.1 y.2.2.2.2.1.1.2.2.2.2.1 y.2.2.2.2.1.1.2.2.2.2.2.1 y.2.2.2.2.1.1.2.2.2.2.2.2.1 y.2.2.2.2.1.1.2.2.2.2.2.2.2, bX2 G q1 (o1 + 27) y.2.2.2.2.2.1.1 y.2.2.2.2.2.1.2.1 y.2.2.2.2.2.1.2.2.1 y.2.2.2.2.2.1.2.2.2.1 y.2.2.2.2.2.1.2.2.2.2.1 y.2.2.2.2.2.1.2.2.2.2.2.1 y.2.2.2.2.2.1.2.2.2.2.2.2.1 y.2.2.2.2.2.1.2.2.2.2.2.2.2, bX1 G q1 (o1 + 33) y.2.2.2.2.2.2.1.1 y.2.2.2.2.2.2.1.2.1 y.2.2.2.2.2.2.1.2.2.1 y.2.2.2.2.2.2.1.2.2.2, bX4 G q1 (o1 + 36) y.2.2.2.2.2.2.2.1.1 y.2.2.2.2.2.2.2.1.2, bX3 G q1 (o1 + 38) y.2.2.2.2.2.2.2.2.1.1 y.2.2.2.2.2.2.2.2.1.2.1 y.2.2.2.2.2.2.2.2.1.2.2.1 y.2.2.2.2.2.2.2.2.1.2.2.2, bX0 G q1 (o1 + 43) y.2.2.2.2.2.2.2.2.2.1.2.2.1 y.2.2.2.2.2.2.2.2.2.1.2.2.2, bX2 G q1 ((o1 + 43) + 3) y.2.2.2.2.2.2.2.2.2.1.1.1 y.2.2.2.2.2.2.2.2.2.1.1.2.1 y.2.2.2.2.2.2.2.2.2.1.1.2.2.1 y.2.2.2.2.2.2.2.2.2.1.1.2.2.2.1 y.2.2.2.2.2.2.2.2.2.1.1.2.2.2.2.1 y.2.2.2.2.2.2.2.2.2.1.1.2.2.2.2.2.1 y.2.2.2.2.2.2.2.2.2.1.1.2.2.2.2.2.2.1 y.2.2.2.2.2.2.2.2.2.1.1.2.2.2.2.2.2.2, bX4 G q1 ((o1 + 43) + 9) y.2.2.2.2.2.2.2.2.2.1.2.1.1 y.2.2.2.2.2.2.2.2.2.1.2.1.2, bX7 G q1 (o1 + 54) y.2.2.2.2.2.2.2.2.2.2.1 y.2.2.2.2.2.2.2.2.2.2.2.1 y.2.2.2.2.2.2.2.2.2.2.2.2, bA48 G q2 o2 P2]) A) args s 0 0 A) (F0 m 242 ls [.int t0, .int t1]) := by
  obtain ⟨hS0, hr, hlk, hK, hA, hT⟩ := id hZ
  have hx := hS0.1
  have hb := hS0.2.1
  have hml := hS0.2.2.1
  have hown : s.vm.findClass RL = some m.cls := hS0.2.2.2.1
  have hts := hS0.2.2.2.2
  intro P1 P2 v3 v5 v6 v10 v11 v12 t0 t1 H locs ls hf hw hl
  unfold f_L_friends_242 at hf
  refine lv_iadd hx hb dL_friends_242 ?_
  refine lv_istore (lv' := [(9, .int (t1 + t0)), (0, .ref (q1 (o1 + 0))), (2, .ref (q2 (o2 + 0))), (3, .int v3), (5, .int v5), (6, .long v6), (10, .int v10), (11, .int v11), (12, .int v12)]) hx hb dL_friends_243 hl (by decide) rfl (fun ls hl => ?_)
  refine lv_iload hx hb dL_friends_245 (lv_at hl 6 rfl) ?_
  refine lv_aload_n hx hb dL_friends_247 rfl (lv_at hl 2 rfl) ?_
  refine lv_iconst (v := 2) hx hb dL_friends_248 rfl ?_
  refine lv_iconst (v := 4) hx hb dL_friends_249 rfl ?_
  refine lv_iload hx hb dL_friends_250 (lv_at hl 7 rfl) ?_
  refine lv_imul hx hb dL_friends_252 ?_
  refine lv_iadd hx hb dL_friends_253 ?_
  obtain ⟨g17, hf⟩ := z_gd hf
  refine z_iald hS0 hK hw 14 0 (zIn_vp g17) rfl rfl dL_friends_254 ?_
  refine lv_if_ge (tgt := 262) hx hb dL_friends_255 rfl (fun hc => ?_) (fun hc => ?_)
  · have hf := z_t hc hf
    refine lv_iconst (v := 1) hx hb dL_friends_262 rfl ?_
    exact k_L_friends_263 hZ _ h_211 _ _ _ _ _ _ _ _ _ _ _ _ _ hf hw (lv_sub hl [1, 2, 3, 4, 5, 0, 7, 8] rfl)
  · have hf := z_f hc hf
    refine lv_iconst (v := 0) hx hb dL_friends_258 rfl ?_
    refine lv_goto (tgt := 263) hx hb dL_friends_259 rfl ?_
    exact k_L_friends_263 hZ _ h_211 _ _ _ _ _ _ _ _ _ _ _ _ _ hf hw (lv_sub hl [1, 2, 3, 4, 5, 0, 7, 8] rfl)
set_option maxHeartbeats 4000000 in
set_option maxRecDepth 100000 in
theorem k_L_friends_211 {p : Program} {l : Launch} {e : Env} {s : State} {m : MethodId} {args : Array Value} {below : List Frame} {meth : Method} {c : Code} {A : Nat → Prop} {G : zG} {q1 : Nat → Nat} {o1 : Nat} {q2 : Nat → Nat} {o2 : Nat}  (hZ : zZ p s m args meth c A G cL_friends 13 RL wsL_friends (some .boolean)) (y : Int32 × VX10)  (n : Nat) : ∀ (P1 : VX10) (P2 : VA48) (v3 : Int32) (v5 : Int32) (v6 : Int64) (v9 : Int32) (v10 : Int32) (v11 : Int32) (H : Heap) (locs : List Loc) (ls : Array Slot), f_L_friends_211 (zX G) n P1 P2 v3 v5 v6 v9 v10 v11 = some y → zH G A s.heap [bX10 G q1 o1, bX9 G q1 (o1 + 1) P1.1.1 P1.1.2.1 P1.1.2.2.1 P1.1.2.2.2.1 P1.1.2.2.2.2, bX6 G q1 (o1 + 3) P1.2.1.1 P1.2.1.2, bX8 G q1 (o1 + 12) P1.2.2.1.1 P1.2.2.1.2, bX5 G q1 (o1 + 19) P1.2.2.2.1.2.1 P1.2.2.2.1.2.2.1 P1.2.2.2.1.2.2.2.1 P1.2.2.2.1.2.2.2.2, bX2 G q1 ((o1 + 19) + 2) P1.2.2.2.1.1.1 P1.2.2.2.1.1.2.1 P1.2.2.2.1.1.2.2.1 P1.2.2.2.1.1.2.2.2.1 P1.2.2.2.1.1.2.2.2.2.1 P1.2.2.2.1.1.2.2.2.2.2.1 P1.2.2.2.1.1.2.2.2.2.2.2.1 P1.2.2.2.1.1.2.2.2.2.2.2.2, bX2 G q1 (o1 + 27) P1.2.2.2.2.1.1 P1.2.2.2.2.1.2.1 P1.2.2.2.2.1.2.2.1 P1.2.2.2.2.1.2.2.2.1 P1.2.2.2.2.1.2.2.2.2.1 P1.2.2.2.2.1.2.2.2.2.2.1 P1.2.2.2.2.1.2.2.2.2.2.2.1 P1.2.2.2.2.1.2.2.2.2.2.2.2, bX1 G q1 (o1 + 33) P1.2.2.2.2.2.1.1 P1.2.2.2.2.2.1.2.1 P1.2.2.2.2.2.1.2.2.1 P1.2.2.2.2.2.1.2.2.2, bX4 G q1 (o1 + 36) P1.2.2.2.2.2.2.1.1 P1.2.2.2.2.2.2.1.2, bX3 G q1 (o1 + 38) P1.2.2.2.2.2.2.2.1.1 P1.2.2.2.2.2.2.2.1.2.1 P1.2.2.2.2.2.2.2.1.2.2.1 P1.2.2.2.2.2.2.2.1.2.2.2, bX0 G q1 (o1 + 43) P1.2.2.2.2.2.2.2.2.1.2.2.1 P1.2.2.2.2.2.2.2.2.1.2.2.2, bX2 G q1 ((o1 + 43) + 3) P1.2.2.2.2.2.2.2.2.1.1.1 P1.2.2.2.2.2.2.2.2.1.1.2.1 P1.2.2.2.2.2.2.2.2.1.1.2.2.1 P1.2.2.2.2.2.2.2.2.1.1.2.2.2.1 P1.2.2.2.2.2.2.2.2.1.1.2.2.2.2.1 P1.2.2.2.2.2.2.2.2.1.1.2.2.2.2.2.1 P1.2.2.2.2.2.2.2.2.1.1.2.2.2.2.2.2.1 P1.2.2.2.2.2.2.2.2.1.1.2.2.2.2.2.2.2, bX4 G q1 ((o1 + 43) + 9) P1.2.2.2.2.2.2.2.2.1.2.1.1 P1.2.2.2.2.2.2.2.2.1.2.1.2, bX7 G q1 (o1 + 54) P1.2.2.2.2.2.2.2.2.2.1 P1.2.2.2.2.2.2.2.2.2.2.1 P1.2.2.2.2.2.2.2.2.2.2.2, bA48 G q2 o2 P2] H locs → lv_has ls 13 [(0, .ref (q1 (o1 + 0))), (2, .ref (q2 (o2 + 0))), (3, .int v3), (5, .int v5), (6, .long v6), (9, .int v9), (10, .int v10), (11, .int v11)] → W p l e { frames := 7, cells := 0, slots := 0, locals := 176 } s m args below meth c H locs 0 0 (MQ below (zQ (some (.int y.1)) (zPost G [bX10 G q1 o1, bX9 G q1 (o1 + 1) y.2.1.1 y.2.1.2.1 y.2.1.2.2.1 y.2.1.2.2.2.1 y.2.1.2.2.2.2, bX6 G q1 (o1 + 3) y.2.2.1.1 y.2.2.1.2, bX8 G q1 (o1 + 12) y.2.2.2.1.1 y.2.2.2.1.2, bX5 G q1 (o1 + 19) y.2.2.2.2.1.2.1 y.2.2.2.2.1.2.2.1 y.2.2.2.2.1.2.2.2.1 y.2.2.2.2.1.2.2.2.2, bX2 G q1 ((o1 + 19) + 2) y.2.2.2.2.1.1.1 y.2.2.2.2.1.1.2.1 y.2.2.2.2.1.1.2.2.1 y.2.2.2.2.1.1.2.2.2.1 y.2.2.2.2.1.1.2.2.2.2.1 y.2.2.2.2.1.1.2.2.2.2.2.1 y.2.2.2.2.1.1.2.2.2.2.2.2.1 y.2.2.2.2.1.1.2.2.2.2.2.2.2, bX2 G q1 (o1 + 27) y.2.2.2.2.2.1.1 y.2.2.2.2.2.1.2.1 y.2.2.2.2.2.1.2.2.1 y.2.2.2.2.2.1.2.2.2.1 y.2.2.2.2.2.1.2.2.2.2.1 y.2.2.2.2.2.1.2.2.2.2.2.1 y.2.2.2.2.2.1.2.2.2.2.2.2.1 y.2.2.2.2.2.1.2.2.2.2.2.2.2, bX1 G q1 (o1 + 33) y.2.2.2.2.2.2.1.1 y.2.2.2.2.2.2.1.2.1 y.2.2.2.2.2.2.1.2.2.1 y.2.2.2.2.2.2.1.2.2.2, bX4 G q1 (o1 + 36) y.2.2.2.2.2.2.2.1.1 y.2.2.2.2.2.2.2.1.2, bX3 G q1 (o1 + 38) y.2.2.2.2.2.2.2.2.1.1 y.2.2.2.2.2.2.2.2.1.2.1 y.2.2.2.2.2.2.2.2.1.2.2.1 y.2.2.2.2.2.2.2.2.1.2.2.2, bX0 G q1 (o1 + 43) y.2.2.2.2.2.2.2.2.2.1.2.2.1 y.2.2.2.2.2.2.2.2.2.1.2.2.2, bX2 G q1 ((o1 + 43) + 3) y.2.2.2.2.2.2.2.2.2.1.1.1 y.2.2.2.2.2.2.2.2.2.1.1.2.1 y.2.2.2.2.2.2.2.2.2.1.1.2.2.1 y.2.2.2.2.2.2.2.2.2.1.1.2.2.2.1 y.2.2.2.2.2.2.2.2.2.1.1.2.2.2.2.1 y.2.2.2.2.2.2.2.2.2.1.1.2.2.2.2.2.1 y.2.2.2.2.2.2.2.2.2.1.1.2.2.2.2.2.2.1 y.2.2.2.2.2.2.2.2.2.1.1.2.2.2.2.2.2.2, bX4 G q1 ((o1 + 43) + 9) y.2.2.2.2.2.2.2.2.2.1.2.1.1 y.2.2.2.2.2.2.2.2.2.1.2.1.2, bX7 G q1 (o1 + 54) y.2.2.2.2.2.2.2.2.2.2.1 y.2.2.2.2.2.2.2.2.2.2.2.1 y.2.2.2.2.2.2.2.2.2.2.2.2, bA48 G q2 o2 P2]) A) args s 0 0 A) (F0 m 211 ls []) := by
  obtain ⟨hS0, hr, hlk, hK, hA, hT⟩ := id hZ
  have hx := hS0.1
  have hb := hS0.2.1
  have hml := hS0.2.2.1
  have hown : s.vm.findClass RL = some m.cls := hS0.2.2.2.1
  have hts := hS0.2.2.2.2
  induction n with
  | zero =>
    intro P1 P2 v3 v5 v6 v9 v10 v11 H locs ls hf hw hl
    unfold f_L_friends_211 at hf
    cases hf
  | succ n ih =>
    intro P1 P2 v3 v5 v6 v9 v10 v11 H locs ls hf hw hl
    unfold f_L_friends_211 at hf
    refine lv_iload hx hb dL_friends_211 (lv_at hl 7 rfl) ?_
    refine lv_iload_n hx hb dL_friends_213 rfl (lv_at hl 2 rfl) ?_
    refine lv_icmp_ge (tgt := 343) hx hb dL_friends_214 rfl (fun hc => ?_) (fun hc => ?_)
    · have hf := z_t hc hf
      refine lv_iload hx hb dL_friends_343 (lv_at hl 5 rfl) ?_
      refine lv_iload hx hb dL_friends_345 (lv_at hl 6 rfl) ?_
      refine lv_icmp_ne (tgt := 382) hx hb dL_friends_347 rfl (fun hc => ?_) (fun hc => ?_)
      · have hf := z_f hc hf
        refine lv_iconst (v := 0) hx hb dL_friends_382 rfl ?_
        cases hf
        exact z_zret hx hb hr (z_nb (Or.inl rfl)) hlk hw dL_friends_383
      · have hf := z_t hc hf
        refine lv_aload_n hx hb dL_friends_350 rfl (lv_at hl 0 rfl) ?_
        refine lv_iconst (v := 4) hx hb dL_friends_351 rfl ?_
        obtain ⟨r18, e19, hf⟩ := z_bd hf
        refine z_callV1 (As := [.int 4]) (rest := []) (bs' := [bX10 G q1 o1, bX9 G q1 (o1 + 1) r18.2.1.1 r18.2.1.2.1 r18.2.1.2.2.1 r18.2.1.2.2.2.1 r18.2.1.2.2.2.2, bX6 G q1 (o1 + 3) r18.2.2.1.1 r18.2.2.1.2, bX8 G q1 (o1 + 12) r18.2.2.2.1.1 r18.2.2.2.1.2, bX5 G q1 (o1 + 19) r18.2.2.2.2.1.2.1 r18.2.2.2.2.1.2.2.1 r18.2.2.2.2.1.2.2.2.1 r18.2.2.2.2.1.2.2.2.2, bX2 G q1 ((o1 + 19) + 2) r18.2.2.2.2.1.1.1 r18.2.2.2.2.1.1.2.1 r18.2.2.2.2.1.1.2.2.1 r18.2.2.2.2.1.1.2.2.2.1 r18.2.2.2.2.1.1.2.2.2.2.1 r18.2.2.2.2.1.1.2.2.2.2.2.1 r18.2.2.2.2.1.1.2.2.2.2.2.2.1 r18.2.2.2.2.1.1.2.2.2.2.2.2.2, bX2 G q1 (o1 + 27) r18.2.2.2.2.2.1.1 r18.2.2.2.2.2.1.2.1 r18.2.2.2.2.2.1.2.2.1 r18.2.2.2.2.2.1.2.2.2.1 r18.2.2.2.2.2.1.2.2.2.2.1 r18.2.2.2.2.2.1.2.2.2.2.2.1 r18.2.2.2.2.2.1.2.2.2.2.2.2.1 r18.2.2.2.2.2.1.2.2.2.2.2.2.2, bX1 G q1 (o1 + 33) r18.2.2.2.2.2.2.1.1 r18.2.2.2.2.2.2.1.2.1 r18.2.2.2.2.2.2.1.2.2.1 r18.2.2.2.2.2.2.1.2.2.2, bX4 G q1 (o1 + 36) r18.2.2.2.2.2.2.2.1.1 r18.2.2.2.2.2.2.2.1.2, bX3 G q1 (o1 + 38) r18.2.2.2.2.2.2.2.2.1.1 r18.2.2.2.2.2.2.2.2.1.2.1 r18.2.2.2.2.2.2.2.2.1.2.2.1 r18.2.2.2.2.2.2.2.2.1.2.2.2, bX0 G q1 (o1 + 43) r18.2.2.2.2.2.2.2.2.2.1.2.2.1 r18.2.2.2.2.2.2.2.2.2.1.2.2.2, bX2 G q1 ((o1 + 43) + 3) r18.2.2.2.2.2.2.2.2.2.1.1.1 r18.2.2.2.2.2.2.2.2.2.1.1.2.1 r18.2.2.2.2.2.2.2.2.2.1.1.2.2.1 r18.2.2.2.2.2.2.2.2.2.1.1.2.2.2.1 r18.2.2.2.2.2.2.2.2.2.1.1.2.2.2.2.1 r18.2.2.2.2.2.2.2.2.2.1.1.2.2.2.2.2.1 r18.2.2.2.2.2.2.2.2.2.1.1.2.2.2.2.2.2.1 r18.2.2.2.2.2.2.2.2.2.1.1.2.2.2.2.2.2.2, bX4 G q1 ((o1 + 43) + 9) r18.2.2.2.2.2.2.2.2.2.1.2.1.1 r18.2.2.2.2.2.2.2.2.2.1.2.1.2, bX7 G q1 (o1 + 54) r18.2.2.2.2.2.2.2.2.2.2.1 r18.2.2.2.2.2.2.2.2.2.2.2.1 r18.2.2.2.2.2.2.2.2.2.2.2.2, bA48 G q2 o2 P2]) hS0 (c_X10_dealt l G q1 o1 P1 4 r18 e19) zc_X10_dealt rfl gL_friends_X10_dealt ⟨Nat.le_of_ble_eq_true rfl, Nat.le_of_ble_eq_true rfl⟩ hK hA hT hw (is := [0, 1, 2, 3, 4, 5, 6, 7, 8, 9, 10, 11, 12, 13]) rfl rfl rfl rfl rfl rfl rfl hl.1 rfl (Nat.le_of_ble_eq_true rfl) dL_friends_352 (fun H locs hw => ?_)
        refine lv_iconst (v := 1) hx hb dL_friends_355 rfl ?_
        refine lv_icmp_ne (tgt := 382) hx hb dL_friends_356 rfl (fun hc => ?_) (fun hc => ?_)
        · have hf := z_f hc hf
          refine lv_iconst (v := 0) hx hb dL_friends_382 rfl ?_
          cases hf
          exact z_zret hx hb hr (z_nb (Or.inl rfl)) hlk hw dL_friends_383
        · have hf := z_t hc hf
          refine lv_aload_n hx hb dL_friends_359 rfl (lv_at hl 0 rfl) ?_
          obtain ⟨r20, e21, hf⟩ := z_bd hf
          refine z_callV1 (As := []) (rest := []) (bs' := [bX10 G q1 o1, bX9 G q1 (o1 + 1) r18.2.1.1 r18.2.1.2.1 r18.2.1.2.2.1 r18.2.1.2.2.2.1 r18.2.1.2.2.2.2, bX6 G q1 (o1 + 3) r18.2.2.1.1 r18.2.2.1.2, bX8 G q1 (o1 + 12) r18.2.2.2.1.1 r18.2.2.2.1.2, bX5 G q1 (o1 + 19) r18.2.2.2.2.1.2.1 r18.2.2.2.2.1.2.2.1 r18.2.2.2.2.1.2.2.2.1 r18.2.2.2.2.1.2.2.2.2, bX2 G q1 ((o1 + 19) + 2) r18.2.2.2.2.1.1.1 r18.2.2.2.2.1.1.2.1 r18.2.2.2.2.1.1.2.2.1 r18.2.2.2.2.1.1.2.2.2.1 r18.2.2.2.2.1.1.2.2.2.2.1 r18.2.2.2.2.1.1.2.2.2.2.2.1 r18.2.2.2.2.1.1.2.2.2.2.2.2.1 r18.2.2.2.2.1.1.2.2.2.2.2.2.2, bX2 G q1 (o1 + 27) r18.2.2.2.2.2.1.1 r18.2.2.2.2.2.1.2.1 r18.2.2.2.2.2.1.2.2.1 r18.2.2.2.2.2.1.2.2.2.1 r18.2.2.2.2.2.1.2.2.2.2.1 r18.2.2.2.2.2.1.2.2.2.2.2.1 r18.2.2.2.2.2.1.2.2.2.2.2.2.1 r18.2.2.2.2.2.1.2.2.2.2.2.2.2, bX1 G q1 (o1 + 33) r18.2.2.2.2.2.2.1.1 r18.2.2.2.2.2.2.1.2.1 r18.2.2.2.2.2.2.1.2.2.1 r18.2.2.2.2.2.2.1.2.2.2, bX4 G q1 (o1 + 36) r18.2.2.2.2.2.2.2.1.1 r18.2.2.2.2.2.2.2.1.2, bX3 G q1 (o1 + 38) r18.2.2.2.2.2.2.2.2.1.1 r18.2.2.2.2.2.2.2.2.1.2.1 r18.2.2.2.2.2.2.2.2.1.2.2.1 r18.2.2.2.2.2.2.2.2.1.2.2.2, bX0 G q1 (o1 + 43) r18.2.2.2.2.2.2.2.2.2.1.2.2.1 r18.2.2.2.2.2.2.2.2.2.1.2.2.2, bX2 G q1 ((o1 + 43) + 3) r18.2.2.2.2.2.2.2.2.2.1.1.1 r18.2.2.2.2.2.2.2.2.2.1.1.2.1 r18.2.2.2.2.2.2.2.2.2.1.1.2.2.1 r18.2.2.2.2.2.2.2.2.2.1.1.2.2.2.1 r18.2.2.2.2.2.2.2.2.2.1.1.2.2.2.2.1 r18.2.2.2.2.2.2.2.2.2.1.1.2.2.2.2.2.1 r18.2.2.2.2.2.2.2.2.2.1.1.2.2.2.2.2.2.1 r18.2.2.2.2.2.2.2.2.2.1.1.2.2.2.2.2.2.2, bX4 G q1 ((o1 + 43) + 9) r18.2.2.2.2.2.2.2.2.2.1.2.1.1 r18.2.2.2.2.2.2.2.2.2.1.2.1.2, bX7 G q1 (o1 + 54) r18.2.2.2.2.2.2.2.2.2.2.1 r18.2.2.2.2.2.2.2.2.2.2.2.1 r18.2.2.2.2.2.2.2.2.2.2.2.2, bA48 G q2 o2 P2]) hS0 (c_X10_digest l G q1 o1 r18.2 r20 e21) zc_X10_digest rfl gL_friends_X10_digest ⟨Nat.le_of_ble_eq_true rfl, Nat.le_of_ble_eq_true rfl⟩ hK hA hT hw (is := [0, 1, 2, 3, 4, 5, 6, 7, 8, 9, 10, 11, 12, 13]) rfl rfl rfl rfl rfl rfl rfl hl.1 rfl (Nat.le_of_ble_eq_true rfl) dL_friends_360 (fun H locs hw => ?_)
          refine lv_lload hx hb dL_friends_363 (lv_at hl 4 rfl) ?_
          refine W.lcmp hx hb dL_friends_365 ?_
          refine lv_if_ne (tgt := 382) hx hb dL_friends_366 rfl (fun hc => ?_) (fun hc => ?_)
          · have hf := z_f hc hf
            refine lv_iconst (v := 0) hx hb dL_friends_382 rfl ?_
            cases hf
            exact z_zret hx hb hr (z_nb (Or.inl rfl)) hlk hw dL_friends_383
          · have hf := z_t hc hf
            refine lv_aload_n hx hb dL_friends_369 rfl (lv_at hl 0 rfl) ?_
            obtain ⟨r22, e23, hf⟩ := z_bd hf
            refine z_callV1 (As := []) (rest := []) (bs' := [bX10 G q1 o1, bX9 G q1 (o1 + 1) r22.2.1.1 r22.2.1.2.1 r22.2.1.2.2.1 r22.2.1.2.2.2.1 r22.2.1.2.2.2.2, bX6 G q1 (o1 + 3) r22.2.2.1.1 r22.2.2.1.2, bX8 G q1 (o1 + 12) r22.2.2.2.1.1 r22.2.2.2.1.2, bX5 G q1 (o1 + 19) r22.2.2.2.2.1.2.1 r22.2.2.2.2.1.2.2.1 r22.2.2.2.2.1.2.2.2.1 r22.2.2.2.2.1.2.2.2.2, bX2 G q1 ((o1 + 19) + 2) r22.2.2.2.2.1.1.1 r22.2.2.2.2.1.1.2.1 r22.2.2.2.2.1.1.2.2.1 r22.2.2.2.2.1.1.2.2.2.1 r22.2.2.2.2.1.1.2.2.2.2.1 r22.2.2.2.2.1.1.2.2.2.2.2.1 r22.2.2.2.2.1.1.2.2.2.2.2.2.1 r22.2.2.2.2.1.1.2.2.2.2.2.2.2, bX2 G q1 (o1 + 27) r22.2.2.2.2.2.1.1 r22.2.2.2.2.2.1.2.1 r22.2.2.2.2.2.1.2.2.1 r22.2.2.2.2.2.1.2.2.2.1 r22.2.2.2.2.2.1.2.2.2.2.1 r22.2.2.2.2.2.1.2.2.2.2.2.1 r22.2.2.2.2.2.1.2.2.2.2.2.2.1 r22.2.2.2.2.2.1.2.2.2.2.2.2.2, bX1 G q1 (o1 + 33) r22.2.2.2.2.2.2.1.1 r22.2.2.2.2.2.2.1.2.1 r22.2.2.2.2.2.2.1.2.2.1 r22.2.2.2.2.2.2.1.2.2.2, bX4 G q1 (o1 + 36) r22.2.2.2.2.2.2.2.1.1 r22.2.2.2.2.2.2.2.1.2, bX3 G q1 (o1 + 38) r22.2.2.2.2.2.2.2.2.1.1 r22.2.2.2.2.2.2.2.2.1.2.1 r22.2.2.2.2.2.2.2.2.1.2.2.1 r22.2.2.2.2.2.2.2.2.1.2.2.2, bX0 G q1 (o1 + 43) r22.2.2.2.2.2.2.2.2.2.1.2.2.1 r22.2.2.2.2.2.2.2.2.2.1.2.2.2, bX2 G q1 ((o1 + 43) + 3) r22.2.2.2.2.2.2.2.2.2.1.1.1 r22.2.2.2.2.2.2.2.2.2.1.1.2.1 r22.2.2.2.2.2.2.2.2.2.1.1.2.2.1 r22.2.2.2.2.2.2.2.2.2.1.1.2.2.2.1 r22.2.2.2.2.2.2.2.2.2.1.1.2.2.2.2.1 r22.2.2.2.2.2.2.2.2.2.1.1.2.2.2.2.2.1 r22.2.2.2.2.2.2.2.2.2.1.1.2.2.2.2.2.2.1 r22.2.2.2.2.2.2.2.2.2.1.1.2.2.2.2.2.2.2, bX4 G q1 ((o1 + 43) + 9) r22.2.2.2.2.2.2.2.2.2.1.2.1.1 r22.2.2.2.2.2.2.2.2.2.1.2.1.2, bX7 G q1 (o1 + 54) r22.2.2.2.2.2.2.2.2.2.2.1 r22.2.2.2.2.2.2.2.2.2.2.2.1 r22.2.2.2.2.2.2.2.2.2.2.2.2, bA48 G q2 o2 P2]) hS0 (c_X10_reached l G q1 o1 r18.2 r22 e23) zc_X10_reached rfl gL_friends_X10_reached ⟨Nat.le_of_ble_eq_true rfl, Nat.le_of_ble_eq_true rfl⟩ hK hA hT hw (is := [0, 1, 2, 3, 4, 5, 6, 7, 8, 9, 10, 11, 12, 13]) rfl rfl rfl rfl rfl rfl rfl hl.1 rfl (Nat.le_of_ble_eq_true rfl) dL_friends_370 (fun H locs hw => ?_)
            refine lv_iload hx hb dL_friends_373 (lv_at hl 3 rfl) ?_
            refine lv_icmp_ne (tgt := 382) hx hb dL_friends_375 rfl (fun hc => ?_) (fun hc => ?_)
            · have hf := z_f hc hf
              refine lv_iconst (v := 0) hx hb dL_friends_382 rfl ?_
              cases hf
              exact z_zret hx hb hr (z_nb (Or.inl rfl)) hlk hw dL_friends_383
            · have hf := z_t hc hf
              refine lv_iconst (v := 1) hx hb dL_friends_378 rfl ?_
              refine lv_goto (tgt := 383) hx hb dL_friends_379 rfl ?_
              cases hf
              exact z_zret hx hb hr (z_nb (Or.inr rfl)) hlk hw dL_friends_383
    · have hf := z_f hc hf
      refine lv_aload_n hx hb dL_friends_217 rfl (lv_at hl 0 rfl) ?_
      refine lv_aload_n hx hb dL_friends_218 rfl (lv_at hl 0 rfl) ?_
      refine lv_iload hx hb dL_friends_219 (lv_at hl 7 rfl) ?_
      refine lv_iconst (v := 1) hx hb dL_friends_221 rfl ?_
      obtain ⟨r24, e25, hf⟩ := z_bd hf
      refine z_callV1 (As := [.int v11, .int 1]) (rest := [.ref (q1 (o1 + 0))]) (bs' := [bX10 G q1 o1, bX9 G q1 (o1 + 1) r24.2.1.1 r24.2.1.2.1 r24.2.1.2.2.1 r24.2.1.2.2.2.1 r24.2.1.2.2.2.2, bX6 G q1 (o1 + 3) r24.2.2.1.1 r24.2.2.1.2, bX8 G q1 (o1 + 12) r24.2.2.2.1.1 r24.2.2.2.1.2, bX5 G q1 (o1 + 19) r24.2.2.2.2.1.2.1 r24.2.2.2.2.1.2.2.1 r24.2.2.2.2.1.2.2.2.1 r24.2.2.2.2.1.2.2.2.2, bX2 G q1 ((o1 + 19) + 2) r24.2.2.2.2.1.1.1 r24.2.2.2.2.1.1.2.1 r24.2.2.2.2.1.1.2.2.1 r24.2.2.2.2.1.1.2.2.2.1 r24.2.2.2.2.1.1.2.2.2.2.1 r24.2.2.2.2.1.1.2.2.2.2.2.1 r24.2.2.2.2.1.1.2.2.2.2.2.2.1 r24.2.2.2.2.1.1.2.2.2.2.2.2.2, bX2 G q1 (o1 + 27) r24.2.2.2.2.2.1.1 r24.2.2.2.2.2.1.2.1 r24.2.2.2.2.2.1.2.2.1 r24.2.2.2.2.2.1.2.2.2.1 r24.2.2.2.2.2.1.2.2.2.2.1 r24.2.2.2.2.2.1.2.2.2.2.2.1 r24.2.2.2.2.2.1.2.2.2.2.2.2.1 r24.2.2.2.2.2.1.2.2.2.2.2.2.2, bX1 G q1 (o1 + 33) r24.2.2.2.2.2.2.1.1 r24.2.2.2.2.2.2.1.2.1 r24.2.2.2.2.2.2.1.2.2.1 r24.2.2.2.2.2.2.1.2.2.2, bX4 G q1 (o1 + 36) r24.2.2.2.2.2.2.2.1.1 r24.2.2.2.2.2.2.2.1.2, bX3 G q1 (o1 + 38) r24.2.2.2.2.2.2.2.2.1.1 r24.2.2.2.2.2.2.2.2.1.2.1 r24.2.2.2.2.2.2.2.2.1.2.2.1 r24.2.2.2.2.2.2.2.2.1.2.2.2, bX0 G q1 (o1 + 43) r24.2.2.2.2.2.2.2.2.2.1.2.2.1 r24.2.2.2.2.2.2.2.2.2.1.2.2.2, bX2 G q1 ((o1 + 43) + 3) r24.2.2.2.2.2.2.2.2.2.1.1.1 r24.2.2.2.2.2.2.2.2.2.1.1.2.1 r24.2.2.2.2.2.2.2.2.2.1.1.2.2.1 r24.2.2.2.2.2.2.2.2.2.1.1.2.2.2.1 r24.2.2.2.2.2.2.2.2.2.1.1.2.2.2.2.1 r24.2.2.2.2.2.2.2.2.2.1.1.2.2.2.2.2.1 r24.2.2.2.2.2.2.2.2.2.1.1.2.2.2.2.2.2.1 r24.2.2.2.2.2.2.2.2.2.1.1.2.2.2.2.2.2.2, bX4 G q1 ((o1 + 43) + 9) r24.2.2.2.2.2.2.2.2.2.1.2.1.1 r24.2.2.2.2.2.2.2.2.2.1.2.1.2, bX7 G q1 (o1 + 54) r24.2.2.2.2.2.2.2.2.2.2.1 r24.2.2.2.2.2.2.2.2.2.2.2.1 r24.2.2.2.2.2.2.2.2.2.2.2.2, bA48 G q2 o2 P2]) hS0 (c_X10_door l G q1 o1 P1 v11 1 r24 e25) zc_X10_door rfl gL_friends_X10_door ⟨Nat.le_of_ble_eq_true rfl, Nat.le_of_ble_eq_true rfl⟩ hK hA hT hw (is := [0, 1, 2, 3, 4, 5, 6, 7, 8, 9, 10, 11, 12, 13]) rfl rfl rfl rfl rfl rfl rfl hl.1 rfl (Nat.le_of_ble_eq_true rfl) dL_friends_222 (fun H locs hw => ?_)
      obtain ⟨r26, e27, hf⟩ := z_bd hf
      refine z_callS1 (As := [.ref (q1 (o1 + 0)), .int r24.1]) (rest := []) (bs' := [bX10 G q1 o1, bX9 G q1 (o1 + 1) r24.2.1.1 r24.2.1.2.1 r24.2.1.2.2.1 r24.2.1.2.2.2.1 r24.2.1.2.2.2.2, bX6 G q1 (o1 + 3) r24.2.2.1.1 r24.2.2.1.2, bX8 G q1 (o1 + 12) r24.2.2.2.1.1 r24.2.2.2.1.2, bX5 G q1 (o1 + 19) r24.2.2.2.2.1.2.1 r24.2.2.2.2.1.2.2.1 r24.2.2.2.2.1.2.2.2.1 r24.2.2.2.2.1.2.2.2.2, bX2 G q1 ((o1 + 19) + 2) r24.2.2.2.2.1.1.1 r24.2.2.2.2.1.1.2.1 r24.2.2.2.2.1.1.2.2.1 r24.2.2.2.2.1.1.2.2.2.1 r24.2.2.2.2.1.1.2.2.2.2.1 r24.2.2.2.2.1.1.2.2.2.2.2.1 r24.2.2.2.2.1.1.2.2.2.2.2.2.1 r24.2.2.2.2.1.1.2.2.2.2.2.2.2, bX2 G q1 (o1 + 27) r24.2.2.2.2.2.1.1 r24.2.2.2.2.2.1.2.1 r24.2.2.2.2.2.1.2.2.1 r24.2.2.2.2.2.1.2.2.2.1 r24.2.2.2.2.2.1.2.2.2.2.1 r24.2.2.2.2.2.1.2.2.2.2.2.1 r24.2.2.2.2.2.1.2.2.2.2.2.2.1 r24.2.2.2.2.2.1.2.2.2.2.2.2.2, bX1 G q1 (o1 + 33) r24.2.2.2.2.2.2.1.1 r24.2.2.2.2.2.2.1.2.1 r24.2.2.2.2.2.2.1.2.2.1 r24.2.2.2.2.2.2.1.2.2.2, bX4 G q1 (o1 + 36) r24.2.2.2.2.2.2.2.1.1 r24.2.2.2.2.2.2.2.1.2, bX3 G q1 (o1 + 38) r24.2.2.2.2.2.2.2.2.1.1 r24.2.2.2.2.2.2.2.2.1.2.1 r24.2.2.2.2.2.2.2.2.1.2.2.1 r24.2.2.2.2.2.2.2.2.1.2.2.2, bX0 G q1 (o1 + 43) r24.2.2.2.2.2.2.2.2.2.1.2.2.1 r24.2.2.2.2.2.2.2.2.2.1.2.2.2, bX2 G q1 ((o1 + 43) + 3) r24.2.2.2.2.2.2.2.2.2.1.1.1 r24.2.2.2.2.2.2.2.2.2.1.1.2.1 r24.2.2.2.2.2.2.2.2.2.1.1.2.2.1 r24.2.2.2.2.2.2.2.2.2.1.1.2.2.2.1 r24.2.2.2.2.2.2.2.2.2.1.1.2.2.2.2.1 r24.2.2.2.2.2.2.2.2.2.1.1.2.2.2.2.2.1 r24.2.2.2.2.2.2.2.2.2.1.1.2.2.2.2.2.2.1 r24.2.2.2.2.2.2.2.2.2.1.1.2.2.2.2.2.2.2, bX4 G q1 ((o1 + 43) + 9) r24.2.2.2.2.2.2.2.2.2.1.2.1.1 r24.2.2.2.2.2.2.2.2.2.1.2.1.2, bX7 G q1 (o1 + 54) r24.2.2.2.2.2.2.2.2.2.2.1 r24.2.2.2.2.2.2.2.2.2.2.2.1 r24.2.2.2.2.2.2.2.2.2.2.2.2, bA48 G q2 o2 P2]) hS0 (c_L_tells l G q1 o1 r24.2 r24.1 r26 e27) zc_L_tells gL_friends_L_tells ⟨Nat.le_of_ble_eq_true rfl, Nat.le_of_ble_eq_true rfl⟩ hK hA hT hw (is := [0, 1, 2, 3, 4, 5, 6, 7, 8, 9, 10, 11, 12, 13]) rfl rfl rfl rfl rfl hl.1 rfl (Nat.le_of_ble_eq_true rfl) dL_friends_225 (fun H locs hw => ?_)
      refine lv_istore (lv' := [(12, .int r26), (0, .ref (q1 (o1 + 0))), (2, .ref (q2 (o2 + 0))), (3, .int v3), (5, .int v5), (6, .long v6), (9, .int v9), (10, .int v10), (11, .int v11)]) hx hb dL_friends_228 hl (by decide) rfl (fun ls hl => ?_)
      refine lv_iload hx hb dL_friends_230 (lv_at hl 6 rfl) ?_
      refine lv_iload hx hb dL_friends_232 (lv_at hl 0 rfl) ?_
      refine lv_if_ge (tgt := 241) hx hb dL_friends_234 rfl (fun hc => ?_) (fun hc => ?_)
      · have hf := z_t hc hf
        refine lv_iconst (v := 1) hx hb dL_friends_241 rfl ?_
        exact k_L_friends_242 hZ _ ih _ _ _ _ _ _ _ _ _ _ _ _ _ hf hw (lv_sub hl [1, 2, 3, 4, 5, 7, 8, 0] rfl)
      · have hf := z_f hc hf
        refine lv_iconst (v := 0) hx hb dL_friends_237 rfl ?_
        refine lv_goto (tgt := 242) hx hb dL_friends_238 rfl ?_
        exact k_L_friends_242 hZ _ ih _ _ _ _ _ _ _ _ _ _ _ _ _ hf hw (lv_sub hl [1, 2, 3, 4, 5, 7, 8, 0] rfl)
set_option maxHeartbeats 4000000 in
set_option maxRecDepth 100000 in
theorem k_L_friends_181 {p : Program} {l : Launch} {e : Env} {s : State} {m : MethodId} {args : Array Value} {below : List Frame} {meth : Method} {c : Code} {A : Nat → Prop} {G : zG} {q1 : Nat → Nat} {o1 : Nat} {q2 : Nat → Nat} {o2 : Nat}  (hZ : zZ p s m args meth c A G cL_friends 13 RL wsL_friends (some .boolean)) (y : Int32 × VX10)  : ∀ (P1 : VX10) (P2 : VA48) (v3 : Int32) (v5 : Int32) (v6 : Int64) (v8 : Int32) (H : Heap) (locs : List Loc) (ls : Array Slot), f_L_friends_181 (zX G) P1 P2 v3 v5 v6 v8 = some y → zH G A s.heap [bX10 G q1 o1, bX9 G q1 (o1 + 1) P1.1.1 P1.1.2.1 P1.1.2.2.1 P1.1.2.2.2.1 P1.1.2.2.2.2, bX6 G q1 (o1 + 3) P1.2.1.1 P1.2.1.2, bX8 G q1 (o1 + 12) P1.2.2.1.1 P1.2.2.1.2, bX5 G q1 (o1 + 19) P1.2.2.2.1.2.1 P1.2.2.2.1.2.2.1 P1.2.2.2.1.2.2.2.1 P1.2.2.2.1.2.2.2.2, bX2 G q1 ((o1 + 19) + 2) P1.2.2.2.1.1.1 P1.2.2.2.1.1.2.1 P1.2.2.2.1.1.2.2.1 P1.2.2.2.1.1.2.2.2.1 P1.2.2.2.1.1.2.2.2.2.1 P1.2.2.2.1.1.2.2.2.2.2.1 P1.2.2.2.1.1.2.2.2.2.2.2.1 P1.2.2.2.1.1.2.2.2.2.2.2.2, bX2 G q1 (o1 + 27) P1.2.2.2.2.1.1 P1.2.2.2.2.1.2.1 P1.2.2.2.2.1.2.2.1 P1.2.2.2.2.1.2.2.2.1 P1.2.2.2.2.1.2.2.2.2.1 P1.2.2.2.2.1.2.2.2.2.2.1 P1.2.2.2.2.1.2.2.2.2.2.2.1 P1.2.2.2.2.1.2.2.2.2.2.2.2, bX1 G q1 (o1 + 33) P1.2.2.2.2.2.1.1 P1.2.2.2.2.2.1.2.1 P1.2.2.2.2.2.1.2.2.1 P1.2.2.2.2.2.1.2.2.2, bX4 G q1 (o1 + 36) P1.2.2.2.2.2.2.1.1 P1.2.2.2.2.2.2.1.2, bX3 G q1 (o1 + 38) P1.2.2.2.2.2.2.2.1.1 P1.2.2.2.2.2.2.2.1.2.1 P1.2.2.2.2.2.2.2.1.2.2.1 P1.2.2.2.2.2.2.2.1.2.2.2, bX0 G q1 (o1 + 43) P1.2.2.2.2.2.2.2.2.1.2.2.1 P1.2.2.2.2.2.2.2.2.1.2.2.2, bX2 G q1 ((o1 + 43) + 3) P1.2.2.2.2.2.2.2.2.1.1.1 P1.2.2.2.2.2.2.2.2.1.1.2.1 P1.2.2.2.2.2.2.2.2.1.1.2.2.1 P1.2.2.2.2.2.2.2.2.1.1.2.2.2.1 P1.2.2.2.2.2.2.2.2.1.1.2.2.2.2.1 P1.2.2.2.2.2.2.2.2.1.1.2.2.2.2.2.1 P1.2.2.2.2.2.2.2.2.1.1.2.2.2.2.2.2.1 P1.2.2.2.2.2.2.2.2.1.1.2.2.2.2.2.2.2, bX4 G q1 ((o1 + 43) + 9) P1.2.2.2.2.2.2.2.2.1.2.1.1 P1.2.2.2.2.2.2.2.2.1.2.1.2, bX7 G q1 (o1 + 54) P1.2.2.2.2.2.2.2.2.2.1 P1.2.2.2.2.2.2.2.2.2.2.1 P1.2.2.2.2.2.2.2.2.2.2.2, bA48 G q2 o2 P2] H locs → lv_has ls 13 [(0, .ref (q1 (o1 + 0))), (2, .ref (q2 (o2 + 0))), (3, .int v3), (5, .int v5), (6, .long v6), (8, .int v8)] → W p l e { frames := 7, cells := 0, slots := 0, locals := 176 } s m args below meth c H locs 0 0 (MQ below (zQ (some (.int y.1)) (zPost G [bX10 G q1 o1, bX9 G q1 (o1 + 1) y.2.1.1 y.2.1.2.1 y.2.1.2.2.1 y.2.1.2.2.2.1 y.2.1.2.2.2.2, bX6 G q1 (o1 + 3) y.2.2.1.1 y.2.2.1.2, bX8 G q1 (o1 + 12) y.2.2.2.1.1 y.2.2.2.1.2, bX5 G q1 (o1 + 19) y.2.2.2.2.1.2.1 y.2.2.2.2.1.2.2.1 y.2.2.2.2.1.2.2.2.1 y.2.2.2.2.1.2.2.2.2, bX2 G q1 ((o1 + 19) + 2) y.2.2.2.2.1.1.1 y.2.2.2.2.1.1.2.1 y.2.2.2.2.1.1.2.2.1 y.2.2.2.2.1.1.2.2.2.1 y.2.2.2.2.1.1.2.2.2.2.1 y.2.2.2.2.1.1.2.2.2.2.2.1 y.2.2.2.2.1.1.2.2.2.2.2.2.1 y.2.2.2.2.1.1.2.2.2.2.2.2.2, bX2 G q1 (o1 + 27) y.2.2.2.2.2.1.1 y.2.2.2.2.2.1.2.1 y.2.2.2.2.2.1.2.2.1 y.2.2.2.2.2.1.2.2.2.1 y.2.2.2.2.2.1.2.2.2.2.1 y.2.2.2.2.2.1.2.2.2.2.2.1 y.2.2.2.2.2.1.2.2.2.2.2.2.1 y.2.2.2.2.2.1.2.2.2.2.2.2.2, bX1 G q1 (o1 + 33) y.2.2.2.2.2.2.1.1 y.2.2.2.2.2.2.1.2.1 y.2.2.2.2.2.2.1.2.2.1 y.2.2.2.2.2.2.1.2.2.2, bX4 G q1 (o1 + 36) y.2.2.2.2.2.2.2.1.1 y.2.2.2.2.2.2.2.1.2, bX3 G q1 (o1 + 38) y.2.2.2.2.2.2.2.2.1.1 y.2.2.2.2.2.2.2.2.1.2.1 y.2.2.2.2.2.2.2.2.1.2.2.1 y.2.2.2.2.2.2.2.2.1.2.2.2, bX0 G q1 (o1 + 43) y.2.2.2.2.2.2.2.2.2.1.2.2.1 y.2.2.2.2.2.2.2.2.2.1.2.2.2, bX2 G q1 ((o1 + 43) + 3) y.2.2.2.2.2.2.2.2.2.1.1.1 y.2.2.2.2.2.2.2.2.2.1.1.2.1 y.2.2.2.2.2.2.2.2.2.1.1.2.2.1 y.2.2.2.2.2.2.2.2.2.1.1.2.2.2.1 y.2.2.2.2.2.2.2.2.2.1.1.2.2.2.2.1 y.2.2.2.2.2.2.2.2.2.1.1.2.2.2.2.2.1 y.2.2.2.2.2.2.2.2.2.1.1.2.2.2.2.2.2.1 y.2.2.2.2.2.2.2.2.2.1.1.2.2.2.2.2.2.2, bX4 G q1 ((o1 + 43) + 9) y.2.2.2.2.2.2.2.2.2.1.2.1.1 y.2.2.2.2.2.2.2.2.2.1.2.1.2, bX7 G q1 (o1 + 54) y.2.2.2.2.2.2.2.2.2.2.1 y.2.2.2.2.2.2.2.2.2.2.2.1 y.2.2.2.2.2.2.2.2.2.2.2.2, bA48 G q2 o2 P2]) A) args s 0 0 A) (F0 m 181 ls []) := by
  obtain ⟨hS0, hr, hlk, hK, hA, hT⟩ := id hZ
  have hx := hS0.1
  have hb := hS0.2.1
  have hml := hS0.2.2.1
  have hown : s.vm.findClass RL = some m.cls := hS0.2.2.2.1
  have hts := hS0.2.2.2.2
  intro P1 P2 v3 v5 v6 v8 H locs ls hf hw hl
  unfold f_L_friends_181 at hf
  refine lv_iload hx hb dL_friends_181 (lv_at hl 5 rfl) ?_
  refine lv_if_le (tgt := 202) hx hb dL_friends_183 rfl (fun hc => ?_) (fun hc => ?_)
  · have hf := z_t hc hf
    refine lv_iconst (v := 0) hx hb dL_friends_202 rfl ?_
    refine lv_istore (lv' := [(9, .int 0), (0, .ref (q1 (o1 + 0))), (2, .ref (q2 (o2 + 0))), (3, .int v3), (5, .int v5), (6, .long v6), (8, .int v8)]) hx hb dL_friends_203 hl (by decide) rfl (fun ls hl => ?_)
    refine lv_iconst (v := 0) hx hb dL_friends_205 rfl ?_
    refine lv_istore (lv' := [(10, .int 0), (9, .int 0), (0, .ref (q1 (o1 + 0))), (2, .ref (q2 (o2 + 0))), (3, .int v3), (5, .int v5), (6, .long v6), (8, .int v8)]) hx hb dL_friends_206 hl (by decide) rfl (fun ls hl => ?_)
    refine lv_iconst (v := 0) hx hb dL_friends_208 rfl ?_
    refine lv_istore (lv' := [(11, .int 0), (10, .int 0), (9, .int 0), (0, .ref (q1 (o1 + 0))), (2, .ref (q2 (o2 + 0))), (3, .int v3), (5, .int v5), (6, .long v6), (8, .int v8)]) hx hb dL_friends_209 hl (by decide) rfl (fun ls hl => ?_)
    exact k_L_friends_211 hZ _ 4096 _ _ _ _ _ _ _ _ _ _ _ hf hw (lv_sub hl [3, 4, 5, 6, 7, 2, 1, 0] rfl)
  · have hf := z_f hc hf
    refine lv_iload hx hb dL_friends_186 (lv_at hl 5 rfl) ?_
    refine lv_bipush (v := 20) hx hb dL_friends_188 rfl ?_
    refine lv_icmp_ge (tgt := 202) hx hb dL_friends_190 rfl (fun hc => ?_) (fun hc => ?_)
    · have hf := z_t hc hf
      refine lv_iconst (v := 0) hx hb dL_friends_202 rfl ?_
      refine lv_istore (lv' := [(9, .int 0), (0, .ref (q1 (o1 + 0))), (2, .ref (q2 (o2 + 0))), (3, .int v3), (5, .int v5), (6, .long v6), (8, .int v8)]) hx hb dL_friends_203 hl (by decide) rfl (fun ls hl => ?_)
      refine lv_iconst (v := 0) hx hb dL_friends_205 rfl ?_
      refine lv_istore (lv' := [(10, .int 0), (9, .int 0), (0, .ref (q1 (o1 + 0))), (2, .ref (q2 (o2 + 0))), (3, .int v3), (5, .int v5), (6, .long v6), (8, .int v8)]) hx hb dL_friends_206 hl (by decide) rfl (fun ls hl => ?_)
      refine lv_iconst (v := 0) hx hb dL_friends_208 rfl ?_
      refine lv_istore (lv' := [(11, .int 0), (10, .int 0), (9, .int 0), (0, .ref (q1 (o1 + 0))), (2, .ref (q2 (o2 + 0))), (3, .int v3), (5, .int v5), (6, .long v6), (8, .int v8)]) hx hb dL_friends_209 hl (by decide) rfl (fun ls hl => ?_)
      exact k_L_friends_211 hZ _ 4096 _ _ _ _ _ _ _ _ _ _ _ hf hw (lv_sub hl [3, 4, 5, 6, 7, 2, 1, 0] rfl)
    · have hf := z_f hc hf
      refine lv_aload_n hx hb dL_friends_193 rfl (lv_at hl 0 rfl) ?_
      obtain ⟨r28, e29, hf⟩ := z_bd hf
      refine z_callV1 (As := []) (rest := []) (bs' := [bX10 G q1 o1, bX9 G q1 (o1 + 1) r28.2.1.1 r28.2.1.2.1 r28.2.1.2.2.1 r28.2.1.2.2.2.1 r28.2.1.2.2.2.2, bX6 G q1 (o1 + 3) r28.2.2.1.1 r28.2.2.1.2, bX8 G q1 (o1 + 12) r28.2.2.2.1.1 r28.2.2.2.1.2, bX5 G q1 (o1 + 19) r28.2.2.2.2.1.2.1 r28.2.2.2.2.1.2.2.1 r28.2.2.2.2.1.2.2.2.1 r28.2.2.2.2.1.2.2.2.2, bX2 G q1 ((o1 + 19) + 2) r28.2.2.2.2.1.1.1 r28.2.2.2.2.1.1.2.1 r28.2.2.2.2.1.1.2.2.1 r28.2.2.2.2.1.1.2.2.2.1 r28.2.2.2.2.1.1.2.2.2.2.1 r28.2.2.2.2.1.1.2.2.2.2.2.1 r28.2.2.2.2.1.1.2.2.2.2.2.2.1 r28.2.2.2.2.1.1.2.2.2.2.2.2.2, bX2 G q1 (o1 + 27) r28.2.2.2.2.2.1.1 r28.2.2.2.2.2.1.2.1 r28.2.2.2.2.2.1.2.2.1 r28.2.2.2.2.2.1.2.2.2.1 r28.2.2.2.2.2.1.2.2.2.2.1 r28.2.2.2.2.2.1.2.2.2.2.2.1 r28.2.2.2.2.2.1.2.2.2.2.2.2.1 r28.2.2.2.2.2.1.2.2.2.2.2.2.2, bX1 G q1 (o1 + 33) r28.2.2.2.2.2.2.1.1 r28.2.2.2.2.2.2.1.2.1 r28.2.2.2.2.2.2.1.2.2.1 r28.2.2.2.2.2.2.1.2.2.2, bX4 G q1 (o1 + 36) r28.2.2.2.2.2.2.2.1.1 r28.2.2.2.2.2.2.2.1.2, bX3 G q1 (o1 + 38) r28.2.2.2.2.2.2.2.2.1.1 r28.2.2.2.2.2.2.2.2.1.2.1 r28.2.2.2.2.2.2.2.2.1.2.2.1 r28.2.2.2.2.2.2.2.2.1.2.2.2, bX0 G q1 (o1 + 43) r28.2.2.2.2.2.2.2.2.2.1.2.2.1 r28.2.2.2.2.2.2.2.2.2.1.2.2.2, bX2 G q1 ((o1 + 43) + 3) r28.2.2.2.2.2.2.2.2.2.1.1.1 r28.2.2.2.2.2.2.2.2.2.1.1.2.1 r28.2.2.2.2.2.2.2.2.2.1.1.2.2.1 r28.2.2.2.2.2.2.2.2.2.1.1.2.2.2.1 r28.2.2.2.2.2.2.2.2.2.1.1.2.2.2.2.1 r28.2.2.2.2.2.2.2.2.2.1.1.2.2.2.2.2.1 r28.2.2.2.2.2.2.2.2.2.1.1.2.2.2.2.2.2.1 r28.2.2.2.2.2.2.2.2.2.1.1.2.2.2.2.2.2.2, bX4 G q1 ((o1 + 43) + 9) r28.2.2.2.2.2.2.2.2.2.1.2.1.1 r28.2.2.2.2.2.2.2.2.2.1.2.1.2, bX7 G q1 (o1 + 54) r28.2.2.2.2.2.2.2.2.2.2.1 r28.2.2.2.2.2.2.2.2.2.2.2.1 r28.2.2.2.2.2.2.2.2.2.2.2.2, bA48 G q2 o2 P2]) hS0 (c_X10_trades l G q1 o1 P1 r28 e29) zc_X10_trades rfl gL_friends_X10_trades ⟨Nat.le_of_ble_eq_true rfl, Nat.le_of_ble_eq_true rfl⟩ hK hA hT hw (is := [0, 1, 2, 3, 4, 5, 6, 7, 8, 9, 10, 11, 12, 13]) rfl rfl rfl rfl rfl rfl rfl hl.1 rfl (Nat.le_of_ble_eq_true rfl) dL_friends_194 (fun H locs hw => ?_)
      refine lv_if_eq (tgt := 202) hx hb dL_friends_197 rfl (fun hc => ?_) (fun hc => ?_)
      · have hf := z_t hc hf
        refine lv_iconst (v := 0) hx hb dL_friends_202 rfl ?_
        refine lv_istore (lv' := [(9, .int 0), (0, .ref (q1 (o1 + 0))), (2, .ref (q2 (o2 + 0))), (3, .int v3), (5, .int v5), (6, .long v6), (8, .int v8)]) hx hb dL_friends_203 hl (by decide) rfl (fun ls hl => ?_)
        refine lv_iconst (v := 0) hx hb dL_friends_205 rfl ?_
        refine lv_istore (lv' := [(10, .int 0), (9, .int 0), (0, .ref (q1 (o1 + 0))), (2, .ref (q2 (o2 + 0))), (3, .int v3), (5, .int v5), (6, .long v6), (8, .int v8)]) hx hb dL_friends_206 hl (by decide) rfl (fun ls hl => ?_)
        refine lv_iconst (v := 0) hx hb dL_friends_208 rfl ?_
        refine lv_istore (lv' := [(11, .int 0), (10, .int 0), (9, .int 0), (0, .ref (q1 (o1 + 0))), (2, .ref (q2 (o2 + 0))), (3, .int v3), (5, .int v5), (6, .long v6), (8, .int v8)]) hx hb dL_friends_209 hl (by decide) rfl (fun ls hl => ?_)
        exact k_L_friends_211 hZ _ 4096 _ _ _ _ _ _ _ _ _ _ _ hf hw (lv_sub hl [3, 4, 5, 6, 7, 2, 1, 0] rfl)
      · have hf := z_f hc hf
        refine lv_iconst (v := 0) hx hb dL_friends_200 rfl ?_
        cases hf
        exact z_zret hx hb hr (z_nb (Or.inl rfl)) hlk hw dL_friends_201
set_option maxHeartbeats 4000000 in
set_option maxRecDepth 100000 in
theorem k_L_friends_109 {p : Program} {l : Launch} {e : Env} {s : State} {m : MethodId} {args : Array Value} {below : List Frame} {meth : Method} {c : Code} {A : Nat → Prop} {G : zG} {q1 : Nat → Nat} {o1 : Nat} {q2 : Nat → Nat} {o2 : Nat}  (hZ : zZ p s m args meth c A G cL_friends 13 RL wsL_friends (some .boolean)) (y : Int32 × VX10)  (n : Nat) : ∀ (P1 : VX10) (P2 : VA48) (v3 : Int32) (v5 : Int32) (v6 : Int32) (H : Heap) (locs : List Loc) (ls : Array Slot), f_L_friends_109 (zX G) n P1 P2 v3 v5 v6 = some y → zH G A s.heap [bX10 G q1 o1, bX9 G q1 (o1 + 1) P1.1.1 P1.1.2.1 P1.1.2.2.1 P1.1.2.2.2.1 P1.1.2.2.2.2, bX6 G q1 (o1 + 3) P1.2.1.1 P1.2.1.2, bX8 G q1 (o1 + 12) P1.2.2.1.1 P1.2.2.1.2, bX5 G q1 (o1 + 19) P1.2.2.2.1.2.1 P1.2.2.2.1.2.2.1 P1.2.2.2.1.2.2.2.1 P1.2.2.2.1.2.2.2.2, bX2 G q1 ((o1 + 19) + 2) P1.2.2.2.1.1.1 P1.2.2.2.1.1.2.1 P1.2.2.2.1.1.2.2.1 P1.2.2.2.1.1.2.2.2.1 P1.2.2.2.1.1.2.2.2.2.1 P1.2.2.2.1.1.2.2.2.2.2.1 P1.2.2.2.1.1.2.2.2.2.2.2.1 P1.2.2.2.1.1.2.2.2.2.2.2.2, bX2 G q1 (o1 + 27) P1.2.2.2.2.1.1 P1.2.2.2.2.1.2.1 P1.2.2.2.2.1.2.2.1 P1.2.2.2.2.1.2.2.2.1 P1.2.2.2.2.1.2.2.2.2.1 P1.2.2.2.2.1.2.2.2.2.2.1 P1.2.2.2.2.1.2.2.2.2.2.2.1 P1.2.2.2.2.1.2.2.2.2.2.2.2, bX1 G q1 (o1 + 33) P1.2.2.2.2.2.1.1 P1.2.2.2.2.2.1.2.1 P1.2.2.2.2.2.1.2.2.1 P1.2.2.2.2.2.1.2.2.2, bX4 G q1 (o1 + 36) P1.2.2.2.2.2.2.1.1 P1.2.2.2.2.2.2.1.2, bX3 G q1 (o1 + 38) P1.2.2.2.2.2.2.2.1.1 P1.2.2.2.2.2.2.2.1.2.1 P1.2.2.2.2.2.2.2.1.2.2.1 P1.2.2.2.2.2.2.2.1.2.2.2, bX0 G q1 (o1 + 43) P1.2.2.2.2.2.2.2.2.1.2.2.1 P1.2.2.2.2.2.2.2.2.1.2.2.2, bX2 G q1 ((o1 + 43) + 3) P1.2.2.2.2.2.2.2.2.1.1.1 P1.2.2.2.2.2.2.2.2.1.1.2.1 P1.2.2.2.2.2.2.2.2.1.1.2.2.1 P1.2.2.2.2.2.2.2.2.1.1.2.2.2.1 P1.2.2.2.2.2.2.2.2.1.1.2.2.2.2.1 P1.2.2.2.2.2.2.2.2.1.1.2.2.2.2.2.1 P1.2.2.2.2.2.2.2.2.1.1.2.2.2.2.2.2.1 P1.2.2.2.2.2.2.2.2.1.1.2.2.2.2.2.2.2, bX4 G q1 ((o1 + 43) + 9) P1.2.2.2.2.2.2.2.2.1.2.1.1 P1.2.2.2.2.2.2.2.2.1.2.1.2, bX7 G q1 (o1 + 54) P1.2.2.2.2.2.2.2.2.2.1 P1.2.2.2.2.2.2.2.2.2.2.1 P1.2.2.2.2.2.2.2.2.2.2.2, bA48 G q2 o2 P2] H locs → lv_has ls 13 [(0, .ref (q1 (o1 + 0))), (2, .ref (q2 (o2 + 0))), (3, .int v3), (5, .int v5), (6, .int v6)] → W p l e { frames := 7, cells := 0, slots := 0, locals := 176 } s m args below meth c H locs 0 0 (MQ below (zQ (some (.int y.1)) (zPost G [bX10 G q1 o1, bX9 G q1 (o1 + 1) y.2.1.1 y.2.1.2.1 y.2.1.2.2.1 y.2.1.2.2.2.1 y.2.1.2.2.2.2, bX6 G q1 (o1 + 3) y.2.2.1.1 y.2.2.1.2, bX8 G q1 (o1 + 12) y.2.2.2.1.1 y.2.2.2.1.2, bX5 G q1 (o1 + 19) y.2.2.2.2.1.2.1 y.2.2.2.2.1.2.2.1 y.2.2.2.2.1.2.2.2.1 y.2.2.2.2.1.2.2.2.2, bX2 G q1 ((o1 + 19) + 2) y.2.2.2.2.1.1.1 y.2.2.2.2.1.1.2.1 y.2.2.2.2.1.1.2.2.1 y.2.2.2.2.1.1.2.2.2.1 y.2.2.2.2.1.1.2.2.2.2.1 y.2.2.2.2.1.1.2.2.2.2.2.1 y.2.2.2.2.1.1.2.2.2.2.2.2.1 y.2.2.2.2.1.1.2.2.2.2.2.2.2, bX2 G q1 (o1 + 27) y.2.2.2.2.2.1.1 y.2.2.2.2.2.1.2.1 y.2.2.2.2.2.1.2.2.1 y.2.2.2.2.2.1.2.2.2.1 y.2.2.2.2.2.1.2.2.2.2.1 y.2.2.2.2.2.1.2.2.2.2.2.1 y.2.2.2.2.2.1.2.2.2.2.2.2.1 y.2.2.2.2.2.1.2.2.2.2.2.2.2, bX1 G q1 (o1 + 33) y.2.2.2.2.2.2.1.1 y.2.2.2.2.2.2.1.2.1 y.2.2.2.2.2.2.1.2.2.1 y.2.2.2.2.2.2.1.2.2.2, bX4 G q1 (o1 + 36) y.2.2.2.2.2.2.2.1.1 y.2.2.2.2.2.2.2.1.2, bX3 G q1 (o1 + 38) y.2.2.2.2.2.2.2.2.1.1 y.2.2.2.2.2.2.2.2.1.2.1 y.2.2.2.2.2.2.2.2.1.2.2.1 y.2.2.2.2.2.2.2.2.1.2.2.2, bX0 G q1 (o1 + 43) y.2.2.2.2.2.2.2.2.2.1.2.2.1 y.2.2.2.2.2.2.2.2.2.1.2.2.2, bX2 G q1 ((o1 + 43) + 3) y.2.2.2.2.2.2.2.2.2.1.1.1 y.2.2.2.2.2.2.2.2.2.1.1.2.1 y.2.2.2.2.2.2.2.2.2.1.1.2.2.1 y.2.2.2.2.2.2.2.2.2.1.1.2.2.2.1 y.2.2.2.2.2.2.2.2.2.1.1.2.2.2.2.1 y.2.2.2.2.2.2.2.2.2.1.1.2.2.2.2.2.1 y.2.2.2.2.2.2.2.2.2.1.1.2.2.2.2.2.2.1 y.2.2.2.2.2.2.2.2.2.1.1.2.2.2.2.2.2.2, bX4 G q1 ((o1 + 43) + 9) y.2.2.2.2.2.2.2.2.2.1.2.1.1 y.2.2.2.2.2.2.2.2.2.1.2.1.2, bX7 G q1 (o1 + 54) y.2.2.2.2.2.2.2.2.2.2.1 y.2.2.2.2.2.2.2.2.2.2.2.1 y.2.2.2.2.2.2.2.2.2.2.2.2, bA48 G q2 o2 P2]) A) args s 0 0 A) (F0 m 109 ls []) := by
  obtain ⟨hS0, hr, hlk, hK, hA, hT⟩ := id hZ
  have hx := hS0.1
  have hb := hS0.2.1
  have hml := hS0.2.2.1
  have hown : s.vm.findClass RL = some m.cls := hS0.2.2.2.1
  have hts := hS0.2.2.2.2
  induction n with
  | zero =>
    intro P1 P2 v3 v5 v6 H locs ls hf hw hl
    unfold f_L_friends_109 at hf
    cases hf
  | succ n ih =>
    intro P1 P2 v3 v5 v6 H locs ls hf hw hl
    unfold f_L_friends_109 at hf
    refine lv_iload hx hb dL_friends_109 (lv_at hl 4 rfl) ?_
    refine lv_iload_n hx hb dL_friends_111 rfl (lv_at hl 2 rfl) ?_
    refine lv_icmp_ge (tgt := 142) hx hb dL_friends_112 rfl (fun hc => ?_) (fun hc => ?_)
    · have hf := z_t hc hf
      refine lv_aload_n hx hb dL_friends_142 rfl (lv_at hl 0 rfl) ?_
      obtain ⟨r30, e31, hf⟩ := z_bd hf
      refine z_callV1 (As := []) (rest := []) (bs' := [bX10 G q1 o1, bX9 G q1 (o1 + 1) P1.1.1 P1.1.2.1 P1.1.2.2.1 P1.1.2.2.2.1 P1.1.2.2.2.2, bX6 G q1 (o1 + 3) P1.2.1.1 P1.2.1.2, bX8 G q1 (o1 + 12) P1.2.2.1.1 P1.2.2.1.2, bX5 G q1 (o1 + 19) P1.2.2.2.1.2.1 P1.2.2.2.1.2.2.1 P1.2.2.2.1.2.2.2.1 P1.2.2.2.1.2.2.2.2, bX2 G q1 ((o1 + 19) + 2) P1.2.2.2.1.1.1 P1.2.2.2.1.1.2.1 P1.2.2.2.1.1.2.2.1 P1.2.2.2.1.1.2.2.2.1 P1.2.2.2.1.1.2.2.2.2.1 P1.2.2.2.1.1.2.2.2.2.2.1 P1.2.2.2.1.1.2.2.2.2.2.2.1 P1.2.2.2.1.1.2.2.2.2.2.2.2, bX2 G q1 (o1 + 27) P1.2.2.2.2.1.1 P1.2.2.2.2.1.2.1 P1.2.2.2.2.1.2.2.1 P1.2.2.2.2.1.2.2.2.1 P1.2.2.2.2.1.2.2.2.2.1 P1.2.2.2.2.1.2.2.2.2.2.1 P1.2.2.2.2.1.2.2.2.2.2.2.1 P1.2.2.2.2.1.2.2.2.2.2.2.2, bX1 G q1 (o1 + 33) P1.2.2.2.2.2.1.1 P1.2.2.2.2.2.1.2.1 P1.2.2.2.2.2.1.2.2.1 P1.2.2.2.2.2.1.2.2.2, bX4 G q1 (o1 + 36) P1.2.2.2.2.2.2.1.1 P1.2.2.2.2.2.2.1.2, bX3 G q1 (o1 + 38) P1.2.2.2.2.2.2.2.1.1 P1.2.2.2.2.2.2.2.1.2.1 P1.2.2.2.2.2.2.2.1.2.2.1 P1.2.2.2.2.2.2.2.1.2.2.2, bX0 G q1 (o1 + 43) P1.2.2.2.2.2.2.2.2.1.2.2.1 P1.2.2.2.2.2.2.2.2.1.2.2.2, bX2 G q1 ((o1 + 43) + 3) P1.2.2.2.2.2.2.2.2.1.1.1 P1.2.2.2.2.2.2.2.2.1.1.2.1 P1.2.2.2.2.2.2.2.2.1.1.2.2.1 P1.2.2.2.2.2.2.2.2.1.1.2.2.2.1 P1.2.2.2.2.2.2.2.2.1.1.2.2.2.2.1 P1.2.2.2.2.2.2.2.2.1.1.2.2.2.2.2.1 P1.2.2.2.2.2.2.2.2.1.1.2.2.2.2.2.2.1 P1.2.2.2.2.2.2.2.2.1.1.2.2.2.2.2.2.2, bX4 G q1 ((o1 + 43) + 9) P1.2.2.2.2.2.2.2.2.1.2.1.1 P1.2.2.2.2.2.2.2.2.1.2.1.2, bX7 G q1 (o1 + 54) P1.2.2.2.2.2.2.2.2.2.1 P1.2.2.2.2.2.2.2.2.2.2.1 P1.2.2.2.2.2.2.2.2.2.2.2, bA48 G q2 o2 P2]) hS0 (c_X10_digest l G q1 o1 P1 r30 e31) zc_X10_digest rfl gL_friends_X10_digest ⟨Nat.le_of_ble_eq_true rfl, Nat.le_of_ble_eq_true rfl⟩ hK hA hT hw (is := [0, 1, 2, 3, 4, 5, 6, 7, 8, 9, 10, 11, 12, 13]) rfl rfl rfl rfl rfl rfl rfl hl.1 rfl (Nat.le_of_ble_eq_true rfl) dL_friends_143 (fun H locs hw => ?_)
      refine lv_lstore (lv' := [(6, .long r30), (0, .ref (q1 (o1 + 0))), (2, .ref (q2 (o2 + 0))), (3, .int v3), (5, .int v5)]) hx hb dL_friends_146 hl (by decide) rfl (fun ls hl => ?_)
      refine lv_aload_n hx hb dL_friends_148 rfl (lv_at hl 1 rfl) ?_
      obtain ⟨r32, e33, hf⟩ := z_bd hf
      refine z_callV1 (As := []) (rest := []) (bs' := [bX10 G q1 o1, bX9 G q1 (o1 + 1) r32.2.1.1 r32.2.1.2.1 r32.2.1.2.2.1 r32.2.1.2.2.2.1 r32.2.1.2.2.2.2, bX6 G q1 (o1 + 3) r32.2.2.1.1 r32.2.2.1.2, bX8 G q1 (o1 + 12) r32.2.2.2.1.1 r32.2.2.2.1.2, bX5 G q1 (o1 + 19) r32.2.2.2.2.1.2.1 r32.2.2.2.2.1.2.2.1 r32.2.2.2.2.1.2.2.2.1 r32.2.2.2.2.1.2.2.2.2, bX2 G q1 ((o1 + 19) + 2) r32.2.2.2.2.1.1.1 r32.2.2.2.2.1.1.2.1 r32.2.2.2.2.1.1.2.2.1 r32.2.2.2.2.1.1.2.2.2.1 r32.2.2.2.2.1.1.2.2.2.2.1 r32.2.2.2.2.1.1.2.2.2.2.2.1 r32.2.2.2.2.1.1.2.2.2.2.2.2.1 r32.2.2.2.2.1.1.2.2.2.2.2.2.2, bX2 G q1 (o1 + 27) r32.2.2.2.2.2.1.1 r32.2.2.2.2.2.1.2.1 r32.2.2.2.2.2.1.2.2.1 r32.2.2.2.2.2.1.2.2.2.1 r32.2.2.2.2.2.1.2.2.2.2.1 r32.2.2.2.2.2.1.2.2.2.2.2.1 r32.2.2.2.2.2.1.2.2.2.2.2.2.1 r32.2.2.2.2.2.1.2.2.2.2.2.2.2, bX1 G q1 (o1 + 33) r32.2.2.2.2.2.2.1.1 r32.2.2.2.2.2.2.1.2.1 r32.2.2.2.2.2.2.1.2.2.1 r32.2.2.2.2.2.2.1.2.2.2, bX4 G q1 (o1 + 36) r32.2.2.2.2.2.2.2.1.1 r32.2.2.2.2.2.2.2.1.2, bX3 G q1 (o1 + 38) r32.2.2.2.2.2.2.2.2.1.1 r32.2.2.2.2.2.2.2.2.1.2.1 r32.2.2.2.2.2.2.2.2.1.2.2.1 r32.2.2.2.2.2.2.2.2.1.2.2.2, bX0 G q1 (o1 + 43) r32.2.2.2.2.2.2.2.2.2.1.2.2.1 r32.2.2.2.2.2.2.2.2.2.1.2.2.2, bX2 G q1 ((o1 + 43) + 3) r32.2.2.2.2.2.2.2.2.2.1.1.1 r32.2.2.2.2.2.2.2.2.2.1.1.2.1 r32.2.2.2.2.2.2.2.2.2.1.1.2.2.1 r32.2.2.2.2.2.2.2.2.2.1.1.2.2.2.1 r32.2.2.2.2.2.2.2.2.2.1.1.2.2.2.2.1 r32.2.2.2.2.2.2.2.2.2.1.1.2.2.2.2.2.1 r32.2.2.2.2.2.2.2.2.2.1.1.2.2.2.2.2.2.1 r32.2.2.2.2.2.2.2.2.2.1.1.2.2.2.2.2.2.2, bX4 G q1 ((o1 + 43) + 9) r32.2.2.2.2.2.2.2.2.2.1.2.1.1 r32.2.2.2.2.2.2.2.2.2.1.2.1.2, bX7 G q1 (o1 + 54) r32.2.2.2.2.2.2.2.2.2.2.1 r32.2.2.2.2.2.2.2.2.2.2.2.1 r32.2.2.2.2.2.2.2.2.2.2.2.2, bA48 G q2 o2 P2]) hS0 (c_X10_trades l G q1 o1 P1 r32 e33) zc_X10_trades rfl gL_friends_X10_trades ⟨Nat.le_of_ble_eq_true rfl, Nat.le_of_ble_eq_true rfl⟩ hK hA hT hw (is := [0, 1, 2, 3, 4, 5, 6, 7, 8, 9, 10, 11, 12, 13]) rfl rfl rfl rfl rfl rfl rfl hl.1 rfl (Nat.le_of_ble_eq_true rfl) dL_friends_149 (fun H locs hw => ?_)
      refine lv_istore (lv' := [(8, .int r32.1), (6, .long r30), (0, .ref (q1 (o1 + 0))), (2, .ref (q2 (o2 + 0))), (3, .int v3), (5, .int v5)]) hx hb dL_friends_152 hl (by decide) rfl (fun ls hl => ?_)
      refine lv_iload hx hb dL_friends_154 (lv_at hl 0 rfl) ?_
      refine lv_if_lt (tgt := 200) hx hb dL_friends_156 rfl (fun hc => ?_) (fun hc => ?_)
      · have hf := z_t hc hf
        refine lv_iconst (v := 0) hx hb dL_friends_200 rfl ?_
        cases hf
        exact z_zret hx hb hr (z_nb (Or.inl rfl)) hlk hw dL_friends_201
      · have hf := z_f hc hf
        refine lv_iload hx hb dL_friends_159 (lv_at hl 0 rfl) ?_
        refine lv_bipush (v := 20) hx hb dL_friends_161 rfl ?_
        refine lv_icmp_gt (tgt := 200) hx hb dL_friends_163 rfl (fun hc => ?_) (fun hc => ?_)
        · have hf := z_t hc hf
          refine lv_iconst (v := 0) hx hb dL_friends_200 rfl ?_
          cases hf
          exact z_zret hx hb hr (z_nb (Or.inl rfl)) hlk hw dL_friends_201
        · have hf := z_f hc hf
          refine lv_iload hx hb dL_friends_166 (lv_at hl 0 rfl) ?_
          refine lv_if_ne (tgt := 181) hx hb dL_friends_168 rfl (fun hc => ?_) (fun hc => ?_)
          · have hf := z_f hc hf
            exact k_L_friends_181 hZ _ _ _ _ _ _ _ _ _ _ hf hw (lv_sub hl [2, 3, 4, 5, 1, 0] rfl)
          · have hf := z_t hc hf
            refine lv_aload_n hx hb dL_friends_171 rfl (lv_at hl 2 rfl) ?_
            obtain ⟨r34, e35, hf⟩ := z_bd hf
            refine z_callV1 (As := []) (rest := []) (bs' := [bX10 G q1 o1, bX9 G q1 (o1 + 1) r32.2.1.1 r32.2.1.2.1 r32.2.1.2.2.1 r32.2.1.2.2.2.1 r32.2.1.2.2.2.2, bX6 G q1 (o1 + 3) r32.2.2.1.1 r32.2.2.1.2, bX8 G q1 (o1 + 12) r32.2.2.2.1.1 r32.2.2.2.1.2, bX5 G q1 (o1 + 19) r32.2.2.2.2.1.2.1 r32.2.2.2.2.1.2.2.1 r32.2.2.2.2.1.2.2.2.1 r32.2.2.2.2.1.2.2.2.2, bX2 G q1 ((o1 + 19) + 2) r32.2.2.2.2.1.1.1 r32.2.2.2.2.1.1.2.1 r32.2.2.2.2.1.1.2.2.1 r32.2.2.2.2.1.1.2.2.2.1 r32.2.2.2.2.1.1.2.2.2.2.1 r32.2.2.2.2.1.1.2.2.2.2.2.1 r32.2.2.2.2.1.1.2.2.2.2.2.2.1 r32.2.2.2.2.1.1.2.2.2.2.2.2.2, bX2 G q1 (o1 + 27) r32.2.2.2.2.2.1.1 r32.2.2.2.2.2.1.2.1 r32.2.2.2.2.2.1.2.2.1 r32.2.2.2.2.2.1.2.2.2.1 r32.2.2.2.2.2.1.2.2.2.2.1 r32.2.2.2.2.2.1.2.2.2.2.2.1 r32.2.2.2.2.2.1.2.2.2.2.2.2.1 r32.2.2.2.2.2.1.2.2.2.2.2.2.2, bX1 G q1 (o1 + 33) r32.2.2.2.2.2.2.1.1 r32.2.2.2.2.2.2.1.2.1 r32.2.2.2.2.2.2.1.2.2.1 r32.2.2.2.2.2.2.1.2.2.2, bX4 G q1 (o1 + 36) r32.2.2.2.2.2.2.2.1.1 r32.2.2.2.2.2.2.2.1.2, bX3 G q1 (o1 + 38) r32.2.2.2.2.2.2.2.2.1.1 r32.2.2.2.2.2.2.2.2.1.2.1 r32.2.2.2.2.2.2.2.2.1.2.2.1 r32.2.2.2.2.2.2.2.2.1.2.2.2, bX0 G q1 (o1 + 43) r32.2.2.2.2.2.2.2.2.2.1.2.2.1 r32.2.2.2.2.2.2.2.2.2.1.2.2.2, bX2 G q1 ((o1 + 43) + 3) r32.2.2.2.2.2.2.2.2.2.1.1.1 r32.2.2.2.2.2.2.2.2.2.1.1.2.1 r32.2.2.2.2.2.2.2.2.2.1.1.2.2.1 r32.2.2.2.2.2.2.2.2.2.1.1.2.2.2.1 r32.2.2.2.2.2.2.2.2.2.1.1.2.2.2.2.1 r32.2.2.2.2.2.2.2.2.2.1.1.2.2.2.2.2.1 r32.2.2.2.2.2.2.2.2.2.1.1.2.2.2.2.2.2.1 r32.2.2.2.2.2.2.2.2.2.1.1.2.2.2.2.2.2.2, bX4 G q1 ((o1 + 43) + 9) r32.2.2.2.2.2.2.2.2.2.1.2.1.1 r32.2.2.2.2.2.2.2.2.2.1.2.1.2, bX7 G q1 (o1 + 54) r32.2.2.2.2.2.2.2.2.2.2.1 r32.2.2.2.2.2.2.2.2.2.2.2.1 r32.2.2.2.2.2.2.2.2.2.2.2.2, bA48 G q2 o2 P2]) hS0 (c_X10_digest l G q1 o1 r32.2 r34 e35) zc_X10_digest rfl gL_friends_X10_digest ⟨Nat.le_of_ble_eq_true rfl, Nat.le_of_ble_eq_true rfl⟩ hK hA hT hw (is := [0, 1, 2, 3, 4, 5, 6, 7, 8, 9, 10, 11, 12, 13]) rfl rfl rfl rfl rfl rfl rfl hl.1 rfl (Nat.le_of_ble_eq_true rfl) dL_friends_172 (fun H locs hw => ?_)
            refine lv_lload hx hb dL_friends_175 (lv_at hl 1 rfl) ?_
            refine W.lcmp hx hb dL_friends_177 ?_
            refine lv_if_ne (tgt := 200) hx hb dL_friends_178 rfl (fun hc => ?_) (fun hc => ?_)
            · have hf := z_f hc hf
              refine lv_iconst (v := 0) hx hb dL_friends_200 rfl ?_
              cases hf
              exact z_zret hx hb hr (z_nb (Or.inl rfl)) hlk hw dL_friends_201
            · have hf := z_t hc hf
              exact k_L_friends_181 hZ _ _ _ _ _ _ _ _ _ _ hf hw (lv_sub hl [2, 3, 4, 5, 1, 0] rfl)
    · have hf := z_f hc hf
      refine lv_aload_n hx hb dL_friends_115 rfl (lv_at hl 0 rfl) ?_
      refine lv_iconst (v := 4) hx hb dL_friends_116 rfl ?_
      refine lv_iload hx hb dL_friends_117 (lv_at hl 4 rfl) ?_
      refine lv_aload_n hx hb dL_friends_119 rfl (lv_at hl 1 rfl) ?_
      refine lv_iconst (v := 2) hx hb dL_friends_120 rfl ?_
      refine lv_iconst (v := 4) hx hb dL_friends_121 rfl ?_
      refine lv_iload hx hb dL_friends_122 (lv_at hl 4 rfl) ?_
      refine lv_imul hx hb dL_friends_124 ?_
      refine lv_iadd hx hb dL_friends_125 ?_
      obtain ⟨g36, hf⟩ := z_gd hf
      refine z_iald hS0 hK hw 14 0 (zIn_vp g36) rfl rfl dL_friends_126 ?_
      obtain ⟨r37, e38, hf⟩ := z_bd hf
      refine z_callV1 (As := [.int 4, .int v6, .int (P2 ((2 : Int32) + ((4 : Int32) * v6)).toNatClampNeg)]) (rest := []) (bs' := [bX10 G q1 o1, bX9 G q1 (o1 + 1) r37.2.1.1 r37.2.1.2.1 r37.2.1.2.2.1 r37.2.1.2.2.2.1 r37.2.1.2.2.2.2, bX6 G q1 (o1 + 3) r37.2.2.1.1 r37.2.2.1.2, bX8 G q1 (o1 + 12) r37.2.2.2.1.1 r37.2.2.2.1.2, bX5 G q1 (o1 + 19) r37.2.2.2.2.1.2.1 r37.2.2.2.2.1.2.2.1 r37.2.2.2.2.1.2.2.2.1 r37.2.2.2.2.1.2.2.2.2, bX2 G q1 ((o1 + 19) + 2) r37.2.2.2.2.1.1.1 r37.2.2.2.2.1.1.2.1 r37.2.2.2.2.1.1.2.2.1 r37.2.2.2.2.1.1.2.2.2.1 r37.2.2.2.2.1.1.2.2.2.2.1 r37.2.2.2.2.1.1.2.2.2.2.2.1 r37.2.2.2.2.1.1.2.2.2.2.2.2.1 r37.2.2.2.2.1.1.2.2.2.2.2.2.2, bX2 G q1 (o1 + 27) r37.2.2.2.2.2.1.1 r37.2.2.2.2.2.1.2.1 r37.2.2.2.2.2.1.2.2.1 r37.2.2.2.2.2.1.2.2.2.1 r37.2.2.2.2.2.1.2.2.2.2.1 r37.2.2.2.2.2.1.2.2.2.2.2.1 r37.2.2.2.2.2.1.2.2.2.2.2.2.1 r37.2.2.2.2.2.1.2.2.2.2.2.2.2, bX1 G q1 (o1 + 33) r37.2.2.2.2.2.2.1.1 r37.2.2.2.2.2.2.1.2.1 r37.2.2.2.2.2.2.1.2.2.1 r37.2.2.2.2.2.2.1.2.2.2, bX4 G q1 (o1 + 36) r37.2.2.2.2.2.2.2.1.1 r37.2.2.2.2.2.2.2.1.2, bX3 G q1 (o1 + 38) r37.2.2.2.2.2.2.2.2.1.1 r37.2.2.2.2.2.2.2.2.1.2.1 r37.2.2.2.2.2.2.2.2.1.2.2.1 r37.2.2.2.2.2.2.2.2.1.2.2.2, bX0 G q1 (o1 + 43) r37.2.2.2.2.2.2.2.2.2.1.2.2.1 r37.2.2.2.2.2.2.2.2.2.1.2.2.2, bX2 G q1 ((o1 + 43) + 3) r37.2.2.2.2.2.2.2.2.2.1.1.1 r37.2.2.2.2.2.2.2.2.2.1.1.2.1 r37.2.2.2.2.2.2.2.2.2.1.1.2.2.1 r37.2.2.2.2.2.2.2.2.2.1.1.2.2.2.1 r37.2.2.2.2.2.2.2.2.2.1.1.2.2.2.2.1 r37.2.2.2.2.2.2.2.2.2.1.1.2.2.2.2.2.1 r37.2.2.2.2.2.2.2.2.2.1.1.2.2.2.2.2.2.1 r37.2.2.2.2.2.2.2.2.2.1.1.2.2.2.2.2.2.2, bX4 G q1 ((o1 + 43) + 9) r37.2.2.2.2.2.2.2.2.2.1.2.1.1 r37.2.2.2.2.2.2.2.2.2.1.2.1.2, bX7 G q1 (o1 + 54) r37.2.2.2.2.2.2.2.2.2.2.1 r37.2.2.2.2.2.2.2.2.2.2.2.1 r37.2.2.2.2.2.2.2.2.2.2.2.2, bA48 G q2 o2 P2]) hS0 (c_X10_lay l G q1 o1 P1 4 v6 (P2 ((2 : Int32) + ((4 : Int32) * v6)).toNatClampNeg) r37 e38) zc_X10_lay rfl gL_friends_X10_lay ⟨Nat.le_of_ble_eq_true rfl, Nat.le_of_ble_eq_true rfl⟩ hK hA hT hw (is := [0, 1, 2, 3, 4, 5, 6, 7, 8, 9, 10, 11, 12, 13]) rfl rfl rfl rfl rfl rfl rfl hl.1 rfl (Nat.le_of_ble_eq_true rfl) dL_friends_127 (fun H locs hw => ?_)
      refine lv_iconst (v := 1) hx hb dL_friends_130 rfl ?_
      refine lv_icmp_eq (tgt := 136) hx hb dL_friends_131 rfl (fun hc => ?_) (fun hc => ?_)
      · have hf := z_t hc hf
        refine lv_iinc (v := (v6 + 1)) (lv' := [(6, .int (v6 + 1)), (0, .ref (q1 (o1 + 0))), (2, .ref (q2 (o2 + 0))), (3, .int v3), (5, .int v5)]) hx hb dL_friends_136 hl (k := 4) rfl rfl (by decide) rfl (fun ls hl => ?_)
        refine lv_goto (tgt := 109) hx hb dL_friends_139 rfl ?_
        exact ih _ _ _ _ _ _ _ _ hf hw (lv_sub hl [1, 2, 3, 4, 0] rfl)
      · have hf := z_f hc hf
        refine lv_iconst (v := 0) hx hb dL_friends_134 rfl ?_
        cases hf
        exact z_zret hx hb hr (z_nb (Or.inl rfl)) hlk hw dL_friends_135
set_option maxHeartbeats 4000000 in
set_option maxRecDepth 100000 in
theorem k_L_friends_3 {p : Program} {l : Launch} {e : Env} {s : State} {m : MethodId} {args : Array Value} {below : List Frame} {meth : Method} {c : Code} {A : Nat → Prop} {G : zG} {q1 : Nat → Nat} {o1 : Nat} {q2 : Nat → Nat} {o2 : Nat}  (hZ : zZ p s m args meth c A G cL_friends 13 RL wsL_friends (some .boolean)) (y : Int32 × VX10)  (n : Nat) : ∀ (P1 : VX10) (P2 : VA48) (v3 : Int32) (v4 : Int32) (v5 : Int32) (H : Heap) (locs : List Loc) (ls : Array Slot), f_L_friends_3 (zX G) n P1 P2 v3 v4 v5 = some y → zH G A s.heap [bX10 G q1 o1, bX9 G q1 (o1 + 1) P1.1.1 P1.1.2.1 P1.1.2.2.1 P1.1.2.2.2.1 P1.1.2.2.2.2, bX6 G q1 (o1 + 3) P1.2.1.1 P1.2.1.2, bX8 G q1 (o1 + 12) P1.2.2.1.1 P1.2.2.1.2, bX5 G q1 (o1 + 19) P1.2.2.2.1.2.1 P1.2.2.2.1.2.2.1 P1.2.2.2.1.2.2.2.1 P1.2.2.2.1.2.2.2.2, bX2 G q1 ((o1 + 19) + 2) P1.2.2.2.1.1.1 P1.2.2.2.1.1.2.1 P1.2.2.2.1.1.2.2.1 P1.2.2.2.1.1.2.2.2.1 P1.2.2.2.1.1.2.2.2.2.1 P1.2.2.2.1.1.2.2.2.2.2.1 P1.2.2.2.1.1.2.2.2.2.2.2.1 P1.2.2.2.1.1.2.2.2.2.2.2.2, bX2 G q1 (o1 + 27) P1.2.2.2.2.1.1 P1.2.2.2.2.1.2.1 P1.2.2.2.2.1.2.2.1 P1.2.2.2.2.1.2.2.2.1 P1.2.2.2.2.1.2.2.2.2.1 P1.2.2.2.2.1.2.2.2.2.2.1 P1.2.2.2.2.1.2.2.2.2.2.2.1 P1.2.2.2.2.1.2.2.2.2.2.2.2, bX1 G q1 (o1 + 33) P1.2.2.2.2.2.1.1 P1.2.2.2.2.2.1.2.1 P1.2.2.2.2.2.1.2.2.1 P1.2.2.2.2.2.1.2.2.2, bX4 G q1 (o1 + 36) P1.2.2.2.2.2.2.1.1 P1.2.2.2.2.2.2.1.2, bX3 G q1 (o1 + 38) P1.2.2.2.2.2.2.2.1.1 P1.2.2.2.2.2.2.2.1.2.1 P1.2.2.2.2.2.2.2.1.2.2.1 P1.2.2.2.2.2.2.2.1.2.2.2, bX0 G q1 (o1 + 43) P1.2.2.2.2.2.2.2.2.1.2.2.1 P1.2.2.2.2.2.2.2.2.1.2.2.2, bX2 G q1 ((o1 + 43) + 3) P1.2.2.2.2.2.2.2.2.1.1.1 P1.2.2.2.2.2.2.2.2.1.1.2.1 P1.2.2.2.2.2.2.2.2.1.1.2.2.1 P1.2.2.2.2.2.2.2.2.1.1.2.2.2.1 P1.2.2.2.2.2.2.2.2.1.1.2.2.2.2.1 P1.2.2.2.2.2.2.2.2.1.1.2.2.2.2.2.1 P1.2.2.2.2.2.2.2.2.1.1.2.2.2.2.2.2.1 P1.2.2.2.2.2.2.2.2.1.1.2.2.2.2.2.2.2, bX4 G q1 ((o1 + 43) + 9) P1.2.2.2.2.2.2.2.2.1.2.1.1 P1.2.2.2.2.2.2.2.2.1.2.1.2, bX7 G q1 (o1 + 54) P1.2.2.2.2.2.2.2.2.2.1 P1.2.2.2.2.2.2.2.2.2.2.1 P1.2.2.2.2.2.2.2.2.2.2.2, bA48 G q2 o2 P2] H locs → lv_has ls 13 [(0, .ref (q1 (o1 + 0))), (2, .ref (q2 (o2 + 0))), (3, .int v3), (4, .int v4), (5, .int v5)] → W p l e { frames := 7, cells := 0, slots := 0, locals := 176 } s m args below meth c H locs 0 0 (MQ below (zQ (some (.int y.1)) (zPost G [bX10 G q1 o1, bX9 G q1 (o1 + 1) y.2.1.1 y.2.1.2.1 y.2.1.2.2.1 y.2.1.2.2.2.1 y.2.1.2.2.2.2, bX6 G q1 (o1 + 3) y.2.2.1.1 y.2.2.1.2, bX8 G q1 (o1 + 12) y.2.2.2.1.1 y.2.2.2.1.2, bX5 G q1 (o1 + 19) y.2.2.2.2.1.2.1 y.2.2.2.2.1.2.2.1 y.2.2.2.2.1.2.2.2.1 y.2.2.2.2.1.2.2.2.2, bX2 G q1 ((o1 + 19) + 2) y.2.2.2.2.1.1.1 y.2.2.2.2.1.1.2.1 y.2.2.2.2.1.1.2.2.1 y.2.2.2.2.1.1.2.2.2.1 y.2.2.2.2.1.1.2.2.2.2.1 y.2.2.2.2.1.1.2.2.2.2.2.1 y.2.2.2.2.1.1.2.2.2.2.2.2.1 y.2.2.2.2.1.1.2.2.2.2.2.2.2, bX2 G q1 (o1 + 27) y.2.2.2.2.2.1.1 y.2.2.2.2.2.1.2.1 y.2.2.2.2.2.1.2.2.1 y.2.2.2.2.2.1.2.2.2.1 y.2.2.2.2.2.1.2.2.2.2.1 y.2.2.2.2.2.1.2.2.2.2.2.1 y.2.2.2.2.2.1.2.2.2.2.2.2.1 y.2.2.2.2.2.1.2.2.2.2.2.2.2, bX1 G q1 (o1 + 33) y.2.2.2.2.2.2.1.1 y.2.2.2.2.2.2.1.2.1 y.2.2.2.2.2.2.1.2.2.1 y.2.2.2.2.2.2.1.2.2.2, bX4 G q1 (o1 + 36) y.2.2.2.2.2.2.2.1.1 y.2.2.2.2.2.2.2.1.2, bX3 G q1 (o1 + 38) y.2.2.2.2.2.2.2.2.1.1 y.2.2.2.2.2.2.2.2.1.2.1 y.2.2.2.2.2.2.2.2.1.2.2.1 y.2.2.2.2.2.2.2.2.1.2.2.2, bX0 G q1 (o1 + 43) y.2.2.2.2.2.2.2.2.2.1.2.2.1 y.2.2.2.2.2.2.2.2.2.1.2.2.2, bX2 G q1 ((o1 + 43) + 3) y.2.2.2.2.2.2.2.2.2.1.1.1 y.2.2.2.2.2.2.2.2.2.1.1.2.1 y.2.2.2.2.2.2.2.2.2.1.1.2.2.1 y.2.2.2.2.2.2.2.2.2.1.1.2.2.2.1 y.2.2.2.2.2.2.2.2.2.1.1.2.2.2.2.1 y.2.2.2.2.2.2.2.2.2.1.1.2.2.2.2.2.1 y.2.2.2.2.2.2.2.2.2.1.1.2.2.2.2.2.2.1 y.2.2.2.2.2.2.2.2.2.1.1.2.2.2.2.2.2.2, bX4 G q1 ((o1 + 43) + 9) y.2.2.2.2.2.2.2.2.2.1.2.1.1 y.2.2.2.2.2.2.2.2.2.1.2.1.2, bX7 G q1 (o1 + 54) y.2.2.2.2.2.2.2.2.2.2.1 y.2.2.2.2.2.2.2.2.2.2.2.1 y.2.2.2.2.2.2.2.2.2.2.2.2, bA48 G q2 o2 P2]) A) args s 0 0 A) (F0 m 3 ls []) := by
  obtain ⟨hS0, hr, hlk, hK, hA, hT⟩ := id hZ
  have hx := hS0.1
  have hb := hS0.2.1
  have hml := hS0.2.2.1
  have hown : s.vm.findClass RL = some m.cls := hS0.2.2.2.1
  have hts := hS0.2.2.2.2
  induction n with
  | zero =>
    intro P1 P2 v3 v4 v5 H locs ls hf hw hl
    unfold f_L_friends_3 at hf
    cases hf
  | succ n ih =>
    intro P1 P2 v3 v4 v5 H locs ls hf hw hl
    unfold f_L_friends_3 at hf
    refine lv_iload hx hb dL_friends_3 (lv_at hl 4 rfl) ?_
    refine lv_iload_n hx hb dL_friends_5 rfl (lv_at hl 2 rfl) ?_
    refine lv_icmp_ge (tgt := 69) hx hb dL_friends_6 rfl (fun hc => ?_) (fun hc => ?_)
    · have hf := z_t hc hf
      refine lv_aload_n hx hb dL_friends_69 rfl (lv_at hl 0 rfl) ?_
      refine lv_iconst (v := 4) hx hb dL_friends_70 rfl ?_
      obtain ⟨r39, e40, hf⟩ := z_bd hf
      refine z_callV1 (As := [.int 4]) (rest := []) (bs' := [bX10 G q1 o1, bX9 G q1 (o1 + 1) P1.1.1 P1.1.2.1 P1.1.2.2.1 P1.1.2.2.2.1 P1.1.2.2.2.2, bX6 G q1 (o1 + 3) P1.2.1.1 P1.2.1.2, bX8 G q1 (o1 + 12) P1.2.2.1.1 P1.2.2.1.2, bX5 G q1 (o1 + 19) P1.2.2.2.1.2.1 P1.2.2.2.1.2.2.1 P1.2.2.2.1.2.2.2.1 P1.2.2.2.1.2.2.2.2, bX2 G q1 ((o1 + 19) + 2) P1.2.2.2.1.1.1 P1.2.2.2.1.1.2.1 P1.2.2.2.1.1.2.2.1 P1.2.2.2.1.1.2.2.2.1 P1.2.2.2.1.1.2.2.2.2.1 P1.2.2.2.1.1.2.2.2.2.2.1 P1.2.2.2.1.1.2.2.2.2.2.2.1 P1.2.2.2.1.1.2.2.2.2.2.2.2, bX2 G q1 (o1 + 27) P1.2.2.2.2.1.1 P1.2.2.2.2.1.2.1 P1.2.2.2.2.1.2.2.1 P1.2.2.2.2.1.2.2.2.1 P1.2.2.2.2.1.2.2.2.2.1 P1.2.2.2.2.1.2.2.2.2.2.1 P1.2.2.2.2.1.2.2.2.2.2.2.1 P1.2.2.2.2.1.2.2.2.2.2.2.2, bX1 G q1 (o1 + 33) P1.2.2.2.2.2.1.1 P1.2.2.2.2.2.1.2.1 P1.2.2.2.2.2.1.2.2.1 P1.2.2.2.2.2.1.2.2.2, bX4 G q1 (o1 + 36) P1.2.2.2.2.2.2.1.1 P1.2.2.2.2.2.2.1.2, bX3 G q1 (o1 + 38) P1.2.2.2.2.2.2.2.1.1 P1.2.2.2.2.2.2.2.1.2.1 P1.2.2.2.2.2.2.2.1.2.2.1 P1.2.2.2.2.2.2.2.1.2.2.2, bX0 G q1 (o1 + 43) P1.2.2.2.2.2.2.2.2.1.2.2.1 P1.2.2.2.2.2.2.2.2.1.2.2.2, bX2 G q1 ((o1 + 43) + 3) P1.2.2.2.2.2.2.2.2.1.1.1 P1.2.2.2.2.2.2.2.2.1.1.2.1 P1.2.2.2.2.2.2.2.2.1.1.2.2.1 P1.2.2.2.2.2.2.2.2.1.1.2.2.2.1 P1.2.2.2.2.2.2.2.2.1.1.2.2.2.2.1 P1.2.2.2.2.2.2.2.2.1.1.2.2.2.2.2.1 P1.2.2.2.2.2.2.2.2.1.1.2.2.2.2.2.2.1 P1.2.2.2.2.2.2.2.2.1.1.2.2.2.2.2.2.2, bX4 G q1 ((o1 + 43) + 9) P1.2.2.2.2.2.2.2.2.1.2.1.1 P1.2.2.2.2.2.2.2.2.1.2.1.2, bX7 G q1 (o1 + 54) P1.2.2.2.2.2.2.2.2.2.1 P1.2.2.2.2.2.2.2.2.2.2.1 P1.2.2.2.2.2.2.2.2.2.2.2, bA48 G q2 o2 P2]) hS0 (c_X10_count l G q1 o1 P1 4 r39 e40) zc_X10_count rfl gL_friends_X10_count ⟨Nat.le_of_ble_eq_true rfl, Nat.le_of_ble_eq_true rfl⟩ hK hA hT hw (is := [0, 1, 2, 3, 4, 5, 6, 7, 8, 9, 10, 11, 12, 13]) rfl rfl rfl rfl rfl rfl rfl hl.1 rfl (Nat.le_of_ble_eq_true rfl) dL_friends_71 (fun H locs hw => ?_)
      refine lv_if_ne (tgt := 86) hx hb dL_friends_74 rfl (fun hc => ?_) (fun hc => ?_)
      · have hf := z_f hc hf
        refine lv_iconst (v := 0) hx hb dL_friends_86 rfl ?_
        cases hf
        exact z_zret hx hb hr (z_nb (Or.inl rfl)) hlk hw dL_friends_87
      · have hf := z_t hc hf
        refine lv_aload_n hx hb dL_friends_77 rfl (lv_at hl 0 rfl) ?_
        obtain ⟨r41, e42, hf⟩ := z_bd hf
        refine z_callV1 (As := []) (rest := []) (bs' := [bX10 G q1 o1, bX9 G q1 (o1 + 1) r41.2.1.1 r41.2.1.2.1 r41.2.1.2.2.1 r41.2.1.2.2.2.1 r41.2.1.2.2.2.2, bX6 G q1 (o1 + 3) r41.2.2.1.1 r41.2.2.1.2, bX8 G q1 (o1 + 12) r41.2.2.2.1.1 r41.2.2.2.1.2, bX5 G q1 (o1 + 19) r41.2.2.2.2.1.2.1 r41.2.2.2.2.1.2.2.1 r41.2.2.2.2.1.2.2.2.1 r41.2.2.2.2.1.2.2.2.2, bX2 G q1 ((o1 + 19) + 2) r41.2.2.2.2.1.1.1 r41.2.2.2.2.1.1.2.1 r41.2.2.2.2.1.1.2.2.1 r41.2.2.2.2.1.1.2.2.2.1 r41.2.2.2.2.1.1.2.2.2.2.1 r41.2.2.2.2.1.1.2.2.2.2.2.1 r41.2.2.2.2.1.1.2.2.2.2.2.2.1 r41.2.2.2.2.1.1.2.2.2.2.2.2.2, bX2 G q1 (o1 + 27) r41.2.2.2.2.2.1.1 r41.2.2.2.2.2.1.2.1 r41.2.2.2.2.2.1.2.2.1 r41.2.2.2.2.2.1.2.2.2.1 r41.2.2.2.2.2.1.2.2.2.2.1 r41.2.2.2.2.2.1.2.2.2.2.2.1 r41.2.2.2.2.2.1.2.2.2.2.2.2.1 r41.2.2.2.2.2.1.2.2.2.2.2.2.2, bX1 G q1 (o1 + 33) r41.2.2.2.2.2.2.1.1 r41.2.2.2.2.2.2.1.2.1 r41.2.2.2.2.2.2.1.2.2.1 r41.2.2.2.2.2.2.1.2.2.2, bX4 G q1 (o1 + 36) r41.2.2.2.2.2.2.2.1.1 r41.2.2.2.2.2.2.2.1.2, bX3 G q1 (o1 + 38) r41.2.2.2.2.2.2.2.2.1.1 r41.2.2.2.2.2.2.2.2.1.2.1 r41.2.2.2.2.2.2.2.2.1.2.2.1 r41.2.2.2.2.2.2.2.2.1.2.2.2, bX0 G q1 (o1 + 43) r41.2.2.2.2.2.2.2.2.2.1.2.2.1 r41.2.2.2.2.2.2.2.2.2.1.2.2.2, bX2 G q1 ((o1 + 43) + 3) r41.2.2.2.2.2.2.2.2.2.1.1.1 r41.2.2.2.2.2.2.2.2.2.1.1.2.1 r41.2.2.2.2.2.2.2.2.2.1.1.2.2.1 r41.2.2.2.2.2.2.2.2.2.1.1.2.2.2.1 r41.2.2.2.2.2.2.2.2.2.1.1.2.2.2.2.1 r41.2.2.2.2.2.2.2.2.2.1.1.2.2.2.2.2.1 r41.2.2.2.2.2.2.2.2.2.1.1.2.2.2.2.2.2.1 r41.2.2.2.2.2.2.2.2.2.1.1.2.2.2.2.2.2.2, bX4 G q1 ((o1 + 43) + 9) r41.2.2.2.2.2.2.2.2.2.1.2.1.1 r41.2.2.2.2.2.2.2.2.2.1.2.1.2, bX7 G q1 (o1 + 54) r41.2.2.2.2.2.2.2.2.2.2.1 r41.2.2.2.2.2.2.2.2.2.2.2.1 r41.2.2.2.2.2.2.2.2.2.2.2.2, bA48 G q2 o2 P2]) hS0 (c_X10_reached l G q1 o1 P1 r41 e42) zc_X10_reached rfl gL_friends_X10_reached ⟨Nat.le_of_ble_eq_true rfl, Nat.le_of_ble_eq_true rfl⟩ hK hA hT hw (is := [0, 1, 2, 3, 4, 5, 6, 7, 8, 9, 10, 11, 12, 13]) rfl rfl rfl rfl rfl rfl rfl hl.1 rfl (Nat.le_of_ble_eq_true rfl) dL_friends_78 (fun H locs hw => ?_)
        refine lv_iload hx hb dL_friends_81 (lv_at hl 3 rfl) ?_
        refine lv_icmp_ge (tgt := 88) hx hb dL_friends_83 rfl (fun hc => ?_) (fun hc => ?_)
        · have hf := z_t hc hf
          refine lv_aload_n hx hb dL_friends_88 rfl (lv_at hl 0 rfl) ?_
          obtain ⟨r43, e44, hf⟩ := z_bd hf
          refine z_callV1 (As := []) (rest := []) (bs' := [bX10 G q1 o1, bX9 G q1 (o1 + 1) r43.2.1.1 r43.2.1.2.1 r43.2.1.2.2.1 r43.2.1.2.2.2.1 r43.2.1.2.2.2.2, bX6 G q1 (o1 + 3) r43.2.2.1.1 r43.2.2.1.2, bX8 G q1 (o1 + 12) r43.2.2.2.1.1 r43.2.2.2.1.2, bX5 G q1 (o1 + 19) r43.2.2.2.2.1.2.1 r43.2.2.2.2.1.2.2.1 r43.2.2.2.2.1.2.2.2.1 r43.2.2.2.2.1.2.2.2.2, bX2 G q1 ((o1 + 19) + 2) r43.2.2.2.2.1.1.1 r43.2.2.2.2.1.1.2.1 r43.2.2.2.2.1.1.2.2.1 r43.2.2.2.2.1.1.2.2.2.1 r43.2.2.2.2.1.1.2.2.2.2.1 r43.2.2.2.2.1.1.2.2.2.2.2.1 r43.2.2.2.2.1.1.2.2.2.2.2.2.1 r43.2.2.2.2.1.1.2.2.2.2.2.2.2, bX2 G q1 (o1 + 27) r43.2.2.2.2.2.1.1 r43.2.2.2.2.2.1.2.1 r43.2.2.2.2.2.1.2.2.1 r43.2.2.2.2.2.1.2.2.2.1 r43.2.2.2.2.2.1.2.2.2.2.1 r43.2.2.2.2.2.1.2.2.2.2.2.1 r43.2.2.2.2.2.1.2.2.2.2.2.2.1 r43.2.2.2.2.2.1.2.2.2.2.2.2.2, bX1 G q1 (o1 + 33) r43.2.2.2.2.2.2.1.1 r43.2.2.2.2.2.2.1.2.1 r43.2.2.2.2.2.2.1.2.2.1 r43.2.2.2.2.2.2.1.2.2.2, bX4 G q1 (o1 + 36) r43.2.2.2.2.2.2.2.1.1 r43.2.2.2.2.2.2.2.1.2, bX3 G q1 (o1 + 38) r43.2.2.2.2.2.2.2.2.1.1 r43.2.2.2.2.2.2.2.2.1.2.1 r43.2.2.2.2.2.2.2.2.1.2.2.1 r43.2.2.2.2.2.2.2.2.1.2.2.2, bX0 G q1 (o1 + 43) r43.2.2.2.2.2.2.2.2.2.1.2.2.1 r43.2.2.2.2.2.2.2.2.2.1.2.2.2, bX2 G q1 ((o1 + 43) + 3) r43.2.2.2.2.2.2.2.2.2.1.1.1 r43.2.2.2.2.2.2.2.2.2.1.1.2.1 r43.2.2.2.2.2.2.2.2.2.1.1.2.2.1 r43.2.2.2.2.2.2.2.2.2.1.1.2.2.2.1 r43.2.2.2.2.2.2.2.2.2.1.1.2.2.2.2.1 r43.2.2.2.2.2.2.2.2.2.1.1.2.2.2.2.2.1 r43.2.2.2.2.2.2.2.2.2.1.1.2.2.2.2.2.2.1 r43.2.2.2.2.2.2.2.2.2.1.1.2.2.2.2.2.2.2, bX4 G q1 ((o1 + 43) + 9) r43.2.2.2.2.2.2.2.2.2.1.2.1.1 r43.2.2.2.2.2.2.2.2.2.1.2.1.2, bX7 G q1 (o1 + 54) r43.2.2.2.2.2.2.2.2.2.2.1 r43.2.2.2.2.2.2.2.2.2.2.2.1 r43.2.2.2.2.2.2.2.2.2.2.2.2, bA48 G q2 o2 P2]) hS0 (c_X10_reached l G q1 o1 r41.2 r43 e44) zc_X10_reached rfl gL_friends_X10_reached ⟨Nat.le_of_ble_eq_true rfl, Nat.le_of_ble_eq_true rfl⟩ hK hA hT hw (is := [0, 1, 2, 3, 4, 5, 6, 7, 8, 9, 10, 11, 12, 13]) rfl rfl rfl rfl rfl rfl rfl hl.1 rfl (Nat.le_of_ble_eq_true rfl) dL_friends_89 (fun H locs hw => ?_)
          refine lv_istore (lv' := [(5, .int r43.1), (0, .ref (q1 (o1 + 0))), (2, .ref (q2 (o2 + 0))), (3, .int v3), (4, .int v4)]) hx hb dL_friends_92 hl (by decide) rfl (fun ls hl => ?_)
          refine lv_aload_n hx hb dL_friends_94 rfl (lv_at hl 1 rfl) ?_
          refine lv_iconst (v := 4) hx hb dL_friends_95 rfl ?_
          refine lv_iload_n hx hb dL_friends_96 rfl (lv_at hl 3 rfl) ?_
          obtain ⟨r45, e46, hf⟩ := z_bd hf
          refine z_callV1 (As := [.int 4, .int v3]) (rest := []) (bs' := [bX10 G q1 o1, bX9 G q1 (o1 + 1) r45.2.1.1 r45.2.1.2.1 r45.2.1.2.2.1 r45.2.1.2.2.2.1 r45.2.1.2.2.2.2, bX6 G q1 (o1 + 3) r45.2.2.1.1 r45.2.2.1.2, bX8 G q1 (o1 + 12) r45.2.2.2.1.1 r45.2.2.2.1.2, bX5 G q1 (o1 + 19) r45.2.2.2.2.1.2.1 r45.2.2.2.2.1.2.2.1 r45.2.2.2.2.1.2.2.2.1 r45.2.2.2.2.1.2.2.2.2, bX2 G q1 ((o1 + 19) + 2) r45.2.2.2.2.1.1.1 r45.2.2.2.2.1.1.2.1 r45.2.2.2.2.1.1.2.2.1 r45.2.2.2.2.1.1.2.2.2.1 r45.2.2.2.2.1.1.2.2.2.2.1 r45.2.2.2.2.1.1.2.2.2.2.2.1 r45.2.2.2.2.1.1.2.2.2.2.2.2.1 r45.2.2.2.2.1.1.2.2.2.2.2.2.2, bX2 G q1 (o1 + 27) r45.2.2.2.2.2.1.1 r45.2.2.2.2.2.1.2.1 r45.2.2.2.2.2.1.2.2.1 r45.2.2.2.2.2.1.2.2.2.1 r45.2.2.2.2.2.1.2.2.2.2.1 r45.2.2.2.2.2.1.2.2.2.2.2.1 r45.2.2.2.2.2.1.2.2.2.2.2.2.1 r45.2.2.2.2.2.1.2.2.2.2.2.2.2, bX1 G q1 (o1 + 33) r45.2.2.2.2.2.2.1.1 r45.2.2.2.2.2.2.1.2.1 r45.2.2.2.2.2.2.1.2.2.1 r45.2.2.2.2.2.2.1.2.2.2, bX4 G q1 (o1 + 36) r45.2.2.2.2.2.2.2.1.1 r45.2.2.2.2.2.2.2.1.2, bX3 G q1 (o1 + 38) r45.2.2.2.2.2.2.2.2.1.1 r45.2.2.2.2.2.2.2.2.1.2.1 r45.2.2.2.2.2.2.2.2.1.2.2.1 r45.2.2.2.2.2.2.2.2.1.2.2.2, bX0 G q1 (o1 + 43) r45.2.2.2.2.2.2.2.2.2.1.2.2.1 r45.2.2.2.2.2.2.2.2.2.1.2.2.2, bX2 G q1 ((o1 + 43) + 3) r45.2.2.2.2.2.2.2.2.2.1.1.1 r45.2.2.2.2.2.2.2.2.2.1.1.2.1 r45.2.2.2.2.2.2.2.2.2.1.1.2.2.1 r45.2.2.2.2.2.2.2.2.2.1.1.2.2.2.1 r45.2.2.2.2.2.2.2.2.2.1.1.2.2.2.2.1 r45.2.2.2.2.2.2.2.2.2.1.1.2.2.2.2.2.1 r45.2.2.2.2.2.2.2.2.2.1.1.2.2.2.2.2.2.1 r45.2.2.2.2.2.2.2.2.2.1.1.2.2.2.2.2.2.2, bX4 G q1 ((o1 + 43) + 9) r45.2.2.2.2.2.2.2.2.2.1.2.1.1 r45.2.2.2.2.2.2.2.2.2.1.2.1.2, bX7 G q1 (o1 + 54) r45.2.2.2.2.2.2.2.2.2.2.1 r45.2.2.2.2.2.2.2.2.2.2.2.1 r45.2.2.2.2.2.2.2.2.2.2.2.2, bA48 G q2 o2 P2]) hS0 (c_X10_row l G q1 o1 r43.2 4 v3 r45 e46) zc_X10_row rfl gL_friends_X10_row ⟨Nat.le_of_ble_eq_true rfl, Nat.le_of_ble_eq_true rfl⟩ hK hA hT hw (is := [0, 1, 2, 3, 4, 5, 6, 7, 8, 9, 10, 11, 12, 13]) rfl rfl rfl rfl rfl rfl rfl hl.1 rfl (Nat.le_of_ble_eq_true rfl) dL_friends_97 (fun H locs hw => ?_)
          refine lv_iload_n hx hb dL_friends_100 rfl (lv_at hl 3 rfl) ?_
          refine lv_icmp_eq (tgt := 106) hx hb dL_friends_101 rfl (fun hc => ?_) (fun hc => ?_)
          · have hf := z_t hc hf
            refine lv_iconst (v := 0) hx hb dL_friends_106 rfl ?_
            refine lv_istore (lv' := [(6, .int 0), (5, .int r43.1), (0, .ref (q1 (o1 + 0))), (2, .ref (q2 (o2 + 0))), (3, .int v3), (4, .int v4)]) hx hb dL_friends_107 hl (by decide) rfl (fun ls hl => ?_)
            exact k_L_friends_109 hZ _ 4096 _ _ _ _ _ _ _ _ hf hw (lv_sub hl [2, 3, 4, 1, 0] rfl)
          · have hf := z_f hc hf
            refine lv_iconst (v := 0) hx hb dL_friends_104 rfl ?_
            cases hf
            exact z_zret hx hb hr (z_nb (Or.inl rfl)) hlk hw dL_friends_105
        · have hf := z_f hc hf
          refine lv_iconst (v := 0) hx hb dL_friends_86 rfl ?_
          cases hf
          exact z_zret hx hb hr (z_nb (Or.inl rfl)) hlk hw dL_friends_87
    · have hf := z_f hc hf
      refine lv_iconst (v := 0) hx hb dL_friends_9 rfl ?_
      refine lv_istore (lv' := [(6, .int 0), (0, .ref (q1 (o1 + 0))), (2, .ref (q2 (o2 + 0))), (3, .int v3), (4, .int v4), (5, .int v5)]) hx hb dL_friends_10 hl (by decide) rfl (fun ls hl => ?_)
      exact k_L_friends_12 hZ _ ih 4096 _ _ _ _ _ _ _ _ _ hf hw (lv_sub hl [1, 2, 3, 4, 5, 0] rfl)
set_option maxHeartbeats 4000000 in
set_option maxRecDepth 100000 in
theorem c_L_friends (l : Launch) (G : zG) (q1 : Nat → Nat) (o1 : Nat) (q2 : Nat → Nat) (o2 : Nat) (P1 : VX10) (P2 : VA48) (v3 : Int32) (v4 : Int32) (y : Int32 × VX10) (hf : f_L_friends (zX G) P1 P2 v3 v4 = some y) : zMet l yL_friends wsL_friends 7 176 G [.ref (q1 (o1 + 0)), .ref (zb G), .ref (q2 (o2 + 0)), .int v3, .int v4] [bX10 G q1 o1, bX9 G q1 (o1 + 1) P1.1.1 P1.1.2.1 P1.1.2.2.1 P1.1.2.2.2.1 P1.1.2.2.2.2, bX6 G q1 (o1 + 3) P1.2.1.1 P1.2.1.2, bX8 G q1 (o1 + 12) P1.2.2.1.1 P1.2.2.1.2, bX5 G q1 (o1 + 19) P1.2.2.2.1.2.1 P1.2.2.2.1.2.2.1 P1.2.2.2.1.2.2.2.1 P1.2.2.2.1.2.2.2.2, bX2 G q1 ((o1 + 19) + 2) P1.2.2.2.1.1.1 P1.2.2.2.1.1.2.1 P1.2.2.2.1.1.2.2.1 P1.2.2.2.1.1.2.2.2.1 P1.2.2.2.1.1.2.2.2.2.1 P1.2.2.2.1.1.2.2.2.2.2.1 P1.2.2.2.1.1.2.2.2.2.2.2.1 P1.2.2.2.1.1.2.2.2.2.2.2.2, bX2 G q1 (o1 + 27) P1.2.2.2.2.1.1 P1.2.2.2.2.1.2.1 P1.2.2.2.2.1.2.2.1 P1.2.2.2.2.1.2.2.2.1 P1.2.2.2.2.1.2.2.2.2.1 P1.2.2.2.2.1.2.2.2.2.2.1 P1.2.2.2.2.1.2.2.2.2.2.2.1 P1.2.2.2.2.1.2.2.2.2.2.2.2, bX1 G q1 (o1 + 33) P1.2.2.2.2.2.1.1 P1.2.2.2.2.2.1.2.1 P1.2.2.2.2.2.1.2.2.1 P1.2.2.2.2.2.1.2.2.2, bX4 G q1 (o1 + 36) P1.2.2.2.2.2.2.1.1 P1.2.2.2.2.2.2.1.2, bX3 G q1 (o1 + 38) P1.2.2.2.2.2.2.2.1.1 P1.2.2.2.2.2.2.2.1.2.1 P1.2.2.2.2.2.2.2.1.2.2.1 P1.2.2.2.2.2.2.2.1.2.2.2, bX0 G q1 (o1 + 43) P1.2.2.2.2.2.2.2.2.1.2.2.1 P1.2.2.2.2.2.2.2.2.1.2.2.2, bX2 G q1 ((o1 + 43) + 3) P1.2.2.2.2.2.2.2.2.1.1.1 P1.2.2.2.2.2.2.2.2.1.1.2.1 P1.2.2.2.2.2.2.2.2.1.1.2.2.1 P1.2.2.2.2.2.2.2.2.1.1.2.2.2.1 P1.2.2.2.2.2.2.2.2.1.1.2.2.2.2.1 P1.2.2.2.2.2.2.2.2.1.1.2.2.2.2.2.1 P1.2.2.2.2.2.2.2.2.1.1.2.2.2.2.2.2.1 P1.2.2.2.2.2.2.2.2.1.1.2.2.2.2.2.2.2, bX4 G q1 ((o1 + 43) + 9) P1.2.2.2.2.2.2.2.2.1.2.1.1 P1.2.2.2.2.2.2.2.2.1.2.1.2, bX7 G q1 (o1 + 54) P1.2.2.2.2.2.2.2.2.2.1 P1.2.2.2.2.2.2.2.2.2.2.1 P1.2.2.2.2.2.2.2.2.2.2.2, bA48 G q2 o2 P2] (some (.int y.1)) [bX10 G q1 o1, bX9 G q1 (o1 + 1) y.2.1.1 y.2.1.2.1 y.2.1.2.2.1 y.2.1.2.2.2.1 y.2.1.2.2.2.2, bX6 G q1 (o1 + 3) y.2.2.1.1 y.2.2.1.2, bX8 G q1 (o1 + 12) y.2.2.2.1.1 y.2.2.2.1.2, bX5 G q1 (o1 + 19) y.2.2.2.2.1.2.1 y.2.2.2.2.1.2.2.1 y.2.2.2.2.1.2.2.2.1 y.2.2.2.2.1.2.2.2.2, bX2 G q1 ((o1 + 19) + 2) y.2.2.2.2.1.1.1 y.2.2.2.2.1.1.2.1 y.2.2.2.2.1.1.2.2.1 y.2.2.2.2.1.1.2.2.2.1 y.2.2.2.2.1.1.2.2.2.2.1 y.2.2.2.2.1.1.2.2.2.2.2.1 y.2.2.2.2.1.1.2.2.2.2.2.2.1 y.2.2.2.2.1.1.2.2.2.2.2.2.2, bX2 G q1 (o1 + 27) y.2.2.2.2.2.1.1 y.2.2.2.2.2.1.2.1 y.2.2.2.2.2.1.2.2.1 y.2.2.2.2.2.1.2.2.2.1 y.2.2.2.2.2.1.2.2.2.2.1 y.2.2.2.2.2.1.2.2.2.2.2.1 y.2.2.2.2.2.1.2.2.2.2.2.2.1 y.2.2.2.2.2.1.2.2.2.2.2.2.2, bX1 G q1 (o1 + 33) y.2.2.2.2.2.2.1.1 y.2.2.2.2.2.2.1.2.1 y.2.2.2.2.2.2.1.2.2.1 y.2.2.2.2.2.2.1.2.2.2, bX4 G q1 (o1 + 36) y.2.2.2.2.2.2.2.1.1 y.2.2.2.2.2.2.2.1.2, bX3 G q1 (o1 + 38) y.2.2.2.2.2.2.2.2.1.1 y.2.2.2.2.2.2.2.2.1.2.1 y.2.2.2.2.2.2.2.2.1.2.2.1 y.2.2.2.2.2.2.2.2.1.2.2.2, bX0 G q1 (o1 + 43) y.2.2.2.2.2.2.2.2.2.1.2.2.1 y.2.2.2.2.2.2.2.2.2.1.2.2.2, bX2 G q1 ((o1 + 43) + 3) y.2.2.2.2.2.2.2.2.2.1.1.1 y.2.2.2.2.2.2.2.2.2.1.1.2.1 y.2.2.2.2.2.2.2.2.2.1.1.2.2.1 y.2.2.2.2.2.2.2.2.2.1.1.2.2.2.1 y.2.2.2.2.2.2.2.2.2.1.1.2.2.2.2.1 y.2.2.2.2.2.2.2.2.2.1.1.2.2.2.2.2.1 y.2.2.2.2.2.2.2.2.2.1.1.2.2.2.2.2.2.1 y.2.2.2.2.2.2.2.2.2.1.1.2.2.2.2.2.2.2, bX4 G q1 ((o1 + 43) + 9) y.2.2.2.2.2.2.2.2.2.1.2.1.1 y.2.2.2.2.2.2.2.2.2.1.2.1.2, bX7 G q1 (o1 + 54) y.2.2.2.2.2.2.2.2.2.2.1 y.2.2.2.2.2.2.2.2.2.2.2.1 y.2.2.2.2.2.2.2.2.2.2.2.2, bA48 G q2 o2 P2] := by
  refine z_met zc_L_friends (Nat.le_of_ble_eq_true rfl) ?_
  intro p e s m below meth c A ls hZ hl hw
  have hl : lv_has ls 13 [(0, .ref (q1 (o1 + 0))), (1, .ref (zb G)), (2, .ref (q2 (o2 + 0))), (3, .int v3), (4, .int v4)] := hl
  obtain ⟨hS0, hr, hlk, hK, hA, hT⟩ := id hZ
  have hx := hS0.1
  have hb := hS0.2.1
  have hml := hS0.2.2.1
  have hown : s.vm.findClass RL = some m.cls := hS0.2.2.2.1
  have hts := hS0.2.2.2.2
  unfold f_L_friends at hf
  refine lv_iconst (v := 0) hx hb dL_friends_0 rfl ?_
  refine lv_istore (lv' := [(5, .int 0), (0, .ref (q1 (o1 + 0))), (1, .ref (zb G)), (2, .ref (q2 (o2 + 0))), (3, .int v3), (4, .int v4)]) hx hb dL_friends_1 hl (by decide) rfl (fun ls hl => ?_)
  exact k_L_friends_3 hZ _ 4096 _ _ _ _ _ _ _ _ hf hw (lv_sub hl [1, 3, 4, 5, 0] rfl)
