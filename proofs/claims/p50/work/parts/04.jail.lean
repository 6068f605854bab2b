theorem zc_J6_bitCount_0f7a4 : zC yJ6_bitCount_0f7a4 wsJ6_bitCount_0f7a4 cJ6_bitCount_0f7a4 1 (some .int) 1 := ⟨⟨_, rfl⟩, by decide +kernel, by decide +kernel, by decide +kernel, by decide +kernel⟩
theorem m_J6_bitCount_0f7a4_0 : (.constant RJ6 265 (1431655765) : Cond) ∈ wsJ6_bitCount_0f7a4 := by decide +kernel
theorem m_J6_bitCount_0f7a4_1 : (.constant RJ6 266 (858993459) : Cond) ∈ wsJ6_bitCount_0f7a4 := by decide +kernel
theorem m_J6_bitCount_0f7a4_2 : (.constant RJ6 267 (252645135) : Cond) ∈ wsJ6_bitCount_0f7a4 := by decide +kernel
set_option maxHeartbeats 4000000 in
set_option maxRecDepth 100000 in
theorem c_J6_bitCount_0f7a4 (l : Launch) (G : zG)   (v0 : Int32) (y : Int32) (hf : f_J6_bitCount_0f7a4 v0 = some y) : zMet l yJ6_bitCount_0f7a4 wsJ6_bitCount_0f7a4 0 0 G [.int v0] [] (some (.int y)) [] := by
  refine z_met zc_J6_bitCount_0f7a4 (Nat.le_of_ble_eq_true rfl) ?_
  intro p e s m below meth c A ls hZ hl hw
  have hl : lv_has ls 1 [(0, .int v0)] := hl
  obtain ⟨hS0, hr, hlk, hK, hA, hT⟩ := id hZ
  have hx := hS0.1
  have hb := hS0.2.1
  have hml := hS0.2.2.1
  have hown : s.vm.findClass RJ6 = some m.cls := hS0.2.2.2.1
  have hts := hS0.2.2.2.2
  unfold f_J6_bitCount_0f7a4 at hf
  refine lv_iload_n hx hb dJ6_bitCount_0f7a4_0 rfl (lv_at hl 0 rfl) ?_
  refine lv_iload_n hx hb dJ6_bitCount_0f7a4_1 rfl (lv_at hl 0 rfl) ?_
  refine lv_iconst (v := 1) hx hb dJ6_bitCount_0f7a4_2 rfl ?_
  refine lv_iushr (v := (v0.toUInt32 >>> ((1 : Int32).toUInt32 &&& Int32.toUInt32 31)).toInt32) hx hb dJ6_bitCount_0f7a4_3 rfl ?_
  refine lv_ldcw (v := 1431655765) hx hb hown (hts _ m_J6_bitCount_0f7a4_0) dJ6_bitCount_0f7a4_4 ?_
  refine lv_iand hx hb dJ6_bitCount_0f7a4_7 ?_
  refine lv_isub hx hb dJ6_bitCount_0f7a4_8 ?_
  refine lv_istore_n (lv' := [(0, .int (v0 - ((v0.toUInt32 >>> ((1 : Int32).toUInt32 &&& Int32.toUInt32 31)).toInt32 &&& (1431655765 : Int32))))]) hx hb dJ6_bitCount_0f7a4_9 rfl hl (by decide) rfl (fun ls hl => ?_)
  refine lv_iload_n hx hb dJ6_bitCount_0f7a4_10 rfl (lv_at hl 0 rfl) ?_
  refine lv_ldcw (v := 858993459) hx hb hown (hts _ m_J6_bitCount_0f7a4_1) dJ6_bitCount_0f7a4_11 ?_
  refine lv_iand hx hb dJ6_bitCount_0f7a4_14 ?_
  refine lv_iload_n hx hb dJ6_bitCount_0f7a4_15 rfl (lv_at hl 0 rfl) ?_
  refine lv_iconst (v := 2) hx hb dJ6_bitCount_0f7a4_16 rfl ?_
  refine lv_iushr (v := ((v0 - ((v0.toUInt32 >>> ((1 : Int32).toUInt32 &&& Int32.toUInt32 31)).toInt32 &&& (1431655765 : Int32))).toUInt32 >>> ((2 : Int32).toUInt32 &&& Int32.toUInt32 31)).toInt32) hx hb dJ6_bitCount_0f7a4_17 rfl ?_
  refine lv_ldcw (v := 858993459) hx hb hown (hts _ m_J6_bitCount_0f7a4_1) dJ6_bitCount_0f7a4_18 ?_
  refine lv_iand hx hb dJ6_bitCount_0f7a4_21 ?_
  refine lv_iadd hx hb dJ6_bitCount_0f7a4_22 ?_
  refine lv_istore_n (lv' := [(0, .int (((v0 - ((v0.toUInt32 >>> ((1 : Int32).toUInt32 &&& Int32.toUInt32 31)).toInt32 &&& (1431655765 : Int32))) &&& (858993459 : Int32)) + (((v0 - ((v0.toUInt32 >>> ((1 : Int32).toUInt32 &&& Int32.toUInt32 31)).toInt32 &&& (1431655765 : Int32))).toUInt32 >>> ((2 : Int32).toUInt32 &&& Int32.toUInt32 31)).toInt32 &&& (858993459 : Int32))))]) hx hb dJ6_bitCount_0f7a4_23 rfl hl (by decide) rfl (fun ls hl => ?_)
  refine lv_iload_n hx hb dJ6_bitCount_0f7a4_24 rfl (lv_at hl 0 rfl) ?_
  refine lv_iload_n hx hb dJ6_bitCount_0f7a4_25 rfl (lv_at hl 0 rfl) ?_
  refine lv_iconst (v := 4) hx hb dJ6_bitCount_0f7a4_26 rfl ?_
  refine lv_iushr (v := ((((v0 - ((v0.toUInt32 >>> ((1 : Int32).toUInt32 &&& Int32.toUInt32 31)).toInt32 &&& (1431655765 : Int32))) &&& (858993459 : Int32)) + (((v0 - ((v0.toUInt32 >>> ((1 : Int32).toUInt32 &&& Int32.toUInt32 31)).toInt32 &&& (1431655765 : Int32))).toUInt32 >>> ((2 : Int32).toUInt32 &&& Int32.toUInt32 31)).toInt32 &&& (858993459 : Int32))).toUInt32 >>> ((4 : Int32).toUInt32 &&& Int32.toUInt32 31)).toInt32) hx hb dJ6_bitCount_0f7a4_27 rfl ?_
  refine lv_iadd hx hb dJ6_bitCount_0f7a4_28 ?_
  refine lv_ldcw (v := 252645135) hx hb hown (hts _ m_J6_bitCount_0f7a4_2) dJ6_bitCount_0f7a4_29 ?_
  refine lv_iand hx hb dJ6_bitCount_0f7a4_32 ?_
  refine lv_istore_n (lv' := [(0, .int (((((v0 - ((v0.toUInt32 >>> ((1 : Int32).toUInt32 &&& Int32.toUInt32 31)).toInt32 &&& (1431655765 : Int32))) &&& (858993459 : Int32)) + (((v0 - ((v0.toUInt32 >>> ((1 : Int32).toUInt32 &&& Int32.toUInt32 31)).toInt32 &&& (1431655765 : Int32))).toUInt32 >>> ((2 : Int32).toUInt32 &&& Int32.toUInt32 31)).toInt32 &&& (858993459 : Int32))) + ((((v0 - ((v0.toUInt32 >>> ((1 : Int32).toUInt32 &&& Int32.toUInt32 31)).toInt32 &&& (1431655765 : Int32))) &&& (858993459 : Int32)) + (((v0 - ((v0.toUInt32 >>> ((1 : Int32).toUInt32 &&& Int32.toUInt32 31)).toInt32 &&& (1431655765 : Int32))).toUInt32 >>> ((2 : Int32).toUInt32 &&& Int32.toUInt32 31)).toInt32 &&& (858993459 : Int32))).toUInt32 >>> ((4 : Int32).toUInt32 &&& Int32.toUInt32 31)).toInt32) &&& (252645135 : Int32)))]) hx hb dJ6_bitCount_0f7a4_33 rfl hl (by decide) rfl (fun ls hl => ?_)
  refine lv_iload_n hx hb dJ6_bitCount_0f7a4_34 rfl (lv_at hl 0 rfl) ?_
  refine lv_iload_n hx hb dJ6_bitCount_0f7a4_35 rfl (lv_at hl 0 rfl) ?_
  refine lv_bipush (v := 8) hx hb dJ6_bitCount_0f7a4_36 rfl ?_
  refine lv_iushr (v := ((((((v0 - ((v0.toUInt32 >>> ((1 : Int32).toUInt32 &&& Int32.toUInt32 31)).toInt32 &&& (1431655765 : Int32))) &&& (858993459 : Int32)) + (((v0 - ((v0.toUInt32 >>> ((1 : Int32).toUInt32 &&& Int32.toUInt32 31)).toInt32 &&& (1431655765 : Int32))).toUInt32 >>> ((2 : Int32).toUInt32 &&& Int32.toUInt32 31)).toInt32 &&& (858993459 : Int32))) + ((((v0 - ((v0.toUInt32 >>> ((1 : Int32).toUInt32 &&& Int32.toUInt32 31)).toInt32 &&& (1431655765 : Int32))) &&& (858993459 : Int32)) + (((v0 - ((v0.toUInt32 >>> ((1 : Int32).toUInt32 &&& Int32.toUInt32 31)).toInt32 &&& (1431655765 : Int32))).toUInt32 >>> ((2 : Int32).toUInt32 &&& Int32.toUInt32 31)).toInt32 &&& (858993459 : Int32))).toUInt32 >>> ((4 : Int32).toUInt32 &&& Int32.toUInt32 31)).toInt32) &&& (252645135 : Int32)).toUInt32 >>> ((8 : Int32).toUInt32 &&& Int32.toUInt32 31)).toInt32) hx hb dJ6_bitCount_0f7a4_38 rfl ?_
  refine lv_iadd hx hb dJ6_bitCount_0f7a4_39 ?_
  refine lv_istore_n (lv' := [(0, .int ((((((v0 - ((v0.toUInt32 >>> ((1 : Int32).toUInt32 &&& Int32.toUInt32 31)).toInt32 &&& (1431655765 : Int32))) &&& (858993459 : Int32)) + (((v0 - ((v0.toUInt32 >>> ((1 : Int32).toUInt32 &&& Int32.toUInt32 31)).toInt32 &&& (1431655765 : Int32))).toUInt32 >>> ((2 : Int32).toUInt32 &&& Int32.toUInt32 31)).toInt32 &&& (858993459 : Int32))) + ((((v0 - ((v0.toUInt32 >>> ((1 : Int32).toUInt32 &&& Int32.toUInt32 31)).toInt32 &&& (1431655765 : Int32))) &&& (858993459 : Int32)) + (((v0 - ((v0.toUInt32 >>> ((1 : Int32).toUInt32 &&& Int32.toUInt32 31)).toInt32 &&& (1431655765 : Int32))).toUInt32 >>> ((2 : Int32).toUInt32 &&& Int32.toUInt32 31)).toInt32 &&& (858993459 : Int32))).toUInt32 >>> ((4 : Int32).toUInt32 &&& Int32.toUInt32 31)).toInt32) &&& (252645135 : Int32)) + ((((((v0 - ((v0.toUInt32 >>> ((1 : Int32).toUInt32 &&& Int32.toUInt32 31)).toInt32 &&& (1431655765 : Int32))) &&& (858993459 : Int32)) + (((v0 - ((v0.toUInt32 >>> ((1 : Int32).toUInt32 &&& Int32.toUInt32 31)).toInt32 &&& (1431655765 : Int32))).toUInt32 >>> ((2 : Int32).toUInt32 &&& Int32.toUInt32 31)).toInt32 &&& (858993459 : Int32))) + ((((v0 - ((v0.toUInt32 >>> ((1 : Int32).toUInt32 &&& Int32.toUInt32 31)).toInt32 &&& (1431655765 : Int32))) &&& (858993459 : Int32)) + (((v0 - ((v0.toUInt32 >>> ((1 : Int32).toUInt32 &&& Int32.toUInt32 31)).toInt32 &&& (1431655765 : Int32))).toUInt32 >>> ((2 : Int32).toUInt32 &&& Int32.toUInt32 31)).toInt32 &&& (858993459 : Int32))).toUInt32 >>> ((4 : Int32).toUInt32 &&& Int32.toUInt32 31)).toInt32) &&& (252645135 : Int32)).toUInt32 >>> ((8 : Int32).toUInt32 &&& Int32.toUInt32 31)).toInt32))]) hx hb dJ6_bitCount_0f7a4_40 rfl hl (by decide) rfl (fun ls hl => ?_)
  refine lv_iload_n hx hb dJ6_bitCount_0f7a4_41 rfl (lv_at hl 0 rfl) ?_
  refine lv_iload_n hx hb dJ6_bitCount_0f7a4_42 rfl (lv_at hl 0 rfl) ?_
  refine lv_bipush (v := 16) hx hb dJ6_bitCount_0f7a4_43 rfl ?_
  refine lv_iushr (v := (((((((v0 - ((v0.toUInt32 >>> ((1 : Int32).toUInt32 &&& Int32.toUInt32 31)).toInt32 &&& (1431655765 : Int32))) &&& (858993459 : Int32)) + (((v0 - ((v0.toUInt32 >>> ((1 : Int32).toUInt32 &&& Int32.toUInt32 31)).toInt32 &&& (1431655765 : Int32))).toUInt32 >>> ((2 : Int32).toUInt32 &&& Int32.toUInt32 31)).toInt32 &&& (858993459 : Int32))) + ((((v0 - ((v0.toUInt32 >>> ((1 : Int32).toUInt32 &&& Int32.toUInt32 31)).toInt32 &&& (1431655765 : Int32))) &&& (858993459 : Int32)) + (((v0 - ((v0.toUInt32 >>> ((1 : Int32).toUInt32 &&& Int32.toUInt32 31)).toInt32 &&& (1431655765 : Int32))).toUInt32 >>> ((2 : Int32).toUInt32 &&& Int32.toUInt32 31)).toInt32 &&& (858993459 : Int32))).toUInt32 >>> ((4 : Int32).toUInt32 &&& Int32.toUInt32 31)).toInt32) &&& (252645135 : Int32)) + ((((((v0 - ((v0.toUInt32 >>> ((1 : Int32).toUInt32 &&& Int32.toUInt32 31)).toInt32 &&& (1431655765 : Int32))) &&& (858993459 : Int32)) + (((v0 - ((v0.toUInt32 >>> ((1 : Int32).toUInt32 &&& Int32.toUInt32 31)).toInt32 &&& (1431655765 : Int32))).toUInt32 >>> ((2 : Int32).toUInt32 &&& Int32.toUInt32 31)).toInt32 &&& (858993459 : Int32))) + ((((v0 - ((v0.toUInt32 >>> ((1 : Int32).toUInt32 &&& Int32.toUInt32 31)).toInt32 &&& (1431655765 : Int32))) &&& (858993459 : Int32)) + (((v0 - ((v0.toUInt32 >>> ((1 : Int32).toUInt32 &&& Int32.toUInt32 31)).toInt32 &&& (1431655765 : Int32))).toUInt32 >>> ((2 : Int32).toUInt32 &&& Int32.toUInt32 31)).toInt32 &&& (858993459 : Int32))).toUInt32 >>> ((4 : Int32).toUInt32 &&& Int32.toUInt32 31)).toInt32) &&& (252645135 : Int32)).toUInt32 >>> ((8 : Int32).toUInt32 &&& Int32.toUInt32 31)).toInt32).toUInt32 >>> ((16 : Int32).toUInt32 &&& Int32.toUInt32 31)).toInt32) hx hb dJ6_bitCount_0f7a4_45 rfl ?_
  refine lv_iadd hx hb dJ6_bitCount_0f7a4_46 ?_
  refine lv_istore_n (lv' := [(0, .int (((((((v0 - ((v0.toUInt32 >>> ((1 : Int32).toUInt32 &&& Int32.toUInt32 31)).toInt32 &&& (1431655765 : Int32))) &&& (858993459 : Int32)) + (((v0 - ((v0.toUInt32 >>> ((1 : Int32).toUInt32 &&& Int32.toUInt32 31)).toInt32 &&& (1431655765 : Int32))).toUInt32 >>> ((2 : Int32).toUInt32 &&& Int32.toUInt32 31)).toInt32 &&& (858993459 : Int32))) + ((((v0 - ((v0.toUInt32 >>> ((1 : Int32).toUInt32 &&& Int32.toUInt32 31)).toInt32 &&& (1431655765 : Int32))) &&& (858993459 : Int32)) + (((v0 - ((v0.toUInt32 >>> ((1 : Int32).toUInt32 &&& Int32.toUInt32 31)).toInt32 &&& (1431655765 : Int32))).toUInt32 >>> ((2 : Int32).toUInt32 &&& Int32.toUInt32 31)).toInt32 &&& (858993459 : Int32))).toUInt32 >>> ((4 : Int32).toUInt32 &&& Int32.toUInt32 31)).toInt32) &&& (252645135 : Int32)) + ((((((v0 - ((v0.toUInt32 >>> ((1 : Int32).toUInt32 &&& Int32.toUInt32 31)).toInt32 &&& (1431655765 : Int32))) &&& (858993459 : Int32)) + (((v0 - ((v0.toUInt32 >>> ((1 : Int32).toUInt32 &&& Int32.toUInt32 31)).toInt32 &&& (1431655765 : Int32))).toUInt32 >>> ((2 : Int32).toUInt32 &&& Int32.toUInt32 31)).toInt32 &&& (858993459 : Int32))) + ((((v0 - ((v0.toUInt32 >>> ((1 : Int32).toUInt32 &&& Int32.toUInt32 31)).toInt32 &&& (1431655765 : Int32))) &&& (858993459 : Int32)) + (((v0 - ((v0.toUInt32 >>> ((1 : Int32).toUInt32 &&& Int32.toUInt32 31)).toInt32 &&& (1431655765 : Int32))).toUInt32 >>> ((2 : Int32).toUInt32 &&& Int32.toUInt32 31)).toInt32 &&& (858993459 : Int32))).toUInt32 >>> ((4 : Int32).toUInt32 &&& Int32.toUInt32 31)).toInt32) &&& (252645135 : Int32)).toUInt32 >>> ((8 : Int32).toUInt32 &&& Int32.toUInt32 31)).toInt32) + (((((((v0 - ((v0.toUInt32 >>> ((1 : Int32).toUInt32 &&& Int32.toUInt32 31)).toInt32 &&& (1431655765 : Int32))) &&& (858993459 : Int32)) + (((v0 - ((v0.toUInt32 >>> ((1 : Int32).toUInt32 &&& Int32.toUInt32 31)).toInt32 &&& (1431655765 : Int32))).toUInt32 >>> ((2 : Int32).toUInt32 &&& Int32.toUInt32 31)).toInt32 &&& (858993459 : Int32))) + ((((v0 - ((v0.toUInt32 >>> ((1 : Int32).toUInt32 &&& Int32.toUInt32 31)).toInt32 &&& (1431655765 : Int32))) &&& (858993459 : Int32)) + (((v0 - ((v0.toUInt32 >>> ((1 : Int32).toUInt32 &&& Int32.toUInt32 31)).toInt32 &&& (1431655765 : Int32))).toUInt32 >>> ((2 : Int32).toUInt32 &&& Int32.toUInt32 31)).toInt32 &&& (858993459 : Int32))).toUInt32 >>> ((4 : Int32).toUInt32 &&& Int32.toUInt32 31)).toInt32) &&& (252645135 : Int32)) + ((((((v0 - ((v0.toUInt32 >>> ((1 : Int32).toUInt32 &&& Int32.toUInt32 31)).toInt32 &&& (1431655765 : Int32))) &&& (858993459 : Int32)) + (((v0 - ((v0.toUInt32 >>> ((1 : Int32).toUInt32 &&& Int32.toUInt32 31)).toInt32 &&& (1431655765 : Int32))).toUInt32 >>> ((2 : Int32).toUInt32 &&& Int32.toUInt32 31)).toInt32 &&& (858993459 : Int32))) + ((((v0 - ((v0.toUInt32 >>> ((1 : Int32).toUInt32 &&& Int32.toUInt32 31)).toInt32 &&& (1431655765 : Int32))) &&& (858993459 : Int32)) + (((v0 - ((v0.toUInt32 >>> ((1 : Int32).toUInt32 &&& Int32.toUInt32 31)).toInt32 &&& (1431655765 : Int32))).toUInt32 >>> ((2 : Int32).toUInt32 &&& Int32.toUInt32 31)).toInt32 &&& (858993459 : Int32))).toUInt32 >>> ((4 : Int32).toUInt32 &&& Int32.toUInt32 31)).toInt32) &&& (252645135 : Int32)).toUInt32 >>> ((8 : Int32).toUInt32 &&& Int32.toUInt32 31)).toInt32).toUInt32 >>> ((16 : Int32).toUInt32 &&& Int32.toUInt32 31)).toInt32))]) hx hb dJ6_bitCount_0f7a4_47 rfl hl (by decide) rfl (fun ls hl => ?_)
  refine lv_iload_n hx hb dJ6_bitCount_0f7a4_48 rfl (lv_at hl 0 rfl) ?_
  refine lv_bipush (v := 63) hx hb dJ6_bitCount_0f7a4_49 rfl ?_
  refine lv_iand hx hb dJ6_bitCount_0f7a4_51 ?_
  cases hf
  exact z_iret hx hb hr hlk hw dJ6_bitCount_0f7a4_52
theorem zc_X2_isCell : zC yX2_isCell wsX2_isCell cX2_isCell 2 (some .boolean) 1 := ⟨⟨_, rfl⟩, by decide +kernel, by decide +kernel, by decide +kernel, by decide +kernel⟩
theorem m_X2_isCell_0 : (.fieldLink RX2 27 "CellKeys$Jail" "cells" "I" : Cond) ∈ wsX2_isCell := by decide +kernel
theorem in_X2_isCell_X2 : ∀ w ∈ u_ws RX2 TX2 8, w ∈ wsX2_isCell := by decide +kernel
set_option maxHeartbeats 4000000 in
set_option maxRecDepth 100000 in
theorem c_X2_isCell (l : Launch) (G : zG) (q : Nat → Nat) (o : Nat) (S : VX2) (v1 : Int32) (y : Int32) (hf : f_X2_isCell S v1 = some y) : zMet l yX2_isCell wsX2_isCell 0 0 G [.ref (q (o + 0)), .int v1] [bX2 G q o S.1 S.2.1 S.2.2.1 S.2.2.2.1 S.2.2.2.2.1 S.2.2.2.2.2.1 S.2.2.2.2.2.2.1 S.2.2.2.2.2.2.2] (some (.int y)) [bX2 G q o S.1 S.2.1 S.2.2.1 S.2.2.2.1 S.2.2.2.2.1 S.2.2.2.2.2.1 S.2.2.2.2.2.2.1 S.2.2.2.2.2.2.2] := by
  refine z_met zc_X2_isCell (Nat.le_of_ble_eq_true rfl) ?_
  intro p e s m below meth c A ls hZ hl hw
  have hl : lv_has ls 2 [(0, .ref (q (o + 0))), (1, .int v1)] := hl
  obtain ⟨hS0, hr, hlk, hK, hA, hT⟩ := id hZ
  have hx := hS0.1
  have hb := hS0.2.1
  have hml := hS0.2.2.1
  have hown : s.vm.findClass RX2 = some m.cls := hS0.2.2.2.1
  have hts := hS0.2.2.2.2
  unfold f_X2_isCell at hf
  refine lv_iload_n hx hb dX2_isCell_0 rfl (lv_at hl 1 rfl) ?_
  refine lv_if_lt (tgt := 22) hx hb dX2_isCell_1 rfl (fun hc => ?_) (fun hc => ?_)
  · have hf := z_t hc hf
    refine lv_iconst (v := 0) hx hb dX2_isCell_22 rfl ?_
    cases hf
    exact z_zret hx hb hr (z_nb (Or.inl rfl)) hlk hw dX2_isCell_23
  · have hf := z_f hc hf
    refine lv_iload_n hx hb dX2_isCell_4 rfl (lv_at hl 1 rfl) ?_
    refine lv_aload_n hx hb dX2_isCell_5 rfl (lv_at hl 0 rfl) ?_
    refine z_get hS0 in_X2_isCell_X2 hK hw 0 5 rfl rfl rfl (by decide) (hts _ m_X2_isCell_0) (v := .int S.2.2.2.2.2.1) rfl dX2_isCell_6 ?_
    refine lv_icmp_ge (tgt := 22) hx hb dX2_isCell_9 rfl (fun hc => ?_) (fun hc => ?_)
    · have hf := z_t hc hf
      refine lv_iconst (v := 0) hx hb dX2_isCell_22 rfl ?_
      cases hf
      exact z_zret hx hb hr (z_nb (Or.inl rfl)) hlk hw dX2_isCell_23
    · have hf := z_f hc hf
      refine lv_iload_n hx hb dX2_isCell_12 rfl (lv_at hl 1 rfl) ?_
      refine lv_bipush (v := 8) hx hb dX2_isCell_13 rfl ?_
      refine lv_icmp_ge (tgt := 22) hx hb dX2_isCell_15 rfl (fun hc => ?_) (fun hc => ?_)
      · have hf := z_t hc hf
        refine lv_iconst (v := 0) hx hb dX2_isCell_22 rfl ?_
        cases hf
        exact z_zret hx hb hr (z_nb (Or.inl rfl)) hlk hw dX2_isCell_23
      · have hf := z_f hc hf
        refine lv_iconst (v := 1) hx hb dX2_isCell_18 rfl ?_
        refine lv_goto (tgt := 23) hx hb dX2_isCell_19 rfl ?_
        cases hf
        exact z_zret hx hb hr (z_nb (Or.inr rfl)) hlk hw dX2_isCell_23
theorem zc_X2_setDoor : zC yX2_setDoor wsX2_setDoor cX2_setDoor 7 none 5 := ⟨⟨_, rfl⟩, by decide +kernel, by decide +kernel, by decide +kernel, by decide +kernel⟩
theorem m_X2_setDoor_0 : (.fieldLink RX2 35 "CellKeys$Jail" "sprungOnes" "I" : Cond) ∈ wsX2_setDoor := by decide +kernel
theorem in_X2_setDoor_X2 : ∀ w ∈ u_ws RX2 TX2 8, w ∈ wsX2_setDoor := by decide +kernel
theorem m_X2_setDoor_1 : (.fieldLink RX2 38 "CellKeys$Jail" "blindOnes" "I" : Cond) ∈ wsX2_setDoor := by decide +kernel
theorem m_X2_setDoor_2 : (.fieldLink RX2 9 "CellKeys$Jail" "kinds" "[I" : Cond) ∈ wsX2_setDoor := by decide +kernel
theorem m_X2_setDoor_3 : (.fieldLink RX2 15 "CellKeys$Jail" "keepers" "[I" : Cond) ∈ wsX2_setDoor := by decide +kernel
theorem m_X2_setDoor_4 : (.fieldLink RX2 18 "CellKeys$Jail" "otherKeepers" "[I" : Cond) ∈ wsX2_setDoor := by decide +kernel
theorem m_X2_setDoor_5 : (.fieldLink RX2 21 "CellKeys$Jail" "lates" "[I" : Cond) ∈ wsX2_setDoor := by decide +kernel
set_option maxHeartbeats 4000000 in
set_option maxRecDepth 100000 in
theorem k_X2_setDoor_65 {p : Program} {l : Launch} {e : Env} {s : State} {m : MethodId} {args : Array Value} {below : List Frame} {meth : Method} {c : Code} {A : Nat → Prop} {G : zG} {q : Nat → Nat} {o : Nat}  (hZ : zZ p s m args meth c A G cX2_setDoor 7 RX2 wsX2_setDoor none) (y : VX2)  : ∀ (S : VX2) (v1 : Int32) (v2 : Int32) (v6 : Int32) (t0 : Int32) (t1 : Int32) (H : Heap) (locs : List Loc) (ls : Array Slot), f_X2_setDoor_65 S v1 v2 v6 t0 t1 = some y → zH G A s.heap [bX2 G q o S.1 S.2.1 S.2.2.1 S.2.2.2.1 S.2.2.2.2.1 S.2.2.2.2.2.1 S.2.2.2.2.2.2.1 S.2.2.2.2.2.2.2] H locs → lv_has ls 7 [(0, .ref (q (o + 0))), (1, .int v1), (2, .int v2), (6, .int v6)] → W p l e { frames := 1, cells := 0, slots := 0, locals := 21 } s m args below meth c H locs 0 0 (MQ below (zQ none (zPost G [bX2 G q o y.1 y.2.1 y.2.2.1 y.2.2.2.1 y.2.2.2.2.1 y.2.2.2.2.2.1 y.2.2.2.2.2.2.1 y.2.2.2.2.2.2.2]) A) args s 0 0 A) (F0 m 65 ls [.int t0, .int t1, .ref (q (o + 0))]) := by
  obtain ⟨hS0, hr, hlk, hK, hA, hT⟩ := id hZ
  have hx := hS0.1
  have hb := hS0.2.1
  have hml := hS0.2.2.1
  have hown : s.vm.findClass RX2 = some m.cls := hS0.2.2.2.1
  have hts := hS0.2.2.2.2
  intro S v1 v2 v6 t0 t1 H locs ls hf hw hl
  unfold f_X2_setDoor_65 at hf
  refine lv_ior hx hb dX2_setDoor_65 ?_
  refine z_put (blk' := bX2 G q o S.1 S.2.1 S.2.2.1 S.2.2.2.1 S.2.2.2.2.1 S.2.2.2.2.2.1 (t1 ||| t0) S.2.2.2.2.2.2.2) (bs' := [bX2 G q o S.1 S.2.1 S.2.2.1 S.2.2.2.1 S.2.2.2.2.1 S.2.2.2.2.2.1 (t1 ||| t0) S.2.2.2.2.2.2.2]) hS0 in_X2_setDoor_X2 tyX2 tyX2_ok nmX2 hK hw 0 6 rfl rfl rfl (by decide) (hts _ m_X2_setDoor_0) rfl (ty := tyX2 6) (tyX2_ok 6 (by decide)) rfl rfl (Nat.le_of_ble_eq_true rfl) dX2_setDoor_66 rfl rfl (fun H locs hw => ?_)
  refine lv_aload_n hx hb dX2_setDoor_69 rfl (lv_at hl 0 rfl) ?_
  refine lv_aload_n hx hb dX2_setDoor_70 rfl (lv_at hl 0 rfl) ?_
  refine z_get hS0 in_X2_setDoor_X2 hK hw 0 7 rfl rfl rfl (by decide) (hts _ m_X2_setDoor_1) (v := .int S.2.2.2.2.2.2.2) rfl dX2_setDoor_71 ?_
  refine lv_iload hx hb dX2_setDoor_74 (lv_at hl 3 rfl) ?_
  refine lv_iand hx hb dX2_setDoor_76 ?_
  refine lv_iload_n hx hb dX2_setDoor_77 rfl (lv_at hl 2 rfl) ?_
  refine lv_iconst (v := 5) hx hb dX2_setDoor_78 rfl ?_
  refine lv_icmp_ne (tgt := 88) hx hb dX2_setDoor_79 rfl (fun hc => ?_) (fun hc => ?_)
  · have hf := z_f hc hf
    refine lv_iconst (v := 0) hx hb dX2_setDoor_88 rfl ?_
    refine lv_ior hx hb dX2_setDoor_89 ?_
    refine z_put (blk' := bX2 G q o S.1 S.2.1 S.2.2.1 S.2.2.2.1 S.2.2.2.2.1 S.2.2.2.2.2.1 (t1 ||| t0) ((S.2.2.2.2.2.2.2 &&& v6) ||| (0 : Int32))) (bs' := [bX2 G q o S.1 S.2.1 S.2.2.1 S.2.2.2.1 S.2.2.2.2.1 S.2.2.2.2.2.1 (t1 ||| t0) ((S.2.2.2.2.2.2.2 &&& v6) ||| (0 : Int32))]) hS0 in_X2_setDoor_X2 tyX2 tyX2_ok nmX2 hK hw 0 7 rfl rfl rfl (by decide) (hts _ m_X2_setDoor_1) rfl (ty := tyX2 7) (tyX2_ok 7 (by decide)) rfl rfl (Nat.le_of_ble_eq_true rfl) dX2_setDoor_90 rfl rfl (fun H locs hw => ?_)
    cases hf
    exact z_vret hx hb hr hlk hw dX2_setDoor_93
  · have hf := z_t hc hf
    refine lv_iconst (v := 1) hx hb dX2_setDoor_82 rfl ?_
    refine lv_iload_n hx hb dX2_setDoor_83 rfl (lv_at hl 1 rfl) ?_
    refine lv_ishl hx hb dX2_setDoor_84 ?_
    refine lv_goto (tgt := 89) hx hb dX2_setDoor_85 rfl ?_
    refine lv_ior hx hb dX2_setDoor_89 ?_
    refine z_put (blk' := bX2 G q o S.1 S.2.1 S.2.2.1 S.2.2.2.1 S.2.2.2.2.1 S.2.2.2.2.2.1 (t1 ||| t0) ((S.2.2.2.2.2.2.2 &&& v6) ||| ((1 : Int32) <<< (v1 &&& 31)))) (bs' := [bX2 G q o S.1 S.2.1 S.2.2.1 S.2.2.2.1 S.2.2.2.2.1 S.2.2.2.2.2.1 (t1 ||| t0) ((S.2.2.2.2.2.2.2 &&& v6) ||| ((1 : Int32) <<< (v1 &&& 31)))]) hS0 in_X2_setDoor_X2 tyX2 tyX2_ok nmX2 hK hw 0 7 rfl rfl rfl (by decide) (hts _ m_X2_setDoor_1) rfl (ty := tyX2 7) (tyX2_ok 7 (by decide)) rfl rfl (Nat.le_of_ble_eq_true rfl) dX2_setDoor_90 rfl rfl (fun H locs hw => ?_)
    cases hf
    exact z_vret hx hb hr hlk hw dX2_setDoor_93
set_option maxHeartbeats 4000000 in
set_option maxRecDepth 100000 in
theorem c_X2_setDoor (l : Launch) (G : zG) (q : Nat → Nat) (o : Nat) (S : VX2) (v1 : Int32) (v2 : Int32) (v3 : Int32) (v4 : Int32) (v5 : Int32) (y : VX2) (hf : f_X2_setDoor S v1 v2 v3 v4 v5 = some y) : zMet l yX2_setDoor wsX2_setDoor 1 21 G [.ref (q (o + 0)), .int v1, .int v2, .int v3, .int v4, .int v5] [bX2 G q o S.1 S.2.1 S.2.2.1 S.2.2.2.1 S.2.2.2.2.1 S.2.2.2.2.2.1 S.2.2.2.2.2.2.1 S.2.2.2.2.2.2.2] none [bX2 G q o y.1 y.2.1 y.2.2.1 y.2.2.2.1 y.2.2.2.2.1 y.2.2.2.2.2.1 y.2.2.2.2.2.2.1 y.2.2.2.2.2.2.2] := by
  refine z_met zc_X2_setDoor (Nat.le_of_ble_eq_true rfl) ?_
  intro p e s m below meth c A ls hZ hl hw
  have hl : lv_has ls 7 [(0, .ref (q (o + 0))), (1, .int v1), (2, .int v2), (3, .int v3), (4, .int v4), (5, .int v5)] := hl
  obtain ⟨hS0, hr, hlk, hK, hA, hT⟩ := id hZ
  have hx := hS0.1
  have hb := hS0.2.1
  have hml := hS0.2.2.1
  have hown : s.vm.findClass RX2 = some m.cls := hS0.2.2.2.1
  have hts := hS0.2.2.2.2
  unfold f_X2_setDoor at hf
  refine lv_aload_n hx hb dX2_setDoor_0 rfl (lv_at hl 0 rfl) ?_
  refine lv_iload_n hx hb dX2_setDoor_1 rfl (lv_at hl 1 rfl) ?_
  obtain ⟨r1, e2, hf⟩ := z_bd hf
  refine z_callV1 (As := [.int v1]) (rest := []) (bs' := [bX2 G q o S.1 S.2.1 S.2.2.1 S.2.2.2.1 S.2.2.2.2.1 S.2.2.2.2.2.1 S.2.2.2.2.2.2.1 S.2.2.2.2.2.2.2]) hS0 (c_X2_isCell l G q o S v1 r1 e2) zc_X2_isCell rfl gX2_setDoor_X2_isCell ⟨Nat.le_of_ble_eq_true rfl, Nat.le_of_ble_eq_true rfl⟩ hK hA hT hw (is := [0]) rfl rfl rfl rfl rfl rfl rfl hl.1 rfl (Nat.le_of_ble_eq_true rfl) dX2_setDoor_2 (fun H locs hw => ?_)
  refine lv_if_eq (tgt := 93) hx hb dX2_setDoor_5 rfl (fun hc => ?_) (fun hc => ?_)
  · have hf := z_t hc hf
    cases hf
    exact z_vret hx hb hr hlk hw dX2_setDoor_93
  · have hf := z_f hc hf
    refine lv_aload_n hx hb dX2_setDoor_8 rfl (lv_at hl 0 rfl) ?_
    refine z_get hS0 in_X2_setDoor_X2 hK hw 0 0 rfl rfl rfl (by decide) (hts _ m_X2_setDoor_2) (v := .ref (q (o + 1))) rfl dX2_setDoor_9 ?_
    refine lv_iload_n hx hb dX2_setDoor_12 rfl (lv_at hl 1 rfl) ?_
    refine lv_iload_n hx hb dX2_setDoor_13 rfl (lv_at hl 2 rfl) ?_
    obtain ⟨g3, hf⟩ := z_gd hf
    refine z_iast (blk' := bX2 G q o (upd S.1 v1.toNatClampNeg v2) S.2.1 S.2.2.1 S.2.2.2.1 S.2.2.2.2.1 S.2.2.2.2.2.1 S.2.2.2.2.2.2.1 S.2.2.2.2.2.2.2) (bs' := [bX2 G q o (upd S.1 v1.toNatClampNeg v2) S.2.1 S.2.2.1 S.2.2.2.1 S.2.2.2.2.1 S.2.2.2.2.2.1 S.2.2.2.2.2.2.1 S.2.2.2.2.2.2.2]) hS0 hK hw 0 1 (zIn_vp g3) rfl rfl dX2_setDoor_14 rfl rfl (fun H locs hw => ?_)
    refine lv_aload_n hx hb dX2_setDoor_15 rfl (lv_at hl 0 rfl) ?_
    refine z_get hS0 in_X2_setDoor_X2 hK hw 0 1 rfl rfl rfl (by decide) (hts _ m_X2_setDoor_3) (v := .ref (q (o + 2))) rfl dX2_setDoor_16 ?_
    refine lv_iload_n hx hb dX2_setDoor_19 rfl (lv_at hl 1 rfl) ?_
    refine lv_iload_n hx hb dX2_setDoor_20 rfl (lv_at hl 3 rfl) ?_
    obtain ⟨g4, hf⟩ := z_gd hf
    refine z_iast (blk' := bX2 G q o (upd S.1 v1.toNatClampNeg v2) (upd S.2.1 v1.toNatClampNeg v3) S.2.2.1 S.2.2.2.1 S.2.2.2.2.1 S.2.2.2.2.2.1 S.2.2.2.2.2.2.1 S.2.2.2.2.2.2.2) (bs' := [bX2 G q o (upd S.1 v1.toNatClampNeg v2) (upd S.2.1 v1.toNatClampNeg v3) S.2.2.1 S.2.2.2.1 S.2.2.2.2.1 S.2.2.2.2.2.1 S.2.2.2.2.2.2.1 S.2.2.2.2.2.2.2]) hS0 hK hw 0 2 (zIn_vp g4) rfl rfl dX2_setDoor_21 rfl rfl (fun H locs hw => ?_)
    refine lv_aload_n hx hb dX2_setDoor_22 rfl (lv_at hl 0 rfl) ?_
    refine z_get hS0 in_X2_setDoor_X2 hK hw 0 2 rfl rfl rfl (by decide) (hts _ m_X2_setDoor_4) (v := .ref (q (o + 3))) rfl dX2_setDoor_23 ?_
    refine lv_iload_n hx hb dX2_setDoor_26 rfl (lv_at hl 1 rfl) ?_
    refine lv_iload hx hb dX2_setDoor_27 (lv_at hl 4 rfl) ?_
    obtain ⟨g5, hf⟩ := z_gd hf
    refine z_iast (blk' := bX2 G q o (upd S.1 v1.toNatClampNeg v2) (upd S.2.1 v1.toNatClampNeg v3) (upd S.2.2.1 v1.toNatClampNeg v4) S.2.2.2.1 S.2.2.2.2.1 S.2.2.2.2.2.1 S.2.2.2.2.2.2.1 S.2.2.2.2.2.2.2) (bs' := [bX2 G q o (upd S.1 v1.toNatClampNeg v2) (upd S.2.1 v1.toNatClampNeg v3) (upd S.2.2.1 v1.toNatClampNeg v4) S.2.2.2.1 S.2.2.2.2.1 S.2.2.2.2.2.1 S.2.2.2.2.2.2.1 S.2.2.2.2.2.2.2]) hS0 hK hw 0 3 (zIn_vp g5) rfl rfl dX2_setDoor_29 rfl rfl (fun H locs hw => ?_)
    refine lv_aload_n hx hb dX2_setDoor_30 rfl (lv_at hl 0 rfl) ?_
    refine z_get hS0 in_X2_setDoor_X2 hK hw 0 3 rfl rfl rfl (by decide) (hts _ m_X2_setDoor_5) (v := .ref (q (o + 4))) rfl dX2_setDoor_31 ?_
    refine lv_iload_n hx hb dX2_setDoor_34 rfl (lv_at hl 1 rfl) ?_
    refine lv_iload hx hb dX2_setDoor_35 (lv_at hl 5 rfl) ?_
    obtain ⟨g6, hf⟩ := z_gd hf
    refine z_iast (blk' := bX2 G q o (upd S.1 v1.toNatClampNeg v2) (upd S.2.1 v1.toNatClampNeg v3) (upd S.2.2.1 v1.toNatClampNeg v4) (upd S.2.2.2.1 v1.toNatClampNeg v5) S.2.2.2.2.1 S.2.2.2.2.2.1 S.2.2.2.2.2.2.1 S.2.2.2.2.2.2.2) (bs' := [bX2 G q o (upd S.1 v1.toNatClampNeg v2) (upd S.2.1 v1.toNatClampNeg v3) (upd S.2.2.1 v1.toNatClampNeg v4) (upd S.2.2.2.1 v1.toNatClampNeg v5) S.2.2.2.2.1 S.2.2.2.2.2.1 S.2.2.2.2.2.2.1 S.2.2.2.2.2.2.2]) hS0 hK hw 0 4 (zIn_vp g6) rfl rfl dX2_setDoor_37 rfl rfl (fun H locs hw => ?_)
    refine lv_iconst (v := 1) hx hb dX2_setDoor_38 rfl ?_
    refine lv_iload_n hx hb dX2_setDoor_39 rfl (lv_at hl 1 rfl) ?_
    refine lv_ishl hx hb dX2_setDoor_40 ?_
    refine lv_iconst (v := (-1)) hx hb dX2_setDoor_41 rfl ?_
    refine lv_ixor hx hb dX2_setDoor_42 ?_
    refine lv_istore (lv' := [(6, .int (((1 : Int32) <<< (v1 &&& 31)) ^^^ ((-1) : Int32))), (0, .ref (q (o + 0))), (1, .int v1), (2, .int v2), (3, .int v3), (4, .int v4), (5, .int v5)]) hx hb dX2_setDoor_43 hl (by decide) rfl (fun ls hl => ?_)
    refine lv_aload_n hx hb dX2_setDoor_45 rfl (lv_at hl 1 rfl) ?_
    refine lv_aload_n hx hb dX2_setDoor_46 rfl (lv_at hl 1 rfl) ?_
    refine z_get hS0 in_X2_setDoor_X2 hK hw 0 6 rfl rfl rfl (by decide) (hts _ m_X2_setDoor_0) (v := .int S.2.2.2.2.2.2.1) rfl dX2_setDoor_47 ?_
    refine lv_iload hx hb dX2_setDoor_50 (lv_at hl 0 rfl) ?_
    refine lv_iand hx hb dX2_setDoor_52 ?_
    refine lv_iload_n hx hb dX2_setDoor_53 rfl (lv_at hl 3 rfl) ?_
    refine lv_iconst (v := 4) hx hb dX2_setDoor_54 rfl ?_
    refine lv_icmp_ne (tgt := 64) hx hb dX2_setDoor_55 rfl (fun hc => ?_) (fun hc => ?_)
    · have hf := z_f hc hf
      refine lv_iconst (v := 0) hx hb dX2_setDoor_64 rfl ?_
      exact k_X2_setDoor_65 hZ _ _ _ _ _ _ _ _ _ _ hf hw (lv_sub hl [1, 2, 3, 0] rfl)
    · have hf := z_t hc hf
      refine lv_iconst (v := 1) hx hb dX2_setDoor_58 rfl ?_
      refine lv_iload_n hx hb dX2_setDoor_59 rfl (lv_at hl 2 rfl) ?_
      refine lv_ishl hx hb dX2_setDoor_60 ?_
      refine lv_goto (tgt := 65) hx hb dX2_setDoor_61 rfl ?_
      exact k_X2_setDoor_65 hZ _ _ _ _ _ _ _ _ _ _ hf hw (lv_sub hl [1, 2, 3, 0] rfl)
theorem zc_X2_build : zC yX2_build wsX2_build cX2_build 3 none 1 := ⟨⟨_, rfl⟩, by decide +kernel, by decide +kernel, by decide +kernel, by decide +kernel⟩
theorem m_X2_build_0 : (.fieldLink RX2 24 "CellKeys$Jail" "foes" "[I" : Cond) ∈ wsX2_build := by decide +kernel
theorem in_X2_build_X2 : ∀ w ∈ u_ws RX2 TX2 8, w ∈ wsX2_build := by decide +kernel
theorem m_X2_build_1 : (.fieldLink RX2 27 "CellKeys$Jail" "cells" "I" : Cond) ∈ wsX2_build := by decide +kernel
theorem m_X2_build_2 : (.fieldLink RX2 35 "CellKeys$Jail" "sprungOnes" "I" : Cond) ∈ wsX2_build := by decide +kernel
theorem m_X2_build_3 : (.fieldLink RX2 38 "CellKeys$Jail" "blindOnes" "I" : Cond) ∈ wsX2_build := by decide +kernel
set_option maxHeartbeats 4000000 in
set_option maxRecDepth 100000 in
theorem k_X2_build_59 {p : Program} {l : Launch} {e : Env} {s : State} {m : MethodId} {args : Array Value} {below : List Frame} {meth : Method} {c : Code} {A : Nat → Prop} {G : zG} {q : Nat → Nat} {o : Nat} {r_31 : VX2 → Int32 → Option (VX2)} (hZ : zZ p s m args meth c A G cX2_build 3 RX2 wsX2_build none) (y : VX2) (h_31 : ∀ (S : VX2) (v2 : Int32) (H : Heap) (locs : List Loc) (ls : Array Slot), r_31 S v2 = some y → zH G A s.heap [bX2 G q o S.1 S.2.1 S.2.2.1 S.2.2.2.1 S.2.2.2.2.1 S.2.2.2.2.2.1 S.2.2.2.2.2.2.1 S.2.2.2.2.2.2.2] H locs → lv_has ls 3 [(0, .ref (q (o + 0))), (2, .int v2)] → W p l e { frames := 2, cells := 0, slots := 0, locals := 47 } s m args below meth c H locs 0 0 (MQ below (zQ none (zPost G [bX2 G q o y.1 y.2.1 y.2.2.1 y.2.2.2.1 y.2.2.2.2.1 y.2.2.2.2.2.1 y.2.2.2.2.2.2.1 y.2.2.2.2.2.2.2]) A) args s 0 0 A) (F0 m 31 ls [])) : ∀ (S : VX2) (v2 : Int32) (t0 : Int32) (t1 : Int32) (t2 : Int32) (H : Heap) (locs : List Loc) (ls : Array Slot), f_X2_build_59 r_31 S v2 t0 t1 t2 = some y → zH G A s.heap [bX2 G q o S.1 S.2.1 S.2.2.1 S.2.2.2.1 S.2.2.2.2.1 S.2.2.2.2.2.1 S.2.2.2.2.2.2.1 S.2.2.2.2.2.2.2] H locs → lv_has ls 3 [(0, .ref (q (o + 0))), (2, .int v2)] → W p l e { frames := 2, cells := 0, slots := 0, locals := 47 } s m args below meth c H locs 0 0 (MQ below (zQ none (zPost G [bX2 G q o y.1 y.2.1 y.2.2.1 y.2.2.2.1 y.2.2.2.2.1 y.2.2.2.2.2.1 y.2.2.2.2.2.2.1 y.2.2.2.2.2.2.2]) A) args s 0 0 A) (F0 m 59 ls [.int t0, .int t1, .int t2, .ref (q (o + 0))]) := by
  obtain ⟨hS0, hr, hlk, hK, hA, hT⟩ := id hZ
  have hx := hS0.1
  have hb := hS0.2.1
  have hml := hS0.2.2.1
  have hown : s.vm.findClass RX2 = some m.cls := hS0.2.2.2.1
  have hts := hS0.2.2.2.2
  intro S v2 t0 t1 t2 H locs ls hf hw hl
  unfold f_X2_build_59 at hf
  refine lv_bipush (v := (-9)) hx hb dX2_build_59 rfl ?_
  refine lv_iconst (v := 0) hx hb dX2_build_61 rfl ?_
  obtain ⟨r1, e2, hf⟩ := z_bd hf
  refine z_callV0 (As := [.int t2, .int t1, .int t0, .int (-9), .int 0]) (rest := []) (bs' := [bX2 G q o r1.1 r1.2.1 r1.2.2.1 r1.2.2.2.1 r1.2.2.2.2.1 r1.2.2.2.2.2.1 r1.2.2.2.2.2.2.1 r1.2.2.2.2.2.2.2]) hS0 (c_X2_setDoor l G q o S t2 t1 t0 (-9) 0 r1 e2) zc_X2_setDoor rfl gX2_build_X2_setDoor ⟨Nat.le_of_ble_eq_true rfl, Nat.le_of_ble_eq_true rfl⟩ hK hA hT hw (is := [0]) rfl rfl rfl rfl rfl rfl rfl hl.1 rfl (Nat.le_of_ble_eq_true rfl) dX2_build_62 (fun H locs hw => ?_)
  refine lv_aload_n hx hb dX2_build_65 rfl (lv_at hl 0 rfl) ?_
  refine z_get hS0 in_X2_build_X2 hK hw 0 4 rfl rfl rfl (by decide) (hts _ m_X2_build_0) (v := .ref (q (o + 5))) rfl dX2_build_66 ?_
  refine lv_iload_n hx hb dX2_build_69 rfl (lv_at hl 1 rfl) ?_
  refine lv_iconst (v := 0) hx hb dX2_build_70 rfl ?_
  obtain ⟨g3, hf⟩ := z_gd hf
  refine z_iast (blk' := bX2 G q o r1.1 r1.2.1 r1.2.2.1 r1.2.2.2.1 (upd r1.2.2.2.2.1 v2.toNatClampNeg 0) r1.2.2.2.2.2.1 r1.2.2.2.2.2.2.1 r1.2.2.2.2.2.2.2) (bs' := [bX2 G q o r1.1 r1.2.1 r1.2.2.1 r1.2.2.2.1 (upd r1.2.2.2.2.1 v2.toNatClampNeg 0) r1.2.2.2.2.2.1 r1.2.2.2.2.2.2.1 r1.2.2.2.2.2.2.2]) hS0 hK hw 0 5 (zIn_vp g3) rfl rfl dX2_build_71 rfl rfl (fun H locs hw => ?_)
  refine lv_iinc (v := (v2 + 1)) (lv' := [(2, .int (v2 + 1)), (0, .ref (q (o + 0)))]) hx hb dX2_build_72 hl (k := 1) rfl rfl (by decide) rfl (fun ls hl => ?_)
  refine lv_goto (tgt := 31) hx hb dX2_build_75 rfl ?_
  exact h_31 _ _ _ _ _ hf hw (lv_sub hl [1, 0] rfl)
set_option maxHeartbeats 4000000 in
set_option maxRecDepth 100000 in
theorem k_X2_build_31 {p : Program} {l : Launch} {e : Env} {s : State} {m : MethodId} {args : Array Value} {below : List Frame} {meth : Method} {c : Code} {A : Nat → Prop} {G : zG} {q : Nat → Nat} {o : Nat}  (hZ : zZ p s m args meth c A G cX2_build 3 RX2 wsX2_build none) (y : VX2)  (n : Nat) : ∀ (S : VX2) (v2 : Int32) (H : Heap) (locs : List Loc) (ls : Array Slot), f_X2_build_31 n S v2 = some y → zH G A s.heap [bX2 G q o S.1 S.2.1 S.2.2.1 S.2.2.2.1 S.2.2.2.2.1 S.2.2.2.2.2.1 S.2.2.2.2.2.2.1 S.2.2.2.2.2.2.2] H locs → lv_has ls 3 [(0, .ref (q (o + 0))), (2, .int v2)] → W p l e { frames := 2, cells := 0, slots := 0, locals := 47 } s m args below meth c H locs 0 0 (MQ below (zQ none (zPost G [bX2 G q o y.1 y.2.1 y.2.2.1 y.2.2.2.1 y.2.2.2.2.1 y.2.2.2.2.2.1 y.2.2.2.2.2.2.1 y.2.2.2.2.2.2.2]) A) args s 0 0 A) (F0 m 31 ls []) := by
  obtain ⟨hS0, hr, hlk, hK, hA, hT⟩ := id hZ
  have hx := hS0.1
  have hb := hS0.2.1
  have hml := hS0.2.2.1
  have hown : s.vm.findClass RX2 = some m.cls := hS0.2.2.2.1
  have hts := hS0.2.2.2.2
  induction n with
  | zero =>
    intro S v2 H locs ls hf hw hl
    unfold f_X2_build_31 at hf
    cases hf
  | succ n ih =>
    intro S v2 H locs ls hf hw hl
    unfold f_X2_build_31 at hf
    refine lv_iload_n hx hb dX2_build_31 rfl (lv_at hl 1 rfl) ?_
    refine lv_aload_n hx hb dX2_build_32 rfl (lv_at hl 0 rfl) ?_
    refine z_get hS0 in_X2_build_X2 hK hw 0 5 rfl rfl rfl (by decide) (hts _ m_X2_build_1) (v := .int S.2.2.2.2.2.1) rfl dX2_build_33 ?_
    refine lv_icmp_ge (tgt := 78) hx hb dX2_build_36 rfl (fun hc => ?_) (fun hc => ?_)
    · have hf := z_t hc hf
      cases hf
      exact z_vret hx hb hr hlk hw dX2_build_78
    · have hf := z_f hc hf
      refine lv_aload_n hx hb dX2_build_39 rfl (lv_at hl 0 rfl) ?_
      refine lv_iload_n hx hb dX2_build_40 rfl (lv_at hl 1 rfl) ?_
      refine lv_iconst (v := 0) hx hb dX2_build_41 rfl ?_
      refine lv_iload_n hx hb dX2_build_42 rfl (lv_at hl 1 rfl) ?_
      refine lv_iconst (v := 1) hx hb dX2_build_43 rfl ?_
      refine lv_iadd hx hb dX2_build_44 ?_
      refine lv_aload_n hx hb dX2_build_45 rfl (lv_at hl 0 rfl) ?_
      refine z_get hS0 in_X2_build_X2 hK hw 0 5 rfl rfl rfl (by decide) (hts _ m_X2_build_1) (v := .int S.2.2.2.2.2.1) rfl dX2_build_46 ?_
      refine lv_icmp_ge (tgt := 58) hx hb dX2_build_49 rfl (fun hc => ?_) (fun hc => ?_)
      · have hf := z_t hc hf
        refine lv_iconst (v := 0) hx hb dX2_build_58 rfl ?_
        exact k_X2_build_59 hZ _ ih _ _ _ _ _ _ _ _ hf hw (lv_sub hl [0, 1] rfl)
      · have hf := z_f hc hf
        refine lv_iload_n hx hb dX2_build_52 rfl (lv_at hl 1 rfl) ?_
        refine lv_iconst (v := 1) hx hb dX2_build_53 rfl ?_
        refine lv_iadd hx hb dX2_build_54 ?_
        refine lv_goto (tgt := 59) hx hb dX2_build_55 rfl ?_
        exact k_X2_build_59 hZ _ ih _ _ _ _ _ _ _ _ hf hw (lv_sub hl [0, 1] rfl)
set_option maxHeartbeats 4000000 in
set_option maxRecDepth 100000 in
theorem c_X2_build (l : Launch) (G : zG) (q : Nat → Nat) (o : Nat) (S : VX2) (v1 : Int32) (y : VX2) (hf : f_X2_build S v1 = some y) : zMet l yX2_build wsX2_build 2 47 G [.ref (q (o + 0)), .int v1] [bX2 G q o S.1 S.2.1 S.2.2.1 S.2.2.2.1 S.2.2.2.2.1 S.2.2.2.2.2.1 S.2.2.2.2.2.2.1 S.2.2.2.2.2.2.2] none [bX2 G q o y.1 y.2.1 y.2.2.1 y.2.2.2.1 y.2.2.2.2.1 y.2.2.2.2.2.1 y.2.2.2.2.2.2.1 y.2.2.2.2.2.2.2] := by
  refine z_met zc_X2_build (Nat.le_of_ble_eq_true rfl) ?_
  intro p e s m below meth c A ls hZ hl hw
  have hl : lv_has ls 3 [(0, .ref (q (o + 0))), (1, .int v1)] := hl
  obtain ⟨hS0, hr, hlk, hK, hA, hT⟩ := id hZ
  have hx := hS0.1
  have hb := hS0.2.1
  have hml := hS0.2.2.1
  have hown : s.vm.findClass RX2 = some m.cls := hS0.2.2.2.1
  have hts := hS0.2.2.2.2
  unfold f_X2_build at hf
  refine lv_aload_n hx hb dX2_build_0 rfl (lv_at hl 0 rfl) ?_
  refine lv_iload_n hx hb dX2_build_1 rfl (lv_at hl 1 rfl) ?_
  refine lv_if_lt (tgt := 15) hx hb dX2_build_2 rfl (fun hc => ?_) (fun hc => ?_)
  · have hf := z_t hc hf
    refine lv_iconst (v := 0) hx hb dX2_build_15 rfl ?_
    refine z_put (blk' := bX2 G q o S.1 S.2.1 S.2.2.1 S.2.2.2.1 S.2.2.2.2.1 0 S.2.2.2.2.2.2.1 S.2.2.2.2.2.2.2) (bs' := [bX2 G q o S.1 S.2.1 S.2.2.1 S.2.2.2.1 S.2.2.2.2.1 0 S.2.2.2.2.2.2.1 S.2.2.2.2.2.2.2]) hS0 in_X2_build_X2 tyX2 tyX2_ok nmX2 hK hw 0 5 rfl rfl rfl (by decide) (hts _ m_X2_build_1) rfl (ty := tyX2 5) (tyX2_ok 5 (by decide)) rfl rfl (Nat.le_of_ble_eq_true rfl) dX2_build_16 rfl rfl (fun H locs hw => ?_)
    refine lv_aload_n hx hb dX2_build_19 rfl (lv_at hl 0 rfl) ?_
    refine lv_iconst (v := 0) hx hb dX2_build_20 rfl ?_
    refine z_put (blk' := bX2 G q o S.1 S.2.1 S.2.2.1 S.2.2.2.1 S.2.2.2.2.1 0 0 S.2.2.2.2.2.2.2) (bs' := [bX2 G q o S.1 S.2.1 S.2.2.1 S.2.2.2.1 S.2.2.2.2.1 0 0 S.2.2.2.2.2.2.2]) hS0 in_X2_build_X2 tyX2 tyX2_ok nmX2 hK hw 0 6 rfl rfl rfl (by decide) (hts _ m_X2_build_2) rfl (ty := tyX2 6) (tyX2_ok 6 (by decide)) rfl rfl (Nat.le_of_ble_eq_true rfl) dX2_build_21 rfl rfl (fun H locs hw => ?_)
    refine lv_aload_n hx hb dX2_build_24 rfl (lv_at hl 0 rfl) ?_
    refine lv_iconst (v := 0) hx hb dX2_build_25 rfl ?_
    refine z_put (blk' := bX2 G q o S.1 S.2.1 S.2.2.1 S.2.2.2.1 S.2.2.2.2.1 0 0 0) (bs' := [bX2 G q o S.1 S.2.1 S.2.2.1 S.2.2.2.1 S.2.2.2.2.1 0 0 0]) hS0 in_X2_build_X2 tyX2 tyX2_ok nmX2 hK hw 0 7 rfl rfl rfl (by decide) (hts _ m_X2_build_3) rfl (ty := tyX2 7) (tyX2_ok 7 (by decide)) rfl rfl (Nat.le_of_ble_eq_true rfl) dX2_build_26 rfl rfl (fun H locs hw => ?_)
    refine lv_iconst (v := 0) hx hb dX2_build_29 rfl ?_
    refine lv_istore_n (lv' := [(2, .int 0), (0, .ref (q (o + 0))), (1, .int v1)]) hx hb dX2_build_30 rfl hl (by decide) rfl (fun ls hl => ?_)
    exact k_X2_build_31 hZ _ 4096 _ _ _ _ _ hf hw (lv_sub hl [1, 0] rfl)
  · have hf := z_f hc hf
    refine lv_iload_n hx hb dX2_build_5 rfl (lv_at hl 1 rfl) ?_
    refine lv_bipush (v := 8) hx hb dX2_build_6 rfl ?_
    refine lv_icmp_gt (tgt := 15) hx hb dX2_build_8 rfl (fun hc => ?_) (fun hc => ?_)
    · have hf := z_t hc hf
      refine lv_iconst (v := 0) hx hb dX2_build_15 rfl ?_
      refine z_put (blk' := bX2 G q o S.1 S.2.1 S.2.2.1 S.2.2.2.1 S.2.2.2.2.1 0 S.2.2.2.2.2.2.1 S.2.2.2.2.2.2.2) (bs' := [bX2 G q o S.1 S.2.1 S.2.2.1 S.2.2.2.1 S.2.2.2.2.1 0 S.2.2.2.2.2.2.1 S.2.2.2.2.2.2.2]) hS0 in_X2_build_X2 tyX2 tyX2_ok nmX2 hK hw 0 5 rfl rfl rfl (by decide) (hts _ m_X2_build_1) rfl (ty := tyX2 5) (tyX2_ok 5 (by decide)) rfl rfl (Nat.le_of_ble_eq_true rfl) dX2_build_16 rfl rfl (fun H locs hw => ?_)
      refine lv_aload_n hx hb dX2_build_19 rfl (lv_at hl 0 rfl) ?_
      refine lv_iconst (v := 0) hx hb dX2_build_20 rfl ?_
      refine z_put (blk' := bX2 G q o S.1 S.2.1 S.2.2.1 S.2.2.2.1 S.2.2.2.2.1 0 0 S.2.2.2.2.2.2.2) (bs' := [bX2 G q o S.1 S.2.1 S.2.2.1 S.2.2.2.1 S.2.2.2.2.1 0 0 S.2.2.2.2.2.2.2]) hS0 in_X2_build_X2 tyX2 tyX2_ok nmX2 hK hw 0 6 rfl rfl rfl (by decide) (hts _ m_X2_build_2) rfl (ty := tyX2 6) (tyX2_ok 6 (by decide)) rfl rfl (Nat.le_of_ble_eq_true rfl) dX2_build_21 rfl rfl (fun H locs hw => ?_)
      refine lv_aload_n hx hb dX2_build_24 rfl (lv_at hl 0 rfl) ?_
      refine lv_iconst (v := 0) hx hb dX2_build_25 rfl ?_
      refine z_put (blk' := bX2 G q o S.1 S.2.1 S.2.2.1 S.2.2.2.1 S.2.2.2.2.1 0 0 0) (bs' := [bX2 G q o S.1 S.2.1 S.2.2.1 S.2.2.2.1 S.2.2.2.2.1 0 0 0]) hS0 in_X2_build_X2 tyX2 tyX2_ok nmX2 hK hw 0 7 rfl rfl rfl (by decide) (hts _ m_X2_build_3) rfl (ty := tyX2 7) (tyX2_ok 7 (by decide)) rfl rfl (Nat.le_of_ble_eq_true rfl) dX2_build_26 rfl rfl (fun H locs hw => ?_)
      refine lv_iconst (v := 0) hx hb dX2_build_29 rfl ?_
      refine lv_istore_n (lv' := [(2, .int 0), (0, .ref (q (o + 0))), (1, .int v1)]) hx hb dX2_build_30 rfl hl (by decide) rfl (fun ls hl => ?_)
      exact k_X2_build_31 hZ _ 4096 _ _ _ _ _ hf hw (lv_sub hl [1, 0] rfl)
    · have hf := z_f hc hf
      refine lv_iload_n hx hb dX2_build_11 rfl (lv_at hl 1 rfl) ?_
      refine lv_goto (tgt := 16) hx hb dX2_build_12 rfl ?_
      refine z_put (blk' := bX2 G q o S.1 S.2.1 S.2.2.1 S.2.2.2.1 S.2.2.2.2.1 v1 S.2.2.2.2.2.2.1 S.2.2.2.2.2.2.2) (bs' := [bX2 G q o S.1 S.2.1 S.2.2.1 S.2.2.2.1 S.2.2.2.2.1 v1 S.2.2.2.2.2.2.1 S.2.2.2.2.2.2.2]) hS0 in_X2_build_X2 tyX2 tyX2_ok nmX2 hK hw 0 5 rfl rfl rfl (by decide) (hts _ m_X2_build_1) rfl (ty := tyX2 5) (tyX2_ok 5 (by decide)) rfl rfl (Nat.le_of_ble_eq_true rfl) dX2_build_16 rfl rfl (fun H locs hw => ?_)
      refine lv_aload_n hx hb dX2_build_19 rfl (lv_at hl 0 rfl) ?_
      refine lv_iconst (v := 0) hx hb dX2_build_20 rfl ?_
      refine z_put (blk' := bX2 G q o S.1 S.2.1 S.2.2.1 S.2.2.2.1 S.2.2.2.2.1 v1 0 S.2.2.2.2.2.2.2) (bs' := [bX2 G q o S.1 S.2.1 S.2.2.1 S.2.2.2.1 S.2.2.2.2.1 v1 0 S.2.2.2.2.2.2.2]) hS0 in_X2_build_X2 tyX2 tyX2_ok nmX2 hK hw 0 6 rfl rfl rfl (by decide) (hts _ m_X2_build_2) rfl (ty := tyX2 6) (tyX2_ok 6 (by decide)) rfl rfl (Nat.le_of_ble_eq_true rfl) dX2_build_21 rfl rfl (fun H locs hw => ?_)
      refine lv_aload_n hx hb dX2_build_24 rfl (lv_at hl 0 rfl) ?_
      refine lv_iconst (v := 0) hx hb dX2_build_25 rfl ?_
      refine z_put (blk' := bX2 G q o S.1 S.2.1 S.2.2.1 S.2.2.2.1 S.2.2.2.2.1 v1 0 0) (bs' := [bX2 G q o S.1 S.2.1 S.2.2.1 S.2.2.2.1 S.2.2.2.2.1 v1 0 0]) hS0 in_X2_build_X2 tyX2 tyX2_ok nmX2 hK hw 0 7 rfl rfl rfl (by decide) (hts _ m_X2_build_3) rfl (ty := tyX2 7) (tyX2_ok 7 (by decide)) rfl rfl (Nat.le_of_ble_eq_true rfl) dX2_build_26 rfl rfl (fun H locs hw => ?_)
      refine lv_iconst (v := 0) hx hb dX2_build_29 rfl ?_
      refine lv_istore_n (lv' := [(2, .int 0), (0, .ref (q (o + 0))), (1, .int v1)]) hx hb dX2_build_30 rfl hl (by decide) rfl (fun ls hl => ?_)
      exact k_X2_build_31 hZ _ 4096 _ _ _ _ _ hf hw (lv_sub hl [1, 0] rfl)
theorem zc_X2_become : zC yX2_become wsX2_become cX2_become 3 none 1 := ⟨⟨_, rfl⟩, by decide +kernel, by decide +kernel, by decide +kernel, by decide +kernel⟩
theorem m_X2_become_0 : (.fieldLink RX2 27 "CellKeys$Jail" "cells" "I" : Cond) ∈ wsX2_become := by decide +kernel
theorem in_X2_become_X2 : ∀ w ∈ u_ws RX2 TX2 8, w ∈ wsX2_become := by decide +kernel
theorem m_X2_become_1 : (.fieldLink RX2 9 "CellKeys$Jail" "kinds" "[I" : Cond) ∈ wsX2_become := by decide +kernel
theorem m_X2_become_2 : (.fieldLink RX2 15 "CellKeys$Jail" "keepers" "[I" : Cond) ∈ wsX2_become := by decide +kernel
theorem m_X2_become_3 : (.fieldLink RX2 18 "CellKeys$Jail" "otherKeepers" "[I" : Cond) ∈ wsX2_become := by decide +kernel
theorem m_X2_become_4 : (.fieldLink RX2 21 "CellKeys$Jail" "lates" "[I" : Cond) ∈ wsX2_become := by decide +kernel
theorem m_X2_become_5 : (.fieldLink RX2 24 "CellKeys$Jail" "foes" "[I" : Cond) ∈ wsX2_become := by decide +kernel
set_option maxHeartbeats 4000000 in
set_option maxRecDepth 100000 in
theorem k_X2_become_10 {p : Program} {l : Launch} {e : Env} {s : State} {m : MethodId} {args : Array Value} {below : List Frame} {meth : Method} {c : Code} {A : Nat → Prop} {G : zG} {q : Nat → Nat} {o : Nat} {q1 : Nat → Nat} {o1 : Nat}  (hZ : zZ p s m args meth c A G cX2_become 3 RX2 wsX2_become none) (y : VX2)  (n : Nat) : ∀ (S : VX2) (P1 : VX2) (v2 : Int32) (H : Heap) (locs : List Loc) (ls : Array Slot), f_X2_become_10 n S P1 v2 = some y → zH G A s.heap [bX2 G q o S.1 S.2.1 S.2.2.1 S.2.2.2.1 S.2.2.2.2.1 S.2.2.2.2.2.1 S.2.2.2.2.2.2.1 S.2.2.2.2.2.2.2, bX2 G q1 o1 P1.1 P1.2.1 P1.2.2.1 P1.2.2.2.1 P1.2.2.2.2.1 P1.2.2.2.2.2.1 P1.2.2.2.2.2.2.1 P1.2.2.2.2.2.2.2] H locs → lv_has ls 3 [(0, .ref (q (o + 0))), (1, .ref (q1 (o1 + 0))), (2, .int v2)] → W p l e { frames := 3, cells := 0, slots := 0, locals := 69 } s m args below meth c H locs 0 0 (MQ below (zQ none (zPost G [bX2 G q o y.1 y.2.1 y.2.2.1 y.2.2.2.1 y.2.2.2.2.1 y.2.2.2.2.2.1 y.2.2.2.2.2.2.1 y.2.2.2.2.2.2.2, bX2 G q1 o1 P1.1 P1.2.1 P1.2.2.1 P1.2.2.2.1 P1.2.2.2.2.1 P1.2.2.2.2.2.1 P1.2.2.2.2.2.2.1 P1.2.2.2.2.2.2.2]) A) args s 0 0 A) (F0 m 10 ls []) := by
  obtain ⟨hS0, hr, hlk, hK, hA, hT⟩ := id hZ
  have hx := hS0.1
  have hb := hS0.2.1
  have hml := hS0.2.2.1
  have hown : s.vm.findClass RX2 = some m.cls := hS0.2.2.2.1
  have hts := hS0.2.2.2.2
  induction n with
  | zero =>
    intro S P1 v2 H locs ls hf hw hl
    unfold f_X2_become_10 at hf
    cases hf
  | succ n ih =>
    intro S P1 v2 H locs ls hf hw hl
    unfold f_X2_become_10 at hf
    refine lv_iload_n hx hb dX2_become_10 rfl (lv_at hl 2 rfl) ?_
    refine lv_aload_n hx hb dX2_become_11 rfl (lv_at hl 0 rfl) ?_
    refine z_get hS0 in_X2_become_X2 hK hw 0 5 rfl rfl rfl (by decide) (hts _ m_X2_become_0) (v := .int S.2.2.2.2.2.1) rfl dX2_become_12 ?_
    refine lv_icmp_ge (tgt := 65) hx hb dX2_become_15 rfl (fun hc => ?_) (fun hc => ?_)
    · have hf := z_t hc hf
      cases hf
      exact z_vret hx hb hr hlk hw dX2_become_65
    · have hf := z_f hc hf
      refine lv_aload_n hx hb dX2_become_18 rfl (lv_at hl 0 rfl) ?_
      refine lv_iload_n hx hb dX2_become_19 rfl (lv_at hl 2 rfl) ?_
      refine lv_aload_n hx hb dX2_become_20 rfl (lv_at hl 1 rfl) ?_
      refine z_get hS0 in_X2_become_X2 hK hw 1 0 rfl rfl rfl (by decide) (hts _ m_X2_become_1) (v := .ref (q1 (o1 + 1))) rfl dX2_become_21 ?_
      refine lv_iload_n hx hb dX2_become_24 rfl (lv_at hl 2 rfl) ?_
      obtain ⟨g1, hf⟩ := z_gd hf
      refine z_iald hS0 hK hw 1 1 (zIn_vp g1) rfl rfl dX2_become_25 ?_
      refine lv_aload_n hx hb dX2_become_26 rfl (lv_at hl 1 rfl) ?_
      refine z_get hS0 in_X2_become_X2 hK hw 1 1 rfl rfl rfl (by decide) (hts _ m_X2_become_2) (v := .ref (q1 (o1 + 2))) rfl dX2_become_27 ?_
      refine lv_iload_n hx hb dX2_become_30 rfl (lv_at hl 2 rfl) ?_
      obtain ⟨g2, hf⟩ := z_gd hf
      refine z_iald hS0 hK hw 1 2 (zIn_vp g2) rfl rfl dX2_become_31 ?_
      refine lv_aload_n hx hb dX2_become_32 rfl (lv_at hl 1 rfl) ?_
      refine z_get hS0 in_X2_become_X2 hK hw 1 2 rfl rfl rfl (by decide) (hts _ m_X2_become_3) (v := .ref (q1 (o1 + 3))) rfl dX2_become_33 ?_
      refine lv_iload_n hx hb dX2_become_36 rfl (lv_at hl 2 rfl) ?_
      obtain ⟨g3, hf⟩ := z_gd hf
      refine z_iald hS0 hK hw 1 3 (zIn_vp g3) rfl rfl dX2_become_37 ?_
      refine lv_aload_n hx hb dX2_become_38 rfl (lv_at hl 1 rfl) ?_
      refine z_get hS0 in_X2_become_X2 hK hw 1 3 rfl rfl rfl (by decide) (hts _ m_X2_become_4) (v := .ref (q1 (o1 + 4))) rfl dX2_become_39 ?_
      refine lv_iload_n hx hb dX2_become_42 rfl (lv_at hl 2 rfl) ?_
      obtain ⟨g4, hf⟩ := z_gd hf
      refine z_iald hS0 hK hw 1 4 (zIn_vp g4) rfl rfl dX2_become_43 ?_
      obtain ⟨r5, e6, hf⟩ := z_bd hf
      refine z_callV0 (As := [.int v2, .int (P1.1 v2.toNatClampNeg), .int (P1.2.1 v2.toNatClampNeg), .int (P1.2.2.1 v2.toNatClampNeg), .int (P1.2.2.2.1 v2.toNatClampNeg)]) (rest := []) (bs' := [bX2 G q o r5.1 r5.2.1 r5.2.2.1 r5.2.2.2.1 r5.2.2.2.2.1 r5.2.2.2.2.2.1 r5.2.2.2.2.2.2.1 r5.2.2.2.2.2.2.2, bX2 G q1 o1 P1.1 P1.2.1 P1.2.2.1 P1.2.2.2.1 P1.2.2.2.2.1 P1.2.2.2.2.2.1 P1.2.2.2.2.2.2.1 P1.2.2.2.2.2.2.2]) hS0 (c_X2_setDoor l G q o S v2 (P1.1 v2.toNatClampNeg) (P1.2.1 v2.toNatClampNeg) (P1.2.2.1 v2.toNatClampNeg) (P1.2.2.2.1 v2.toNatClampNeg) r5 e6) zc_X2_setDoor rfl gX2_become_X2_setDoor ⟨Nat.le_of_ble_eq_true rfl, Nat.le_of_ble_eq_true rfl⟩ hK hA hT hw (is := [0]) rfl rfl rfl rfl rfl rfl rfl hl.1 rfl (Nat.le_of_ble_eq_true rfl) dX2_become_44 (fun H locs hw => ?_)
      refine lv_aload_n hx hb dX2_become_47 rfl (lv_at hl 0 rfl) ?_
      refine z_get hS0 in_X2_become_X2 hK hw 0 4 rfl rfl rfl (by decide) (hts _ m_X2_become_5) (v := .ref (q (o + 5))) rfl dX2_become_48 ?_
      refine lv_iload_n hx hb dX2_become_51 rfl (lv_at hl 2 rfl) ?_
      refine lv_aload_n hx hb dX2_become_52 rfl (lv_at hl 1 rfl) ?_
      refine z_get hS0 in_X2_become_X2 hK hw 1 4 rfl rfl rfl (by decide) (hts _ m_X2_become_5) (v := .ref (q1 (o1 + 5))) rfl dX2_become_53 ?_
      refine lv_iload_n hx hb dX2_become_56 rfl (lv_at hl 2 rfl) ?_
      obtain ⟨g7, hf⟩ := z_gd hf
      refine z_iald hS0 hK hw 1 5 (zIn_vp g7) rfl rfl dX2_become_57 ?_
      obtain ⟨g8, hf⟩ := z_gd hf
      refine z_iast (blk' := bX2 G q o r5.1 r5.2.1 r5.2.2.1 r5.2.2.2.1 (upd r5.2.2.2.2.1 v2.toNatClampNeg (P1.2.2.2.2.1 v2.toNatClampNeg)) r5.2.2.2.2.2.1 r5.2.2.2.2.2.2.1 r5.2.2.2.2.2.2.2) (bs' := [bX2 G q o r5.1 r5.2.1 r5.2.2.1 r5.2.2.2.1 (upd r5.2.2.2.2.1 v2.toNatClampNeg (P1.2.2.2.2.1 v2.toNatClampNeg)) r5.2.2.2.2.2.1 r5.2.2.2.2.2.2.1 r5.2.2.2.2.2.2.2, bX2 G q1 o1 P1.1 P1.2.1 P1.2.2.1 P1.2.2.2.1 P1.2.2.2.2.1 P1.2.2.2.2.2.1 P1.2.2.2.2.2.2.1 P1.2.2.2.2.2.2.2]) hS0 hK hw 0 5 (zIn_vp g8) rfl rfl dX2_become_58 rfl rfl (fun H locs hw => ?_)
      refine lv_iinc (v := (v2 + 1)) (lv' := [(2, .int (v2 + 1)), (0, .ref (q (o + 0))), (1, .ref (q1 (o1 + 0)))]) hx hb dX2_become_59 hl (k := 2) rfl rfl (by decide) rfl (fun ls hl => ?_)
      refine lv_goto (tgt := 10) hx hb dX2_become_62 rfl ?_
      exact ih _ _ _ _ _ _ hf hw (lv_sub hl [1, 2, 0] rfl)
set_option maxHeartbeats 4000000 in
set_option maxRecDepth 100000 in
theorem c_X2_become (l : Launch) (G : zG) (q : Nat → Nat) (o : Nat) (q1 : Nat → Nat) (o1 : Nat) (S : VX2) (P1 : VX2)  (y : VX2) (hf : f_X2_become S P1 = some y) : zMet l yX2_become wsX2_become 3 69 G [.ref (q (o + 0)), .ref (q1 (o1 + 0))] [bX2 G q o S.1 S.2.1 S.2.2.1 S.2.2.2.1 S.2.2.2.2.1 S.2.2.2.2.2.1 S.2.2.2.2.2.2.1 S.2.2.2.2.2.2.2, bX2 G q1 o1 P1.1 P1.2.1 P1.2.2.1 P1.2.2.2.1 P1.2.2.2.2.1 P1.2.2.2.2.2.1 P1.2.2.2.2.2.2.1 P1.2.2.2.2.2.2.2] none [bX2 G q o y.1 y.2.1 y.2.2.1 y.2.2.2.1 y.2.2.2.2.1 y.2.2.2.2.2.1 y.2.2.2.2.2.2.1 y.2.2.2.2.2.2.2, bX2 G q1 o1 P1.1 P1.2.1 P1.2.2.1 P1.2.2.2.1 P1.2.2.2.2.1 P1.2.2.2.2.2.1 P1.2.2.2.2.2.2.1 P1.2.2.2.2.2.2.2] := by
  refine z_met zc_X2_become (Nat.le_of_ble_eq_true rfl) ?_
  intro p e s m below meth c A ls hZ hl hw
  have hl : lv_has ls 3 [(0, .ref (q (o + 0))), (1, .ref (q1 (o1 + 0)))] := hl
  obtain ⟨hS0, hr, hlk, hK, hA, hT⟩ := id hZ
  have hx := hS0.1
  have hb := hS0.2.1
  have hml := hS0.2.2.1
  have hown : s.vm.findClass RX2 = some m.cls := hS0.2.2.2.1
  have hts := hS0.2.2.2.2
  unfold f_X2_become at hf
  refine lv_aload_n hx hb dX2_become_0 rfl (lv_at hl 0 rfl) ?_
  refine lv_aload_n hx hb dX2_become_1 rfl (lv_at hl 1 rfl) ?_
  refine z_get hS0 in_X2_become_X2 hK hw 1 5 rfl rfl rfl (by decide) (hts _ m_X2_become_0) (v := .int P1.2.2.2.2.2.1) rfl dX2_become_2 ?_
  obtain ⟨r9, e10, hf⟩ := z_bd hf
  refine z_callV0 (As := [.int P1.2.2.2.2.2.1]) (rest := []) (bs' := [bX2 G q o r9.1 r9.2.1 r9.2.2.1 r9.2.2.2.1 r9.2.2.2.2.1 r9.2.2.2.2.2.1 r9.2.2.2.2.2.2.1 r9.2.2.2.2.2.2.2, bX2 G q1 o1 P1.1 P1.2.1 P1.2.2.1 P1.2.2.2.1 P1.2.2.2.2.1 P1.2.2.2.2.2.1 P1.2.2.2.2.2.2.1 P1.2.2.2.2.2.2.2]) hS0 (c_X2_build l G q o S P1.2.2.2.2.2.1 r9 e10) zc_X2_build rfl gX2_become_X2_build ⟨Nat.le_of_ble_eq_true rfl, Nat.le_of_ble_eq_true rfl⟩ hK hA hT hw (is := [0]) rfl rfl rfl rfl rfl rfl rfl hl.1 rfl (Nat.le_of_ble_eq_true rfl) dX2_become_5 (fun H locs hw => ?_)
  refine lv_iconst (v := 0) hx hb dX2_become_8 rfl ?_
  refine lv_istore_n (lv' := [(2, .int 0), (0, .ref (q (o + 0))), (1, .ref (q1 (o1 + 0)))]) hx hb dX2_become_9 rfl hl (by decide) rfl (fun ls hl => ?_)
  exact k_X2_become_10 hZ _ 4096 _ _ _ _ _ _ hf hw (lv_sub hl [1, 2, 0] rfl)
theorem zc_X2_cells : zC yX2_cells wsX2_cells cX2_cells 1 (some .int) 0 := ⟨⟨_, rfl⟩, by decide +kernel, by decide +kernel, by decide +kernel, by decide +kernel⟩
theorem m_X2_cells_0 : (.fieldLink RX2 27 "CellKeys$Jail" "cells" "I" : Cond) ∈ wsX2_cells := by decide +kernel
theorem in_X2_cells_X2 : ∀ w ∈ u_ws RX2 TX2 8, w ∈ wsX2_cells := by decide +kernel
set_option maxHeartbeats 4000000 in
set_option maxRecDepth 100000 in
theorem c_X2_cells (l : Launch) (G : zG) (q : Nat → Nat) (o : Nat) (S : VX2)  (y : Int32) (hf : f_X2_cells S = some y) : zMet l yX2_cells wsX2_cells 0 0 G [.ref (q (o + 0))] [bX2 G q o S.1 S.2.1 S.2.2.1 S.2.2.2.1 S.2.2.2.2.1 S.2.2.2.2.2.1 S.2.2.2.2.2.2.1 S.2.2.2.2.2.2.2] (some (.int y)) [bX2 G q o S.1 S.2.1 S.2.2.1 S.2.2.2.1 S.2.2.2.2.1 S.2.2.2.2.2.1 S.2.2.2.2.2.2.1 S.2.2.2.2.2.2.2] := by
  refine z_met zc_X2_cells (Nat.le_of_ble_eq_true rfl) ?_
  intro p e s m below meth c A ls hZ hl hw
  have hl : lv_has ls 1 [(0, .ref (q (o + 0)))] := hl
  obtain ⟨hS0, hr, hlk, hK, hA, hT⟩ := id hZ
  have hx := hS0.1
  have hb := hS0.2.1
  have hml := hS0.2.2.1
  have hown : s.vm.findClass RX2 = some m.cls := hS0.2.2.2.1
  have hts := hS0.2.2.2.2
  unfold f_X2_cells at hf
  refine lv_aload_n hx hb dX2_cells_0 rfl (lv_at hl 0 rfl) ?_
  refine z_get hS0 in_X2_cells_X2 hK hw 0 5 rfl rfl rfl (by decide) (hts _ m_X2_cells_0) (v := .int S.2.2.2.2.2.1) rfl dX2_cells_1 ?_
  cases hf
  exact z_iret hx hb hr hlk hw dX2_cells_4
theorem zc_X2_doorAnswer : zC yX2_doorAnswer wsX2_doorAnswer cX2_doorAnswer 3 (some .int) 2 := ⟨⟨_, rfl⟩, by decide +kernel, by decide +kernel, by decide +kernel, by decide +kernel⟩
theorem m_X2_doorAnswer_0 : (.fieldLink RX2 9 "CellKeys$Jail" "kinds" "[I" : Cond) ∈ wsX2_doorAnswer := by decide +kernel
theorem in_X2_doorAnswer_X2 : ∀ w ∈ u_ws RX2 TX2 8, w ∈ wsX2_doorAnswer := by decide +kernel
theorem m_X2_doorAnswer_1 : (.fieldLink RX2 15 "CellKeys$Jail" "keepers" "[I" : Cond) ∈ wsX2_doorAnswer := by decide +kernel
theorem m_X2_doorAnswer_2 : (.fieldLink RX2 18 "CellKeys$Jail" "otherKeepers" "[I" : Cond) ∈ wsX2_doorAnswer := by decide +kernel
theorem m_X2_doorAnswer_3 : (.fieldLink RX2 21 "CellKeys$Jail" "lates" "[I" : Cond) ∈ wsX2_doorAnswer := by decide +kernel
set_option maxHeartbeats 4000000 in
set_option maxRecDepth 100000 in
theorem c_X2_doorAnswer (l : Launch) (G : zG) (q : Nat → Nat) (o : Nat) (S : VX2) (v1 : Int32) (v2 : Int32) (y : Int32) (hf : f_X2_doorAnswer S v1 v2 = some y) : zMet l yX2_doorAnswer wsX2_doorAnswer 1 21 G [.ref (q (o + 0)), .int v1, .int v2] [bX2 G q o S.1 S.2.1 S.2.2.1 S.2.2.2.1 S.2.2.2.2.1 S.2.2.2.2.2.1 S.2.2.2.2.2.2.1 S.2.2.2.2.2.2.2] (some (.int y)) [bX2 G q o S.1 S.2.1 S.2.2.1 S.2.2.2.1 S.2.2.2.2.1 S.2.2.2.2.2.1 S.2.2.2.2.2.2.1 S.2.2.2.2.2.2.2] := by
  refine z_met zc_X2_doorAnswer (Nat.le_of_ble_eq_true rfl) ?_
  intro p e s m below meth c A ls hZ hl hw
  have hl : lv_has ls 3 [(0, .ref (q (o + 0))), (1, .int v1), (2, .int v2)] := hl
  obtain ⟨hS0, hr, hlk, hK, hA, hT⟩ := id hZ
  have hx := hS0.1
  have hb := hS0.2.1
  have hml := hS0.2.2.1
  have hown : s.vm.findClass RX2 = some m.cls := hS0.2.2.2.1
  have hts := hS0.2.2.2.2
  unfold f_X2_doorAnswer at hf
  refine lv_aload_n hx hb dX2_doorAnswer_0 rfl (lv_at hl 0 rfl) ?_
  refine lv_iload_n hx hb dX2_doorAnswer_1 rfl (lv_at hl 1 rfl) ?_
  obtain ⟨r1, e2, hf⟩ := z_bd hf
  refine z_callV1 (As := [.int v1]) (rest := []) (bs' := [bX2 G q o S.1 S.2.1 S.2.2.1 S.2.2.2.1 S.2.2.2.2.1 S.2.2.2.2.2.1 S.2.2.2.2.2.2.1 S.2.2.2.2.2.2.2]) hS0 (c_X2_isCell l G q o S v1 r1 e2) zc_X2_isCell rfl gX2_doorAnswer_X2_isCell ⟨Nat.le_of_ble_eq_true rfl, Nat.le_of_ble_eq_true rfl⟩ hK hA hT hw (is := [0]) rfl rfl rfl rfl rfl rfl rfl hl.1 rfl (Nat.le_of_ble_eq_true rfl) dX2_doorAnswer_2 (fun H locs hw => ?_)
  refine lv_if_ne (tgt := 11) hx hb dX2_doorAnswer_5 rfl (fun hc => ?_) (fun hc => ?_)
  · have hf := z_f hc hf
    refine lv_iload_n hx hb dX2_doorAnswer_11 rfl (lv_at hl 2 rfl) ?_
    by_cases hc0 : v2 = 0
    · have hf := z_t hc0 hf
      refine lv_tableIn (tgt := 40) (off := 28) hx hb dX2_doorAnswer_12 (by rw [hc0]; decide) (by rw [hc0]; decide) (by rw [hc0]; rfl) rfl ?_
      refine lv_aload_n hx hb dX2_doorAnswer_40 rfl (lv_at hl 0 rfl) ?_
      refine z_get hS0 in_X2_doorAnswer_X2 hK hw 0 0 rfl rfl rfl (by decide) (hts _ m_X2_doorAnswer_0) (v := .ref (q (o + 1))) rfl dX2_doorAnswer_41 ?_
      refine lv_iload_n hx hb dX2_doorAnswer_44 rfl (lv_at hl 1 rfl) ?_
      obtain ⟨g3, hf⟩ := z_gd hf
      refine z_iald hS0 hK hw 0 1 (zIn_vp g3) rfl rfl dX2_doorAnswer_45 ?_
      cases hf
      exact z_iret hx hb hr hlk hw dX2_doorAnswer_46
    · have hf := z_f hc0 hf
      by_cases hc1 : v2 = 1
      · have hf := z_t hc1 hf
        refine lv_tableIn (tgt := 47) (off := 35) hx hb dX2_doorAnswer_12 (by rw [hc1]; decide) (by rw [hc1]; decide) (by rw [hc1]; rfl) rfl ?_
        refine lv_aload_n hx hb dX2_doorAnswer_47 rfl (lv_at hl 0 rfl) ?_
        refine z_get hS0 in_X2_doorAnswer_X2 hK hw 0 1 rfl rfl rfl (by decide) (hts _ m_X2_doorAnswer_1) (v := .ref (q (o + 2))) rfl dX2_doorAnswer_48 ?_
        refine lv_iload_n hx hb dX2_doorAnswer_51 rfl (lv_at hl 1 rfl) ?_
        obtain ⟨g4, hf⟩ := z_gd hf
        refine z_iald hS0 hK hw 0 2 (zIn_vp g4) rfl rfl dX2_doorAnswer_52 ?_
        cases hf
        exact z_iret hx hb hr hlk hw dX2_doorAnswer_53
      · have hf := z_f hc1 hf
        by_cases hc2 : v2 = 2
        · have hf := z_t hc2 hf
          refine lv_tableIn (tgt := 54) (off := 42) hx hb dX2_doorAnswer_12 (by rw [hc2]; decide) (by rw [hc2]; decide) (by rw [hc2]; rfl) rfl ?_
          refine lv_aload_n hx hb dX2_doorAnswer_54 rfl (lv_at hl 0 rfl) ?_
          refine z_get hS0 in_X2_doorAnswer_X2 hK hw 0 2 rfl rfl rfl (by decide) (hts _ m_X2_doorAnswer_2) (v := .ref (q (o + 3))) rfl dX2_doorAnswer_55 ?_
          refine lv_iload_n hx hb dX2_doorAnswer_58 rfl (lv_at hl 1 rfl) ?_
          obtain ⟨g5, hf⟩ := z_gd hf
          refine z_iald hS0 hK hw 0 3 (zIn_vp g5) rfl rfl dX2_doorAnswer_59 ?_
          cases hf
          exact z_iret hx hb hr hlk hw dX2_doorAnswer_60
        · have hf := z_f hc2 hf
          refine z_dflt (tgt := 61) hx hb [0, 1, 2] dX2_doorAnswer_12 (by decide) (by decide) (List.forall_mem_cons.mpr ⟨z_ne rfl hc0, (List.forall_mem_cons.mpr ⟨z_ne rfl hc1, (List.forall_mem_cons.mpr ⟨z_ne rfl hc2, (fun _ h => absurd h List.not_mem_nil)⟩)⟩)⟩) rfl ?_
          refine lv_aload_n hx hb dX2_doorAnswer_61 rfl (lv_at hl 0 rfl) ?_
          refine z_get hS0 in_X2_doorAnswer_X2 hK hw 0 3 rfl rfl rfl (by decide) (hts _ m_X2_doorAnswer_3) (v := .ref (q (o + 4))) rfl dX2_doorAnswer_62 ?_
          refine lv_iload_n hx hb dX2_doorAnswer_65 rfl (lv_at hl 1 rfl) ?_
          obtain ⟨g6, hf⟩ := z_gd hf
          refine z_iald hS0 hK hw 0 4 (zIn_vp g6) rfl rfl dX2_doorAnswer_66 ?_
          cases hf
          exact z_iret hx hb hr hlk hw dX2_doorAnswer_67
  · have hf := z_t hc hf
    refine lv_bipush (v := (-9)) hx hb dX2_doorAnswer_8 rfl ?_
    cases hf
    exact z_iret hx hb hr hlk hw dX2_doorAnswer_10
theorem zc_X2_isOf : zC yX2_isOf wsX2_isOf cX2_isOf 4 (some .boolean) 2 := ⟨⟨_, rfl⟩, by decide +kernel, by decide +kernel, by decide +kernel, by decide +kernel⟩
theorem m_X2_isOf_0 : (.fieldLink RX2 9 "CellKeys$Jail" "kinds" "[I" : Cond) ∈ wsX2_isOf := by decide +kernel
theorem in_X2_isOf_X2 : ∀ w ∈ u_ws RX2 TX2 8, w ∈ wsX2_isOf := by decide +kernel
set_option maxHeartbeats 4000000 in
set_option maxRecDepth 100000 in
theorem k_X2_isOf_32 {p : Program} {l : Launch} {e : Env} {s : State} {m : MethodId} {args : Array Value} {below : List Frame} {meth : Method} {c : Code} {A : Nat → Prop} {G : zG} {q : Nat → Nat} {o : Nat}  (hZ : zZ p s m args meth c A G cX2_isOf 4 RX2 wsX2_isOf (some .boolean)) (y : Int32)  : ∀ (S : VX2) (v2 : Int32) (v3 : Int32) (H : Heap) (locs : List Loc) (ls : Array Slot), f_X2_isOf_32 S v2 v3 = some y → zH G A s.heap [bX2 G q o S.1 S.2.1 S.2.2.1 S.2.2.2.1 S.2.2.2.2.1 S.2.2.2.2.2.1 S.2.2.2.2.2.2.1 S.2.2.2.2.2.2.2] H locs → lv_has ls 4 [(2, .int v2), (3, .int v3)] → W p l e { frames := 1, cells := 0, slots := 0, locals := 21 } s m args below meth c H locs 0 0 (MQ below (zQ (some (.int y)) (zPost G [bX2 G q o S.1 S.2.1 S.2.2.1 S.2.2.2.1 S.2.2.2.2.1 S.2.2.2.2.2.1 S.2.2.2.2.2.2.1 S.2.2.2.2.2.2.2]) A) args s 0 0 A) (F0 m 32 ls []) := by
  obtain ⟨hS0, hr, hlk, hK, hA, hT⟩ := id hZ
  have hx := hS0.1
  have hb := hS0.2.1
  have hml := hS0.2.2.1
  have hown : s.vm.findClass RX2 = some m.cls := hS0.2.2.2.1
  have hts := hS0.2.2.2.2
  intro S v2 v3 H locs ls hf hw hl
  unfold f_X2_isOf_32 at hf
  refine lv_iload_n hx hb dX2_isOf_32 rfl (lv_at hl 0 rfl) ?_
  refine lv_iconst (v := 3) hx hb dX2_isOf_33 rfl ?_
  refine lv_icmp_ne (tgt := 46) hx hb dX2_isOf_34 rfl (fun hc => ?_) (fun hc => ?_)
  · have hf := z_f hc hf
    refine lv_iconst (v := 0) hx hb dX2_isOf_46 rfl ?_
    cases hf
    exact z_zret hx hb hr (z_nb (Or.inl rfl)) hlk hw dX2_isOf_47
  · have hf := z_t hc hf
    refine lv_iload_n hx hb dX2_isOf_37 rfl (lv_at hl 1 rfl) ?_
    refine lv_iconst (v := 4) hx hb dX2_isOf_38 rfl ?_
    refine lv_icmp_ne (tgt := 46) hx hb dX2_isOf_39 rfl (fun hc => ?_) (fun hc => ?_)
    · have hf := z_f hc hf
      refine lv_iconst (v := 0) hx hb dX2_isOf_46 rfl ?_
      cases hf
      exact z_zret hx hb hr (z_nb (Or.inl rfl)) hlk hw dX2_isOf_47
    · have hf := z_t hc hf
      refine lv_iconst (v := 1) hx hb dX2_isOf_42 rfl ?_
      refine lv_goto (tgt := 47) hx hb dX2_isOf_43 rfl ?_
      cases hf
      exact z_zret hx hb hr (z_nb (Or.inr rfl)) hlk hw dX2_isOf_47
set_option maxHeartbeats 4000000 in
set_option maxRecDepth 100000 in
theorem c_X2_isOf (l : Launch) (G : zG) (q : Nat → Nat) (o : Nat) (S : VX2) (v1 : Int32) (v2 : Int32) (y : Int32) (hf : f_X2_isOf S v1 v2 = some y) : zMet l yX2_isOf wsX2_isOf 1 21 G [.ref (q (o + 0)), .int v1, .int v2] [bX2 G q o S.1 S.2.1 S.2.2.1 S.2.2.2.1 S.2.2.2.2.1 S.2.2.2.2.2.1 S.2.2.2.2.2.2.1 S.2.2.2.2.2.2.2] (some (.int y)) [bX2 G q o S.1 S.2.1 S.2.2.1 S.2.2.2.1 S.2.2.2.2.1 S.2.2.2.2.2.1 S.2.2.2.2.2.2.1 S.2.2.2.2.2.2.2] := by
  refine z_met zc_X2_isOf (Nat.le_of_ble_eq_true rfl) ?_
  intro p e s m below meth c A ls hZ hl hw
  have hl : lv_has ls 4 [(0, .ref (q (o + 0))), (1, .int v1), (2, .int v2)] := hl
  obtain ⟨hS0, hr, hlk, hK, hA, hT⟩ := id hZ
  have hx := hS0.1
  have hb := hS0.2.1
  have hml := hS0.2.2.1
  have hown : s.vm.findClass RX2 = some m.cls := hS0.2.2.2.1
  have hts := hS0.2.2.2.2
  unfold f_X2_isOf at hf
  refine lv_aload_n hx hb dX2_isOf_0 rfl (lv_at hl 0 rfl) ?_
  refine lv_iload_n hx hb dX2_isOf_1 rfl (lv_at hl 1 rfl) ?_
  obtain ⟨r1, e2, hf⟩ := z_bd hf
  refine z_callV1 (As := [.int v1]) (rest := []) (bs' := [bX2 G q o S.1 S.2.1 S.2.2.1 S.2.2.2.1 S.2.2.2.2.1 S.2.2.2.2.2.1 S.2.2.2.2.2.2.1 S.2.2.2.2.2.2.2]) hS0 (c_X2_isCell l G q o S v1 r1 e2) zc_X2_isCell rfl gX2_isOf_X2_isCell ⟨Nat.le_of_ble_eq_true rfl, Nat.le_of_ble_eq_true rfl⟩ hK hA hT hw (is := [0]) rfl rfl rfl rfl rfl rfl rfl hl.1 rfl (Nat.le_of_ble_eq_true rfl) dX2_isOf_2 (fun H locs hw => ?_)
  refine lv_if_ne (tgt := 10) hx hb dX2_isOf_5 rfl (fun hc => ?_) (fun hc => ?_)
  · have hf := z_f hc hf
    refine lv_aload_n hx hb dX2_isOf_10 rfl (lv_at hl 0 rfl) ?_
    refine z_get hS0 in_X2_isOf_X2 hK hw 0 0 rfl rfl rfl (by decide) (hts _ m_X2_isOf_0) (v := .ref (q (o + 1))) rfl dX2_isOf_11 ?_
    refine lv_iload_n hx hb dX2_isOf_14 rfl (lv_at hl 1 rfl) ?_
    obtain ⟨g3, hf⟩ := z_gd hf
    refine z_iald hS0 hK hw 0 1 (zIn_vp g3) rfl rfl dX2_isOf_15 ?_
    refine lv_istore_n (lv' := [(3, .int (S.1 v1.toNatClampNeg)), (0, .ref (q (o + 0))), (1, .int v1), (2, .int v2)]) hx hb dX2_isOf_16 rfl hl (by decide) rfl (fun ls hl => ?_)
    refine lv_iload_n hx hb dX2_isOf_17 rfl (lv_at hl 0 rfl) ?_
    refine lv_iload_n hx hb dX2_isOf_18 rfl (lv_at hl 3 rfl) ?_
    refine lv_icmp_eq (tgt := 42) hx hb dX2_isOf_19 rfl (fun hc => ?_) (fun hc => ?_)
    · have hf := z_t hc hf
      refine lv_iconst (v := 1) hx hb dX2_isOf_42 rfl ?_
      refine lv_goto (tgt := 47) hx hb dX2_isOf_43 rfl ?_
      cases hf
      exact z_zret hx hb hr (z_nb (Or.inr rfl)) hlk hw dX2_isOf_47
    · have hf := z_f hc hf
      refine lv_iload_n hx hb dX2_isOf_22 rfl (lv_at hl 3 rfl) ?_
      refine lv_iconst (v := 1) hx hb dX2_isOf_23 rfl ?_
      refine lv_icmp_ne (tgt := 32) hx hb dX2_isOf_24 rfl (fun hc => ?_) (fun hc => ?_)
      · have hf := z_f hc hf
        exact k_X2_isOf_32 hZ _ _ _ _ _ _ _ hf hw (lv_sub hl [3, 0] rfl)
      · have hf := z_t hc hf
        refine lv_iload_n hx hb dX2_isOf_27 rfl (lv_at hl 0 rfl) ?_
        refine lv_iconst (v := 5) hx hb dX2_isOf_28 rfl ?_
        refine lv_icmp_eq (tgt := 42) hx hb dX2_isOf_29 rfl (fun hc => ?_) (fun hc => ?_)
        · have hf := z_t hc hf
          refine lv_iconst (v := 1) hx hb dX2_isOf_42 rfl ?_
          refine lv_goto (tgt := 47) hx hb dX2_isOf_43 rfl ?_
          cases hf
          exact z_zret hx hb hr (z_nb (Or.inr rfl)) hlk hw dX2_isOf_47
        · have hf := z_f hc hf
          exact k_X2_isOf_32 hZ _ _ _ _ _ _ _ hf hw (lv_sub hl [3, 0] rfl)
  · have hf := z_t hc hf
    refine lv_iconst (v := 0) hx hb dX2_isOf_8 rfl ?_
    cases hf
    exact z_zret hx hb hr (z_nb (Or.inl rfl)) hlk hw dX2_isOf_9
theorem zc_X2_doorsOf : zC yX2_doorsOf wsX2_doorsOf cX2_doorsOf 4 (some .int) 1 := ⟨⟨_, rfl⟩, by decide +kernel, by decide +kernel, by decide +kernel, by decide +kernel⟩
theorem m_X2_doorsOf_0 : (.fieldLink RX2 27 "CellKeys$Jail" "cells" "I" : Cond) ∈ wsX2_doorsOf := by decide +kernel
theorem in_X2_doorsOf_X2 : ∀ w ∈ u_ws RX2 TX2 8, w ∈ wsX2_doorsOf := by decide +kernel
set_option maxHeartbeats 4000000 in
set_option maxRecDepth 100000 in
theorem k_X2_doorsOf_4 {p : Program} {l : Launch} {e : Env} {s : State} {m : MethodId} {args : Array Value} {below : List Frame} {meth : Method} {c : Code} {A : Nat → Prop} {G : zG} {q : Nat → Nat} {o : Nat}  (hZ : zZ p s m args meth c A G cX2_doorsOf 4 RX2 wsX2_doorsOf (some .int)) (y : Int32)  (n : Nat) : ∀ (S : VX2) (v1 : Int32) (v2 : Int32) (v3 : Int32) (H : Heap) (locs : List Loc) (ls : Array Slot), f_X2_doorsOf_4 n S v1 v2 v3 = some y → zH G A s.heap [bX2 G q o S.1 S.2.1 S.2.2.1 S.2.2.2.1 S.2.2.2.2.1 S.2.2.2.2.2.1 S.2.2.2.2.2.2.1 S.2.2.2.2.2.2.2] H locs → lv_has ls 4 [(0, .ref (q (o + 0))), (1, .int v1), (2, .int v2), (3, .int v3)] → W p l e { frames := 2, cells := 0, slots := 0, locals := 44 } s m args below meth c H locs 0 0 (MQ below (zQ (some (.int y)) (zPost G [bX2 G q o S.1 S.2.1 S.2.2.1 S.2.2.2.1 S.2.2.2.2.1 S.2.2.2.2.2.1 S.2.2.2.2.2.2.1 S.2.2.2.2.2.2.2]) A) args s 0 0 A) (F0 m 4 ls []) := by
  obtain ⟨hS0, hr, hlk, hK, hA, hT⟩ := id hZ
  have hx := hS0.1
  have hb := hS0.2.1
  have hml := hS0.2.2.1
  have hown : s.vm.findClass RX2 = some m.cls := hS0.2.2.2.1
  have hts := hS0.2.2.2.2
  induction n with
  | zero =>
    intro S v1 v2 v3 H locs ls hf hw hl
    unfold f_X2_doorsOf_4 at hf
    cases hf
  | succ n ih =>
    intro S v1 v2 v3 H locs ls hf hw hl
    unfold f_X2_doorsOf_4 at hf
    refine lv_iload_n hx hb dX2_doorsOf_4 rfl (lv_at hl 3 rfl) ?_
    refine lv_aload_n hx hb dX2_doorsOf_5 rfl (lv_at hl 0 rfl) ?_
    refine z_get hS0 in_X2_doorsOf_X2 hK hw 0 5 rfl rfl rfl (by decide) (hts _ m_X2_doorsOf_0) (v := .int S.2.2.2.2.2.1) rfl dX2_doorsOf_6 ?_
    refine lv_icmp_ge (tgt := 35) hx hb dX2_doorsOf_9 rfl (fun hc => ?_) (fun hc => ?_)
    · have hf := z_t hc hf
      refine lv_iload_n hx hb dX2_doorsOf_35 rfl (lv_at hl 2 rfl) ?_
      cases hf
      exact z_iret hx hb hr hlk hw dX2_doorsOf_36
    · have hf := z_f hc hf
      refine lv_iload_n hx hb dX2_doorsOf_12 rfl (lv_at hl 2 rfl) ?_
      refine lv_aload_n hx hb dX2_doorsOf_13 rfl (lv_at hl 0 rfl) ?_
      refine lv_iload_n hx hb dX2_doorsOf_14 rfl (lv_at hl 3 rfl) ?_
      refine lv_iload_n hx hb dX2_doorsOf_15 rfl (lv_at hl 1 rfl) ?_
      obtain ⟨r1, e2, hf⟩ := z_bd hf
      refine z_callV1 (As := [.int v3, .int v1]) (rest := [.int v2]) (bs' := [bX2 G q o S.1 S.2.1 S.2.2.1 S.2.2.2.1 S.2.2.2.2.1 S.2.2.2.2.2.1 S.2.2.2.2.2.2.1 S.2.2.2.2.2.2.2]) hS0 (c_X2_isOf l G q o S v3 v1 r1 e2) zc_X2_isOf rfl gX2_doorsOf_X2_isOf ⟨Nat.le_of_ble_eq_true rfl, Nat.le_of_ble_eq_true rfl⟩ hK hA hT hw (is := [0]) rfl rfl rfl rfl rfl rfl rfl hl.1 rfl (Nat.le_of_ble_eq_true rfl) dX2_doorsOf_16 (fun H locs hw => ?_)
      refine lv_if_eq (tgt := 26) hx hb dX2_doorsOf_19 rfl (fun hc => ?_) (fun hc => ?_)
      · have hf := z_t hc hf
        refine lv_iconst (v := 0) hx hb dX2_doorsOf_26 rfl ?_
        refine lv_iadd hx hb dX2_doorsOf_27 ?_
        refine lv_istore_n (lv' := [(2, .int (v2 + (0 : Int32))), (0, .ref (q (o + 0))), (1, .int v1), (3, .int v3)]) hx hb dX2_doorsOf_28 rfl hl (by decide) rfl (fun ls hl => ?_)
        refine lv_iinc (v := (v3 + 1)) (lv' := [(3, .int (v3 + 1)), (2, .int (v2 + (0 : Int32))), (0, .ref (q (o + 0))), (1, .int v1)]) hx hb dX2_doorsOf_29 hl (k := 3) rfl rfl (by decide) rfl (fun ls hl => ?_)
        refine lv_goto (tgt := 4) hx hb dX2_doorsOf_32 rfl ?_
        exact ih _ _ _ _ _ _ _ hf hw (lv_sub hl [2, 3, 1, 0] rfl)
      · have hf := z_f hc hf
        refine lv_iconst (v := 1) hx hb dX2_doorsOf_22 rfl ?_
        refine lv_goto (tgt := 27) hx hb dX2_doorsOf_23 rfl ?_
        refine lv_iadd hx hb dX2_doorsOf_27 ?_
        refine lv_istore_n (lv' := [(2, .int (v2 + (1 : Int32))), (0, .ref (q (o + 0))), (1, .int v1), (3, .int v3)]) hx hb dX2_doorsOf_28 rfl hl (by decide) rfl (fun ls hl => ?_)
        refine lv_iinc (v := (v3 + 1)) (lv' := [(3, .int (v3 + 1)), (2, .int (v2 + (1 : Int32))), (0, .ref (q (o + 0))), (1, .int v1)]) hx hb dX2_doorsOf_29 hl (k := 3) rfl rfl (by decide) rfl (fun ls hl => ?_)
        refine lv_goto (tgt := 4) hx hb dX2_doorsOf_32 rfl ?_
        exact ih _ _ _ _ _ _ _ hf hw (lv_sub hl [2, 3, 1, 0] rfl)
set_option maxHeartbeats 4000000 in
set_option maxRecDepth 100000 in
theorem c_X2_doorsOf (l : Launch) (G : zG) (q : Nat → Nat) (o : Nat) (S : VX2) (v1 : Int32) (y : Int32) (hf : f_X2_doorsOf S v1 = some y) : zMet l yX2_doorsOf wsX2_doorsOf 2 44 G [.ref (q (o + 0)), .int v1] [bX2 G q o S.1 S.2.1 S.2.2.1 S.2.2.2.1 S.2.2.2.2.1 S.2.2.2.2.2.1 S.2.2.2.2.2.2.1 S.2.2.2.2.2.2.2] (some (.int y)) [bX2 G q o S.1 S.2.1 S.2.2.1 S.2.2.2.1 S.2.2.2.2.1 S.2.2.2.2.2.1 S.2.2.2.2.2.2.1 S.2.2.2.2.2.2.2] := by
  refine z_met zc_X2_doorsOf (Nat.le_of_ble_eq_true rfl) ?_
  intro p e s m below meth c A ls hZ hl hw
  have hl : lv_has ls 4 [(0, .ref (q (o + 0))), (1, .int v1)] := hl
  obtain ⟨hS0, hr, hlk, hK, hA, hT⟩ := id hZ
  have hx := hS0.1
  have hb := hS0.2.1
  have hml := hS0.2.2.1
  have hown : s.vm.findClass RX2 = some m.cls := hS0.2.2.2.1
  have hts := hS0.2.2.2.2
  unfold f_X2_doorsOf at hf
  refine lv_iconst (v := 0) hx hb dX2_doorsOf_0 rfl ?_
  refine lv_istore_n (lv' := [(2, .int 0), (0, .ref (q (o + 0))), (1, .int v1)]) hx hb dX2_doorsOf_1 rfl hl (by decide) rfl (fun ls hl => ?_)
  refine lv_iconst (v := 0) hx hb dX2_doorsOf_2 rfl ?_
  refine lv_istore_n (lv' := [(3, .int 0), (2, .int 0), (0, .ref (q (o + 0))), (1, .int v1)]) hx hb dX2_doorsOf_3 rfl hl (by decide) rfl (fun ls hl => ?_)
  exact k_X2_doorsOf_4 hZ _ 4096 _ _ _ _ _ _ _ hf hw (lv_sub hl [2, 3, 1, 0] rfl)
theorem zc_X2_everyone : zC yX2_everyone wsX2_everyone cX2_everyone 1 (some .int) 0 := ⟨⟨_, rfl⟩, by decide +kernel, by decide +kernel, by decide +kernel, by decide +kernel⟩
theorem m_X2_everyone_0 : (.fieldLink RX2 27 "CellKeys$Jail" "cells" "I" : Cond) ∈ wsX2_everyone := by decide +kernel
theorem in_X2_everyone_X2 : ∀ w ∈ u_ws RX2 TX2 8, w ∈ wsX2_everyone := by decide +kernel
set_option maxHeartbeats 4000000 in
set_option maxRecDepth 100000 in
theorem c_X2_everyone (l : Launch) (G : zG) (q : Nat → Nat) (o : Nat) (S : VX2)  (y : Int32) (hf : f_X2_everyone S = some y) : zMet l yX2_everyone wsX2_everyone 0 0 G [.ref (q (o + 0))] [bX2 G q o S.1 S.2.1 S.2.2.1 S.2.2.2.1 S.2.2.2.2.1 S.2.2.2.2.2.1 S.2.2.2.2.2.2.1 S.2.2.2.2.2.2.2] (some (.int y)) [bX2 G q o S.1 S.2.1 S.2.2.1 S.2.2.2.1 S.2.2.2.2.1 S.2.2.2.2.2.1 S.2.2.2.2.2.2.1 S.2.2.2.2.2.2.2] := by
  refine z_met zc_X2_everyone (Nat.le_of_ble_eq_true rfl) ?_
  intro p e s m below meth c A ls hZ hl hw
  have hl : lv_has ls 1 [(0, .ref (q (o + 0)))] := hl
  obtain ⟨hS0, hr, hlk, hK, hA, hT⟩ := id hZ
  have hx := hS0.1
  have hb := hS0.2.1
  have hml := hS0.2.2.1
  have hown : s.vm.findClass RX2 = some m.cls := hS0.2.2.2.1
  have hts := hS0.2.2.2.2
  unfold f_X2_everyone at hf
  refine lv_iconst (v := 1) hx hb dX2_everyone_0 rfl ?_
  refine lv_aload_n hx hb dX2_everyone_1 rfl (lv_at hl 0 rfl) ?_
  refine z_get hS0 in_X2_everyone_X2 hK hw 0 5 rfl rfl rfl (by decide) (hts _ m_X2_everyone_0) (v := .int S.2.2.2.2.2.1) rfl dX2_everyone_2 ?_
  refine lv_ishl hx hb dX2_everyone_5 ?_
  refine lv_iconst (v := 1) hx hb dX2_everyone_6 rfl ?_
  refine lv_isub hx hb dX2_everyone_7 ?_
  cases hf
  exact z_iret hx hb hr hlk hw dX2_everyone_8
theorem zc_X2_wallFavours : zC yX2_wallFavours wsX2_wallFavours cX2_wallFavours 8 (some .int) 3 := ⟨⟨_, rfl⟩, by decide +kernel, by decide +kernel, by decide +kernel, by decide +kernel⟩
theorem m_X2_wallFavours_0 : (.fieldLink RX2 38 "CellKeys$Jail" "blindOnes" "I" : Cond) ∈ wsX2_wallFavours := by decide +kernel
theorem in_X2_wallFavours_X2 : ∀ w ∈ u_ws RX2 TX2 8, w ∈ wsX2_wallFavours := by decide +kernel
set_option maxHeartbeats 4000000 in
set_option maxRecDepth 100000 in
theorem k_X2_wallFavours_57 {p : Program} {l : Launch} {e : Env} {s : State} {m : MethodId} {args : Array Value} {below : List Frame} {meth : Method} {c : Code} {A : Nat → Prop} {G : zG} {q : Nat → Nat} {o : Nat}  (hZ : zZ p s m args meth c A G cX2_wallFavours 8 RX2 wsX2_wallFavours (some .int)) (y : Int32)  : ∀ (S : VX2) (v4 : Int32) (v5 : Int32) (v6 : Int32) (t0 : Int32) (H : Heap) (locs : List Loc) (ls : Array Slot), f_X2_wallFavours_57 S v4 v5 v6 t0 = some y → zH G A s.heap [bX2 G q o S.1 S.2.1 S.2.2.1 S.2.2.2.1 S.2.2.2.2.1 S.2.2.2.2.2.1 S.2.2.2.2.2.2.1 S.2.2.2.2.2.2.2] H locs → lv_has ls 8 [(0, .ref (q (o + 0))), (4, .int v4), (5, .int v5), (6, .int v6)] → W p l e { frames := 0, cells := 0, slots := 0, locals := 0 } s m args below meth c H locs 0 0 (MQ below (zQ (some (.int y)) (zPost G [bX2 G q o S.1 S.2.1 S.2.2.1 S.2.2.2.1 S.2.2.2.2.1 S.2.2.2.2.2.1 S.2.2.2.2.2.2.1 S.2.2.2.2.2.2.2]) A) args s 0 0 A) (F0 m 57 ls [.int t0]) := by
  obtain ⟨hS0, hr, hlk, hK, hA, hT⟩ := id hZ
  have hx := hS0.1
  have hb := hS0.2.1
  have hml := hS0.2.2.1
  have hown : s.vm.findClass RX2 = some m.cls := hS0.2.2.2.1
  have hts := hS0.2.2.2.2
  intro S v4 v5 v6 t0 H locs ls hf hw hl
  unfold f_X2_wallFavours_57 at hf
  refine lv_istore (lv' := [(7, .int t0), (0, .ref (q (o + 0))), (4, .int v4), (5, .int v5), (6, .int v6)]) hx hb dX2_wallFavours_57 hl (by decide) rfl (fun ls hl => ?_)
  refine lv_iload hx hb dX2_wallFavours_59 (lv_at hl 0 rfl) ?_
  refine lv_if_eq (tgt := 82) hx hb dX2_wallFavours_61 rfl (fun hc => ?_) (fun hc => ?_)
  · have hf := z_t hc hf
    refine lv_bipush (v := (-9)) hx hb dX2_wallFavours_82 rfl ?_
    cases hf
    exact z_iret hx hb hr hlk hw dX2_wallFavours_84
  · have hf := z_f hc hf
    refine lv_iload hx hb dX2_wallFavours_64 (lv_at hl 4 rfl) ?_
    refine lv_aload_n hx hb dX2_wallFavours_66 rfl (lv_at hl 1 rfl) ?_
    refine z_get hS0 in_X2_wallFavours_X2 hK hw 0 7 rfl rfl rfl (by decide) (hts _ m_X2_wallFavours_0) (v := .int S.2.2.2.2.2.2.2) rfl dX2_wallFavours_67 ?_
    refine lv_iand hx hb dX2_wallFavours_70 ?_
    refine lv_if_ne (tgt := 82) hx hb dX2_wallFavours_71 rfl (fun hc => ?_) (fun hc => ?_)
    · have hf := z_f hc hf
      refine lv_bipush (v := (-9)) hx hb dX2_wallFavours_82 rfl ?_
      cases hf
      exact z_iret hx hb hr hlk hw dX2_wallFavours_84
    · have hf := z_t hc hf
      refine lv_iload hx hb dX2_wallFavours_74 (lv_at hl 3 rfl) ?_
      refine lv_iload hx hb dX2_wallFavours_76 (lv_at hl 2 rfl) ?_
      refine lv_isub hx hb dX2_wallFavours_78 ?_
      refine lv_goto (tgt := 84) hx hb dX2_wallFavours_79 rfl ?_
      cases hf
      exact z_iret hx hb hr hlk hw dX2_wallFavours_84
set_option maxHeartbeats 4000000 in
set_option maxRecDepth 100000 in
theorem k_X2_wallFavours_22 {p : Program} {l : Launch} {e : Env} {s : State} {m : MethodId} {args : Array Value} {below : List Frame} {meth : Method} {c : Code} {A : Nat → Prop} {G : zG} {q : Nat → Nat} {o : Nat}  (hZ : zZ p s m args meth c A G cX2_wallFavours 8 RX2 wsX2_wallFavours (some .int)) (y : Int32)  : ∀ (S : VX2) (v1 : Int32) (v3 : Int32) (v4 : Int32) (t0 : Int32) (H : Heap) (locs : List Loc) (ls : Array Slot), f_X2_wallFavours_22 S v1 v3 v4 t0 = some y → zH G A s.heap [bX2 G q o S.1 S.2.1 S.2.2.1 S.2.2.2.1 S.2.2.2.2.1 S.2.2.2.2.2.1 S.2.2.2.2.2.2.1 S.2.2.2.2.2.2.2] H locs → lv_has ls 8 [(0, .ref (q (o + 0))), (1, .int v1), (3, .int v3), (4, .int v4)] → W p l e { frames := 0, cells := 0, slots := 0, locals := 0 } s m args below meth c H locs 0 0 (MQ below (zQ (some (.int y)) (zPost G [bX2 G q o S.1 S.2.1 S.2.2.1 S.2.2.2.1 S.2.2.2.2.1 S.2.2.2.2.2.1 S.2.2.2.2.2.2.1 S.2.2.2.2.2.2.2]) A) args s 0 0 A) (F0 m 22 ls [.int t0]) := by
  obtain ⟨hS0, hr, hlk, hK, hA, hT⟩ := id hZ
  have hx := hS0.1
  have hb := hS0.2.1
  have hml := hS0.2.2.1
  have hown : s.vm.findClass RX2 = some m.cls := hS0.2.2.2.1
  have hts := hS0.2.2.2.2
  intro S v1 v3 v4 t0 H locs ls hf hw hl
  unfold f_X2_wallFavours_22 at hf
  refine lv_istore (lv' := [(5, .int t0), (0, .ref (q (o + 0))), (1, .int v1), (3, .int v3), (4, .int v4)]) hx hb dX2_wallFavours_22 hl (by decide) rfl (fun ls hl => ?_)
  refine lv_iconst (v := 1) hx hb dX2_wallFavours_24 rfl ?_
  refine lv_iload hx hb dX2_wallFavours_25 (lv_at hl 0 rfl) ?_
  refine lv_iconst (v := 1) hx hb dX2_wallFavours_27 rfl ?_
  refine lv_iadd hx hb dX2_wallFavours_28 ?_
  refine lv_ishl hx hb dX2_wallFavours_29 ?_
  refine lv_iconst (v := 1) hx hb dX2_wallFavours_30 rfl ?_
  refine lv_iload hx hb dX2_wallFavours_31 (lv_at hl 4 rfl) ?_
  refine lv_ishl hx hb dX2_wallFavours_33 ?_
  refine lv_isub hx hb dX2_wallFavours_34 ?_
  refine lv_istore (lv' := [(6, .int (((1 : Int32) <<< ((t0 + (1 : Int32)) &&& 31)) - ((1 : Int32) <<< (v4 &&& 31)))), (5, .int t0), (0, .ref (q (o + 0))), (1, .int v1), (3, .int v3), (4, .int v4)]) hx hb dX2_wallFavours_35 hl (by decide) rfl (fun ls hl => ?_)
  refine lv_iload hx hb dX2_wallFavours_37 (lv_at hl 0 rfl) ?_
  refine lv_iconst (v := 1) hx hb dX2_wallFavours_39 rfl ?_
  refine lv_iload_n hx hb dX2_wallFavours_40 rfl (lv_at hl 3 rfl) ?_
  refine lv_ishl hx hb dX2_wallFavours_41 ?_
  refine lv_iconst (v := (-1)) hx hb dX2_wallFavours_42 rfl ?_
  refine lv_ixor hx hb dX2_wallFavours_43 ?_
  refine lv_iand hx hb dX2_wallFavours_44 ?_
  refine lv_iload_n hx hb dX2_wallFavours_45 rfl (lv_at hl 4 rfl) ?_
  refine lv_iconst (v := (-1)) hx hb dX2_wallFavours_46 rfl ?_
  refine lv_ixor hx hb dX2_wallFavours_47 ?_
  refine lv_iand hx hb dX2_wallFavours_48 ?_
  refine lv_if_ne (tgt := 56) hx hb dX2_wallFavours_49 rfl (fun hc => ?_) (fun hc => ?_)
  · have hf := z_f hc hf
    refine lv_iconst (v := 0) hx hb dX2_wallFavours_56 rfl ?_
    exact k_X2_wallFavours_57 hZ _ _ _ _ _ _ _ _ _ hf hw (lv_sub hl [2, 5, 1, 0] rfl)
  · have hf := z_t hc hf
    refine lv_iconst (v := 1) hx hb dX2_wallFavours_52 rfl ?_
    refine lv_goto (tgt := 57) hx hb dX2_wallFavours_53 rfl ?_
    exact k_X2_wallFavours_57 hZ _ _ _ _ _ _ _ _ _ hf hw (lv_sub hl [2, 5, 1, 0] rfl)
set_option maxHeartbeats 4000000 in
set_option maxRecDepth 100000 in
theorem k_X2_wallFavours_10 {p : Program} {l : Launch} {e : Env} {s : State} {m : MethodId} {args : Array Value} {below : List Frame} {meth : Method} {c : Code} {A : Nat → Prop} {G : zG} {q : Nat → Nat} {o : Nat}  (hZ : zZ p s m args meth c A G cX2_wallFavours 8 RX2 wsX2_wallFavours (some .int)) (y : Int32)  : ∀ (S : VX2) (v1 : Int32) (v2 : Int32) (v3 : Int32) (t0 : Int32) (H : Heap) (locs : List Loc) (ls : Array Slot), f_X2_wallFavours_10 S v1 v2 v3 t0 = some y → zH G A s.heap [bX2 G q o S.1 S.2.1 S.2.2.1 S.2.2.2.1 S.2.2.2.2.1 S.2.2.2.2.2.1 S.2.2.2.2.2.2.1 S.2.2.2.2.2.2.2] H locs → lv_has ls 8 [(0, .ref (q (o + 0))), (1, .int v1), (2, .int v2), (3, .int v3)] → W p l e { frames := 0, cells := 0, slots := 0, locals := 0 } s m args below meth c H locs 0 0 (MQ below (zQ (some (.int y)) (zPost G [bX2 G q o S.1 S.2.1 S.2.2.1 S.2.2.2.1 S.2.2.2.2.1 S.2.2.2.2.2.1 S.2.2.2.2.2.2.1 S.2.2.2.2.2.2.2]) A) args s 0 0 A) (F0 m 10 ls [.int t0]) := by
  obtain ⟨hS0, hr, hlk, hK, hA, hT⟩ := id hZ
  have hx := hS0.1
  have hb := hS0.2.1
  have hml := hS0.2.2.1
  have hown : s.vm.findClass RX2 = some m.cls := hS0.2.2.2.1
  have hts := hS0.2.2.2.2
  intro S v1 v2 v3 t0 H locs ls hf hw hl
  unfold f_X2_wallFavours_10 at hf
  refine lv_istore (lv' := [(4, .int t0), (0, .ref (q (o + 0))), (1, .int v1), (2, .int v2), (3, .int v3)]) hx hb dX2_wallFavours_10 hl (by decide) rfl (fun ls hl => ?_)
  refine lv_iload_n hx hb dX2_wallFavours_12 rfl (lv_at hl 2 rfl) ?_
  refine lv_iload_n hx hb dX2_wallFavours_13 rfl (lv_at hl 3 rfl) ?_
  refine lv_icmp_ge (tgt := 21) hx hb dX2_wallFavours_14 rfl (fun hc => ?_) (fun hc => ?_)
  · have hf := z_t hc hf
    refine lv_iload_n hx hb dX2_wallFavours_21 rfl (lv_at hl 2 rfl) ?_
    exact k_X2_wallFavours_22 hZ _ _ _ _ _ _ _ _ _ hf hw (lv_sub hl [1, 2, 4, 0] rfl)
  · have hf := z_f hc hf
    refine lv_iload_n hx hb dX2_wallFavours_17 rfl (lv_at hl 3 rfl) ?_
    refine lv_goto (tgt := 22) hx hb dX2_wallFavours_18 rfl ?_
    exact k_X2_wallFavours_22 hZ _ _ _ _ _ _ _ _ _ hf hw (lv_sub hl [1, 2, 4, 0] rfl)
set_option maxHeartbeats 4000000 in
set_option maxRecDepth 100000 in
theorem c_X2_wallFavours (l : Launch) (G : zG) (q : Nat → Nat) (o : Nat) (S : VX2) (v1 : Int32) (v2 : Int32) (v3 : Int32) (y : Int32) (hf : f_X2_wallFavours S v1 v2 v3 = some y) : zMet l yX2_wallFavours wsX2_wallFavours 0 0 G [.ref (q (o + 0)), .int v1, .int v2, .int v3] [bX2 G q o S.1 S.2.1 S.2.2.1 S.2.2.2.1 S.2.2.2.2.1 S.2.2.2.2.2.1 S.2.2.2.2.2.2.1 S.2.2.2.2.2.2.2] (some (.int y)) [bX2 G q o S.1 S.2.1 S.2.2.1 S.2.2.2.1 S.2.2.2.2.1 S.2.2.2.2.2.1 S.2.2.2.2.2.2.1 S.2.2.2.2.2.2.2] := by
  refine z_met zc_X2_wallFavours (Nat.le_of_ble_eq_true rfl) ?_
  intro p e s m below meth c A ls hZ hl hw
  have hl : lv_has ls 8 [(0, .ref (q (o + 0))), (1, .int v1), (2, .int v2), (3, .int v3)] := hl
  obtain ⟨hS0, hr, hlk, hK, hA, hT⟩ := id hZ
  have hx := hS0.1
  have hb := hS0.2.1
  have hml := hS0.2.2.1
  have hown : s.vm.findClass RX2 = some m.cls := hS0.2.2.2.1
  have hts := hS0.2.2.2.2
  unfold f_X2_wallFavours at hf
  refine lv_iload_n hx hb dX2_wallFavours_0 rfl (lv_at hl 1 rfl) ?_
  refine lv_iload_n hx hb dX2_wallFavours_1 rfl (lv_at hl 2 rfl) ?_
  refine lv_icmp_ge (tgt := 9) hx hb dX2_wallFavours_2 rfl (fun hc => ?_) (fun hc => ?_)
  · have hf := z_t hc hf
    refine lv_iload_n hx hb dX2_wallFavours_9 rfl (lv_at hl 2 rfl) ?_
    exact k_X2_wallFavours_10 hZ _ _ _ _ _ _ _ _ _ hf hw (lv_sub hl [0, 1, 2, 3] rfl)
  · have hf := z_f hc hf
    refine lv_iload_n hx hb dX2_wallFavours_5 rfl (lv_at hl 1 rfl) ?_
    refine lv_goto (tgt := 10) hx hb dX2_wallFavours_6 rfl ?_
    exact k_X2_wallFavours_10 hZ _ _ _ _ _ _ _ _ _ hf hw (lv_sub hl [0, 1, 2, 3] rfl)
theorem zc_X2_keyFavours : zC yX2_keyFavours wsX2_keyFavours cX2_keyFavours 9 (some .int) 4 := ⟨⟨_, rfl⟩, by decide +kernel, by decide +kernel, by decide +kernel, by decide +kernel⟩
theorem m_X2_keyFavours_0 : (.fieldLink RX2 24 "CellKeys$Jail" "foes" "[I" : Cond) ∈ wsX2_keyFavours := by decide +kernel
theorem in_X2_keyFavours_X2 : ∀ w ∈ u_ws RX2 TX2 8, w ∈ wsX2_keyFavours := by decide +kernel
theorem m_X2_keyFavours_1 : (.fieldLink RX2 35 "CellKeys$Jail" "sprungOnes" "I" : Cond) ∈ wsX2_keyFavours := by decide +kernel
set_option maxHeartbeats 4000000 in
set_option maxRecDepth 100000 in
theorem k_X2_keyFavours_104 {p : Program} {l : Launch} {e : Env} {s : State} {m : MethodId} {args : Array Value} {below : List Frame} {meth : Method} {c : Code} {A : Nat → Prop} {G : zG} {q : Nat → Nat} {o : Nat}  (hZ : zZ p s m args meth c A G cX2_keyFavours 9 RX2 wsX2_keyFavours (some .int)) (y : Int32)  : ∀ (S : VX2) (v7 : Int32) (t0 : Int32) (H : Heap) (locs : List Loc) (ls : Array Slot), f_X2_keyFavours_104 S v7 t0 = some y → zH G A s.heap [bX2 G q o S.1 S.2.1 S.2.2.1 S.2.2.2.1 S.2.2.2.2.1 S.2.2.2.2.2.1 S.2.2.2.2.2.2.1 S.2.2.2.2.2.2.2] H locs → lv_has ls 9 [(7, .int v7)] → W p l e { frames := 1, cells := 0, slots := 0, locals := 27 } s m args below meth c H locs 0 0 (MQ below (zQ (some (.int y)) (zPost G [bX2 G q o S.1 S.2.1 S.2.2.1 S.2.2.2.1 S.2.2.2.2.1 S.2.2.2.2.2.1 S.2.2.2.2.2.2.1 S.2.2.2.2.2.2.2]) A) args s 0 0 A) (F0 m 104 ls [.int t0]) := by
  obtain ⟨hS0, hr, hlk, hK, hA, hT⟩ := id hZ
  have hx := hS0.1
  have hb := hS0.2.1
  have hml := hS0.2.2.1
  have hown : s.vm.findClass RX2 = some m.cls := hS0.2.2.2.1
  have hts := hS0.2.2.2.2
  intro S v7 t0 H locs ls hf hw hl
  unfold f_X2_keyFavours_104 at hf
  refine lv_istore (lv' := [(8, .int t0), (7, .int v7)]) hx hb dX2_keyFavours_104 hl (by decide) rfl (fun ls hl => ?_)
  refine lv_iload hx hb dX2_keyFavours_106 (lv_at hl 0 rfl) ?_
  refine lv_if_eq (tgt := 115) hx hb dX2_keyFavours_108 rfl (fun hc => ?_) (fun hc => ?_)
  · have hf := z_t hc hf
    refine lv_iload hx hb dX2_keyFavours_115 (lv_at hl 1 rfl) ?_
    cases hf
    exact z_iret hx hb hr hlk hw dX2_keyFavours_117
  · have hf := z_f hc hf
    refine lv_iconst (v := 2) hx hb dX2_keyFavours_111 rfl ?_
    refine lv_goto (tgt := 117) hx hb dX2_keyFavours_112 rfl ?_
    cases hf
    exact z_iret hx hb hr hlk hw dX2_keyFavours_117
set_option maxHeartbeats 4000000 in
set_option maxRecDepth 100000 in
theorem c_X2_keyFavours (l : Launch) (G : zG) (q : Nat → Nat) (o : Nat) (S : VX2) (v1 : Int32) (v2 : Int32) (v3 : Int32) (v4 : Int32) (y : Int32) (hf : f_X2_keyFavours S v1 v2 v3 v4 = some y) : zMet l yX2_keyFavours wsX2_keyFavours 1 27 G [.ref (q (o + 0)), .int v1, .int v2, .int v3, .int v4] [bX2 G q o S.1 S.2.1 S.2.2.1 S.2.2.2.1 S.2.2.2.2.1 S.2.2.2.2.2.1 S.2.2.2.2.2.2.1 S.2.2.2.2.2.2.2] (some (.int y)) [bX2 G q o S.1 S.2.1 S.2.2.1 S.2.2.2.1 S.2.2.2.2.1 S.2.2.2.2.2.1 S.2.2.2.2.2.2.1 S.2.2.2.2.2.2.2] := by
  refine z_met zc_X2_keyFavours (Nat.le_of_ble_eq_true rfl) ?_
  intro p e s m below meth c A ls hZ hl hw
  have hl : lv_has ls 9 [(0, .ref (q (o + 0))), (1, .int v1), (2, .int v2), (3, .int v3), (4, .int v4)] := hl
  obtain ⟨hS0, hr, hlk, hK, hA, hT⟩ := id hZ
  have hx := hS0.1
  have hb := hS0.2.1
  have hml := hS0.2.2.1
  have hown : s.vm.findClass RX2 = some m.cls := hS0.2.2.2.1
  have hts := hS0.2.2.2.2
  unfold f_X2_keyFavours at hf
  refine lv_aload_n hx hb dX2_keyFavours_0 rfl (lv_at hl 0 rfl) ?_
  refine lv_iload_n hx hb dX2_keyFavours_1 rfl (lv_at hl 2 rfl) ?_
  obtain ⟨r1, e2, hf⟩ := z_bd hf
  refine z_callV1 (As := [.int v2]) (rest := []) (bs' := [bX2 G q o S.1 S.2.1 S.2.2.1 S.2.2.2.1 S.2.2.2.2.1 S.2.2.2.2.2.1 S.2.2.2.2.2.2.1 S.2.2.2.2.2.2.2]) hS0 (c_X2_isCell l G q o S v2 r1 e2) zc_X2_isCell rfl gX2_keyFavours_X2_isCell ⟨Nat.le_of_ble_eq_true rfl, Nat.le_of_ble_eq_true rfl⟩ hK hA hT hw (is := [0]) rfl rfl rfl rfl rfl rfl rfl hl.1 rfl (Nat.le_of_ble_eq_true rfl) dX2_keyFavours_2 (fun H locs hw => ?_)
  refine lv_if_ne (tgt := 11) hx hb dX2_keyFavours_5 rfl (fun hc => ?_) (fun hc => ?_)
  · have hf := z_f hc hf
    refine lv_iload hx hb dX2_keyFavours_11 (lv_at hl 4 rfl) ?_
    refine lv_aload_n hx hb dX2_keyFavours_13 rfl (lv_at hl 0 rfl) ?_
    refine z_get hS0 in_X2_keyFavours_X2 hK hw 0 4 rfl rfl rfl (by decide) (hts _ m_X2_keyFavours_0) (v := .ref (q (o + 5))) rfl dX2_keyFavours_14 ?_
    refine lv_iload_n hx hb dX2_keyFavours_17 rfl (lv_at hl 1 rfl) ?_
    obtain ⟨g3, hf⟩ := z_gd hf
    refine z_iald hS0 hK hw 0 5 (zIn_vp g3) rfl rfl dX2_keyFavours_18 ?_
    refine lv_iconst (v := (-1)) hx hb dX2_keyFavours_19 rfl ?_
    refine lv_ixor hx hb dX2_keyFavours_20 ?_
    refine lv_iand hx hb dX2_keyFavours_21 ?_
    refine lv_iconst (v := 1) hx hb dX2_keyFavours_22 rfl ?_
    refine lv_iload_n hx hb dX2_keyFavours_23 rfl (lv_at hl 1 rfl) ?_
    refine lv_ishl hx hb dX2_keyFavours_24 ?_
    refine lv_iconst (v := (-1)) hx hb dX2_keyFavours_25 rfl ?_
    refine lv_ixor hx hb dX2_keyFavours_26 ?_
    refine lv_iand hx hb dX2_keyFavours_27 ?_
    refine lv_istore (lv' := [(5, .int ((v4 &&& ((S.2.2.2.2.1 v1.toNatClampNeg) ^^^ ((-1) : Int32))) &&& (((1 : Int32) <<< (v1 &&& 31)) ^^^ ((-1) : Int32)))), (0, .ref (q (o + 0))), (1, .int v1), (2, .int v2), (3, .int v3), (4, .int v4)]) hx hb dX2_keyFavours_28 hl (by decide) rfl (fun ls hl => ?_)
    refine lv_iload hx hb dX2_keyFavours_30 (lv_at hl 0 rfl) ?_
    refine lv_iload_n hx hb dX2_keyFavours_32 rfl (lv_at hl 3 rfl) ?_
    refine lv_ishr hx hb dX2_keyFavours_33 ?_
    refine lv_iconst (v := 1) hx hb dX2_keyFavours_34 rfl ?_
    refine lv_iand hx hb dX2_keyFavours_35 ?_
    refine lv_if_ne (tgt := 42) hx hb dX2_keyFavours_36 rfl (fun hc => ?_) (fun hc => ?_)
    · have hf := z_f hc hf
      refine lv_iload_n hx hb dX2_keyFavours_42 rfl (lv_at hl 4 rfl) ?_
      refine lv_iload hx hb dX2_keyFavours_43 (lv_at hl 0 rfl) ?_
      refine lv_iand hx hb dX2_keyFavours_45 ?_
      refine lv_aload_n hx hb dX2_keyFavours_46 rfl (lv_at hl 1 rfl) ?_
      refine z_get hS0 in_X2_keyFavours_X2 hK hw 0 6 rfl rfl rfl (by decide) (hts _ m_X2_keyFavours_1) (v := .int S.2.2.2.2.2.2.1) rfl dX2_keyFavours_47 ?_
      refine lv_iconst (v := (-1)) hx hb dX2_keyFavours_50 rfl ?_
      refine lv_ixor hx hb dX2_keyFavours_51 ?_
      refine lv_iand hx hb dX2_keyFavours_52 ?_
      refine lv_istore (lv' := [(6, .int ((v3 &&& ((v4 &&& ((S.2.2.2.2.1 v1.toNatClampNeg) ^^^ ((-1) : Int32))) &&& (((1 : Int32) <<< (v1 &&& 31)) ^^^ ((-1) : Int32)))) &&& (S.2.2.2.2.2.2.1 ^^^ ((-1) : Int32)))), (5, .int ((v4 &&& ((S.2.2.2.2.1 v1.toNatClampNeg) ^^^ ((-1) : Int32))) &&& (((1 : Int32) <<< (v1 &&& 31)) ^^^ ((-1) : Int32)))), (0, .ref (q (o + 0))), (1, .int v1), (2, .int v2), (3, .int v3), (4, .int v4)]) hx hb dX2_keyFavours_53 hl (by decide) rfl (fun ls hl => ?_)
      refine lv_iload hx hb dX2_keyFavours_55 (lv_at hl 0 rfl) ?_
      refine lv_iload_n hx hb dX2_keyFavours_57 rfl (lv_at hl 4 rfl) ?_
      refine lv_ishr hx hb dX2_keyFavours_58 ?_
      refine lv_iconst (v := 1) hx hb dX2_keyFavours_59 rfl ?_
      refine lv_iand hx hb dX2_keyFavours_60 ?_
      refine lv_iconst (v := 1) hx hb dX2_keyFavours_61 rfl ?_
      refine lv_icmp_ne (tgt := 67) hx hb dX2_keyFavours_62 rfl (fun hc => ?_) (fun hc => ?_)
      · have hf := z_f hc hf
        refine lv_aload_n hx hb dX2_keyFavours_67 rfl (lv_at hl 2 rfl) ?_
        refine lv_iload_n hx hb dX2_keyFavours_68 rfl (lv_at hl 3 rfl) ?_
        refine lv_iload_n hx hb dX2_keyFavours_69 rfl (lv_at hl 4 rfl) ?_
        refine lv_iload hx hb dX2_keyFavours_70 (lv_at hl 1 rfl) ?_
        refine lv_iload_n hx hb dX2_keyFavours_72 rfl (lv_at hl 5 rfl) ?_
        refine lv_iconst (v := (-1)) hx hb dX2_keyFavours_73 rfl ?_
        refine lv_ixor hx hb dX2_keyFavours_74 ?_
        refine lv_iand hx hb dX2_keyFavours_75 ?_
        obtain ⟨r4, e5, hf⟩ := z_bd hf
        refine z_callV1 (As := [.int v1, .int v2, .int (((v4 &&& ((S.2.2.2.2.1 v1.toNatClampNeg) ^^^ ((-1) : Int32))) &&& (((1 : Int32) <<< (v1 &&& 31)) ^^^ ((-1) : Int32))) &&& (v3 ^^^ ((-1) : Int32)))]) (rest := []) (bs' := [bX2 G q o S.1 S.2.1 S.2.2.1 S.2.2.2.1 S.2.2.2.2.1 S.2.2.2.2.2.1 S.2.2.2.2.2.2.1 S.2.2.2.2.2.2.2]) hS0 (c_X2_wallFavours l G q o S v1 v2 (((v4 &&& ((S.2.2.2.2.1 v1.toNatClampNeg) ^^^ ((-1) : Int32))) &&& (((1 : Int32) <<< (v1 &&& 31)) ^^^ ((-1) : Int32))) &&& (v3 ^^^ ((-1) : Int32))) r4 e5) zc_X2_wallFavours rfl gX2_keyFavours_X2_wallFavours ⟨Nat.le_of_ble_eq_true rfl, Nat.le_of_ble_eq_true rfl⟩ hK hA hT hw (is := [0]) rfl rfl rfl rfl rfl rfl rfl hl.1 rfl (Nat.le_of_ble_eq_true rfl) dX2_keyFavours_76 (fun H locs hw => ?_)
        refine lv_istore (lv' := [(7, .int r4), (6, .int ((v3 &&& ((v4 &&& ((S.2.2.2.2.1 v1.toNatClampNeg) ^^^ ((-1) : Int32))) &&& (((1 : Int32) <<< (v1 &&& 31)) ^^^ ((-1) : Int32)))) &&& (S.2.2.2.2.2.2.1 ^^^ ((-1) : Int32)))), (5, .int ((v4 &&& ((S.2.2.2.2.1 v1.toNatClampNeg) ^^^ ((-1) : Int32))) &&& (((1 : Int32) <<< (v1 &&& 31)) ^^^ ((-1) : Int32)))), (0, .ref (q (o + 0))), (1, .int v1), (2, .int v2), (3, .int v3), (4, .int v4)]) hx hb dX2_keyFavours_79 hl (by decide) rfl (fun ls hl => ?_)
        refine lv_iload hx hb dX2_keyFavours_81 (lv_at hl 1 rfl) ?_
        refine lv_if_eq (tgt := 103) hx hb dX2_keyFavours_83 rfl (fun hc => ?_) (fun hc => ?_)
        · have hf := z_t hc hf
          refine lv_iconst (v := 0) hx hb dX2_keyFavours_103 rfl ?_
          exact k_X2_keyFavours_104 hZ _ _ _ _ _ _ _ hf hw (lv_sub hl [0] rfl)
        · have hf := z_f hc hf
          refine lv_iload hx hb dX2_keyFavours_86 (lv_at hl 0 rfl) ?_
          refine lv_bipush (v := (-9)) hx hb dX2_keyFavours_88 rfl ?_
          refine lv_icmp_eq (tgt := 99) hx hb dX2_keyFavours_90 rfl (fun hc => ?_) (fun hc => ?_)
          · have hf := z_t hc hf
            refine lv_iconst (v := 1) hx hb dX2_keyFavours_99 rfl ?_
            refine lv_goto (tgt := 104) hx hb dX2_keyFavours_100 rfl ?_
            exact k_X2_keyFavours_104 hZ _ _ _ _ _ _ _ hf hw (lv_sub hl [0] rfl)
          · have hf := z_f hc hf
            refine lv_iload hx hb dX2_keyFavours_93 (lv_at hl 0 rfl) ?_
            refine lv_iconst (v := 2) hx hb dX2_keyFavours_95 rfl ?_
            refine lv_icmp_le (tgt := 103) hx hb dX2_keyFavours_96 rfl (fun hc => ?_) (fun hc => ?_)
            · have hf := z_t hc hf
              refine lv_iconst (v := 0) hx hb dX2_keyFavours_103 rfl ?_
              exact k_X2_keyFavours_104 hZ _ _ _ _ _ _ _ hf hw (lv_sub hl [0] rfl)
            · have hf := z_f hc hf
              refine lv_iconst (v := 1) hx hb dX2_keyFavours_99 rfl ?_
              refine lv_goto (tgt := 104) hx hb dX2_keyFavours_100 rfl ?_
              exact k_X2_keyFavours_104 hZ _ _ _ _ _ _ _ hf hw (lv_sub hl [0] rfl)
      · have hf := z_t hc hf
        refine lv_iconst (v := 1) hx hb dX2_keyFavours_65 rfl ?_
        cases hf
        exact z_iret hx hb hr hlk hw dX2_keyFavours_66
    · have hf := z_t hc hf
      refine lv_bipush (v := (-9)) hx hb dX2_keyFavours_39 rfl ?_
      cases hf
      exact z_iret hx hb hr hlk hw dX2_keyFavours_41
  · have hf := z_t hc hf
    refine lv_bipush (v := (-9)) hx hb dX2_keyFavours_8 rfl ?_
    cases hf
    exact z_iret hx hb hr hlk hw dX2_keyFavours_10
theorem zc_X2_favoursFor : zC yX2_favoursFor wsX2_favoursFor cX2_favoursFor 6 (some .int) 3 := ⟨⟨_, rfl⟩, by decide +kernel, by decide +kernel, by decide +kernel, by decide +kernel⟩
theorem m_X2_favoursFor_0 : (.fieldLink RX2 15 "CellKeys$Jail" "keepers" "[I" : Cond) ∈ wsX2_favoursFor := by decide +kernel
theorem in_X2_favoursFor_X2 : ∀ w ∈ u_ws RX2 TX2 8, w ∈ wsX2_favoursFor := by decide +kernel
theorem m_X2_favoursFor_1 : (.fieldLink RX2 18 "CellKeys$Jail" "otherKeepers" "[I" : Cond) ∈ wsX2_favoursFor := by decide +kernel
theorem m_X2_favoursFor_2 : (.fieldLink RX2 9 "CellKeys$Jail" "kinds" "[I" : Cond) ∈ wsX2_favoursFor := by decide +kernel
theorem m_X2_favoursFor_3 : (.fieldLink RX2 21 "CellKeys$Jail" "lates" "[I" : Cond) ∈ wsX2_favoursFor := by decide +kernel
set_option maxHeartbeats 4000000 in
set_option maxRecDepth 100000 in
theorem k_X2_favoursFor_56 {p : Program} {l : Launch} {e : Env} {s : State} {m : MethodId} {args : Array Value} {below : List Frame} {meth : Method} {c : Code} {A : Nat → Prop} {G : zG} {q : Nat → Nat} {o : Nat}  (hZ : zZ p s m args meth c A G cX2_favoursFor 6 RX2 wsX2_favoursFor (some .int)) (y : Int32)  : ∀ (S : VX2) (v1 : Int32) (v2 : Int32) (v3 : Int32) (H : Heap) (locs : List Loc) (ls : Array Slot), f_X2_favoursFor_56 S v1 v2 v3 = some y → zH G A s.heap [bX2 G q o S.1 S.2.1 S.2.2.1 S.2.2.2.1 S.2.2.2.2.1 S.2.2.2.2.2.1 S.2.2.2.2.2.2.1 S.2.2.2.2.2.2.2] H locs → lv_has ls 6 [(0, .ref (q (o + 0))), (1, .int v1), (2, .int v2), (3, .int v3)] → W p l e { frames := 2, cells := 0, slots := 0, locals := 55 } s m args below meth c H locs 0 0 (MQ below (zQ (some (.int y)) (zPost G [bX2 G q o S.1 S.2.1 S.2.2.1 S.2.2.2.1 S.2.2.2.2.1 S.2.2.2.2.2.1 S.2.2.2.2.2.2.1 S.2.2.2.2.2.2.2]) A) args s 0 0 A) (F0 m 56 ls []) := by
  obtain ⟨hS0, hr, hlk, hK, hA, hT⟩ := id hZ
  have hx := hS0.1
  have hb := hS0.2.1
  have hml := hS0.2.2.1
  have hown : s.vm.findClass RX2 = some m.cls := hS0.2.2.2.1
  have hts := hS0.2.2.2.2
  intro S v1 v2 v3 H locs ls hf hw hl
  unfold f_X2_favoursFor_56 at hf
  refine lv_aload_n hx hb dX2_favoursFor_56 rfl (lv_at hl 0 rfl) ?_
  refine lv_iload_n hx hb dX2_favoursFor_57 rfl (lv_at hl 1 rfl) ?_
  refine lv_aload_n hx hb dX2_favoursFor_58 rfl (lv_at hl 0 rfl) ?_
  refine z_get hS0 in_X2_favoursFor_X2 hK hw 0 1 rfl rfl rfl (by decide) (hts _ m_X2_favoursFor_0) (v := .ref (q (o + 2))) rfl dX2_favoursFor_59 ?_
  refine lv_iload_n hx hb dX2_favoursFor_62 rfl (lv_at hl 1 rfl) ?_
  obtain ⟨g1, hf⟩ := z_gd hf
  refine z_iald hS0 hK hw 0 2 (zIn_vp g1) rfl rfl dX2_favoursFor_63 ?_
  refine lv_iload_n hx hb dX2_favoursFor_64 rfl (lv_at hl 2 rfl) ?_
  refine lv_iload_n hx hb dX2_favoursFor_65 rfl (lv_at hl 3 rfl) ?_
  obtain ⟨r2, e3, hf⟩ := z_bd hf
  refine z_callV1 (As := [.int v1, .int (S.2.1 v1.toNatClampNeg), .int v2, .int v3]) (rest := []) (bs' := [bX2 G q o S.1 S.2.1 S.2.2.1 S.2.2.2.1 S.2.2.2.2.1 S.2.2.2.2.2.1 S.2.2.2.2.2.2.1 S.2.2.2.2.2.2.2]) hS0 (c_X2_keyFavours l G q o S v1 (S.2.1 v1.toNatClampNeg) v2 v3 r2 e3) zc_X2_keyFavours rfl gX2_favoursFor_X2_keyFavours ⟨Nat.le_of_ble_eq_true rfl, Nat.le_of_ble_eq_true rfl⟩ hK hA hT hw (is := [0]) rfl rfl rfl rfl rfl rfl rfl hl.1 rfl (Nat.le_of_ble_eq_true rfl) dX2_favoursFor_66 (fun H locs hw => ?_)
  refine lv_istore (lv' := [(4, .int r2), (0, .ref (q (o + 0))), (1, .int v1), (2, .int v2), (3, .int v3)]) hx hb dX2_favoursFor_69 hl (by decide) rfl (fun ls hl => ?_)
  refine lv_iload hx hb dX2_favoursFor_71 (lv_at hl 0 rfl) ?_
  refine lv_bipush (v := (-9)) hx hb dX2_favoursFor_73 rfl ?_
  refine lv_icmp_eq (tgt := 87) hx hb dX2_favoursFor_75 rfl (fun hc => ?_) (fun hc => ?_)
  · have hf := z_t hc hf
    refine lv_iload hx hb dX2_favoursFor_87 (lv_at hl 0 rfl) ?_
    cases hf
    exact z_iret hx hb hr hlk hw dX2_favoursFor_89
  · have hf := z_f hc hf
    refine lv_aload_n hx hb dX2_favoursFor_78 rfl (lv_at hl 1 rfl) ?_
    refine lv_iload_n hx hb dX2_favoursFor_79 rfl (lv_at hl 2 rfl) ?_
    refine lv_iconst (v := 1) hx hb dX2_favoursFor_80 rfl ?_
    obtain ⟨r4, e5, hf⟩ := z_bd hf
    refine z_callV1 (As := [.int v1, .int 1]) (rest := []) (bs' := [bX2 G q o S.1 S.2.1 S.2.2.1 S.2.2.2.1 S.2.2.2.2.1 S.2.2.2.2.2.1 S.2.2.2.2.2.2.1 S.2.2.2.2.2.2.2]) hS0 (c_X2_isOf l G q o S v1 1 r4 e5) zc_X2_isOf rfl gX2_favoursFor_X2_isOf ⟨Nat.le_of_ble_eq_true rfl, Nat.le_of_ble_eq_true rfl⟩ hK hA hT hw (is := [0]) rfl rfl rfl rfl rfl rfl rfl hl.1 rfl (Nat.le_of_ble_eq_true rfl) dX2_favoursFor_81 (fun H locs hw => ?_)
    refine lv_if_ne (tgt := 90) hx hb dX2_favoursFor_84 rfl (fun hc => ?_) (fun hc => ?_)
    · have hf := z_f hc hf
      refine lv_aload_n hx hb dX2_favoursFor_90 rfl (lv_at hl 1 rfl) ?_
      refine lv_iload_n hx hb dX2_favoursFor_91 rfl (lv_at hl 2 rfl) ?_
      refine lv_aload_n hx hb dX2_favoursFor_92 rfl (lv_at hl 1 rfl) ?_
      refine z_get hS0 in_X2_favoursFor_X2 hK hw 0 2 rfl rfl rfl (by decide) (hts _ m_X2_favoursFor_1) (v := .ref (q (o + 3))) rfl dX2_favoursFor_93 ?_
      refine lv_iload_n hx hb dX2_favoursFor_96 rfl (lv_at hl 2 rfl) ?_
      obtain ⟨g6, hf⟩ := z_gd hf
      refine z_iald hS0 hK hw 0 3 (zIn_vp g6) rfl rfl dX2_favoursFor_97 ?_
      refine lv_iload_n hx hb dX2_favoursFor_98 rfl (lv_at hl 3 rfl) ?_
      refine lv_iload_n hx hb dX2_favoursFor_99 rfl (lv_at hl 4 rfl) ?_
      obtain ⟨r7, e8, hf⟩ := z_bd hf
      refine z_callV1 (As := [.int v1, .int (S.2.2.1 v1.toNatClampNeg), .int v2, .int v3]) (rest := []) (bs' := [bX2 G q o S.1 S.2.1 S.2.2.1 S.2.2.2.1 S.2.2.2.2.1 S.2.2.2.2.2.1 S.2.2.2.2.2.2.1 S.2.2.2.2.2.2.2]) hS0 (c_X2_keyFavours l G q o S v1 (S.2.2.1 v1.toNatClampNeg) v2 v3 r7 e8) zc_X2_keyFavours rfl gX2_favoursFor_X2_keyFavours ⟨Nat.le_of_ble_eq_true rfl, Nat.le_of_ble_eq_true rfl⟩ hK hA hT hw (is := [0]) rfl rfl rfl rfl rfl rfl rfl hl.1 rfl (Nat.le_of_ble_eq_true rfl) dX2_favoursFor_100 (fun H locs hw => ?_)
      refine lv_istore (lv' := [(5, .int r7), (4, .int r2), (0, .ref (q (o + 0))), (1, .int v1), (2, .int v2), (3, .int v3)]) hx hb dX2_favoursFor_103 hl (by decide) rfl (fun ls hl => ?_)
      refine lv_iload hx hb dX2_favoursFor_105 (lv_at hl 0 rfl) ?_
      refine lv_bipush (v := (-9)) hx hb dX2_favoursFor_107 rfl ?_
      refine lv_icmp_ne (tgt := 117) hx hb dX2_favoursFor_109 rfl (fun hc => ?_) (fun hc => ?_)
      · have hf := z_f hc hf
        refine lv_iload hx hb dX2_favoursFor_117 (lv_at hl 1 rfl) ?_
        refine lv_iload hx hb dX2_favoursFor_119 (lv_at hl 0 rfl) ?_
        refine lv_iadd hx hb dX2_favoursFor_121 ?_
        cases hf
        exact z_iret hx hb hr hlk hw dX2_favoursFor_122
      · have hf := z_t hc hf
        refine lv_bipush (v := (-9)) hx hb dX2_favoursFor_112 rfl ?_
        refine lv_goto (tgt := 122) hx hb dX2_favoursFor_114 rfl ?_
        cases hf
        exact z_iret hx hb hr hlk hw dX2_favoursFor_122
    · have hf := z_t hc hf
      refine lv_iload hx hb dX2_favoursFor_87 (lv_at hl 0 rfl) ?_
      cases hf
      exact z_iret hx hb hr hlk hw dX2_favoursFor_89
set_option maxHeartbeats 4000000 in
set_option maxRecDepth 100000 in
theorem c_X2_favoursFor (l : Launch) (G : zG) (q : Nat → Nat) (o : Nat) (S : VX2) (v1 : Int32) (v2 : Int32) (v3 : Int32) (y : Int32) (hf : f_X2_favoursFor S v1 v2 v3 = some y) : zMet l yX2_favoursFor wsX2_favoursFor 2 55 G [.ref (q (o + 0)), .int v1, .int v2, .int v3] [bX2 G q o S.1 S.2.1 S.2.2.1 S.2.2.2.1 S.2.2.2.2.1 S.2.2.2.2.2.1 S.2.2.2.2.2.2.1 S.2.2.2.2.2.2.2] (some (.int y)) [bX2 G q o S.1 S.2.1 S.2.2.1 S.2.2.2.1 S.2.2.2.2.1 S.2.2.2.2.2.1 S.2.2.2.2.2.2.1 S.2.2.2.2.2.2.2] := by
  refine z_met zc_X2_favoursFor (Nat.le_of_ble_eq_true rfl) ?_
  intro p e s m below meth c A ls hZ hl hw
  have hl : lv_has ls 6 [(0, .ref (q (o + 0))), (1, .int v1), (2, .int v2), (3, .int v3)] := hl
  obtain ⟨hS0, hr, hlk, hK, hA, hT⟩ := id hZ
  have hx := hS0.1
  have hb := hS0.2.1
  have hml := hS0.2.2.1
  have hown : s.vm.findClass RX2 = some m.cls := hS0.2.2.2.1
  have hts := hS0.2.2.2.2
  unfold f_X2_favoursFor at hf
  refine lv_aload_n hx hb dX2_favoursFor_0 rfl (lv_at hl 0 rfl) ?_
  refine lv_iload_n hx hb dX2_favoursFor_1 rfl (lv_at hl 1 rfl) ?_
  obtain ⟨r9, e10, hf⟩ := z_bd hf
  refine z_callV1 (As := [.int v1]) (rest := []) (bs' := [bX2 G q o S.1 S.2.1 S.2.2.1 S.2.2.2.1 S.2.2.2.2.1 S.2.2.2.2.2.1 S.2.2.2.2.2.2.1 S.2.2.2.2.2.2.2]) hS0 (c_X2_isCell l G q o S v1 r9 e10) zc_X2_isCell rfl gX2_favoursFor_X2_isCell ⟨Nat.le_of_ble_eq_true rfl, Nat.le_of_ble_eq_true rfl⟩ hK hA hT hw (is := [0]) rfl rfl rfl rfl rfl rfl rfl hl.1 rfl (Nat.le_of_ble_eq_true rfl) dX2_favoursFor_2 (fun H locs hw => ?_)
  refine lv_if_eq (tgt := 16) hx hb dX2_favoursFor_5 rfl (fun hc => ?_) (fun hc => ?_)
  · have hf := z_t hc hf
    refine lv_bipush (v := (-9)) hx hb dX2_favoursFor_16 rfl ?_
    cases hf
    exact z_iret hx hb hr hlk hw dX2_favoursFor_18
  · have hf := z_f hc hf
    refine lv_iload_n hx hb dX2_favoursFor_8 rfl (lv_at hl 3 rfl) ?_
    refine lv_iload_n hx hb dX2_favoursFor_9 rfl (lv_at hl 1 rfl) ?_
    refine lv_ishr hx hb dX2_favoursFor_10 ?_
    refine lv_iconst (v := 1) hx hb dX2_favoursFor_11 rfl ?_
    refine lv_iand hx hb dX2_favoursFor_12 ?_
    refine lv_if_ne (tgt := 19) hx hb dX2_favoursFor_13 rfl (fun hc => ?_) (fun hc => ?_)
    · have hf := z_f hc hf
      refine lv_aload_n hx hb dX2_favoursFor_19 rfl (lv_at hl 0 rfl) ?_
      refine z_get hS0 in_X2_favoursFor_X2 hK hw 0 0 rfl rfl rfl (by decide) (hts _ m_X2_favoursFor_2) (v := .ref (q (o + 1))) rfl dX2_favoursFor_20 ?_
      refine lv_iload_n hx hb dX2_favoursFor_23 rfl (lv_at hl 1 rfl) ?_
      obtain ⟨g11, hf⟩ := z_gd hf
      refine z_iald hS0 hK hw 0 1 (zIn_vp g11) rfl rfl dX2_favoursFor_24 ?_
      refine lv_iconst (v := 2) hx hb dX2_favoursFor_25 rfl ?_
      refine lv_icmp_ne (tgt := 31) hx hb dX2_favoursFor_26 rfl (fun hc => ?_) (fun hc => ?_)
      · have hf := z_f hc hf
        refine lv_aload_n hx hb dX2_favoursFor_31 rfl (lv_at hl 0 rfl) ?_
        refine lv_iload_n hx hb dX2_favoursFor_32 rfl (lv_at hl 1 rfl) ?_
        refine lv_iconst (v := 3) hx hb dX2_favoursFor_33 rfl ?_
        obtain ⟨r12, e13, hf⟩ := z_bd hf
        refine z_callV1 (As := [.int v1, .int 3]) (rest := []) (bs' := [bX2 G q o S.1 S.2.1 S.2.2.1 S.2.2.2.1 S.2.2.2.2.1 S.2.2.2.2.2.1 S.2.2.2.2.2.2.1 S.2.2.2.2.2.2.2]) hS0 (c_X2_isOf l G q o S v1 3 r12 e13) zc_X2_isOf rfl gX2_favoursFor_X2_isOf ⟨Nat.le_of_ble_eq_true rfl, Nat.le_of_ble_eq_true rfl⟩ hK hA hT hw (is := [0]) rfl rfl rfl rfl rfl rfl rfl hl.1 rfl (Nat.le_of_ble_eq_true rfl) dX2_favoursFor_34 (fun H locs hw => ?_)
        refine lv_if_eq (tgt := 56) hx hb dX2_favoursFor_37 rfl (fun hc => ?_) (fun hc => ?_)
        · have hf := z_t hc hf
          exact k_X2_favoursFor_56 hZ _ _ _ _ _ _ _ _ hf hw (lv_sub hl [0, 1, 2, 3] rfl)
        · have hf := z_f hc hf
          refine lv_iload_n hx hb dX2_favoursFor_40 rfl (lv_at hl 2 rfl) ?_
          obtain ⟨r14, e15, hf⟩ := z_bd hf
          refine z_callS1 (As := [.int v2]) (rest := []) (bs' := [bX2 G q o S.1 S.2.1 S.2.2.1 S.2.2.2.1 S.2.2.2.2.1 S.2.2.2.2.2.1 S.2.2.2.2.2.2.1 S.2.2.2.2.2.2.2]) hS0 (c_J6_bitCount_0f7a4 l G v2 r14 e15) zc_J6_bitCount_0f7a4 gX2_favoursFor_J6_bitCount_0f7a4 ⟨Nat.le_of_ble_eq_true rfl, Nat.le_of_ble_eq_true rfl⟩ hK hA hT hw (is := []) rfl rfl rfl rfl rfl hl.1 rfl (Nat.le_of_ble_eq_true rfl) dX2_favoursFor_41 (fun H locs hw => ?_)
          refine lv_aload_n hx hb dX2_favoursFor_44 rfl (lv_at hl 0 rfl) ?_
          refine z_get hS0 in_X2_favoursFor_X2 hK hw 0 3 rfl rfl rfl (by decide) (hts _ m_X2_favoursFor_3) (v := .ref (q (o + 4))) rfl dX2_favoursFor_45 ?_
          refine lv_iload_n hx hb dX2_favoursFor_48 rfl (lv_at hl 1 rfl) ?_
          obtain ⟨g16, hf⟩ := z_gd hf
          refine z_iald hS0 hK hw 0 4 (zIn_vp g16) rfl rfl dX2_favoursFor_49 ?_
          refine lv_icmp_ge (tgt := 56) hx hb dX2_favoursFor_50 rfl (fun hc => ?_) (fun hc => ?_)
          · have hf := z_t hc hf
            exact k_X2_favoursFor_56 hZ _ _ _ _ _ _ _ _ hf hw (lv_sub hl [0, 1, 2, 3] rfl)
          · have hf := z_f hc hf
            refine lv_bipush (v := (-9)) hx hb dX2_favoursFor_53 rfl ?_
            cases hf
            exact z_iret hx hb hr hlk hw dX2_favoursFor_55
      · have hf := z_t hc hf
        refine lv_iconst (v := 0) hx hb dX2_favoursFor_29 rfl ?_
        cases hf
        exact z_iret hx hb hr hlk hw dX2_favoursFor_30
    · have hf := z_t hc hf
      refine lv_bipush (v := (-9)) hx hb dX2_favoursFor_16 rfl ?_
      cases hf
      exact z_iret hx hb hr hlk hw dX2_favoursFor_18
theorem zc_X2_foesOf : zC yX2_foesOf wsX2_foesOf cX2_foesOf 2 (some .int) 1 := ⟨⟨_, rfl⟩, by decide +kernel, by decide +kernel, by decide +kernel, by decide +kernel⟩
theorem m_X2_foesOf_0 : (.fieldLink RX2 24 "CellKeys$Jail" "foes" "[I" : Cond) ∈ wsX2_foesOf := by decide +kernel
theorem in_X2_foesOf_X2 : ∀ w ∈ u_ws RX2 TX2 8, w ∈ wsX2_foesOf := by decide +kernel
set_option maxHeartbeats 4000000 in
set_option maxRecDepth 100000 in
theorem c_X2_foesOf (l : Launch) (G : zG) (q : Nat → Nat) (o : Nat) (S : VX2) (v1 : Int32) (y : Int32) (hf : f_X2_foesOf S v1 = some y) : zMet l yX2_foesOf wsX2_foesOf 1 21 G [.ref (q (o + 0)), .int v1] [bX2 G q o S.1 S.2.1 S.2.2.1 S.2.2.2.1 S.2.2.2.2.1 S.2.2.2.2.2.1 S.2.2.2.2.2.2.1 S.2.2.2.2.2.2.2] (some (.int y)) [bX2 G q o S.1 S.2.1 S.2.2.1 S.2.2.2.1 S.2.2.2.2.1 S.2.2.2.2.2.1 S.2.2.2.2.2.2.1 S.2.2.2.2.2.2.2] := by
  refine z_met zc_X2_foesOf (Nat.le_of_ble_eq_true rfl) ?_
  intro p e s m below meth c A ls hZ hl hw
  have hl : lv_has ls 2 [(0, .ref (q (o + 0))), (1, .int v1)] := hl
  obtain ⟨hS0, hr, hlk, hK, hA, hT⟩ := id hZ
  have hx := hS0.1
  have hb := hS0.2.1
  have hml := hS0.2.2.1
  have hown : s.vm.findClass RX2 = some m.cls := hS0.2.2.2.1
  have hts := hS0.2.2.2.2
  unfold f_X2_foesOf at hf
  refine lv_aload_n hx hb dX2_foesOf_0 rfl (lv_at hl 0 rfl) ?_
  refine lv_iload_n hx hb dX2_foesOf_1 rfl (lv_at hl 1 rfl) ?_
  obtain ⟨r1, e2, hf⟩ := z_bd hf
  refine z_callV1 (As := [.int v1]) (rest := []) (bs' := [bX2 G q o S.1 S.2.1 S.2.2.1 S.2.2.2.1 S.2.2.2.2.1 S.2.2.2.2.2.1 S.2.2.2.2.2.2.1 S.2.2.2.2.2.2.2]) hS0 (c_X2_isCell l G q o S v1 r1 e2) zc_X2_isCell rfl gX2_foesOf_X2_isCell ⟨Nat.le_of_ble_eq_true rfl, Nat.le_of_ble_eq_true rfl⟩ hK hA hT hw (is := [0]) rfl rfl rfl rfl rfl rfl rfl hl.1 rfl (Nat.le_of_ble_eq_true rfl) dX2_foesOf_2 (fun H locs hw => ?_)
  refine lv_if_eq (tgt := 17) hx hb dX2_foesOf_5 rfl (fun hc => ?_) (fun hc => ?_)
  · have hf := z_t hc hf
    refine lv_iconst (v := 0) hx hb dX2_foesOf_17 rfl ?_
    cases hf
    exact z_iret hx hb hr hlk hw dX2_foesOf_18
  · have hf := z_f hc hf
    refine lv_aload_n hx hb dX2_foesOf_8 rfl (lv_at hl 0 rfl) ?_
    refine z_get hS0 in_X2_foesOf_X2 hK hw 0 4 rfl rfl rfl (by decide) (hts _ m_X2_foesOf_0) (v := .ref (q (o + 5))) rfl dX2_foesOf_9 ?_
    refine lv_iload_n hx hb dX2_foesOf_12 rfl (lv_at hl 1 rfl) ?_
    obtain ⟨g3, hf⟩ := z_gd hf
    refine z_iald hS0 hK hw 0 5 (zIn_vp g3) rfl rfl dX2_foesOf_13 ?_
    refine lv_goto (tgt := 18) hx hb dX2_foesOf_14 rfl ?_
    cases hf
    exact z_iret hx hb hr hlk hw dX2_foesOf_18
theorem zc_X2_isSet : zC yX2_isSet wsX2_isSet cX2_isSet 2 (some .boolean) 1 := ⟨⟨_, rfl⟩, by decide +kernel, by decide +kernel, by decide +kernel, by decide +kernel⟩
set_option maxHeartbeats 4000000 in
set_option maxRecDepth 100000 in
theorem c_X2_isSet (l : Launch) (G : zG) (q : Nat → Nat) (o : Nat) (S : VX2) (v1 : Int32) (y : Int32) (hf : f_X2_isSet S v1 = some y) : zMet l yX2_isSet wsX2_isSet 1 20 G [.ref (q (o + 0)), .int v1] [bX2 G q o S.1 S.2.1 S.2.2.1 S.2.2.2.1 S.2.2.2.2.1 S.2.2.2.2.2.1 S.2.2.2.2.2.2.1 S.2.2.2.2.2.2.2] (some (.int y)) [bX2 G q o S.1 S.2.1 S.2.2.1 S.2.2.2.1 S.2.2.2.2.1 S.2.2.2.2.2.1 S.2.2.2.2.2.2.1 S.2.2.2.2.2.2.2] := by
  refine z_met zc_X2_isSet (Nat.le_of_ble_eq_true rfl) ?_
  intro p e s m below meth c A ls hZ hl hw
  have hl : lv_has ls 2 [(0, .ref (q (o + 0))), (1, .int v1)] := hl
  obtain ⟨hS0, hr, hlk, hK, hA, hT⟩ := id hZ
  have hx := hS0.1
  have hb := hS0.2.1
  have hml := hS0.2.2.1
  have hown : s.vm.findClass RX2 = some m.cls := hS0.2.2.2.1
  have hts := hS0.2.2.2.2
  unfold f_X2_isSet at hf
  refine lv_iload_n hx hb dX2_isSet_0 rfl (lv_at hl 1 rfl) ?_
  refine lv_if_lt (tgt := 16) hx hb dX2_isSet_1 rfl (fun hc => ?_) (fun hc => ?_)
  · have hf := z_t hc hf
    refine lv_iconst (v := 0) hx hb dX2_isSet_16 rfl ?_
    cases hf
    exact z_zret hx hb hr (z_nb (Or.inl rfl)) hlk hw dX2_isSet_17
  · have hf := z_f hc hf
    refine lv_iload_n hx hb dX2_isSet_4 rfl (lv_at hl 1 rfl) ?_
    refine lv_aload_n hx hb dX2_isSet_5 rfl (lv_at hl 0 rfl) ?_
    obtain ⟨r1, e2, hf⟩ := z_bd hf
    refine z_callV1 (As := []) (rest := [.int v1]) (bs' := [bX2 G q o S.1 S.2.1 S.2.2.1 S.2.2.2.1 S.2.2.2.2.1 S.2.2.2.2.2.1 S.2.2.2.2.2.2.1 S.2.2.2.2.2.2.2]) hS0 (c_X2_everyone l G q o S r1 e2) zc_X2_everyone rfl gX2_isSet_X2_everyone ⟨Nat.le_of_ble_eq_true rfl, Nat.le_of_ble_eq_true rfl⟩ hK hA hT hw (is := [0]) rfl rfl rfl rfl rfl rfl rfl hl.1 rfl (Nat.le_of_ble_eq_true rfl) dX2_isSet_6 (fun H locs hw => ?_)
    refine lv_icmp_gt (tgt := 16) hx hb dX2_isSet_9 rfl (fun hc => ?_) (fun hc => ?_)
    · have hf := z_t hc hf
      refine lv_iconst (v := 0) hx hb dX2_isSet_16 rfl ?_
      cases hf
      exact z_zret hx hb hr (z_nb (Or.inl rfl)) hlk hw dX2_isSet_17
    · have hf := z_f hc hf
      refine lv_iconst (v := 1) hx hb dX2_isSet_12 rfl ?_
      refine lv_goto (tgt := 17) hx hb dX2_isSet_13 rfl ?_
      cases hf
      exact z_zret hx hb hr (z_nb (Or.inr rfl)) hlk hw dX2_isSet_17
theorem zc_X2_keeperOf : zC yX2_keeperOf wsX2_keeperOf cX2_keeperOf 2 (some .int) 1 := ⟨⟨_, rfl⟩, by decide +kernel, by decide +kernel, by decide +kernel, by decide +kernel⟩
theorem m_X2_keeperOf_0 : (.fieldLink RX2 15 "CellKeys$Jail" "keepers" "[I" : Cond) ∈ wsX2_keeperOf := by decide +kernel
theorem in_X2_keeperOf_X2 : ∀ w ∈ u_ws RX2 TX2 8, w ∈ wsX2_keeperOf := by decide +kernel
set_option maxHeartbeats 4000000 in
set_option maxRecDepth 100000 in
theorem c_X2_keeperOf (l : Launch) (G : zG) (q : Nat → Nat) (o : Nat) (S : VX2) (v1 : Int32) (y : Int32) (hf : f_X2_keeperOf S v1 = some y) : zMet l yX2_keeperOf wsX2_keeperOf 1 21 G [.ref (q (o + 0)), .int v1] [bX2 G q o S.1 S.2.1 S.2.2.1 S.2.2.2.1 S.2.2.2.2.1 S.2.2.2.2.2.1 S.2.2.2.2.2.2.1 S.2.2.2.2.2.2.2] (some (.int y)) [bX2 G q o S.1 S.2.1 S.2.2.1 S.2.2.2.1 S.2.2.2.2.1 S.2.2.2.2.2.1 S.2.2.2.2.2.2.1 S.2.2.2.2.2.2.2] := by
  refine z_met zc_X2_keeperOf (Nat.le_of_ble_eq_true rfl) ?_
  intro p e s m below meth c A ls hZ hl hw
  have hl : lv_has ls 2 [(0, .ref (q (o + 0))), (1, .int v1)] := hl
  obtain ⟨hS0, hr, hlk, hK, hA, hT⟩ := id hZ
  have hx := hS0.1
  have hb := hS0.2.1
  have hml := hS0.2.2.1
  have hown : s.vm.findClass RX2 = some m.cls := hS0.2.2.2.1
  have hts := hS0.2.2.2.2
  unfold f_X2_keeperOf at hf
  refine lv_aload_n hx hb dX2_keeperOf_0 rfl (lv_at hl 0 rfl) ?_
  refine lv_iload_n hx hb dX2_keeperOf_1 rfl (lv_at hl 1 rfl) ?_
  obtain ⟨r1, e2, hf⟩ := z_bd hf
  refine z_callV1 (As := [.int v1]) (rest := []) (bs' := [bX2 G q o S.1 S.2.1 S.2.2.1 S.2.2.2.1 S.2.2.2.2.1 S.2.2.2.2.2.1 S.2.2.2.2.2.2.1 S.2.2.2.2.2.2.2]) hS0 (c_X2_isCell l G q o S v1 r1 e2) zc_X2_isCell rfl gX2_keeperOf_X2_isCell ⟨Nat.le_of_ble_eq_true rfl, Nat.le_of_ble_eq_true rfl⟩ hK hA hT hw (is := [0]) rfl rfl rfl rfl rfl rfl rfl hl.1 rfl (Nat.le_of_ble_eq_true rfl) dX2_keeperOf_2 (fun H locs hw => ?_)
  refine lv_if_eq (tgt := 17) hx hb dX2_keeperOf_5 rfl (fun hc => ?_) (fun hc => ?_)
  · have hf := z_t hc hf
    refine lv_bipush (v := (-9)) hx hb dX2_keeperOf_17 rfl ?_
    cases hf
    exact z_iret hx hb hr hlk hw dX2_keeperOf_19
  · have hf := z_f hc hf
    refine lv_aload_n hx hb dX2_keeperOf_8 rfl (lv_at hl 0 rfl) ?_
    refine z_get hS0 in_X2_keeperOf_X2 hK hw 0 1 rfl rfl rfl (by decide) (hts _ m_X2_keeperOf_0) (v := .ref (q (o + 2))) rfl dX2_keeperOf_9 ?_
    refine lv_iload_n hx hb dX2_keeperOf_12 rfl (lv_at hl 1 rfl) ?_
    obtain ⟨g3, hf⟩ := z_gd hf
    refine z_iald hS0 hK hw 0 2 (zIn_vp g3) rfl rfl dX2_keeperOf_13 ?_
    refine lv_goto (tgt := 19) hx hb dX2_keeperOf_14 rfl ?_
    cases hf
    exact z_iret hx hb hr hlk hw dX2_keeperOf_19
theorem zc_X2_mayKeep : zC yX2_mayKeep wsX2_mayKeep cX2_mayKeep 3 (some .boolean) 2 := ⟨⟨_, rfl⟩, by decide +kernel, by decide +kernel, by decide +kernel, by decide +kernel⟩
theorem m_X2_mayKeep_0 : (.fieldLink RX2 9 "CellKeys$Jail" "kinds" "[I" : Cond) ∈ wsX2_mayKeep := by decide +kernel
theorem in_X2_mayKeep_X2 : ∀ w ∈ u_ws RX2 TX2 8, w ∈ wsX2_mayKeep := by decide +kernel
theorem m_X2_mayKeep_1 : (.fieldLink RX2 18 "CellKeys$Jail" "otherKeepers" "[I" : Cond) ∈ wsX2_mayKeep := by decide +kernel
set_option maxHeartbeats 4000000 in
set_option maxRecDepth 100000 in
theorem c_X2_mayKeep (l : Launch) (G : zG) (q : Nat → Nat) (o : Nat) (S : VX2) (v1 : Int32) (v2 : Int32) (y : Int32) (hf : f_X2_mayKeep S v1 v2 = some y) : zMet l yX2_mayKeep wsX2_mayKeep 1 21 G [.ref (q (o + 0)), .int v1, .int v2] [bX2 G q o S.1 S.2.1 S.2.2.1 S.2.2.2.1 S.2.2.2.2.1 S.2.2.2.2.2.1 S.2.2.2.2.2.2.1 S.2.2.2.2.2.2.2] (some (.int y)) [bX2 G q o S.1 S.2.1 S.2.2.1 S.2.2.2.1 S.2.2.2.2.1 S.2.2.2.2.2.1 S.2.2.2.2.2.2.1 S.2.2.2.2.2.2.2] := by
  refine z_met zc_X2_mayKeep (Nat.le_of_ble_eq_true rfl) ?_
  intro p e s m below meth c A ls hZ hl hw
  have hl : lv_has ls 3 [(0, .ref (q (o + 0))), (1, .int v1), (2, .int v2)] := hl
  obtain ⟨hS0, hr, hlk, hK, hA, hT⟩ := id hZ
  have hx := hS0.1
  have hb := hS0.2.1
  have hml := hS0.2.2.1
  have hown : s.vm.findClass RX2 = some m.cls := hS0.2.2.2.1
  have hts := hS0.2.2.2.2
  unfold f_X2_mayKeep at hf
  refine lv_aload_n hx hb dX2_mayKeep_0 rfl (lv_at hl 0 rfl) ?_
  refine lv_iload_n hx hb dX2_mayKeep_1 rfl (lv_at hl 1 rfl) ?_
  obtain ⟨r1, e2, hf⟩ := z_bd hf
  refine z_callV1 (As := [.int v1]) (rest := []) (bs' := [bX2 G q o S.1 S.2.1 S.2.2.1 S.2.2.2.1 S.2.2.2.2.1 S.2.2.2.2.2.1 S.2.2.2.2.2.2.1 S.2.2.2.2.2.2.2]) hS0 (c_X2_isCell l G q o S v1 r1 e2) zc_X2_isCell rfl gX2_mayKeep_X2_isCell ⟨Nat.le_of_ble_eq_true rfl, Nat.le_of_ble_eq_true rfl⟩ hK hA hT hw (is := [0]) rfl rfl rfl rfl rfl rfl rfl hl.1 rfl (Nat.le_of_ble_eq_true rfl) dX2_mayKeep_2 (fun H locs hw => ?_)
  refine lv_if_eq (tgt := 45) hx hb dX2_mayKeep_5 rfl (fun hc => ?_) (fun hc => ?_)
  · have hf := z_t hc hf
    refine lv_iconst (v := 0) hx hb dX2_mayKeep_45 rfl ?_
    cases hf
    exact z_zret hx hb hr (z_nb (Or.inl rfl)) hlk hw dX2_mayKeep_46
  · have hf := z_f hc hf
    refine lv_aload_n hx hb dX2_mayKeep_8 rfl (lv_at hl 0 rfl) ?_
    refine lv_iload_n hx hb dX2_mayKeep_9 rfl (lv_at hl 2 rfl) ?_
    obtain ⟨r3, e4, hf⟩ := z_bd hf
    refine z_callV1 (As := [.int v2]) (rest := []) (bs' := [bX2 G q o S.1 S.2.1 S.2.2.1 S.2.2.2.1 S.2.2.2.2.1 S.2.2.2.2.2.1 S.2.2.2.2.2.2.1 S.2.2.2.2.2.2.2]) hS0 (c_X2_isCell l G q o S v2 r3 e4) zc_X2_isCell rfl gX2_mayKeep_X2_isCell ⟨Nat.le_of_ble_eq_true rfl, Nat.le_of_ble_eq_true rfl⟩ hK hA hT hw (is := [0]) rfl rfl rfl rfl rfl rfl rfl hl.1 rfl (Nat.le_of_ble_eq_true rfl) dX2_mayKeep_10 (fun H locs hw => ?_)
    refine lv_if_eq (tgt := 45) hx hb dX2_mayKeep_13 rfl (fun hc => ?_) (fun hc => ?_)
    · have hf := z_t hc hf
      refine lv_iconst (v := 0) hx hb dX2_mayKeep_45 rfl ?_
      cases hf
      exact z_zret hx hb hr (z_nb (Or.inl rfl)) hlk hw dX2_mayKeep_46
    · have hf := z_f hc hf
      refine lv_iload_n hx hb dX2_mayKeep_16 rfl (lv_at hl 1 rfl) ?_
      refine lv_iload_n hx hb dX2_mayKeep_17 rfl (lv_at hl 2 rfl) ?_
      refine lv_icmp_eq (tgt := 45) hx hb dX2_mayKeep_18 rfl (fun hc => ?_) (fun hc => ?_)
      · have hf := z_t hc hf
        refine lv_iconst (v := 0) hx hb dX2_mayKeep_45 rfl ?_
        cases hf
        exact z_zret hx hb hr (z_nb (Or.inl rfl)) hlk hw dX2_mayKeep_46
      · have hf := z_f hc hf
        refine lv_aload_n hx hb dX2_mayKeep_21 rfl (lv_at hl 0 rfl) ?_
        refine z_get hS0 in_X2_mayKeep_X2 hK hw 0 0 rfl rfl rfl (by decide) (hts _ m_X2_mayKeep_0) (v := .ref (q (o + 1))) rfl dX2_mayKeep_22 ?_
        refine lv_iload_n hx hb dX2_mayKeep_25 rfl (lv_at hl 1 rfl) ?_
        obtain ⟨g5, hf⟩ := z_gd hf
        refine z_iald hS0 hK hw 0 1 (zIn_vp g5) rfl rfl dX2_mayKeep_26 ?_
        refine lv_iconst (v := 2) hx hb dX2_mayKeep_27 rfl ?_
        refine lv_icmp_eq (tgt := 45) hx hb dX2_mayKeep_28 rfl (fun hc => ?_) (fun hc => ?_)
        · have hf := z_t hc hf
          refine lv_iconst (v := 0) hx hb dX2_mayKeep_45 rfl ?_
          cases hf
          exact z_zret hx hb hr (z_nb (Or.inl rfl)) hlk hw dX2_mayKeep_46
        · have hf := z_f hc hf
          refine lv_aload_n hx hb dX2_mayKeep_31 rfl (lv_at hl 0 rfl) ?_
          refine z_get hS0 in_X2_mayKeep_X2 hK hw 0 2 rfl rfl rfl (by decide) (hts _ m_X2_mayKeep_1) (v := .ref (q (o + 3))) rfl dX2_mayKeep_32 ?_
          refine lv_iload_n hx hb dX2_mayKeep_35 rfl (lv_at hl 1 rfl) ?_
          obtain ⟨g6, hf⟩ := z_gd hf
          refine z_iald hS0 hK hw 0 3 (zIn_vp g6) rfl rfl dX2_mayKeep_36 ?_
          refine lv_iload_n hx hb dX2_mayKeep_37 rfl (lv_at hl 2 rfl) ?_
          refine lv_icmp_eq (tgt := 45) hx hb dX2_mayKeep_38 rfl (fun hc => ?_) (fun hc => ?_)
          · have hf := z_t hc hf
            refine lv_iconst (v := 0) hx hb dX2_mayKeep_45 rfl ?_
            cases hf
            exact z_zret hx hb hr (z_nb (Or.inl rfl)) hlk hw dX2_mayKeep_46
          · have hf := z_f hc hf
            refine lv_iconst (v := 1) hx hb dX2_mayKeep_41 rfl ?_
            refine lv_goto (tgt := 46) hx hb dX2_mayKeep_42 rfl ?_
            cases hf
            exact z_zret hx hb hr (z_nb (Or.inr rfl)) hlk hw dX2_mayKeep_46
theorem zc_X2_mix : zC yX2_mix wsX2_mix cX2_mix 5 (some .long) 1 := ⟨⟨_, rfl⟩, by decide +kernel, by decide +kernel, by decide +kernel, by decide +kernel⟩
theorem m_X2_mix_0 : (.constantLong RX2 83 (31) : Cond) ∈ wsX2_mix := by decide +kernel
theorem m_X2_mix_1 : (.fieldLink RX2 24 "CellKeys$Jail" "foes" "[I" : Cond) ∈ wsX2_mix := by decide +kernel
theorem in_X2_mix_X2 : ∀ w ∈ u_ws RX2 TX2 8, w ∈ wsX2_mix := by decide +kernel
theorem m_X2_mix_2 : (.fieldLink RX2 27 "CellKeys$Jail" "cells" "I" : Cond) ∈ wsX2_mix := by decide +kernel
set_option maxHeartbeats 4000000 in
set_option maxRecDepth 100000 in
theorem k_X2_mix_13 {p : Program} {l : Launch} {e : Env} {s : State} {m : MethodId} {args : Array Value} {below : List Frame} {meth : Method} {c : Code} {A : Nat → Prop} {G : zG} {q : Nat → Nat} {o : Nat} {r_2 : VX2 → Int64 → Int32 → Option (Int64)} (hZ : zZ p s m args meth c A G cX2_mix 5 RX2 wsX2_mix (some .long)) (y : Int64) (h_2 : ∀ (S : VX2) (v1 : Int64) (v3 : Int32) (H : Heap) (locs : List Loc) (ls : Array Slot), r_2 S v1 v3 = some y → zH G A s.heap [bX2 G q o S.1 S.2.1 S.2.2.1 S.2.2.2.1 S.2.2.2.2.1 S.2.2.2.2.2.1 S.2.2.2.2.2.2.1 S.2.2.2.2.2.2.2] H locs → lv_has ls 5 [(0, .ref (q (o + 0))), (1, .long v1), (3, .int v3)] → W p l e { frames := 2, cells := 0, slots := 0, locals := 43 } s m args below meth c H locs 0 0 (MQ below (zQ (some (.long y)) (zPost G [bX2 G q o S.1 S.2.1 S.2.2.1 S.2.2.2.1 S.2.2.2.2.1 S.2.2.2.2.2.1 S.2.2.2.2.2.2.1 S.2.2.2.2.2.2.2]) A) args s 0 0 A) (F0 m 2 ls [])) (n : Nat) : ∀ (S : VX2) (v1 : Int64) (v3 : Int32) (v4 : Int32) (H : Heap) (locs : List Loc) (ls : Array Slot), f_X2_mix_13 r_2 n S v1 v3 v4 = some y → zH G A s.heap [bX2 G q o S.1 S.2.1 S.2.2.1 S.2.2.2.1 S.2.2.2.2.1 S.2.2.2.2.2.1 S.2.2.2.2.2.2.1 S.2.2.2.2.2.2.2] H locs → lv_has ls 5 [(0, .ref (q (o + 0))), (1, .long v1), (3, .int v3), (4, .int v4)] → W p l e { frames := 2, cells := 0, slots := 0, locals := 43 } s m args below meth c H locs 0 0 (MQ below (zQ (some (.long y)) (zPost G [bX2 G q o S.1 S.2.1 S.2.2.1 S.2.2.2.1 S.2.2.2.2.1 S.2.2.2.2.2.1 S.2.2.2.2.2.2.1 S.2.2.2.2.2.2.2]) A) args s 0 0 A) (F0 m 13 ls []) := by
  obtain ⟨hS0, hr, hlk, hK, hA, hT⟩ := id hZ
  have hx := hS0.1
  have hb := hS0.2.1
  have hml := hS0.2.2.1
  have hown : s.vm.findClass RX2 = some m.cls := hS0.2.2.2.1
  have hts := hS0.2.2.2.2
  induction n with
  | zero =>
    intro S v1 v3 v4 H locs ls hf hw hl
    unfold f_X2_mix_13 at hf
    cases hf
  | succ n ih =>
    intro S v1 v3 v4 H locs ls hf hw hl
    unfold f_X2_mix_13 at hf
    refine lv_iload hx hb dX2_mix_13 (lv_at hl 3 rfl) ?_
    refine lv_iconst (v := 4) hx hb dX2_mix_15 rfl ?_
    refine lv_icmp_ge (tgt := 40) hx hb dX2_mix_16 rfl (fun hc => ?_) (fun hc => ?_)
    · have hf := z_t hc hf
      refine lv_ldc2 (v := 31) hx hb hown (hts _ m_X2_mix_0) dX2_mix_40 ?_
      refine lv_lload_n hx hb dX2_mix_43 rfl (lv_at hl 1 rfl) ?_
      refine lv_lmul hx hb dX2_mix_44 ?_
      refine lv_aload_n hx hb dX2_mix_45 rfl (lv_at hl 0 rfl) ?_
      refine z_get hS0 in_X2_mix_X2 hK hw 0 4 rfl rfl rfl (by decide) (hts _ m_X2_mix_1) (v := .ref (q (o + 5))) rfl dX2_mix_46 ?_
      refine lv_iload_n hx hb dX2_mix_49 rfl (lv_at hl 2 rfl) ?_
      obtain ⟨g1, hf⟩ := z_gd hf
      refine z_iald hS0 hK hw 0 5 (zIn_vp g1) rfl rfl dX2_mix_50 ?_
      refine lv_i2l (v := (S.2.2.2.2.1 v3.toNatClampNeg).toInt64) hx hb dX2_mix_51 rfl ?_
      refine lv_ladd hx hb dX2_mix_52 ?_
      refine lv_lstore_n (lv' := [(1, .long ((31 * v1) + (S.2.2.2.2.1 v3.toNatClampNeg).toInt64)), (0, .ref (q (o + 0))), (3, .int v3), (4, .int v4)]) hx hb dX2_mix_53 rfl hl (by decide) rfl (fun ls hl => ?_)
      refine lv_iinc (v := (v3 + 1)) (lv' := [(3, .int (v3 + 1)), (1, .long ((31 * v1) + (S.2.2.2.2.1 v3.toNatClampNeg).toInt64)), (0, .ref (q (o + 0))), (4, .int v4)]) hx hb dX2_mix_54 hl (k := 2) rfl rfl (by decide) rfl (fun ls hl => ?_)
      refine lv_goto (tgt := 2) hx hb dX2_mix_57 rfl ?_
      exact h_2 _ _ _ _ _ _ hf hw (lv_sub hl [2, 1, 0] rfl)
    · have hf := z_f hc hf
      refine lv_ldc2 (v := 31) hx hb hown (hts _ m_X2_mix_0) dX2_mix_19 ?_
      refine lv_lload_n hx hb dX2_mix_22 rfl (lv_at hl 1 rfl) ?_
      refine lv_lmul hx hb dX2_mix_23 ?_
      refine lv_aload_n hx hb dX2_mix_24 rfl (lv_at hl 0 rfl) ?_
      refine lv_iload_n hx hb dX2_mix_25 rfl (lv_at hl 2 rfl) ?_
      refine lv_iload hx hb dX2_mix_26 (lv_at hl 3 rfl) ?_
      obtain ⟨r2, e3, hf⟩ := z_bd hf
      refine z_callV1 (As := [.int v3, .int v4]) (rest := [.long (31 * v1)]) (bs' := [bX2 G q o S.1 S.2.1 S.2.2.1 S.2.2.2.1 S.2.2.2.2.1 S.2.2.2.2.2.1 S.2.2.2.2.2.2.1 S.2.2.2.2.2.2.2]) hS0 (c_X2_doorAnswer l G q o S v3 v4 r2 e3) zc_X2_doorAnswer rfl gX2_mix_X2_doorAnswer ⟨Nat.le_of_ble_eq_true rfl, Nat.le_of_ble_eq_true rfl⟩ hK hA hT hw (is := [0]) rfl rfl rfl rfl rfl rfl rfl hl.1 rfl (Nat.le_of_ble_eq_true rfl) dX2_mix_28 (fun H locs hw => ?_)
      refine lv_i2l (v := r2.toInt64) hx hb dX2_mix_31 rfl ?_
      refine lv_ladd hx hb dX2_mix_32 ?_
      refine lv_lstore_n (lv' := [(1, .long ((31 * v1) + r2.toInt64)), (0, .ref (q (o + 0))), (3, .int v3), (4, .int v4)]) hx hb dX2_mix_33 rfl hl (by decide) rfl (fun ls hl => ?_)
      refine lv_iinc (v := (v4 + 1)) (lv' := [(4, .int (v4 + 1)), (1, .long ((31 * v1) + r2.toInt64)), (0, .ref (q (o + 0))), (3, .int v3)]) hx hb dX2_mix_34 hl (k := 3) rfl rfl (by decide) rfl (fun ls hl => ?_)
      refine lv_goto (tgt := 13) hx hb dX2_mix_37 rfl ?_
      exact ih _ _ _ _ _ _ _ hf hw (lv_sub hl [2, 1, 3, 0] rfl)
set_option maxHeartbeats 4000000 in
set_option maxRecDepth 100000 in
theorem k_X2_mix_2 {p : Program} {l : Launch} {e : Env} {s : State} {m : MethodId} {args : Array Value} {below : List Frame} {meth : Method} {c : Code} {A : Nat → Prop} {G : zG} {q : Nat → Nat} {o : Nat}  (hZ : zZ p s m args meth c A G cX2_mix 5 RX2 wsX2_mix (some .long)) (y : Int64)  (n : Nat) : ∀ (S : VX2) (v1 : Int64) (v3 : Int32) (H : Heap) (locs : List Loc) (ls : Array Slot), f_X2_mix_2 n S v1 v3 = some y → zH G A s.heap [bX2 G q o S.1 S.2.1 S.2.2.1 S.2.2.2.1 S.2.2.2.2.1 S.2.2.2.2.2.1 S.2.2.2.2.2.2.1 S.2.2.2.2.2.2.2] H locs → lv_has ls 5 [(0, .ref (q (o + 0))), (1, .long v1), (3, .int v3)] → W p l e { frames := 2, cells := 0, slots := 0, locals := 43 } s m args below meth c H locs 0 0 (MQ below (zQ (some (.long y)) (zPost G [bX2 G q o S.1 S.2.1 S.2.2.1 S.2.2.2.1 S.2.2.2.2.1 S.2.2.2.2.2.1 S.2.2.2.2.2.2.1 S.2.2.2.2.2.2.2]) A) args s 0 0 A) (F0 m 2 ls []) := by
  obtain ⟨hS0, hr, hlk, hK, hA, hT⟩ := id hZ
  have hx := hS0.1
  have hb := hS0.2.1
  have hml := hS0.2.2.1
  have hown : s.vm.findClass RX2 = some m.cls := hS0.2.2.2.1
  have hts := hS0.2.2.2.2
  induction n with
  | zero =>
    intro S v1 v3 H locs ls hf hw hl
    unfold f_X2_mix_2 at hf
    cases hf
  | succ n ih =>
    intro S v1 v3 H locs ls hf hw hl
    unfold f_X2_mix_2 at hf
    refine lv_iload_n hx hb dX2_mix_2 rfl (lv_at hl 2 rfl) ?_
    refine lv_aload_n hx hb dX2_mix_3 rfl (lv_at hl 0 rfl) ?_
    refine z_get hS0 in_X2_mix_X2 hK hw 0 5 rfl rfl rfl (by decide) (hts _ m_X2_mix_2) (v := .int S.2.2.2.2.2.1) rfl dX2_mix_4 ?_
    refine lv_icmp_ge (tgt := 60) hx hb dX2_mix_7 rfl (fun hc => ?_) (fun hc => ?_)
    · have hf := z_t hc hf
      refine lv_lload_n hx hb dX2_mix_60 rfl (lv_at hl 1 rfl) ?_
      cases hf
      exact z_lret hx hb hr hlk hw dX2_mix_61
    · have hf := z_f hc hf
      refine lv_iconst (v := 0) hx hb dX2_mix_10 rfl ?_
      refine lv_istore (lv' := [(4, .int 0), (0, .ref (q (o + 0))), (1, .long v1), (3, .int v3)]) hx hb dX2_mix_11 hl (by decide) rfl (fun ls hl => ?_)
      exact k_X2_mix_13 hZ _ ih 4096 _ _ _ _ _ _ _ hf hw (lv_sub hl [1, 2, 3, 0] rfl)
set_option maxHeartbeats 4000000 in
set_option maxRecDepth 100000 in
theorem c_X2_mix (l : Launch) (G : zG) (q : Nat → Nat) (o : Nat) (S : VX2) (v1 : Int64) (y : Int64) (hf : f_X2_mix S v1 = some y) : zMet l yX2_mix wsX2_mix 2 43 G [.ref (q (o + 0)), .long v1] [bX2 G q o S.1 S.2.1 S.2.2.1 S.2.2.2.1 S.2.2.2.2.1 S.2.2.2.2.2.1 S.2.2.2.2.2.2.1 S.2.2.2.2.2.2.2] (some (.long y)) [bX2 G q o S.1 S.2.1 S.2.2.1 S.2.2.2.1 S.2.2.2.2.1 S.2.2.2.2.2.1 S.2.2.2.2.2.2.1 S.2.2.2.2.2.2.2] := by
  refine z_met zc_X2_mix (Nat.le_of_ble_eq_true rfl) ?_
  intro p e s m below meth c A ls hZ hl hw
  have hl : lv_has ls 5 [(0, .ref (q (o + 0))), (1, .long v1)] := hl
  obtain ⟨hS0, hr, hlk, hK, hA, hT⟩ := id hZ
  have hx := hS0.1
  have hb := hS0.2.1
  have hml := hS0.2.2.1
  have hown : s.vm.findClass RX2 = some m.cls := hS0.2.2.2.1
  have hts := hS0.2.2.2.2
  unfold f_X2_mix at hf
  refine lv_iconst (v := 0) hx hb dX2_mix_0 rfl ?_
  refine lv_istore_n (lv' := [(3, .int 0), (0, .ref (q (o + 0))), (1, .long v1)]) hx hb dX2_mix_1 rfl hl (by decide) rfl (fun ls hl => ?_)
  exact k_X2_mix_2 hZ _ 4096 _ _ _ _ _ _ hf hw (lv_sub hl [1, 2, 0] rfl)
theorem zc_X2_quarrels : zC yX2_quarrels wsX2_quarrels cX2_quarrels 3 (some .int) 0 := ⟨⟨_, rfl⟩, by decide +kernel, by decide +kernel, by decide +kernel, by decide +kernel⟩
theorem m_X2_quarrels_0 : (.fieldLink RX2 27 "CellKeys$Jail" "cells" "I" : Cond) ∈ wsX2_quarrels := by decide +kernel
theorem in_X2_quarrels_X2 : ∀ w ∈ u_ws RX2 TX2 8, w ∈ wsX2_quarrels := by decide +kernel
theorem m_X2_quarrels_1 : (.fieldLink RX2 24 "CellKeys$Jail" "foes" "[I" : Cond) ∈ wsX2_quarrels := by decide +kernel
set_option maxHeartbeats 4000000 in
set_option maxRecDepth 100000 in
theorem k_X2_quarrels_4 {p : Program} {l : Launch} {e : Env} {s : State} {m : MethodId} {args : Array Value} {below : List Frame} {meth : Method} {c : Code} {A : Nat → Prop} {G : zG} {q : Nat → Nat} {o : Nat}  (hZ : zZ p s m args meth c A G cX2_quarrels 3 RX2 wsX2_quarrels (some .int)) (y : Int32)  (n : Nat) : ∀ (S : VX2) (v1 : Int32) (v2 : Int32) (H : Heap) (locs : List Loc) (ls : Array Slot), f_X2_quarrels_4 n S v1 v2 = some y → zH G A s.heap [bX2 G q o S.1 S.2.1 S.2.2.1 S.2.2.2.1 S.2.2.2.2.1 S.2.2.2.2.2.1 S.2.2.2.2.2.2.1 S.2.2.2.2.2.2.2] H locs → lv_has ls 3 [(0, .ref (q (o + 0))), (1, .int v1), (2, .int v2)] → W p l e { frames := 1, cells := 0, slots := 0, locals := 20 } s m args below meth c H locs 0 0 (MQ below (zQ (some (.int y)) (zPost G [bX2 G q o S.1 S.2.1 S.2.2.1 S.2.2.2.1 S.2.2.2.2.1 S.2.2.2.2.2.1 S.2.2.2.2.2.2.1 S.2.2.2.2.2.2.2]) A) args s 0 0 A) (F0 m 4 ls []) := by
  obtain ⟨hS0, hr, hlk, hK, hA, hT⟩ := id hZ
  have hx := hS0.1
  have hb := hS0.2.1
  have hml := hS0.2.2.1
  have hown : s.vm.findClass RX2 = some m.cls := hS0.2.2.2.1
  have hts := hS0.2.2.2.2
  induction n with
  | zero =>
    intro S v1 v2 H locs ls hf hw hl
    unfold f_X2_quarrels_4 at hf
    cases hf
  | succ n ih =>
    intro S v1 v2 H locs ls hf hw hl
    unfold f_X2_quarrels_4 at hf
    refine lv_iload_n hx hb dX2_quarrels_4 rfl (lv_at hl 2 rfl) ?_
    refine lv_aload_n hx hb dX2_quarrels_5 rfl (lv_at hl 0 rfl) ?_
    refine z_get hS0 in_X2_quarrels_X2 hK hw 0 5 rfl rfl rfl (by decide) (hts _ m_X2_quarrels_0) (v := .int S.2.2.2.2.2.1) rfl dX2_quarrels_6 ?_
    refine lv_icmp_ge (tgt := 30) hx hb dX2_quarrels_9 rfl (fun hc => ?_) (fun hc => ?_)
    · have hf := z_t hc hf
      refine lv_iload_n hx hb dX2_quarrels_30 rfl (lv_at hl 1 rfl) ?_
      refine lv_iconst (v := 2) hx hb dX2_quarrels_31 rfl ?_
      refine lv_idiv hx hb dX2_quarrels_32 (by decide) ?_
      cases hf
      exact z_iret hx hb hr hlk hw dX2_quarrels_33
    · have hf := z_f hc hf
      refine lv_iload_n hx hb dX2_quarrels_12 rfl (lv_at hl 1 rfl) ?_
      refine lv_aload_n hx hb dX2_quarrels_13 rfl (lv_at hl 0 rfl) ?_
      refine z_get hS0 in_X2_quarrels_X2 hK hw 0 4 rfl rfl rfl (by decide) (hts _ m_X2_quarrels_1) (v := .ref (q (o + 5))) rfl dX2_quarrels_14 ?_
      refine lv_iload_n hx hb dX2_quarrels_17 rfl (lv_at hl 2 rfl) ?_
      obtain ⟨g1, hf⟩ := z_gd hf
      refine z_iald hS0 hK hw 0 5 (zIn_vp g1) rfl rfl dX2_quarrels_18 ?_
      obtain ⟨r2, e3, hf⟩ := z_bd hf
      refine z_callS1 (As := [.int (S.2.2.2.2.1 v2.toNatClampNeg)]) (rest := [.int v1]) (bs' := [bX2 G q o S.1 S.2.1 S.2.2.1 S.2.2.2.1 S.2.2.2.2.1 S.2.2.2.2.2.1 S.2.2.2.2.2.2.1 S.2.2.2.2.2.2.2]) hS0 (c_J6_bitCount_0f7a4 l G (S.2.2.2.2.1 v2.toNatClampNeg) r2 e3) zc_J6_bitCount_0f7a4 gX2_quarrels_J6_bitCount_0f7a4 ⟨Nat.le_of_ble_eq_true rfl, Nat.le_of_ble_eq_true rfl⟩ hK hA hT hw (is := []) rfl rfl rfl rfl rfl hl.1 rfl (Nat.le_of_ble_eq_true rfl) dX2_quarrels_19 (fun H locs hw => ?_)
      refine lv_iadd hx hb dX2_quarrels_22 ?_
      refine lv_istore_n (lv' := [(1, .int (v1 + r2)), (0, .ref (q (o + 0))), (2, .int v2)]) hx hb dX2_quarrels_23 rfl hl (by decide) rfl (fun ls hl => ?_)
      refine lv_iinc (v := (v2 + 1)) (lv' := [(2, .int (v2 + 1)), (1, .int (v1 + r2)), (0, .ref (q (o + 0)))]) hx hb dX2_quarrels_24 hl (k := 2) rfl rfl (by decide) rfl (fun ls hl => ?_)
      refine lv_goto (tgt := 4) hx hb dX2_quarrels_27 rfl ?_
      exact ih _ _ _ _ _ _ hf hw (lv_sub hl [2, 1, 0] rfl)
set_option maxHeartbeats 4000000 in
set_option maxRecDepth 100000 in
theorem c_X2_quarrels (l : Launch) (G : zG) (q : Nat → Nat) (o : Nat) (S : VX2)  (y : Int32) (hf : f_X2_quarrels S = some y) : zMet l yX2_quarrels wsX2_quarrels 1 20 G [.ref (q (o + 0))] [bX2 G q o S.1 S.2.1 S.2.2.1 S.2.2.2.1 S.2.2.2.2.1 S.2.2.2.2.2.1 S.2.2.2.2.2.2.1 S.2.2.2.2.2.2.2] (some (.int y)) [bX2 G q o S.1 S.2.1 S.2.2.1 S.2.2.2.1 S.2.2.2.2.1 S.2.2.2.2.2.1 S.2.2.2.2.2.2.1 S.2.2.2.2.2.2.2] := by
  refine z_met zc_X2_quarrels (Nat.le_of_ble_eq_true rfl) ?_
  intro p e s m below meth c A ls hZ hl hw
  have hl : lv_has ls 3 [(0, .ref (q (o + 0)))] := hl
  obtain ⟨hS0, hr, hlk, hK, hA, hT⟩ := id hZ
  have hx := hS0.1
  have hb := hS0.2.1
  have hml := hS0.2.2.1
  have hown : s.vm.findClass RX2 = some m.cls := hS0.2.2.2.1
  have hts := hS0.2.2.2.2
  unfold f_X2_quarrels at hf
  refine lv_iconst (v := 0) hx hb dX2_quarrels_0 rfl ?_
  refine lv_istore_n (lv' := [(1, .int 0), (0, .ref (q (o + 0)))]) hx hb dX2_quarrels_1 rfl hl (by decide) rfl (fun ls hl => ?_)
  refine lv_iconst (v := 0) hx hb dX2_quarrels_2 rfl ?_
  refine lv_istore_n (lv' := [(2, .int 0), (1, .int 0), (0, .ref (q (o + 0)))]) hx hb dX2_quarrels_3 rfl hl (by decide) rfl (fun ls hl => ?_)
  exact k_X2_quarrels_4 hZ _ 4096 _ _ _ _ _ _ hf hw (lv_sub hl [2, 1, 0] rfl)
theorem zc_X2_setKeeper : zC yX2_setKeeper wsX2_setKeeper cX2_setKeeper 3 none 2 := ⟨⟨_, rfl⟩, by decide +kernel, by decide +kernel, by decide +kernel, by decide +kernel⟩
theorem m_X2_setKeeper_0 : (.fieldLink RX2 15 "CellKeys$Jail" "keepers" "[I" : Cond) ∈ wsX2_setKeeper := by decide +kernel
theorem in_X2_setKeeper_X2 : ∀ w ∈ u_ws RX2 TX2 8, w ∈ wsX2_setKeeper := by decide +kernel
set_option maxHeartbeats 4000000 in
set_option maxRecDepth 100000 in
theorem c_X2_setKeeper (l : Launch) (G : zG) (q : Nat → Nat) (o : Nat) (S : VX2) (v1 : Int32) (v2 : Int32) (y : VX2) (hf : f_X2_setKeeper S v1 v2 = some y) : zMet l yX2_setKeeper wsX2_setKeeper 1 21 G [.ref (q (o + 0)), .int v1, .int v2] [bX2 G q o S.1 S.2.1 S.2.2.1 S.2.2.2.1 S.2.2.2.2.1 S.2.2.2.2.2.1 S.2.2.2.2.2.2.1 S.2.2.2.2.2.2.2] none [bX2 G q o y.1 y.2.1 y.2.2.1 y.2.2.2.1 y.2.2.2.2.1 y.2.2.2.2.2.1 y.2.2.2.2.2.2.1 y.2.2.2.2.2.2.2] := by
  refine z_met zc_X2_setKeeper (Nat.le_of_ble_eq_true rfl) ?_
  intro p e s m below meth c A ls hZ hl hw
  have hl : lv_has ls 3 [(0, .ref (q (o + 0))), (1, .int v1), (2, .int v2)] := hl
  obtain ⟨hS0, hr, hlk, hK, hA, hT⟩ := id hZ
  have hx := hS0.1
  have hb := hS0.2.1
  have hml := hS0.2.2.1
  have hown : s.vm.findClass RX2 = some m.cls := hS0.2.2.2.1
  have hts := hS0.2.2.2.2
  unfold f_X2_setKeeper at hf
  refine lv_aload_n hx hb dX2_setKeeper_0 rfl (lv_at hl 0 rfl) ?_
  refine lv_iload_n hx hb dX2_setKeeper_1 rfl (lv_at hl 1 rfl) ?_
  obtain ⟨r1, e2, hf⟩ := z_bd hf
  refine z_callV1 (As := [.int v1]) (rest := []) (bs' := [bX2 G q o S.1 S.2.1 S.2.2.1 S.2.2.2.1 S.2.2.2.2.1 S.2.2.2.2.2.1 S.2.2.2.2.2.2.1 S.2.2.2.2.2.2.2]) hS0 (c_X2_isCell l G q o S v1 r1 e2) zc_X2_isCell rfl gX2_setKeeper_X2_isCell ⟨Nat.le_of_ble_eq_true rfl, Nat.le_of_ble_eq_true rfl⟩ hK hA hT hw (is := [0]) rfl rfl rfl rfl rfl rfl rfl hl.1 rfl (Nat.le_of_ble_eq_true rfl) dX2_setKeeper_2 (fun H locs hw => ?_)
  refine lv_if_eq (tgt := 15) hx hb dX2_setKeeper_5 rfl (fun hc => ?_) (fun hc => ?_)
  · have hf := z_t hc hf
    cases hf
    exact z_vret hx hb hr hlk hw dX2_setKeeper_15
  · have hf := z_f hc hf
    refine lv_aload_n hx hb dX2_setKeeper_8 rfl (lv_at hl 0 rfl) ?_
    refine z_get hS0 in_X2_setKeeper_X2 hK hw 0 1 rfl rfl rfl (by decide) (hts _ m_X2_setKeeper_0) (v := .ref (q (o + 2))) rfl dX2_setKeeper_9 ?_
    refine lv_iload_n hx hb dX2_setKeeper_12 rfl (lv_at hl 1 rfl) ?_
    refine lv_iload_n hx hb dX2_setKeeper_13 rfl (lv_at hl 2 rfl) ?_
    obtain ⟨g3, hf⟩ := z_gd hf
    refine z_iast (blk' := bX2 G q o S.1 (upd S.2.1 v1.toNatClampNeg v2) S.2.2.1 S.2.2.2.1 S.2.2.2.2.1 S.2.2.2.2.2.1 S.2.2.2.2.2.2.1 S.2.2.2.2.2.2.2) (bs' := [bX2 G q o S.1 (upd S.2.1 v1.toNatClampNeg v2) S.2.2.1 S.2.2.2.1 S.2.2.2.2.1 S.2.2.2.2.2.1 S.2.2.2.2.2.2.1 S.2.2.2.2.2.2.2]) hS0 hK hw 0 2 (zIn_vp g3) rfl rfl dX2_setKeeper_14 rfl rfl (fun H locs hw => ?_)
    cases hf
    exact z_vret hx hb hr hlk hw dX2_setKeeper_15
theorem zc_X2_setQuarrel : zC yX2_setQuarrel wsX2_setQuarrel cX2_setQuarrel 4 none 3 := ⟨⟨_, rfl⟩, by decide +kernel, by decide +kernel, by decide +kernel, by decide +kernel⟩
theorem m_X2_setQuarrel_0 : (.fieldLink RX2 24 "CellKeys$Jail" "foes" "[I" : Cond) ∈ wsX2_setQuarrel := by decide +kernel
theorem in_X2_setQuarrel_X2 : ∀ w ∈ u_ws RX2 TX2 8, w ∈ wsX2_setQuarrel := by decide +kernel
set_option maxHeartbeats 4000000 in
set_option maxRecDepth 100000 in
theorem c_X2_setQuarrel (l : Launch) (G : zG) (q : Nat → Nat) (o : Nat) (S : VX2) (v1 : Int32) (v2 : Int32) (v3 : Int32) (y : VX2) (hf : f_X2_setQuarrel S v1 v2 v3 = some y) : zMet l yX2_setQuarrel wsX2_setQuarrel 1 21 G [.ref (q (o + 0)), .int v1, .int v2, .int v3] [bX2 G q o S.1 S.2.1 S.2.2.1 S.2.2.2.1 S.2.2.2.2.1 S.2.2.2.2.2.1 S.2.2.2.2.2.2.1 S.2.2.2.2.2.2.2] none [bX2 G q o y.1 y.2.1 y.2.2.1 y.2.2.2.1 y.2.2.2.2.1 y.2.2.2.2.2.1 y.2.2.2.2.2.2.1 y.2.2.2.2.2.2.2] := by
  refine z_met zc_X2_setQuarrel (Nat.le_of_ble_eq_true rfl) ?_
  intro p e s m below meth c A ls hZ hl hw
  have hl : lv_has ls 4 [(0, .ref (q (o + 0))), (1, .int v1), (2, .int v2), (3, .int v3)] := hl
  obtain ⟨hS0, hr, hlk, hK, hA, hT⟩ := id hZ
  have hx := hS0.1
  have hb := hS0.2.1
  have hml := hS0.2.2.1
  have hown : s.vm.findClass RX2 = some m.cls := hS0.2.2.2.1
  have hts := hS0.2.2.2.2
  unfold f_X2_setQuarrel at hf
  refine lv_aload_n hx hb dX2_setQuarrel_0 rfl (lv_at hl 0 rfl) ?_
  refine lv_iload_n hx hb dX2_setQuarrel_1 rfl (lv_at hl 1 rfl) ?_
  obtain ⟨r1, e2, hf⟩ := z_bd hf
  refine z_callV1 (As := [.int v1]) (rest := []) (bs' := [bX2 G q o S.1 S.2.1 S.2.2.1 S.2.2.2.1 S.2.2.2.2.1 S.2.2.2.2.2.1 S.2.2.2.2.2.2.1 S.2.2.2.2.2.2.2]) hS0 (c_X2_isCell l G q o S v1 r1 e2) zc_X2_isCell rfl gX2_setQuarrel_X2_isCell ⟨Nat.le_of_ble_eq_true rfl, Nat.le_of_ble_eq_true rfl⟩ hK hA hT hw (is := [0]) rfl rfl rfl rfl rfl rfl rfl hl.1 rfl (Nat.le_of_ble_eq_true rfl) dX2_setQuarrel_2 (fun H locs hw => ?_)
  refine lv_if_eq (tgt := 60) hx hb dX2_setQuarrel_5 rfl (fun hc => ?_) (fun hc => ?_)
  · have hf := z_t hc hf
    cases hf
    exact z_vret hx hb hr hlk hw dX2_setQuarrel_60
  · have hf := z_f hc hf
    refine lv_aload_n hx hb dX2_setQuarrel_8 rfl (lv_at hl 0 rfl) ?_
    refine lv_iload_n hx hb dX2_setQuarrel_9 rfl (lv_at hl 2 rfl) ?_
    obtain ⟨r3, e4, hf⟩ := z_bd hf
    refine z_callV1 (As := [.int v2]) (rest := []) (bs' := [bX2 G q o S.1 S.2.1 S.2.2.1 S.2.2.2.1 S.2.2.2.2.1 S.2.2.2.2.2.1 S.2.2.2.2.2.2.1 S.2.2.2.2.2.2.2]) hS0 (c_X2_isCell l G q o S v2 r3 e4) zc_X2_isCell rfl gX2_setQuarrel_X2_isCell ⟨Nat.le_of_ble_eq_true rfl, Nat.le_of_ble_eq_true rfl⟩ hK hA hT hw (is := [0]) rfl rfl rfl rfl rfl rfl rfl hl.1 rfl (Nat.le_of_ble_eq_true rfl) dX2_setQuarrel_10 (fun H locs hw => ?_)
    refine lv_if_eq (tgt := 60) hx hb dX2_setQuarrel_13 rfl (fun hc => ?_) (fun hc => ?_)
    · have hf := z_t hc hf
      cases hf
      exact z_vret hx hb hr hlk hw dX2_setQuarrel_60
    · have hf := z_f hc hf
      refine lv_aload_n hx hb dX2_setQuarrel_16 rfl (lv_at hl 0 rfl) ?_
      refine z_get hS0 in_X2_setQuarrel_X2 hK hw 0 4 rfl rfl rfl (by decide) (hts _ m_X2_setQuarrel_0) (v := .ref (q (o + 5))) rfl dX2_setQuarrel_17 ?_
      refine lv_iload_n hx hb dX2_setQuarrel_20 rfl (lv_at hl 1 rfl) ?_
      refine lv_aload_n hx hb dX2_setQuarrel_21 rfl (lv_at hl 0 rfl) ?_
      refine z_get hS0 in_X2_setQuarrel_X2 hK hw 0 4 rfl rfl rfl (by decide) (hts _ m_X2_setQuarrel_0) (v := .ref (q (o + 5))) rfl dX2_setQuarrel_22 ?_
      refine lv_iload_n hx hb dX2_setQuarrel_25 rfl (lv_at hl 1 rfl) ?_
      obtain ⟨g5, hf⟩ := z_gd hf
      refine z_iald hS0 hK hw 0 5 (zIn_vp g5) rfl rfl dX2_setQuarrel_26 ?_
      refine lv_iconst (v := 1) hx hb dX2_setQuarrel_27 rfl ?_
      refine lv_iload_n hx hb dX2_setQuarrel_28 rfl (lv_at hl 2 rfl) ?_
      refine lv_ishl hx hb dX2_setQuarrel_29 ?_
      refine lv_iconst (v := (-1)) hx hb dX2_setQuarrel_30 rfl ?_
      refine lv_ixor hx hb dX2_setQuarrel_31 ?_
      refine lv_iand hx hb dX2_setQuarrel_32 ?_
      refine lv_iload_n hx hb dX2_setQuarrel_33 rfl (lv_at hl 3 rfl) ?_
      refine lv_iload_n hx hb dX2_setQuarrel_34 rfl (lv_at hl 2 rfl) ?_
      refine lv_ishl hx hb dX2_setQuarrel_35 ?_
      refine lv_ior hx hb dX2_setQuarrel_36 ?_
      obtain ⟨g6, hf⟩ := z_gd hf
      refine z_iast (blk' := bX2 G q o S.1 S.2.1 S.2.2.1 S.2.2.2.1 (upd S.2.2.2.2.1 v1.toNatClampNeg (((S.2.2.2.2.1 v1.toNatClampNeg) &&& (((1 : Int32) <<< (v2 &&& 31)) ^^^ ((-1) : Int32))) ||| (v3 <<< (v2 &&& 31)))) S.2.2.2.2.2.1 S.2.2.2.2.2.2.1 S.2.2.2.2.2.2.2) (bs' := [bX2 G q o S.1 S.2.1 S.2.2.1 S.2.2.2.1 (upd S.2.2.2.2.1 v1.toNatClampNeg (((S.2.2.2.2.1 v1.toNatClampNeg) &&& (((1 : Int32) <<< (v2 &&& 31)) ^^^ ((-1) : Int32))) ||| (v3 <<< (v2 &&& 31)))) S.2.2.2.2.2.1 S.2.2.2.2.2.2.1 S.2.2.2.2.2.2.2]) hS0 hK hw 0 5 (zIn_vp g6) rfl rfl dX2_setQuarrel_37 rfl rfl (fun H locs hw => ?_)
      refine lv_aload_n hx hb dX2_setQuarrel_38 rfl (lv_at hl 0 rfl) ?_
      refine z_get hS0 in_X2_setQuarrel_X2 hK hw 0 4 rfl rfl rfl (by decide) (hts _ m_X2_setQuarrel_0) (v := .ref (q (o + 5))) rfl dX2_setQuarrel_39 ?_
      refine lv_iload_n hx hb dX2_setQuarrel_42 rfl (lv_at hl 2 rfl) ?_
      refine lv_aload_n hx hb dX2_setQuarrel_43 rfl (lv_at hl 0 rfl) ?_
      refine z_get hS0 in_X2_setQuarrel_X2 hK hw 0 4 rfl rfl rfl (by decide) (hts _ m_X2_setQuarrel_0) (v := .ref (q (o + 5))) rfl dX2_setQuarrel_44 ?_
      refine lv_iload_n hx hb dX2_setQuarrel_47 rfl (lv_at hl 2 rfl) ?_
      obtain ⟨g7, hf⟩ := z_gd hf
      refine z_iald hS0 hK hw 0 5 (zIn_vp g7) rfl rfl dX2_setQuarrel_48 ?_
      refine lv_iconst (v := 1) hx hb dX2_setQuarrel_49 rfl ?_
      refine lv_iload_n hx hb dX2_setQuarrel_50 rfl (lv_at hl 1 rfl) ?_
      refine lv_ishl hx hb dX2_setQuarrel_51 ?_
      refine lv_iconst (v := (-1)) hx hb dX2_setQuarrel_52 rfl ?_
      refine lv_ixor hx hb dX2_setQuarrel_53 ?_
      refine lv_iand hx hb dX2_setQuarrel_54 ?_
      refine lv_iload_n hx hb dX2_setQuarrel_55 rfl (lv_at hl 3 rfl) ?_
      refine lv_iload_n hx hb dX2_setQuarrel_56 rfl (lv_at hl 1 rfl) ?_
      refine lv_ishl hx hb dX2_setQuarrel_57 ?_
      refine lv_ior hx hb dX2_setQuarrel_58 ?_
      obtain ⟨g8, hf⟩ := z_gd hf
      refine z_iast (blk' := bX2 G q o S.1 S.2.1 S.2.2.1 S.2.2.2.1 (upd (upd S.2.2.2.2.1 v1.toNatClampNeg (((S.2.2.2.2.1 v1.toNatClampNeg) &&& (((1 : Int32) <<< (v2 &&& 31)) ^^^ ((-1) : Int32))) ||| (v3 <<< (v2 &&& 31)))) v2.toNatClampNeg ((((upd S.2.2.2.2.1 v1.toNatClampNeg (((S.2.2.2.2.1 v1.toNatClampNeg) &&& (((1 : Int32) <<< (v2 &&& 31)) ^^^ ((-1) : Int32))) ||| (v3 <<< (v2 &&& 31)))) v2.toNatClampNeg) &&& (((1 : Int32) <<< (v1 &&& 31)) ^^^ ((-1) : Int32))) ||| (v3 <<< (v1 &&& 31)))) S.2.2.2.2.2.1 S.2.2.2.2.2.2.1 S.2.2.2.2.2.2.2) (bs' := [bX2 G q o S.1 S.2.1 S.2.2.1 S.2.2.2.1 (upd (upd S.2.2.2.2.1 v1.toNatClampNeg (((S.2.2.2.2.1 v1.toNatClampNeg) &&& (((1 : Int32) <<< (v2 &&& 31)) ^^^ ((-1) : Int32))) ||| (v3 <<< (v2 &&& 31)))) v2.toNatClampNeg ((((upd S.2.2.2.2.1 v1.toNatClampNeg (((S.2.2.2.2.1 v1.toNatClampNeg) &&& (((1 : Int32) <<< (v2 &&& 31)) ^^^ ((-1) : Int32))) ||| (v3 <<< (v2 &&& 31)))) v2.toNatClampNeg) &&& (((1 : Int32) <<< (v1 &&& 31)) ^^^ ((-1) : Int32))) ||| (v3 <<< (v1 &&& 31)))) S.2.2.2.2.2.1 S.2.2.2.2.2.2.1 S.2.2.2.2.2.2.2]) hS0 hK hw 0 5 (zIn_vp g8) rfl rfl dX2_setQuarrel_59 rfl rfl (fun H locs hw => ?_)
      cases hf
      exact z_vret hx hb hr hlk hw dX2_setQuarrel_60
