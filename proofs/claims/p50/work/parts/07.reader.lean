theorem zc_X5_close : zC yX5_close wsX5_close cX5_close 4 none 0 := ⟨⟨_, rfl⟩, by decide +kernel, by decide +kernel, by decide +kernel, by decide +kernel⟩
theorem m_X5_close_0 : (.fieldLink RX5 18 "CellKeys$Reader" "parts" "[I" : Cond) ∈ wsX5_close := by decide +kernel
theorem in_X5_close_X5 : ∀ w ∈ u_ws RX5 TX5 5, w ∈ wsX5_close := by decide +kernel
theorem m_X5_close_1 : (.fieldLink RX5 22 "CellKeys$Reader" "item" "I" : Cond) ∈ wsX5_close := by decide +kernel
theorem m_X5_close_2 : (.fieldLink RX5 12 "CellKeys$Reader" "draft" "LCellKeys$Jail;" : Cond) ∈ wsX5_close := by decide +kernel
theorem m_X5_close_3 : (.fieldLink RX5 29 "CellKeys$Reader" "counted" "Z" : Cond) ∈ wsX5_close := by decide +kernel
set_option maxHeartbeats 4000000 in
set_option maxRecDepth 100000 in
theorem c_X5_close (l : Launch) (G : zG) (q : Nat → Nat) (o : Nat) (S : VX5)  (y : VX5) (hf : f_X5_close S = some y) : zMet l yX5_close wsX5_close 3 69 G [.ref (q (o + 0))] [bX5 G q o S.2.1 S.2.2.1 S.2.2.2.1 S.2.2.2.2, bX2 G q (o + 2) S.1.1 S.1.2.1 S.1.2.2.1 S.1.2.2.2.1 S.1.2.2.2.2.1 S.1.2.2.2.2.2.1 S.1.2.2.2.2.2.2.1 S.1.2.2.2.2.2.2.2] none [bX5 G q o y.2.1 y.2.2.1 y.2.2.2.1 y.2.2.2.2, bX2 G q (o + 2) y.1.1 y.1.2.1 y.1.2.2.1 y.1.2.2.2.1 y.1.2.2.2.2.1 y.1.2.2.2.2.2.1 y.1.2.2.2.2.2.2.1 y.1.2.2.2.2.2.2.2] := by
  refine z_met zc_X5_close (Nat.le_of_ble_eq_true rfl) ?_
  intro p e s m below meth c A ls hZ hl hw
  have hl : lv_has ls 4 [(0, .ref (q (o + 0)))] := hl
  obtain ⟨hS0, hr, hlk, hK, hA, hT⟩ := id hZ
  have hx := hS0.1
  have hb := hS0.2.1
  have hml := hS0.2.2.1
  have hown : s.vm.findClass RX5 = some m.cls := hS0.2.2.2.1
  have hts := hS0.2.2.2.2
  unfold f_X5_close at hf
  refine lv_aload_n hx hb dX5_close_0 rfl (lv_at hl 0 rfl) ?_
  refine z_get hS0 in_X5_close_X5 hK hw 0 1 rfl rfl rfl (by decide) (hts _ m_X5_close_0) (v := .ref (q (o + 1))) rfl dX5_close_1 ?_
  refine lv_iconst (v := 0) hx hb dX5_close_4 rfl ?_
  obtain ⟨g1, hf⟩ := z_gd hf
  refine z_iald hS0 hK hw 0 1 (zIn_vp g1) rfl rfl dX5_close_5 ?_
  refine lv_istore_n (lv' := [(1, .int (S.2.1 (0 : Int32).toNatClampNeg)), (0, .ref (q (o + 0)))]) hx hb dX5_close_6 rfl hl (by decide) rfl (fun ls hl => ?_)
  refine lv_aload_n hx hb dX5_close_7 rfl (lv_at hl 1 rfl) ?_
  refine z_get hS0 in_X5_close_X5 hK hw 0 1 rfl rfl rfl (by decide) (hts _ m_X5_close_0) (v := .ref (q (o + 1))) rfl dX5_close_8 ?_
  refine lv_iconst (v := 1) hx hb dX5_close_11 rfl ?_
  obtain ⟨g2, hf⟩ := z_gd hf
  refine z_iald hS0 hK hw 0 1 (zIn_vp g2) rfl rfl dX5_close_12 ?_
  refine lv_istore_n (lv' := [(2, .int (S.2.1 (1 : Int32).toNatClampNeg)), (1, .int (S.2.1 (0 : Int32).toNatClampNeg)), (0, .ref (q (o + 0)))]) hx hb dX5_close_13 rfl hl (by decide) rfl (fun ls hl => ?_)
  refine lv_aload_n hx hb dX5_close_14 rfl (lv_at hl 2 rfl) ?_
  refine z_get hS0 in_X5_close_X5 hK hw 0 1 rfl rfl rfl (by decide) (hts _ m_X5_close_0) (v := .ref (q (o + 1))) rfl dX5_close_15 ?_
  refine lv_iconst (v := 2) hx hb dX5_close_18 rfl ?_
  obtain ⟨g3, hf⟩ := z_gd hf
  refine z_iald hS0 hK hw 0 1 (zIn_vp g3) rfl rfl dX5_close_19 ?_
  refine lv_istore_n (lv' := [(3, .int (S.2.1 (2 : Int32).toNatClampNeg)), (2, .int (S.2.1 (1 : Int32).toNatClampNeg)), (1, .int (S.2.1 (0 : Int32).toNatClampNeg)), (0, .ref (q (o + 0)))]) hx hb dX5_close_20 rfl hl (by decide) rfl (fun ls hl => ?_)
  refine lv_aload_n hx hb dX5_close_21 rfl (lv_at hl 3 rfl) ?_
  refine z_get hS0 in_X5_close_X5 hK hw 0 2 rfl rfl rfl (by decide) (hts _ m_X5_close_1) (v := .int S.2.2.1) rfl dX5_close_22 ?_
  by_cases hc0 : S.2.2.1 = 98
  · have hf := z_t hc0 hf
    refine lv_tableIn (tgt := 180) (off := 155) hx hb dX5_close_25 (by rw [hc0]; decide) (by rw [hc0]; decide) (by rw [hc0]; rfl) rfl ?_
    refine lv_aload_n hx hb dX5_close_180 rfl (lv_at hl 3 rfl) ?_
    refine z_get hS0 in_X5_close_X5 hK hw 0 0 rfl rfl rfl (by decide) (hts _ m_X5_close_2) (v := .ref (q ((o + 2) + 0))) rfl dX5_close_181 ?_
    refine lv_iload_n hx hb dX5_close_184 rfl (lv_at hl 2 rfl) ?_
    refine lv_iconst (v := 5) hx hb dX5_close_185 rfl ?_
    refine lv_iload_n hx hb dX5_close_186 rfl (lv_at hl 1 rfl) ?_
    refine lv_iload_n hx hb dX5_close_187 rfl (lv_at hl 0 rfl) ?_
    refine lv_iconst (v := 0) hx hb dX5_close_188 rfl ?_
    obtain ⟨r4, e5, hf⟩ := z_bd hf
    refine z_callV0 (As := [.int (S.2.1 (0 : Int32).toNatClampNeg), .int 5, .int (S.2.1 (1 : Int32).toNatClampNeg), .int (S.2.1 (2 : Int32).toNatClampNeg), .int 0]) (rest := []) (bs' := [bX5 G q o S.2.1 S.2.2.1 S.2.2.2.1 S.2.2.2.2, bX2 G q (o + 2) r4.1 r4.2.1 r4.2.2.1 r4.2.2.2.1 r4.2.2.2.2.1 r4.2.2.2.2.2.1 r4.2.2.2.2.2.2.1 r4.2.2.2.2.2.2.2]) hS0 (c_X2_setDoor l G q (o + 2) S.1 (S.2.1 (0 : Int32).toNatClampNeg) 5 (S.2.1 (1 : Int32).toNatClampNeg) (S.2.1 (2 : Int32).toNatClampNeg) 0 r4 e5) zc_X2_setDoor rfl gX5_close_X2_setDoor ⟨Nat.le_of_ble_eq_true rfl, Nat.le_of_ble_eq_true rfl⟩ hK hA hT hw (is := [1]) rfl rfl rfl rfl rfl rfl rfl hl.1 rfl (Nat.le_of_ble_eq_true rfl) dX5_close_189 (fun H locs hw => ?_)
    refine lv_goto (tgt := 237) hx hb dX5_close_192 rfl ?_
    refine lv_aload_n hx hb dX5_close_237 rfl (lv_at hl 3 rfl) ?_
    refine lv_iconst (v := 0) hx hb dX5_close_238 rfl ?_
    refine z_put (blk' := bX5 G q o S.2.1 0 S.2.2.2.1 S.2.2.2.2) (bs' := [bX5 G q o S.2.1 0 S.2.2.2.1 S.2.2.2.2, bX2 G q (o + 2) r4.1 r4.2.1 r4.2.2.1 r4.2.2.2.1 r4.2.2.2.2.1 r4.2.2.2.2.2.1 r4.2.2.2.2.2.2.1 r4.2.2.2.2.2.2.2]) hS0 in_X5_close_X5 tyX5 tyX5_ok nmX5 hK hw 0 2 rfl rfl rfl (by decide) (hts _ m_X5_close_1) rfl (ty := tyX5 2) (tyX5_ok 2 (by decide)) rfl rfl (Nat.le_of_ble_eq_true rfl) dX5_close_239 rfl rfl (fun H locs hw => ?_)
    cases hf
    exact z_vret hx hb hr hlk hw dX5_close_242
  · have hf := z_f hc0 hf
    by_cases hc7 : S.2.2.1 = 105
    · have hf := z_t hc7 hf
      refine lv_tableIn (tgt := 132) (off := 107) hx hb dX5_close_25 (by rw [hc7]; decide) (by rw [hc7]; decide) (by rw [hc7]; rfl) rfl ?_
      refine lv_aload_n hx hb dX5_close_132 rfl (lv_at hl 3 rfl) ?_
      refine z_get hS0 in_X5_close_X5 hK hw 0 0 rfl rfl rfl (by decide) (hts _ m_X5_close_2) (v := .ref (q ((o + 2) + 0))) rfl dX5_close_133 ?_
      refine lv_iload_n hx hb dX5_close_136 rfl (lv_at hl 2 rfl) ?_
      refine lv_iconst (v := 2) hx hb dX5_close_137 rfl ?_
      refine lv_bipush (v := (-9)) hx hb dX5_close_138 rfl ?_
      refine lv_bipush (v := (-9)) hx hb dX5_close_140 rfl ?_
      refine lv_iconst (v := 0) hx hb dX5_close_142 rfl ?_
      obtain ⟨r6, e7, hf⟩ := z_bd hf
      refine z_callV0 (As := [.int (S.2.1 (0 : Int32).toNatClampNeg), .int 2, .int (-9), .int (-9), .int 0]) (rest := []) (bs' := [bX5 G q o S.2.1 S.2.2.1 S.2.2.2.1 S.2.2.2.2, bX2 G q (o + 2) r6.1 r6.2.1 r6.2.2.1 r6.2.2.2.1 r6.2.2.2.2.1 r6.2.2.2.2.2.1 r6.2.2.2.2.2.2.1 r6.2.2.2.2.2.2.2]) hS0 (c_X2_setDoor l G q (o + 2) S.1 (S.2.1 (0 : Int32).toNatClampNeg) 2 (-9) (-9) 0 r6 e7) zc_X2_setDoor rfl gX5_close_X2_setDoor ⟨Nat.le_of_ble_eq_true rfl, Nat.le_of_ble_eq_true rfl⟩ hK hA hT hw (is := [1]) rfl rfl rfl rfl rfl rfl rfl hl.1 rfl (Nat.le_of_ble_eq_true rfl) dX5_close_143 (fun H locs hw => ?_)
      refine lv_goto (tgt := 237) hx hb dX5_close_146 rfl ?_
      refine lv_aload_n hx hb dX5_close_237 rfl (lv_at hl 3 rfl) ?_
      refine lv_iconst (v := 0) hx hb dX5_close_238 rfl ?_
      refine z_put (blk' := bX5 G q o S.2.1 0 S.2.2.2.1 S.2.2.2.2) (bs' := [bX5 G q o S.2.1 0 S.2.2.2.1 S.2.2.2.2, bX2 G q (o + 2) r6.1 r6.2.1 r6.2.2.1 r6.2.2.2.1 r6.2.2.2.2.1 r6.2.2.2.2.2.1 r6.2.2.2.2.2.2.1 r6.2.2.2.2.2.2.2]) hS0 in_X5_close_X5 tyX5 tyX5_ok nmX5 hK hw 0 2 rfl rfl rfl (by decide) (hts _ m_X5_close_1) rfl (ty := tyX5 2) (tyX5_ok 2 (by decide)) rfl rfl (Nat.le_of_ble_eq_true rfl) dX5_close_239 rfl rfl (fun H locs hw => ?_)
      cases hf
      exact z_vret hx hb hr hlk hw dX5_close_242
    · have hf := z_f hc7 hf
      by_cases hc9 : S.2.2.1 = 107
      · have hf := z_t hc9 hf
        refine lv_tableIn (tgt := 149) (off := 124) hx hb dX5_close_25 (by rw [hc9]; decide) (by rw [hc9]; decide) (by rw [hc9]; rfl) rfl ?_
        refine lv_aload_n hx hb dX5_close_149 rfl (lv_at hl 3 rfl) ?_
        refine z_get hS0 in_X5_close_X5 hK hw 0 0 rfl rfl rfl (by decide) (hts _ m_X5_close_2) (v := .ref (q ((o + 2) + 0))) rfl dX5_close_150 ?_
        refine lv_iload_n hx hb dX5_close_153 rfl (lv_at hl 2 rfl) ?_
        refine lv_iconst (v := 0) hx hb dX5_close_154 rfl ?_
        refine lv_iload_n hx hb dX5_close_155 rfl (lv_at hl 1 rfl) ?_
        refine lv_bipush (v := (-9)) hx hb dX5_close_156 rfl ?_
        refine lv_iconst (v := 0) hx hb dX5_close_158 rfl ?_
        obtain ⟨r8, e9, hf⟩ := z_bd hf
        refine z_callV0 (As := [.int (S.2.1 (0 : Int32).toNatClampNeg), .int 0, .int (S.2.1 (1 : Int32).toNatClampNeg), .int (-9), .int 0]) (rest := []) (bs' := [bX5 G q o S.2.1 S.2.2.1 S.2.2.2.1 S.2.2.2.2, bX2 G q (o + 2) r8.1 r8.2.1 r8.2.2.1 r8.2.2.2.1 r8.2.2.2.2.1 r8.2.2.2.2.2.1 r8.2.2.2.2.2.2.1 r8.2.2.2.2.2.2.2]) hS0 (c_X2_setDoor l G q (o + 2) S.1 (S.2.1 (0 : Int32).toNatClampNeg) 0 (S.2.1 (1 : Int32).toNatClampNeg) (-9) 0 r8 e9) zc_X2_setDoor rfl gX5_close_X2_setDoor ⟨Nat.le_of_ble_eq_true rfl, Nat.le_of_ble_eq_true rfl⟩ hK hA hT hw (is := [1]) rfl rfl rfl rfl rfl rfl rfl hl.1 rfl (Nat.le_of_ble_eq_true rfl) dX5_close_159 (fun H locs hw => ?_)
        refine lv_goto (tgt := 237) hx hb dX5_close_162 rfl ?_
        refine lv_aload_n hx hb dX5_close_237 rfl (lv_at hl 3 rfl) ?_
        refine lv_iconst (v := 0) hx hb dX5_close_238 rfl ?_
        refine z_put (blk' := bX5 G q o S.2.1 0 S.2.2.2.1 S.2.2.2.2) (bs' := [bX5 G q o S.2.1 0 S.2.2.2.1 S.2.2.2.2, bX2 G q (o + 2) r8.1 r8.2.1 r8.2.2.1 r8.2.2.2.1 r8.2.2.2.2.1 r8.2.2.2.2.2.1 r8.2.2.2.2.2.2.1 r8.2.2.2.2.2.2.2]) hS0 in_X5_close_X5 tyX5 tyX5_ok nmX5 hK hw 0 2 rfl rfl rfl (by decide) (hts _ m_X5_close_1) rfl (ty := tyX5 2) (tyX5_ok 2 (by decide)) rfl rfl (Nat.le_of_ble_eq_true rfl) dX5_close_239 rfl rfl (fun H locs hw => ?_)
        cases hf
        exact z_vret hx hb hr hlk hw dX5_close_242
      · have hf := z_f hc9 hf
        by_cases hc10 : S.2.2.1 = 108
        · have hf := z_t hc10 hf
          refine lv_tableIn (tgt := 195) (off := 170) hx hb dX5_close_25 (by rw [hc10]; decide) (by rw [hc10]; decide) (by rw [hc10]; rfl) rfl ?_
          refine lv_aload_n hx hb dX5_close_195 rfl (lv_at hl 3 rfl) ?_
          refine z_get hS0 in_X5_close_X5 hK hw 0 0 rfl rfl rfl (by decide) (hts _ m_X5_close_2) (v := .ref (q ((o + 2) + 0))) rfl dX5_close_196 ?_
          refine lv_iload_n hx hb dX5_close_199 rfl (lv_at hl 2 rfl) ?_
          refine lv_iconst (v := 3) hx hb dX5_close_200 rfl ?_
          refine lv_iload_n hx hb dX5_close_201 rfl (lv_at hl 1 rfl) ?_
          refine lv_bipush (v := (-9)) hx hb dX5_close_202 rfl ?_
          refine lv_iload_n hx hb dX5_close_204 rfl (lv_at hl 0 rfl) ?_
          obtain ⟨r10, e11, hf⟩ := z_bd hf
          refine z_callV0 (As := [.int (S.2.1 (0 : Int32).toNatClampNeg), .int 3, .int (S.2.1 (1 : Int32).toNatClampNeg), .int (-9), .int (S.2.1 (2 : Int32).toNatClampNeg)]) (rest := []) (bs' := [bX5 G q o S.2.1 S.2.2.1 S.2.2.2.1 S.2.2.2.2, bX2 G q (o + 2) r10.1 r10.2.1 r10.2.2.1 r10.2.2.2.1 r10.2.2.2.2.1 r10.2.2.2.2.2.1 r10.2.2.2.2.2.2.1 r10.2.2.2.2.2.2.2]) hS0 (c_X2_setDoor l G q (o + 2) S.1 (S.2.1 (0 : Int32).toNatClampNeg) 3 (S.2.1 (1 : Int32).toNatClampNeg) (-9) (S.2.1 (2 : Int32).toNatClampNeg) r10 e11) zc_X2_setDoor rfl gX5_close_X2_setDoor ⟨Nat.le_of_ble_eq_true rfl, Nat.le_of_ble_eq_true rfl⟩ hK hA hT hw (is := [1]) rfl rfl rfl rfl rfl rfl rfl hl.1 rfl (Nat.le_of_ble_eq_true rfl) dX5_close_205 (fun H locs hw => ?_)
          refine lv_goto (tgt := 237) hx hb dX5_close_208 rfl ?_
          refine lv_aload_n hx hb dX5_close_237 rfl (lv_at hl 3 rfl) ?_
          refine lv_iconst (v := 0) hx hb dX5_close_238 rfl ?_
          refine z_put (blk' := bX5 G q o S.2.1 0 S.2.2.2.1 S.2.2.2.2) (bs' := [bX5 G q o S.2.1 0 S.2.2.2.1 S.2.2.2.2, bX2 G q (o + 2) r10.1 r10.2.1 r10.2.2.1 r10.2.2.2.1 r10.2.2.2.2.1 r10.2.2.2.2.2.1 r10.2.2.2.2.2.2.1 r10.2.2.2.2.2.2.2]) hS0 in_X5_close_X5 tyX5 tyX5_ok nmX5 hK hw 0 2 rfl rfl rfl (by decide) (hts _ m_X5_close_1) rfl (ty := tyX5 2) (tyX5_ok 2 (by decide)) rfl rfl (Nat.le_of_ble_eq_true rfl) dX5_close_239 rfl rfl (fun H locs hw => ?_)
          cases hf
          exact z_vret hx hb hr hlk hw dX5_close_242
        · have hf := z_f hc10 hf
          by_cases hc12 : S.2.2.1 = 110
          · have hf := z_t hc12 hf
            refine lv_tableIn (tgt := 116) (off := 91) hx hb dX5_close_25 (by rw [hc12]; decide) (by rw [hc12]; decide) (by rw [hc12]; rfl) rfl ?_
            refine lv_aload_n hx hb dX5_close_116 rfl (lv_at hl 3 rfl) ?_
            refine z_get hS0 in_X5_close_X5 hK hw 0 0 rfl rfl rfl (by decide) (hts _ m_X5_close_2) (v := .ref (q ((o + 2) + 0))) rfl dX5_close_117 ?_
            refine lv_iload_n hx hb dX5_close_120 rfl (lv_at hl 2 rfl) ?_
            obtain ⟨r12, e13, hf⟩ := z_bd hf
            refine z_callV0 (As := [.int (S.2.1 (0 : Int32).toNatClampNeg)]) (rest := []) (bs' := [bX5 G q o S.2.1 S.2.2.1 S.2.2.2.1 S.2.2.2.2, bX2 G q (o + 2) r12.1 r12.2.1 r12.2.2.1 r12.2.2.2.1 r12.2.2.2.2.1 r12.2.2.2.2.2.1 r12.2.2.2.2.2.2.1 r12.2.2.2.2.2.2.2]) hS0 (c_X2_build l G q (o + 2) S.1 (S.2.1 (0 : Int32).toNatClampNeg) r12 e13) zc_X2_build rfl gX5_close_X2_build ⟨Nat.le_of_ble_eq_true rfl, Nat.le_of_ble_eq_true rfl⟩ hK hA hT hw (is := [1]) rfl rfl rfl rfl rfl rfl rfl hl.1 rfl (Nat.le_of_ble_eq_true rfl) dX5_close_121 (fun H locs hw => ?_)
            refine lv_aload_n hx hb dX5_close_124 rfl (lv_at hl 3 rfl) ?_
            refine lv_iconst (v := 1) hx hb dX5_close_125 rfl ?_
            refine z_put (blk' := bX5 G q o S.2.1 S.2.2.1 S.2.2.2.1 1) (bs' := [bX5 G q o S.2.1 S.2.2.1 S.2.2.2.1 1, bX2 G q (o + 2) r12.1 r12.2.1 r12.2.2.1 r12.2.2.2.1 r12.2.2.2.2.1 r12.2.2.2.2.2.1 r12.2.2.2.2.2.2.1 r12.2.2.2.2.2.2.2]) hS0 in_X5_close_X5 tyX5 tyX5_ok nmX5 hK hw 0 4 rfl rfl rfl (by decide) (hts _ m_X5_close_3) rfl (ty := tyX5 4) (tyX5_ok 4 (by decide)) rfl rfl (Nat.le_of_ble_eq_true rfl) dX5_close_126 rfl rfl (fun H locs hw => ?_)
            refine lv_goto (tgt := 237) hx hb dX5_close_129 rfl ?_
            refine lv_aload_n hx hb dX5_close_237 rfl (lv_at hl 3 rfl) ?_
            refine lv_iconst (v := 0) hx hb dX5_close_238 rfl ?_
            refine z_put (blk' := bX5 G q o S.2.1 0 S.2.2.2.1 1) (bs' := [bX5 G q o S.2.1 0 S.2.2.2.1 1, bX2 G q (o + 2) r12.1 r12.2.1 r12.2.2.1 r12.2.2.2.1 r12.2.2.2.2.1 r12.2.2.2.2.2.1 r12.2.2.2.2.2.2.1 r12.2.2.2.2.2.2.2]) hS0 in_X5_close_X5 tyX5 tyX5_ok nmX5 hK hw 0 2 rfl rfl rfl (by decide) (hts _ m_X5_close_1) rfl (ty := tyX5 2) (tyX5_ok 2 (by decide)) rfl rfl (Nat.le_of_ble_eq_true rfl) dX5_close_239 rfl rfl (fun H locs hw => ?_)
            cases hf
            exact z_vret hx hb hr hlk hw dX5_close_242
          · have hf := z_f hc12 hf
            by_cases hc17 : S.2.2.1 = 115
            · have hf := z_t hc17 hf
              refine lv_tableIn (tgt := 211) (off := 186) hx hb dX5_close_25 (by rw [hc17]; decide) (by rw [hc17]; decide) (by rw [hc17]; rfl) rfl ?_
              refine lv_aload_n hx hb dX5_close_211 rfl (lv_at hl 3 rfl) ?_
              refine z_get hS0 in_X5_close_X5 hK hw 0 0 rfl rfl rfl (by decide) (hts _ m_X5_close_2) (v := .ref (q ((o + 2) + 0))) rfl dX5_close_212 ?_
              refine lv_iload_n hx hb dX5_close_215 rfl (lv_at hl 2 rfl) ?_
              refine lv_iconst (v := 4) hx hb dX5_close_216 rfl ?_
              refine lv_iload_n hx hb dX5_close_217 rfl (lv_at hl 1 rfl) ?_
              refine lv_bipush (v := (-9)) hx hb dX5_close_218 rfl ?_
              refine lv_iload_n hx hb dX5_close_220 rfl (lv_at hl 0 rfl) ?_
              obtain ⟨r14, e15, hf⟩ := z_bd hf
              refine z_callV0 (As := [.int (S.2.1 (0 : Int32).toNatClampNeg), .int 4, .int (S.2.1 (1 : Int32).toNatClampNeg), .int (-9), .int (S.2.1 (2 : Int32).toNatClampNeg)]) (rest := []) (bs' := [bX5 G q o S.2.1 S.2.2.1 S.2.2.2.1 S.2.2.2.2, bX2 G q (o + 2) r14.1 r14.2.1 r14.2.2.1 r14.2.2.2.1 r14.2.2.2.2.1 r14.2.2.2.2.2.1 r14.2.2.2.2.2.2.1 r14.2.2.2.2.2.2.2]) hS0 (c_X2_setDoor l G q (o + 2) S.1 (S.2.1 (0 : Int32).toNatClampNeg) 4 (S.2.1 (1 : Int32).toNatClampNeg) (-9) (S.2.1 (2 : Int32).toNatClampNeg) r14 e15) zc_X2_setDoor rfl gX5_close_X2_setDoor ⟨Nat.le_of_ble_eq_true rfl, Nat.le_of_ble_eq_true rfl⟩ hK hA hT hw (is := [1]) rfl rfl rfl rfl rfl rfl rfl hl.1 rfl (Nat.le_of_ble_eq_true rfl) dX5_close_221 (fun H locs hw => ?_)
              refine lv_goto (tgt := 237) hx hb dX5_close_224 rfl ?_
              refine lv_aload_n hx hb dX5_close_237 rfl (lv_at hl 3 rfl) ?_
              refine lv_iconst (v := 0) hx hb dX5_close_238 rfl ?_
              refine z_put (blk' := bX5 G q o S.2.1 0 S.2.2.2.1 S.2.2.2.2) (bs' := [bX5 G q o S.2.1 0 S.2.2.2.1 S.2.2.2.2, bX2 G q (o + 2) r14.1 r14.2.1 r14.2.2.1 r14.2.2.2.1 r14.2.2.2.2.1 r14.2.2.2.2.2.1 r14.2.2.2.2.2.2.1 r14.2.2.2.2.2.2.2]) hS0 in_X5_close_X5 tyX5 tyX5_ok nmX5 hK hw 0 2 rfl rfl rfl (by decide) (hts _ m_X5_close_1) rfl (ty := tyX5 2) (tyX5_ok 2 (by decide)) rfl rfl (Nat.le_of_ble_eq_true rfl) dX5_close_239 rfl rfl (fun H locs hw => ?_)
              cases hf
              exact z_vret hx hb hr hlk hw dX5_close_242
            · have hf := z_f hc17 hf
              by_cases hc18 : S.2.2.1 = 116
              · have hf := z_t hc18 hf
                refine lv_tableIn (tgt := 165) (off := 140) hx hb dX5_close_25 (by rw [hc18]; decide) (by rw [hc18]; decide) (by rw [hc18]; rfl) rfl ?_
                refine lv_aload_n hx hb dX5_close_165 rfl (lv_at hl 3 rfl) ?_
                refine z_get hS0 in_X5_close_X5 hK hw 0 0 rfl rfl rfl (by decide) (hts _ m_X5_close_2) (v := .ref (q ((o + 2) + 0))) rfl dX5_close_166 ?_
                refine lv_iload_n hx hb dX5_close_169 rfl (lv_at hl 2 rfl) ?_
                refine lv_iconst (v := 1) hx hb dX5_close_170 rfl ?_
                refine lv_iload_n hx hb dX5_close_171 rfl (lv_at hl 1 rfl) ?_
                refine lv_iload_n hx hb dX5_close_172 rfl (lv_at hl 0 rfl) ?_
                refine lv_iconst (v := 0) hx hb dX5_close_173 rfl ?_
                obtain ⟨r16, e17, hf⟩ := z_bd hf
                refine z_callV0 (As := [.int (S.2.1 (0 : Int32).toNatClampNeg), .int 1, .int (S.2.1 (1 : Int32).toNatClampNeg), .int (S.2.1 (2 : Int32).toNatClampNeg), .int 0]) (rest := []) (bs' := [bX5 G q o S.2.1 S.2.2.1 S.2.2.2.1 S.2.2.2.2, bX2 G q (o + 2) r16.1 r16.2.1 r16.2.2.1 r16.2.2.2.1 r16.2.2.2.2.1 r16.2.2.2.2.2.1 r16.2.2.2.2.2.2.1 r16.2.2.2.2.2.2.2]) hS0 (c_X2_setDoor l G q (o + 2) S.1 (S.2.1 (0 : Int32).toNatClampNeg) 1 (S.2.1 (1 : Int32).toNatClampNeg) (S.2.1 (2 : Int32).toNatClampNeg) 0 r16 e17) zc_X2_setDoor rfl gX5_close_X2_setDoor ⟨Nat.le_of_ble_eq_true rfl, Nat.le_of_ble_eq_true rfl⟩ hK hA hT hw (is := [1]) rfl rfl rfl rfl rfl rfl rfl hl.1 rfl (Nat.le_of_ble_eq_true rfl) dX5_close_174 (fun H locs hw => ?_)
                refine lv_goto (tgt := 237) hx hb dX5_close_177 rfl ?_
                refine lv_aload_n hx hb dX5_close_237 rfl (lv_at hl 3 rfl) ?_
                refine lv_iconst (v := 0) hx hb dX5_close_238 rfl ?_
                refine z_put (blk' := bX5 G q o S.2.1 0 S.2.2.2.1 S.2.2.2.2) (bs' := [bX5 G q o S.2.1 0 S.2.2.2.1 S.2.2.2.2, bX2 G q (o + 2) r16.1 r16.2.1 r16.2.2.1 r16.2.2.2.1 r16.2.2.2.2.1 r16.2.2.2.2.2.1 r16.2.2.2.2.2.2.1 r16.2.2.2.2.2.2.2]) hS0 in_X5_close_X5 tyX5 tyX5_ok nmX5 hK hw 0 2 rfl rfl rfl (by decide) (hts _ m_X5_close_1) rfl (ty := tyX5 2) (tyX5_ok 2 (by decide)) rfl rfl (Nat.le_of_ble_eq_true rfl) dX5_close_239 rfl rfl (fun H locs hw => ?_)
                cases hf
                exact z_vret hx hb hr hlk hw dX5_close_242
              · have hf := z_f hc18 hf
                refine z_dflt (tgt := 227) hx hb [0, 7, 9, 10, 12, 17, 18] dX5_close_25 (by decide) (by decide) (List.forall_mem_cons.mpr ⟨z_ne rfl hc0, (List.forall_mem_cons.mpr ⟨z_ne rfl hc7, (List.forall_mem_cons.mpr ⟨z_ne rfl hc9, (List.forall_mem_cons.mpr ⟨z_ne rfl hc10, (List.forall_mem_cons.mpr ⟨z_ne rfl hc12, (List.forall_mem_cons.mpr ⟨z_ne rfl hc17, (List.forall_mem_cons.mpr ⟨z_ne rfl hc18, (fun _ h => absurd h List.not_mem_nil)⟩)⟩)⟩)⟩)⟩)⟩)⟩) rfl ?_
                refine lv_aload_n hx hb dX5_close_227 rfl (lv_at hl 3 rfl) ?_
                refine z_get hS0 in_X5_close_X5 hK hw 0 0 rfl rfl rfl (by decide) (hts _ m_X5_close_2) (v := .ref (q ((o + 2) + 0))) rfl dX5_close_228 ?_
                refine lv_iload_n hx hb dX5_close_231 rfl (lv_at hl 2 rfl) ?_
                refine lv_iload_n hx hb dX5_close_232 rfl (lv_at hl 1 rfl) ?_
                refine lv_iconst (v := 1) hx hb dX5_close_233 rfl ?_
                obtain ⟨r18, e19, hf⟩ := z_bd hf
                refine z_callV0 (As := [.int (S.2.1 (0 : Int32).toNatClampNeg), .int (S.2.1 (1 : Int32).toNatClampNeg), .int 1]) (rest := []) (bs' := [bX5 G q o S.2.1 S.2.2.1 S.2.2.2.1 S.2.2.2.2, bX2 G q (o + 2) r18.1 r18.2.1 r18.2.2.1 r18.2.2.2.1 r18.2.2.2.2.1 r18.2.2.2.2.2.1 r18.2.2.2.2.2.2.1 r18.2.2.2.2.2.2.2]) hS0 (c_X2_setQuarrel l G q (o + 2) S.1 (S.2.1 (0 : Int32).toNatClampNeg) (S.2.1 (1 : Int32).toNatClampNeg) 1 r18 e19) zc_X2_setQuarrel rfl gX5_close_X2_setQuarrel ⟨Nat.le_of_ble_eq_true rfl, Nat.le_of_ble_eq_true rfl⟩ hK hA hT hw (is := [1]) rfl rfl rfl rfl rfl rfl rfl hl.1 rfl (Nat.le_of_ble_eq_true rfl) dX5_close_234 (fun H locs hw => ?_)
                refine lv_aload_n hx hb dX5_close_237 rfl (lv_at hl 3 rfl) ?_
                refine lv_iconst (v := 0) hx hb dX5_close_238 rfl ?_
                refine z_put (blk' := bX5 G q o S.2.1 0 S.2.2.2.1 S.2.2.2.2) (bs' := [bX5 G q o S.2.1 0 S.2.2.2.1 S.2.2.2.2, bX2 G q (o + 2) r18.1 r18.2.1 r18.2.2.1 r18.2.2.2.1 r18.2.2.2.2.1 r18.2.2.2.2.2.1 r18.2.2.2.2.2.2.1 r18.2.2.2.2.2.2.2]) hS0 in_X5_close_X5 tyX5 tyX5_ok nmX5 hK hw 0 2 rfl rfl rfl (by decide) (hts _ m_X5_close_1) rfl (ty := tyX5 2) (tyX5_ok 2 (by decide)) rfl rfl (Nat.le_of_ble_eq_true rfl) dX5_close_239 rfl rfl (fun H locs hw => ?_)
                cases hf
                exact z_vret hx hb hr hlk hw dX5_close_242
theorem zc_X5_formOf : zC yX5_formOf wsX5_formOf cX5_formOf 1 (some (.object "java/lang/String")) 1 := ⟨⟨_, rfl⟩, by decide +kernel, by decide +kernel, by decide +kernel, by decide +kernel⟩
set_option maxHeartbeats 4000000 in
set_option maxRecDepth 100000 in
theorem c_X5_formOf (l : Launch) (G : zG)   (v0 : Int32) (y : Nat) (hf : f_X5_formOf v0 = some y) : zMet l yX5_formOf wsX5_formOf 0 0 G [.int v0] [] (some (.ref (G.2.2.2.2.2.1 y))) [] := by
  refine z_met zc_X5_formOf (Nat.le_of_ble_eq_true rfl) ?_
  intro p e s m below meth c A ls hZ hl hw
  have hl : lv_has ls 1 [(0, .int v0)] := hl
  obtain ⟨hS0, hr, hlk, hK, hA, hT⟩ := id hZ
  have hx := hS0.1
  have hb := hS0.2.1
  have hml := hS0.2.2.1
  have hown : s.vm.findClass RX5 = some m.cls := hS0.2.2.2.1
  have hts := hS0.2.2.2.2
  unfold f_X5_formOf at hf
  refine lv_iload_n hx hb dX5_formOf_0 rfl (lv_at hl 0 rfl) ?_
  by_cases hc0 : v0 = 98
  · have hf := z_t hc0 hf
    refine lv_tableIn (tgt := 101) (off := 100) hx hb dX5_formOf_1 (by rw [hc0]; decide) (by rw [hc0]; decide) (by rw [hc0]; rfl) rfl ?_
    refine va_ldcS hx hb hown (hT.2.2.2.1 3 (by decide)) dX5_formOf_101 ?_
    cases hf
    exact z_aret hx hb hr (Or.inl ⟨_, rfl⟩) (Or.inr ⟨_, rfl⟩) hlk hw dX5_formOf_103
  · have hf := z_f hc0 hf
    by_cases hc7 : v0 = 105
    · have hf := z_t hc7 hf
      refine lv_tableIn (tgt := 95) (off := 94) hx hb dX5_formOf_1 (by rw [hc7]; decide) (by rw [hc7]; decide) (by rw [hc7]; rfl) rfl ?_
      refine va_ldcS hx hb hown (hT.2.2.2.1 1 (by decide)) dX5_formOf_95 ?_
      cases hf
      exact z_aret hx hb hr (Or.inl ⟨_, rfl⟩) (Or.inr ⟨_, rfl⟩) hlk hw dX5_formOf_97
    · have hf := z_f hc7 hf
      by_cases hc9 : v0 = 107
      · have hf := z_t hc9 hf
        refine lv_tableIn (tgt := 98) (off := 97) hx hb dX5_formOf_1 (by rw [hc9]; decide) (by rw [hc9]; decide) (by rw [hc9]; rfl) rfl ?_
        refine va_ldcS hx hb hown (hT.2.2.2.1 2 (by decide)) dX5_formOf_98 ?_
        cases hf
        exact z_aret hx hb hr (Or.inl ⟨_, rfl⟩) (Or.inr ⟨_, rfl⟩) hlk hw dX5_formOf_100
      · have hf := z_f hc9 hf
        by_cases hc10 : v0 = 108
        · have hf := z_t hc10 hf
          refine lv_tableIn (tgt := 104) (off := 103) hx hb dX5_formOf_1 (by rw [hc10]; decide) (by rw [hc10]; decide) (by rw [hc10]; rfl) rfl ?_
          refine va_ldcS hx hb hown (hT.2.2.2.1 4 (by decide)) dX5_formOf_104 ?_
          cases hf
          exact z_aret hx hb hr (Or.inl ⟨_, rfl⟩) (Or.inr ⟨_, rfl⟩) hlk hw dX5_formOf_106
        · have hf := z_f hc10 hf
          by_cases hc12 : v0 = 110
          · have hf := z_t hc12 hf
            refine lv_tableIn (tgt := 92) (off := 91) hx hb dX5_formOf_1 (by rw [hc12]; decide) (by rw [hc12]; decide) (by rw [hc12]; rfl) rfl ?_
            refine va_ldcS hx hb hown (hT.2.2.2.1 0 (by decide)) dX5_formOf_92 ?_
            cases hf
            exact z_aret hx hb hr (Or.inl ⟨_, rfl⟩) (Or.inr ⟨_, rfl⟩) hlk hw dX5_formOf_94
          · have hf := z_f hc12 hf
            by_cases hc15 : v0 = 113
            · have hf := z_t hc15 hf
              refine lv_tableIn (tgt := 98) (off := 97) hx hb dX5_formOf_1 (by rw [hc15]; decide) (by rw [hc15]; decide) (by rw [hc15]; rfl) rfl ?_
              refine va_ldcS hx hb hown (hT.2.2.2.1 2 (by decide)) dX5_formOf_98 ?_
              cases hf
              exact z_aret hx hb hr (Or.inl ⟨_, rfl⟩) (Or.inr ⟨_, rfl⟩) hlk hw dX5_formOf_100
            · have hf := z_f hc15 hf
              by_cases hc17 : v0 = 115
              · have hf := z_t hc17 hf
                refine lv_tableIn (tgt := 104) (off := 103) hx hb dX5_formOf_1 (by rw [hc17]; decide) (by rw [hc17]; decide) (by rw [hc17]; rfl) rfl ?_
                refine va_ldcS hx hb hown (hT.2.2.2.1 4 (by decide)) dX5_formOf_104 ?_
                cases hf
                exact z_aret hx hb hr (Or.inl ⟨_, rfl⟩) (Or.inr ⟨_, rfl⟩) hlk hw dX5_formOf_106
              · have hf := z_f hc17 hf
                by_cases hc18 : v0 = 116
                · have hf := z_t hc18 hf
                  refine lv_tableIn (tgt := 101) (off := 100) hx hb dX5_formOf_1 (by rw [hc18]; decide) (by rw [hc18]; decide) (by rw [hc18]; rfl) rfl ?_
                  refine va_ldcS hx hb hown (hT.2.2.2.1 3 (by decide)) dX5_formOf_101 ?_
                  cases hf
                  exact z_aret hx hb hr (Or.inl ⟨_, rfl⟩) (Or.inr ⟨_, rfl⟩) hlk hw dX5_formOf_103
                · have hf := z_f hc18 hf
                  refine z_dflt (tgt := 107) hx hb [0, 7, 9, 10, 12, 15, 17, 18] dX5_formOf_1 (by decide) (by decide) (List.forall_mem_cons.mpr ⟨z_ne rfl hc0, (List.forall_mem_cons.mpr ⟨z_ne rfl hc7, (List.forall_mem_cons.mpr ⟨z_ne rfl hc9, (List.forall_mem_cons.mpr ⟨z_ne rfl hc10, (List.forall_mem_cons.mpr ⟨z_ne rfl hc12, (List.forall_mem_cons.mpr ⟨z_ne rfl hc15, (List.forall_mem_cons.mpr ⟨z_ne rfl hc17, (List.forall_mem_cons.mpr ⟨z_ne rfl hc18, (fun _ h => absurd h List.not_mem_nil)⟩)⟩)⟩)⟩)⟩)⟩)⟩)⟩) rfl ?_
                  refine va_ldcS hx hb hown (hT.2.2.2.1 5 (by decide)) dX5_formOf_107 ?_
                  cases hf
                  exact z_aret hx hb hr (Or.inl ⟨_, rfl⟩) (Or.inr ⟨_, rfl⟩) hlk hw dX5_formOf_109
theorem zc_X5_isNew : zC yX5_isNew wsX5_isNew cX5_isNew 3 (some .boolean) 1 := ⟨⟨_, rfl⟩, by decide +kernel, by decide +kernel, by decide +kernel, by decide +kernel⟩
theorem m_X5_isNew_0 : (.fieldLink RX5 26 "CellKeys$Reader" "taken" "I" : Cond) ∈ wsX5_isNew := by decide +kernel
theorem in_X5_isNew_X5 : ∀ w ∈ u_ws RX5 TX5 5, w ∈ wsX5_isNew := by decide +kernel
theorem m_X5_isNew_1 : (.fieldLink RX5 18 "CellKeys$Reader" "parts" "[I" : Cond) ∈ wsX5_isNew := by decide +kernel
set_option maxHeartbeats 4000000 in
set_option maxRecDepth 100000 in
theorem k_X5_isNew_2 {p : Program} {l : Launch} {e : Env} {s : State} {m : MethodId} {args : Array Value} {below : List Frame} {meth : Method} {c : Code} {A : Nat → Prop} {G : zG} {q : Nat → Nat} {o : Nat}  (hZ : zZ p s m args meth c A G cX5_isNew 3 RX5 wsX5_isNew (some .boolean)) (y : Int32)  (n : Nat) : ∀ (S : VX5) (v1 : Int32) (v2 : Int32) (H : Heap) (locs : List Loc) (ls : Array Slot), f_X5_isNew_2 n S v1 v2 = some y → zH G A s.heap [bX5 G q o S.2.1 S.2.2.1 S.2.2.2.1 S.2.2.2.2, bX2 G q (o + 2) S.1.1 S.1.2.1 S.1.2.2.1 S.1.2.2.2.1 S.1.2.2.2.2.1 S.1.2.2.2.2.2.1 S.1.2.2.2.2.2.2.1 S.1.2.2.2.2.2.2.2] H locs → lv_has ls 3 [(0, .ref (q (o + 0))), (1, .int v1), (2, .int v2)] → W p l e { frames := 0, cells := 0, slots := 0, locals := 0 } s m args below meth c H locs 0 0 (MQ below (zQ (some (.int y)) (zPost G [bX5 G q o S.2.1 S.2.2.1 S.2.2.2.1 S.2.2.2.2, bX2 G q (o + 2) S.1.1 S.1.2.1 S.1.2.2.1 S.1.2.2.2.1 S.1.2.2.2.2.1 S.1.2.2.2.2.2.1 S.1.2.2.2.2.2.2.1 S.1.2.2.2.2.2.2.2]) A) args s 0 0 A) (F0 m 2 ls []) := by
  obtain ⟨hS0, hr, hlk, hK, hA, hT⟩ := id hZ
  have hx := hS0.1
  have hb := hS0.2.1
  have hml := hS0.2.2.1
  have hown : s.vm.findClass RX5 = some m.cls := hS0.2.2.2.1
  have hts := hS0.2.2.2.2
  induction n with
  | zero =>
    intro S v1 v2 H locs ls hf hw hl
    unfold f_X5_isNew_2 at hf
    cases hf
  | succ n ih =>
    intro S v1 v2 H locs ls hf hw hl
    unfold f_X5_isNew_2 at hf
    refine lv_iload_n hx hb dX5_isNew_2 rfl (lv_at hl 2 rfl) ?_
    refine lv_aload_n hx hb dX5_isNew_3 rfl (lv_at hl 0 rfl) ?_
    refine z_get hS0 in_X5_isNew_X5 hK hw 0 3 rfl rfl rfl (by decide) (hts _ m_X5_isNew_0) (v := .int S.2.2.2.1) rfl dX5_isNew_4 ?_
    refine lv_icmp_ge (tgt := 37) hx hb dX5_isNew_7 rfl (fun hc => ?_) (fun hc => ?_)
    · have hf := z_t hc hf
      refine lv_iconst (v := 1) hx hb dX5_isNew_37 rfl ?_
      cases hf
      exact z_zret hx hb hr (z_nb (Or.inr rfl)) hlk hw dX5_isNew_38
    · have hf := z_f hc hf
      refine lv_iload_n hx hb dX5_isNew_10 rfl (lv_at hl 2 rfl) ?_
      refine lv_aload_n hx hb dX5_isNew_11 rfl (lv_at hl 0 rfl) ?_
      refine z_get hS0 in_X5_isNew_X5 hK hw 0 1 rfl rfl rfl (by decide) (hts _ m_X5_isNew_1) (v := .ref (q (o + 1))) rfl dX5_isNew_12 ?_
      refine z_alen (v := 3) hS0 hK hw 0 1 (t0 := 0) rfl rfl rfl rfl dX5_isNew_15 ?_
      refine lv_icmp_ge (tgt := 37) hx hb dX5_isNew_16 rfl (fun hc => ?_) (fun hc => ?_)
      · have hf := z_t hc hf
        refine lv_iconst (v := 1) hx hb dX5_isNew_37 rfl ?_
        cases hf
        exact z_zret hx hb hr (z_nb (Or.inr rfl)) hlk hw dX5_isNew_38
      · have hf := z_f hc hf
        refine lv_aload_n hx hb dX5_isNew_19 rfl (lv_at hl 0 rfl) ?_
        refine z_get hS0 in_X5_isNew_X5 hK hw 0 1 rfl rfl rfl (by decide) (hts _ m_X5_isNew_1) (v := .ref (q (o + 1))) rfl dX5_isNew_20 ?_
        refine lv_iload_n hx hb dX5_isNew_23 rfl (lv_at hl 2 rfl) ?_
        obtain ⟨g1, hf⟩ := z_gd hf
        refine z_iald hS0 hK hw 0 1 (zIn_vp g1) rfl rfl dX5_isNew_24 ?_
        refine lv_iload_n hx hb dX5_isNew_25 rfl (lv_at hl 1 rfl) ?_
        refine lv_icmp_ne (tgt := 31) hx hb dX5_isNew_26 rfl (fun hc => ?_) (fun hc => ?_)
        · have hf := z_f hc hf
          refine lv_iinc (v := (v2 + 1)) (lv' := [(2, .int (v2 + 1)), (0, .ref (q (o + 0))), (1, .int v1)]) hx hb dX5_isNew_31 hl (k := 2) rfl rfl (by decide) rfl (fun ls hl => ?_)
          refine lv_goto (tgt := 2) hx hb dX5_isNew_34 rfl ?_
          exact ih _ _ _ _ _ _ hf hw (lv_sub hl [1, 2, 0] rfl)
        · have hf := z_t hc hf
          refine lv_iconst (v := 0) hx hb dX5_isNew_29 rfl ?_
          cases hf
          exact z_zret hx hb hr (z_nb (Or.inl rfl)) hlk hw dX5_isNew_30
set_option maxHeartbeats 4000000 in
set_option maxRecDepth 100000 in
theorem c_X5_isNew (l : Launch) (G : zG) (q : Nat → Nat) (o : Nat) (S : VX5) (v1 : Int32) (y : Int32) (hf : f_X5_isNew S v1 = some y) : zMet l yX5_isNew wsX5_isNew 0 0 G [.ref (q (o + 0)), .int v1] [bX5 G q o S.2.1 S.2.2.1 S.2.2.2.1 S.2.2.2.2, bX2 G q (o + 2) S.1.1 S.1.2.1 S.1.2.2.1 S.1.2.2.2.1 S.1.2.2.2.2.1 S.1.2.2.2.2.2.1 S.1.2.2.2.2.2.2.1 S.1.2.2.2.2.2.2.2] (some (.int y)) [bX5 G q o S.2.1 S.2.2.1 S.2.2.2.1 S.2.2.2.2, bX2 G q (o + 2) S.1.1 S.1.2.1 S.1.2.2.1 S.1.2.2.2.1 S.1.2.2.2.2.1 S.1.2.2.2.2.2.1 S.1.2.2.2.2.2.2.1 S.1.2.2.2.2.2.2.2] := by
  refine z_met zc_X5_isNew (Nat.le_of_ble_eq_true rfl) ?_
  intro p e s m below meth c A ls hZ hl hw
  have hl : lv_has ls 3 [(0, .ref (q (o + 0))), (1, .int v1)] := hl
  obtain ⟨hS0, hr, hlk, hK, hA, hT⟩ := id hZ
  have hx := hS0.1
  have hb := hS0.2.1
  have hml := hS0.2.2.1
  have hown : s.vm.findClass RX5 = some m.cls := hS0.2.2.2.1
  have hts := hS0.2.2.2.2
  unfold f_X5_isNew at hf
  refine lv_iconst (v := 0) hx hb dX5_isNew_0 rfl ?_
  refine lv_istore_n (lv' := [(2, .int 0), (0, .ref (q (o + 0))), (1, .int v1)]) hx hb dX5_isNew_1 rfl hl (by decide) rfl (fun ls hl => ?_)
  exact k_X5_isNew_2 hZ _ 4096 _ _ _ _ _ _ hf hw (lv_sub hl [1, 2, 0] rfl)
theorem zc_X5_partOf : zC yX5_partOf wsX5_partOf cX5_partOf 5 (some .int) 2 := ⟨⟨_, rfl⟩, by decide +kernel, by decide +kernel, by decide +kernel, by decide +kernel⟩
theorem m_X5_partOf_0 : (.fieldLink RX5 12 "CellKeys$Reader" "draft" "LCellKeys$Jail;" : Cond) ∈ wsX5_partOf := by decide +kernel
theorem in_X5_partOf_X5 : ∀ w ∈ u_ws RX5 TX5 5, w ∈ wsX5_partOf := by decide +kernel
set_option maxHeartbeats 4000000 in
set_option maxRecDepth 100000 in
theorem c_X5_partOf (l : Launch) (G : zG) (q : Nat → Nat) (o : Nat) (S : VX5) (v1 : Int32) (v2 : Int32) (y : Int32) (hf : f_X5_partOf S v1 v2 = some y) : zMet l yX5_partOf wsX5_partOf 1 22 G [.ref (q (o + 0)), .int v1, .int v2] [bX5 G q o S.2.1 S.2.2.1 S.2.2.2.1 S.2.2.2.2, bX2 G q (o + 2) S.1.1 S.1.2.1 S.1.2.2.1 S.1.2.2.2.1 S.1.2.2.2.2.1 S.1.2.2.2.2.2.1 S.1.2.2.2.2.2.2.1 S.1.2.2.2.2.2.2.2] (some (.int y)) [bX5 G q o S.2.1 S.2.2.1 S.2.2.2.1 S.2.2.2.2, bX2 G q (o + 2) S.1.1 S.1.2.1 S.1.2.2.1 S.1.2.2.2.1 S.1.2.2.2.2.1 S.1.2.2.2.2.2.1 S.1.2.2.2.2.2.2.1 S.1.2.2.2.2.2.2.2] := by
  refine z_met zc_X5_partOf (Nat.le_of_ble_eq_true rfl) ?_
  intro p e s m below meth c A ls hZ hl hw
  have hl : lv_has ls 5 [(0, .ref (q (o + 0))), (1, .int v1), (2, .int v2)] := hl
  obtain ⟨hS0, hr, hlk, hK, hA, hT⟩ := id hZ
  have hx := hS0.1
  have hb := hS0.2.1
  have hml := hS0.2.2.1
  have hown : s.vm.findClass RX5 = some m.cls := hS0.2.2.2.1
  have hts := hS0.2.2.2.2
  unfold f_X5_partOf at hf
  refine lv_iload_n hx hb dX5_partOf_0 rfl (lv_at hl 2 rfl) ?_
  refine lv_bipush (v := 48) hx hb dX5_partOf_1 rfl ?_
  refine lv_isub hx hb dX5_partOf_3 ?_
  refine lv_istore_n (lv' := [(3, .int (v2 - (48 : Int32))), (0, .ref (q (o + 0))), (1, .int v1), (2, .int v2)]) hx hb dX5_partOf_4 rfl hl (by decide) rfl (fun ls hl => ?_)
  refine lv_iload_n hx hb dX5_partOf_5 rfl (lv_at hl 2 rfl) ?_
  refine lv_bipush (v := 99) hx hb dX5_partOf_6 rfl ?_
  refine lv_icmp_ne (tgt := 29) hx hb dX5_partOf_8 rfl (fun hc => ?_) (fun hc => ?_)
  · have hf := z_f hc hf
    refine lv_iload_n hx hb dX5_partOf_29 rfl (lv_at hl 2 rfl) ?_
    refine lv_bipush (v := 102) hx hb dX5_partOf_30 rfl ?_
    refine lv_icmp_ne (tgt := 52) hx hb dX5_partOf_32 rfl (fun hc => ?_) (fun hc => ?_)
    · have hf := z_f hc hf
      refine lv_iload_n hx hb dX5_partOf_52 rfl (lv_at hl 3 rfl) ?_
      refine lv_bipush (v := 65) hx hb dX5_partOf_53 rfl ?_
      refine lv_isub hx hb dX5_partOf_55 ?_
      refine lv_istore (lv' := [(4, .int (v2 - (65 : Int32))), (3, .int (v2 - (48 : Int32))), (0, .ref (q (o + 0))), (1, .int v1), (2, .int v2)]) hx hb dX5_partOf_56 hl (by decide) rfl (fun ls hl => ?_)
      refine lv_aload_n hx hb dX5_partOf_58 rfl (lv_at hl 2 rfl) ?_
      refine z_get hS0 in_X5_partOf_X5 hK hw 0 0 rfl rfl rfl (by decide) (hts _ m_X5_partOf_0) (v := .ref (q ((o + 2) + 0))) rfl dX5_partOf_59 ?_
      refine lv_iload hx hb dX5_partOf_62 (lv_at hl 0 rfl) ?_
      obtain ⟨r1, e2, hf⟩ := z_bd hf
      refine z_callV1 (As := [.int (v2 - (65 : Int32))]) (rest := []) (bs' := [bX5 G q o S.2.1 S.2.2.1 S.2.2.2.1 S.2.2.2.2, bX2 G q (o + 2) S.1.1 S.1.2.1 S.1.2.2.1 S.1.2.2.2.1 S.1.2.2.2.2.1 S.1.2.2.2.2.2.1 S.1.2.2.2.2.2.2.1 S.1.2.2.2.2.2.2.2]) hS0 (c_X2_isCell l G q (o + 2) S.1 (v2 - (65 : Int32)) r1 e2) zc_X2_isCell rfl gX5_partOf_X2_isCell ⟨Nat.le_of_ble_eq_true rfl, Nat.le_of_ble_eq_true rfl⟩ hK hA hT hw (is := [1]) rfl rfl rfl rfl rfl rfl rfl hl.1 rfl (Nat.le_of_ble_eq_true rfl) dX5_partOf_64 (fun H locs hw => ?_)
      refine lv_if_eq (tgt := 84) hx hb dX5_partOf_67 rfl (fun hc => ?_) (fun hc => ?_)
      · have hf := z_t hc hf
        refine lv_bipush (v := (-9)) hx hb dX5_partOf_84 rfl ?_
        cases hf
        exact z_iret hx hb hr hlk hw dX5_partOf_86
      · have hf := z_f hc hf
        refine lv_aload_n hx hb dX5_partOf_70 rfl (lv_at hl 2 rfl) ?_
        refine lv_iload hx hb dX5_partOf_71 (lv_at hl 0 rfl) ?_
        obtain ⟨r3, e4, hf⟩ := z_bd hf
        refine z_callV1 (As := [.int (v2 - (65 : Int32))]) (rest := []) (bs' := [bX5 G q o S.2.1 S.2.2.1 S.2.2.2.1 S.2.2.2.2, bX2 G q (o + 2) S.1.1 S.1.2.1 S.1.2.2.1 S.1.2.2.2.1 S.1.2.2.2.2.1 S.1.2.2.2.2.2.1 S.1.2.2.2.2.2.2.1 S.1.2.2.2.2.2.2.2]) hS0 (c_X5_isNew l G q o S (v2 - (65 : Int32)) r3 e4) zc_X5_isNew rfl gX5_partOf_X5_isNew ⟨Nat.le_of_ble_eq_true rfl, Nat.le_of_ble_eq_true rfl⟩ hK hA hT hw (is := [0, 1]) rfl rfl rfl rfl rfl rfl rfl hl.1 rfl (Nat.le_of_ble_eq_true rfl) dX5_partOf_73 (fun H locs hw => ?_)
        refine lv_if_eq (tgt := 84) hx hb dX5_partOf_76 rfl (fun hc => ?_) (fun hc => ?_)
        · have hf := z_t hc hf
          refine lv_bipush (v := (-9)) hx hb dX5_partOf_84 rfl ?_
          cases hf
          exact z_iret hx hb hr hlk hw dX5_partOf_86
        · have hf := z_f hc hf
          refine lv_iload hx hb dX5_partOf_79 (lv_at hl 0 rfl) ?_
          refine lv_goto (tgt := 86) hx hb dX5_partOf_81 rfl ?_
          cases hf
          exact z_iret hx hb hr hlk hw dX5_partOf_86
    · have hf := z_t hc hf
      refine lv_iload_n hx hb dX5_partOf_35 rfl (lv_at hl 0 rfl) ?_
      refine lv_if_lt (tgt := 49) hx hb dX5_partOf_36 rfl (fun hc => ?_) (fun hc => ?_)
      · have hf := z_t hc hf
        refine lv_bipush (v := (-9)) hx hb dX5_partOf_49 rfl ?_
        cases hf
        exact z_iret hx hb hr hlk hw dX5_partOf_51
      · have hf := z_f hc hf
        refine lv_iload_n hx hb dX5_partOf_39 rfl (lv_at hl 0 rfl) ?_
        refine lv_bipush (v := 9) hx hb dX5_partOf_40 rfl ?_
        refine lv_icmp_gt (tgt := 49) hx hb dX5_partOf_42 rfl (fun hc => ?_) (fun hc => ?_)
        · have hf := z_t hc hf
          refine lv_bipush (v := (-9)) hx hb dX5_partOf_49 rfl ?_
          cases hf
          exact z_iret hx hb hr hlk hw dX5_partOf_51
        · have hf := z_f hc hf
          refine lv_iload_n hx hb dX5_partOf_45 rfl (lv_at hl 0 rfl) ?_
          refine lv_goto (tgt := 51) hx hb dX5_partOf_46 rfl ?_
          cases hf
          exact z_iret hx hb hr hlk hw dX5_partOf_51
  · have hf := z_t hc hf
    refine lv_iload_n hx hb dX5_partOf_11 rfl (lv_at hl 0 rfl) ?_
    refine lv_iconst (v := 2) hx hb dX5_partOf_12 rfl ?_
    refine lv_icmp_lt (tgt := 26) hx hb dX5_partOf_13 rfl (fun hc => ?_) (fun hc => ?_)
    · have hf := z_t hc hf
      refine lv_bipush (v := (-9)) hx hb dX5_partOf_26 rfl ?_
      cases hf
      exact z_iret hx hb hr hlk hw dX5_partOf_28
    · have hf := z_f hc hf
      refine lv_iload_n hx hb dX5_partOf_16 rfl (lv_at hl 0 rfl) ?_
      refine lv_bipush (v := 8) hx hb dX5_partOf_17 rfl ?_
      refine lv_icmp_gt (tgt := 26) hx hb dX5_partOf_19 rfl (fun hc => ?_) (fun hc => ?_)
      · have hf := z_t hc hf
        refine lv_bipush (v := (-9)) hx hb dX5_partOf_26 rfl ?_
        cases hf
        exact z_iret hx hb hr hlk hw dX5_partOf_28
      · have hf := z_f hc hf
        refine lv_iload_n hx hb dX5_partOf_22 rfl (lv_at hl 0 rfl) ?_
        refine lv_goto (tgt := 28) hx hb dX5_partOf_23 rfl ?_
        cases hf
        exact z_iret hx hb hr hlk hw dX5_partOf_28
theorem zc_X5_continues : zC yX5_continues wsX5_continues cX5_continues 4 (some .boolean) 1 := ⟨⟨_, rfl⟩, by decide +kernel, by decide +kernel, by decide +kernel, by decide +kernel⟩
theorem m_X5_continues_0 : (.fieldLink RX5 22 "CellKeys$Reader" "item" "I" : Cond) ∈ wsX5_continues := by decide +kernel
theorem in_X5_continues_X5 : ∀ w ∈ u_ws RX5 TX5 5, w ∈ wsX5_continues := by decide +kernel
theorem m_X5_continues_1 : (.fieldLink RX5 26 "CellKeys$Reader" "taken" "I" : Cond) ∈ wsX5_continues := by decide +kernel
theorem m_X5_continues_2 : (.fieldLink RX5 18 "CellKeys$Reader" "parts" "[I" : Cond) ∈ wsX5_continues := by decide +kernel
set_option maxHeartbeats 4000000 in
set_option maxRecDepth 100000 in
theorem c_X5_continues (l : Launch) (G : zG) (q : Nat → Nat) (o : Nat) (S : VX5) (v1 : Int32) (y : Int32 × VX5) (hf : f_X5_continues S v1 = some y) : zMet l yX5_continues wsX5_continues 4 92 G [.ref (q (o + 0)), .int v1] [bX5 G q o S.2.1 S.2.2.1 S.2.2.2.1 S.2.2.2.2, bX2 G q (o + 2) S.1.1 S.1.2.1 S.1.2.2.1 S.1.2.2.2.1 S.1.2.2.2.2.1 S.1.2.2.2.2.2.1 S.1.2.2.2.2.2.2.1 S.1.2.2.2.2.2.2.2] (some (.int y.1)) [bX5 G q o y.2.2.1 y.2.2.2.1 y.2.2.2.2.1 y.2.2.2.2.2, bX2 G q (o + 2) y.2.1.1 y.2.1.2.1 y.2.1.2.2.1 y.2.1.2.2.2.1 y.2.1.2.2.2.2.1 y.2.1.2.2.2.2.2.1 y.2.1.2.2.2.2.2.2.1 y.2.1.2.2.2.2.2.2.2] := by
  refine z_met zc_X5_continues (Nat.le_of_ble_eq_true rfl) ?_
  intro p e s m below meth c A ls hZ hl hw
  have hl : lv_has ls 4 [(0, .ref (q (o + 0))), (1, .int v1)] := hl
  obtain ⟨hS0, hr, hlk, hK, hA, hT⟩ := id hZ
  have hx := hS0.1
  have hb := hS0.2.1
  have hml := hS0.2.2.1
  have hown : s.vm.findClass RX5 = some m.cls := hS0.2.2.2.1
  have hts := hS0.2.2.2.2
  unfold f_X5_continues at hf
  refine lv_aload_n hx hb dX5_continues_0 rfl (lv_at hl 0 rfl) ?_
  refine z_get hS0 in_X5_continues_X5 hK hw 0 2 rfl rfl rfl (by decide) (hts _ m_X5_continues_0) (v := .int S.2.2.1) rfl dX5_continues_1 ?_
  obtain ⟨r1, e2, hf⟩ := z_bd hf
  refine z_callS1 (As := [.int S.2.2.1]) (rest := []) (bs' := [bX5 G q o S.2.1 S.2.2.1 S.2.2.2.1 S.2.2.2.2, bX2 G q (o + 2) S.1.1 S.1.2.1 S.1.2.2.1 S.1.2.2.2.1 S.1.2.2.2.2.1 S.1.2.2.2.2.2.1 S.1.2.2.2.2.2.2.1 S.1.2.2.2.2.2.2.2]) hS0 (c_X5_formOf l G S.2.2.1 r1 e2) zc_X5_formOf gX5_continues_X5_formOf ⟨Nat.le_of_ble_eq_true rfl, Nat.le_of_ble_eq_true rfl⟩ hK hA hT hw (is := []) rfl rfl rfl rfl rfl hl.1 rfl (Nat.le_of_ble_eq_true rfl) dX5_continues_4 (fun H locs hw => ?_)
  refine lv_astore_n (lv' := [(2, .ref (G.2.2.2.2.2.1 r1)), (0, .ref (q (o + 0))), (1, .int v1)]) hx hb dX5_continues_7 rfl hl (by decide) rfl (fun ls hl => ?_)
  refine lv_aload_n hx hb dX5_continues_8 rfl (lv_at hl 1 rfl) ?_
  refine z_get hS0 in_X5_continues_X5 hK hw 0 3 rfl rfl rfl (by decide) (hts _ m_X5_continues_1) (v := .int S.2.2.2.1) rfl dX5_continues_9 ?_
  refine lv_aload_n hx hb dX5_continues_12 rfl (lv_at hl 0 rfl) ?_
  obtain ⟨r3, e4, hf⟩ := z_bd hf
  refine z_callT (As := []) (rest := [.int S.2.2.2.1]) hS0 (k_J0_length_8abf5 e4) (c_J0_length_8abf5 l G r1 r3 e4) zc_J0_length_8abf5 rfl gX5_continues_J0_length_8abf5 ⟨Nat.le_of_ble_eq_true rfl, Nat.le_of_ble_eq_true rfl⟩ hK hA hT hw rfl hl.1 rfl (Nat.le_of_ble_eq_true rfl) dX5_continues_13 (fun H locs hw => ?_)
  refine lv_icmp_ge (tgt := 31) hx hb dX5_continues_16 rfl (fun hc => ?_) (fun hc => ?_)
  · have hf := z_t hc hf
    refine lv_iconst (v := 0) hx hb dX5_continues_31 rfl ?_
    cases hf
    exact z_zret hx hb hr (z_nb (Or.inl rfl)) hlk hw dX5_continues_32
  · have hf := z_f hc hf
    refine lv_aload_n hx hb dX5_continues_19 rfl (lv_at hl 1 rfl) ?_
    refine z_get hS0 in_X5_continues_X5 hK hw 0 3 rfl rfl rfl (by decide) (hts _ m_X5_continues_1) (v := .int S.2.2.2.1) rfl dX5_continues_20 ?_
    refine lv_aload_n hx hb dX5_continues_23 rfl (lv_at hl 1 rfl) ?_
    refine z_get hS0 in_X5_continues_X5 hK hw 0 1 rfl rfl rfl (by decide) (hts _ m_X5_continues_2) (v := .ref (q (o + 1))) rfl dX5_continues_24 ?_
    refine z_alen (v := 3) hS0 hK hw 0 1 (t0 := 0) rfl rfl rfl rfl dX5_continues_27 ?_
    refine lv_icmp_lt (tgt := 33) hx hb dX5_continues_28 rfl (fun hc => ?_) (fun hc => ?_)
    · have hf := z_t hc hf
      refine lv_aload_n hx hb dX5_continues_33 rfl (lv_at hl 1 rfl) ?_
      refine lv_aload_n hx hb dX5_continues_34 rfl (lv_at hl 0 rfl) ?_
      refine lv_aload_n hx hb dX5_continues_35 rfl (lv_at hl 1 rfl) ?_
      refine z_get hS0 in_X5_continues_X5 hK hw 0 3 rfl rfl rfl (by decide) (hts _ m_X5_continues_1) (v := .int S.2.2.2.1) rfl dX5_continues_36 ?_
      obtain ⟨r5, e6, hf⟩ := z_bd hf
      refine z_callT (As := [.int S.2.2.2.1]) (rest := [.ref (q (o + 0))]) hS0 (k_J0_charAt_5068e e6) (c_J0_charAt_5068e l G r1 S.2.2.2.1 r5 e6) zc_J0_charAt_5068e rfl gX5_continues_J0_charAt_5068e ⟨Nat.le_of_ble_eq_true rfl, Nat.le_of_ble_eq_true rfl⟩ hK hA hT hw rfl hl.1 rfl (Nat.le_of_ble_eq_true rfl) dX5_continues_39 (fun H locs hw => ?_)
      refine lv_iload_n hx hb dX5_continues_42 rfl (lv_at hl 2 rfl) ?_
      obtain ⟨r7, e8, hf⟩ := z_bd hf
      refine z_callV1 (As := [.int r5, .int v1]) (rest := []) (bs' := [bX5 G q o S.2.1 S.2.2.1 S.2.2.2.1 S.2.2.2.2, bX2 G q (o + 2) S.1.1 S.1.2.1 S.1.2.2.1 S.1.2.2.2.1 S.1.2.2.2.2.1 S.1.2.2.2.2.2.1 S.1.2.2.2.2.2.2.1 S.1.2.2.2.2.2.2.2]) hS0 (c_X5_partOf l G q o S r5 v1 r7 e8) zc_X5_partOf rfl gX5_continues_X5_partOf ⟨Nat.le_of_ble_eq_true rfl, Nat.le_of_ble_eq_true rfl⟩ hK hA hT hw (is := [0, 1]) rfl rfl rfl rfl rfl rfl rfl hl.1 rfl (Nat.le_of_ble_eq_true rfl) dX5_continues_43 (fun H locs hw => ?_)
      refine lv_istore_n (lv' := [(3, .int r7), (2, .ref (G.2.2.2.2.2.1 r1)), (0, .ref (q (o + 0))), (1, .int v1)]) hx hb dX5_continues_46 rfl hl (by decide) rfl (fun ls hl => ?_)
      refine lv_iload_n hx hb dX5_continues_47 rfl (lv_at hl 0 rfl) ?_
      refine lv_bipush (v := (-9)) hx hb dX5_continues_48 rfl ?_
      refine lv_icmp_ne (tgt := 55) hx hb dX5_continues_50 rfl (fun hc => ?_) (fun hc => ?_)
      · have hf := z_f hc hf
        refine lv_aload_n hx hb dX5_continues_55 rfl (lv_at hl 2 rfl) ?_
        refine z_get hS0 in_X5_continues_X5 hK hw 0 1 rfl rfl rfl (by decide) (hts _ m_X5_continues_2) (v := .ref (q (o + 1))) rfl dX5_continues_56 ?_
        refine lv_aload_n hx hb dX5_continues_59 rfl (lv_at hl 2 rfl) ?_
        refine z_get hS0 in_X5_continues_X5 hK hw 0 3 rfl rfl rfl (by decide) (hts _ m_X5_continues_1) (v := .int S.2.2.2.1) rfl dX5_continues_60 ?_
        refine lv_iload_n hx hb dX5_continues_63 rfl (lv_at hl 0 rfl) ?_
        obtain ⟨g9, hf⟩ := z_gd hf
        refine z_iast (blk' := bX5 G q o (upd S.2.1 S.2.2.2.1.toNatClampNeg r7) S.2.2.1 S.2.2.2.1 S.2.2.2.2) (bs' := [bX5 G q o (upd S.2.1 S.2.2.2.1.toNatClampNeg r7) S.2.2.1 S.2.2.2.1 S.2.2.2.2, bX2 G q (o + 2) S.1.1 S.1.2.1 S.1.2.2.1 S.1.2.2.2.1 S.1.2.2.2.2.1 S.1.2.2.2.2.2.1 S.1.2.2.2.2.2.2.1 S.1.2.2.2.2.2.2.2]) hS0 hK hw 0 1 (zIn_vp g9) rfl rfl dX5_continues_64 rfl rfl (fun H locs hw => ?_)
        refine lv_aload_n hx hb dX5_continues_65 rfl (lv_at hl 2 rfl) ?_
        refine lv_dup hx hb dX5_continues_66 rfl ?_
        refine z_get hS0 in_X5_continues_X5 hK hw 0 3 rfl rfl rfl (by decide) (hts _ m_X5_continues_1) (v := .int S.2.2.2.1) rfl dX5_continues_67 ?_
        refine lv_iconst (v := 1) hx hb dX5_continues_70 rfl ?_
        refine lv_iadd hx hb dX5_continues_71 ?_
        refine z_put (blk' := bX5 G q o (upd S.2.1 S.2.2.2.1.toNatClampNeg r7) S.2.2.1 (S.2.2.2.1 + (1 : Int32)) S.2.2.2.2) (bs' := [bX5 G q o (upd S.2.1 S.2.2.2.1.toNatClampNeg r7) S.2.2.1 (S.2.2.2.1 + (1 : Int32)) S.2.2.2.2, bX2 G q (o + 2) S.1.1 S.1.2.1 S.1.2.2.1 S.1.2.2.2.1 S.1.2.2.2.2.1 S.1.2.2.2.2.2.1 S.1.2.2.2.2.2.2.1 S.1.2.2.2.2.2.2.2]) hS0 in_X5_continues_X5 tyX5 tyX5_ok nmX5 hK hw 0 3 rfl rfl rfl (by decide) (hts _ m_X5_continues_1) rfl (ty := tyX5 3) (tyX5_ok 3 (by decide)) rfl rfl (Nat.le_of_ble_eq_true rfl) dX5_continues_72 rfl rfl (fun H locs hw => ?_)
        refine lv_aload_n hx hb dX5_continues_75 rfl (lv_at hl 2 rfl) ?_
        refine z_get hS0 in_X5_continues_X5 hK hw 0 3 rfl rfl rfl (by decide) (hts _ m_X5_continues_1) (v := .int (S.2.2.2.1 + (1 : Int32))) rfl dX5_continues_76 ?_
        refine lv_aload_n hx hb dX5_continues_79 rfl (lv_at hl 1 rfl) ?_
        obtain ⟨r10, e11, hf⟩ := z_bd hf
        refine z_callT (As := []) (rest := [.int (S.2.2.2.1 + (1 : Int32))]) hS0 (k_J0_length_8abf5 e11) (c_J0_length_8abf5 l G r1 r10 e11) zc_J0_length_8abf5 rfl gX5_continues_J0_length_8abf5 ⟨Nat.le_of_ble_eq_true rfl, Nat.le_of_ble_eq_true rfl⟩ hK hA hT hw rfl hl.1 rfl (Nat.le_of_ble_eq_true rfl) dX5_continues_80 (fun H locs hw => ?_)
        refine lv_icmp_ne (tgt := 90) hx hb dX5_continues_83 rfl (fun hc => ?_) (fun hc => ?_)
        · have hf := z_f hc hf
          refine lv_iconst (v := 1) hx hb dX5_continues_90 rfl ?_
          cases hf
          exact z_zret hx hb hr (z_nb (Or.inr rfl)) hlk hw dX5_continues_91
        · have hf := z_t hc hf
          refine lv_aload_n hx hb dX5_continues_86 rfl (lv_at hl 2 rfl) ?_
          obtain ⟨r12, e13, hf⟩ := z_bd hf
          refine z_callV0 (As := []) (rest := []) (bs' := [bX5 G q o r12.2.1 r12.2.2.1 r12.2.2.2.1 r12.2.2.2.2, bX2 G q (o + 2) r12.1.1 r12.1.2.1 r12.1.2.2.1 r12.1.2.2.2.1 r12.1.2.2.2.2.1 r12.1.2.2.2.2.2.1 r12.1.2.2.2.2.2.2.1 r12.1.2.2.2.2.2.2.2]) hS0 (c_X5_close l G q o (S.1, (upd S.2.1 S.2.2.2.1.toNatClampNeg r7), S.2.2.1, (S.2.2.2.1 + (1 : Int32)), S.2.2.2.2) r12 e13) zc_X5_close rfl gX5_continues_X5_close ⟨Nat.le_of_ble_eq_true rfl, Nat.le_of_ble_eq_true rfl⟩ hK hA hT hw (is := [0, 1]) rfl rfl rfl rfl rfl rfl rfl hl.1 rfl (Nat.le_of_ble_eq_true rfl) dX5_continues_87 (fun H locs hw => ?_)
          refine lv_iconst (v := 1) hx hb dX5_continues_90 rfl ?_
          cases hf
          exact z_zret hx hb hr (z_nb (Or.inr rfl)) hlk hw dX5_continues_91
      · have hf := z_t hc hf
        refine lv_iconst (v := 0) hx hb dX5_continues_53 rfl ?_
        cases hf
        exact z_zret hx hb hr (z_nb (Or.inl rfl)) hlk hw dX5_continues_54
    · have hf := z_f hc hf
      refine lv_iconst (v := 0) hx hb dX5_continues_31 rfl ?_
      cases hf
      exact z_zret hx hb hr (z_nb (Or.inl rfl)) hlk hw dX5_continues_32
theorem zc_X5_draft : zC yX5_draft wsX5_draft cX5_draft 1 (some (.object "CellKeys$Jail")) 0 := ⟨⟨_, rfl⟩, by decide +kernel, by decide +kernel, by decide +kernel, by decide +kernel⟩
theorem m_X5_draft_0 : (.fieldLink RX5 12 "CellKeys$Reader" "draft" "LCellKeys$Jail;" : Cond) ∈ wsX5_draft := by decide +kernel
theorem in_X5_draft_X5 : ∀ w ∈ u_ws RX5 TX5 5, w ∈ wsX5_draft := by decide +kernel
set_option maxHeartbeats 4000000 in
set_option maxRecDepth 100000 in
theorem c_X5_draft (l : Launch) (G : zG) (q : Nat → Nat) (o : Nat) (S : VX5)  (y : Unit) (hf : f_X5_draft S = some y) : zMet l yX5_draft wsX5_draft 0 0 G [.ref (q (o + 0))] [bX5 G q o S.2.1 S.2.2.1 S.2.2.2.1 S.2.2.2.2, bX2 G q (o + 2) S.1.1 S.1.2.1 S.1.2.2.1 S.1.2.2.2.1 S.1.2.2.2.2.1 S.1.2.2.2.2.2.1 S.1.2.2.2.2.2.2.1 S.1.2.2.2.2.2.2.2] (some (.ref (q (o + 2 + 0)))) [bX5 G q o S.2.1 S.2.2.1 S.2.2.2.1 S.2.2.2.2, bX2 G q (o + 2) S.1.1 S.1.2.1 S.1.2.2.1 S.1.2.2.2.1 S.1.2.2.2.2.1 S.1.2.2.2.2.2.1 S.1.2.2.2.2.2.2.1 S.1.2.2.2.2.2.2.2] := by
  refine z_met zc_X5_draft (Nat.le_of_ble_eq_true rfl) ?_
  intro p e s m below meth c A ls hZ hl hw
  have hl : lv_has ls 1 [(0, .ref (q (o + 0)))] := hl
  obtain ⟨hS0, hr, hlk, hK, hA, hT⟩ := id hZ
  have hx := hS0.1
  have hb := hS0.2.1
  have hml := hS0.2.2.1
  have hown : s.vm.findClass RX5 = some m.cls := hS0.2.2.2.1
  have hts := hS0.2.2.2.2
  unfold f_X5_draft at hf
  refine lv_aload_n hx hb dX5_draft_0 rfl (lv_at hl 0 rfl) ?_
  refine z_get hS0 in_X5_draft_X5 hK hw 0 0 rfl rfl rfl (by decide) (hts _ m_X5_draft_0) (v := .ref (q ((o + 2) + 0))) rfl dX5_draft_1 ?_
  cases hf
  exact z_aret hx hb hr (Or.inl ⟨_, rfl⟩) (Or.inr ⟨_, rfl⟩) hlk hw dX5_draft_4
theorem zc_X5_opens : zC yX5_opens wsX5_opens cX5_opens 2 (some .boolean) 1 := ⟨⟨_, rfl⟩, by decide +kernel, by decide +kernel, by decide +kernel, by decide +kernel⟩
theorem m_X5_opens_0 : (.fieldLink RX5 29 "CellKeys$Reader" "counted" "Z" : Cond) ∈ wsX5_opens := by decide +kernel
theorem in_X5_opens_X5 : ∀ w ∈ u_ws RX5 TX5 5, w ∈ wsX5_opens := by decide +kernel
theorem m_X5_opens_1 : (.fieldLink RX5 22 "CellKeys$Reader" "item" "I" : Cond) ∈ wsX5_opens := by decide +kernel
theorem m_X5_opens_2 : (.fieldLink RX5 26 "CellKeys$Reader" "taken" "I" : Cond) ∈ wsX5_opens := by decide +kernel
set_option maxHeartbeats 4000000 in
set_option maxRecDepth 100000 in
theorem k_X5_opens_29 {p : Program} {l : Launch} {e : Env} {s : State} {m : MethodId} {args : Array Value} {below : List Frame} {meth : Method} {c : Code} {A : Nat → Prop} {G : zG} {q : Nat → Nat} {o : Nat}  (hZ : zZ p s m args meth c A G cX5_opens 2 RX5 wsX5_opens (some .boolean)) (y : Int32 × VX5)  : ∀ (S : VX5) (v1 : Int32) (t0 : Int32) (H : Heap) (locs : List Loc) (ls : Array Slot), f_X5_opens_29 S v1 t0 = some y → zH G A s.heap [bX5 G q o S.2.1 S.2.2.1 S.2.2.2.1 S.2.2.2.2, bX2 G q (o + 2) S.1.1 S.1.2.1 S.1.2.2.1 S.1.2.2.2.1 S.1.2.2.2.2.1 S.1.2.2.2.2.2.1 S.1.2.2.2.2.2.2.1 S.1.2.2.2.2.2.2.2] H locs → lv_has ls 2 [(0, .ref (q (o + 0))), (1, .int v1)] → W p l e { frames := 4, cells := 0, slots := 0, locals := 84 } s m args below meth c H locs 0 0 (MQ below (zQ (some (.int y.1)) (zPost G [bX5 G q o y.2.2.1 y.2.2.2.1 y.2.2.2.2.1 y.2.2.2.2.2, bX2 G q (o + 2) y.2.1.1 y.2.1.2.1 y.2.1.2.2.1 y.2.1.2.2.2.1 y.2.1.2.2.2.2.1 y.2.1.2.2.2.2.2.1 y.2.1.2.2.2.2.2.2.1 y.2.1.2.2.2.2.2.2.2]) A) args s 0 0 A) (F0 m 29 ls [.int t0]) := by
  obtain ⟨hS0, hr, hlk, hK, hA, hT⟩ := id hZ
  have hx := hS0.1
  have hb := hS0.2.1
  have hml := hS0.2.2.1
  have hown : s.vm.findClass RX5 = some m.cls := hS0.2.2.2.1
  have hts := hS0.2.2.2.2
  intro S v1 t0 H locs ls hf hw hl
  unfold f_X5_opens_29 at hf
  refine lv_aload_n hx hb dX5_opens_29 rfl (lv_at hl 0 rfl) ?_
  refine z_get hS0 in_X5_opens_X5 hK hw 0 4 rfl rfl rfl (by decide) (hts _ m_X5_opens_0) (v := .int S.2.2.2.2) rfl dX5_opens_30 ?_
  refine lv_icmp_ne (tgt := 38) hx hb dX5_opens_33 rfl (fun hc => ?_) (fun hc => ?_)
  · have hf := z_f hc hf
    refine lv_aload_n hx hb dX5_opens_38 rfl (lv_at hl 0 rfl) ?_
    refine lv_iload_n hx hb dX5_opens_39 rfl (lv_at hl 1 rfl) ?_
    refine z_put (blk' := bX5 G q o S.2.1 v1 S.2.2.2.1 S.2.2.2.2) (bs' := [bX5 G q o S.2.1 v1 S.2.2.2.1 S.2.2.2.2, bX2 G q (o + 2) S.1.1 S.1.2.1 S.1.2.2.1 S.1.2.2.2.1 S.1.2.2.2.2.1 S.1.2.2.2.2.2.1 S.1.2.2.2.2.2.2.1 S.1.2.2.2.2.2.2.2]) hS0 in_X5_opens_X5 tyX5 tyX5_ok nmX5 hK hw 0 2 rfl rfl rfl (by decide) (hts _ m_X5_opens_1) rfl (ty := tyX5 2) (tyX5_ok 2 (by decide)) rfl rfl (Nat.le_of_ble_eq_true rfl) dX5_opens_40 rfl rfl (fun H locs hw => ?_)
    refine lv_aload_n hx hb dX5_opens_43 rfl (lv_at hl 0 rfl) ?_
    refine lv_iconst (v := 0) hx hb dX5_opens_44 rfl ?_
    refine z_put (blk' := bX5 G q o S.2.1 v1 0 S.2.2.2.2) (bs' := [bX5 G q o S.2.1 v1 0 S.2.2.2.2, bX2 G q (o + 2) S.1.1 S.1.2.1 S.1.2.2.1 S.1.2.2.2.1 S.1.2.2.2.2.1 S.1.2.2.2.2.2.1 S.1.2.2.2.2.2.2.1 S.1.2.2.2.2.2.2.2]) hS0 in_X5_opens_X5 tyX5 tyX5_ok nmX5 hK hw 0 3 rfl rfl rfl (by decide) (hts _ m_X5_opens_2) rfl (ty := tyX5 3) (tyX5_ok 3 (by decide)) rfl rfl (Nat.le_of_ble_eq_true rfl) dX5_opens_45 rfl rfl (fun H locs hw => ?_)
    refine lv_iconst (v := 1) hx hb dX5_opens_48 rfl ?_
    cases hf
    exact z_zret hx hb hr (z_nb (Or.inr rfl)) hlk hw dX5_opens_49
  · have hf := z_t hc hf
    refine lv_iconst (v := 0) hx hb dX5_opens_36 rfl ?_
    cases hf
    exact z_zret hx hb hr (z_nb (Or.inl rfl)) hlk hw dX5_opens_37
set_option maxHeartbeats 4000000 in
set_option maxRecDepth 100000 in
theorem c_X5_opens (l : Launch) (G : zG) (q : Nat → Nat) (o : Nat) (S : VX5) (v1 : Int32) (y : Int32 × VX5) (hf : f_X5_opens S v1 = some y) : zMet l yX5_opens wsX5_opens 4 84 G [.ref (q (o + 0)), .int v1] [bX5 G q o S.2.1 S.2.2.1 S.2.2.2.1 S.2.2.2.2, bX2 G q (o + 2) S.1.1 S.1.2.1 S.1.2.2.1 S.1.2.2.2.1 S.1.2.2.2.2.1 S.1.2.2.2.2.2.1 S.1.2.2.2.2.2.2.1 S.1.2.2.2.2.2.2.2] (some (.int y.1)) [bX5 G q o y.2.2.1 y.2.2.2.1 y.2.2.2.2.1 y.2.2.2.2.2, bX2 G q (o + 2) y.2.1.1 y.2.1.2.1 y.2.1.2.2.1 y.2.1.2.2.2.1 y.2.1.2.2.2.2.1 y.2.1.2.2.2.2.2.1 y.2.1.2.2.2.2.2.2.1 y.2.1.2.2.2.2.2.2.2] := by
  refine z_met zc_X5_opens (Nat.le_of_ble_eq_true rfl) ?_
  intro p e s m below meth c A ls hZ hl hw
  have hl : lv_has ls 2 [(0, .ref (q (o + 0))), (1, .int v1)] := hl
  obtain ⟨hS0, hr, hlk, hK, hA, hT⟩ := id hZ
  have hx := hS0.1
  have hb := hS0.2.1
  have hml := hS0.2.2.1
  have hown : s.vm.findClass RX5 = some m.cls := hS0.2.2.2.1
  have hts := hS0.2.2.2.2
  unfold f_X5_opens at hf
  refine lv_iload_n hx hb dX5_opens_0 rfl (lv_at hl 1 rfl) ?_
  refine lv_bipush (v := 32) hx hb dX5_opens_1 rfl ?_
  refine lv_icmp_ne (tgt := 8) hx hb dX5_opens_3 rfl (fun hc => ?_) (fun hc => ?_)
  · have hf := z_f hc hf
    refine lv_iload_n hx hb dX5_opens_8 rfl (lv_at hl 1 rfl) ?_
    obtain ⟨r1, e2, hf⟩ := z_bd hf
    refine z_callS1 (As := [.int v1]) (rest := []) (bs' := [bX5 G q o S.2.1 S.2.2.1 S.2.2.2.1 S.2.2.2.2, bX2 G q (o + 2) S.1.1 S.1.2.1 S.1.2.2.1 S.1.2.2.2.1 S.1.2.2.2.2.1 S.1.2.2.2.2.2.1 S.1.2.2.2.2.2.2.1 S.1.2.2.2.2.2.2.2]) hS0 (c_X5_formOf l G v1 r1 e2) zc_X5_formOf gX5_opens_X5_formOf ⟨Nat.le_of_ble_eq_true rfl, Nat.le_of_ble_eq_true rfl⟩ hK hA hT hw (is := []) rfl rfl rfl rfl rfl hl.1 rfl (Nat.le_of_ble_eq_true rfl) dX5_opens_9 (fun H locs hw => ?_)
    obtain ⟨r3, e4, hf⟩ := z_bd hf
    refine z_callT (As := []) (rest := []) hS0 (k_J0_isEmpty_aae02 e4) (c_J0_isEmpty_aae02 l G r1 r3 e4) zc_J0_isEmpty_aae02 rfl gX5_opens_J0_isEmpty_aae02 ⟨Nat.le_of_ble_eq_true rfl, Nat.le_of_ble_eq_true rfl⟩ hK hA hT hw rfl hl.1 rfl (Nat.le_of_ble_eq_true rfl) dX5_opens_12 (fun H locs hw => ?_)
    refine lv_if_ne (tgt := 36) hx hb dX5_opens_15 rfl (fun hc => ?_) (fun hc => ?_)
    · have hf := z_f hc hf
      refine lv_iconst (v := 0) hx hb dX5_opens_36 rfl ?_
      cases hf
      exact z_zret hx hb hr (z_nb (Or.inl rfl)) hlk hw dX5_opens_37
    · have hf := z_t hc hf
      refine lv_iload_n hx hb dX5_opens_18 rfl (lv_at hl 1 rfl) ?_
      refine lv_bipush (v := 110) hx hb dX5_opens_19 rfl ?_
      refine lv_icmp_ne (tgt := 28) hx hb dX5_opens_21 rfl (fun hc => ?_) (fun hc => ?_)
      · have hf := z_f hc hf
        refine lv_iconst (v := 0) hx hb dX5_opens_28 rfl ?_
        exact k_X5_opens_29 hZ _ _ _ _ _ _ _ hf hw (lv_sub hl [0, 1] rfl)
      · have hf := z_t hc hf
        refine lv_iconst (v := 1) hx hb dX5_opens_24 rfl ?_
        refine lv_goto (tgt := 29) hx hb dX5_opens_25 rfl ?_
        exact k_X5_opens_29 hZ _ _ _ _ _ _ _ hf hw (lv_sub hl [0, 1] rfl)
  · have hf := z_t hc hf
    refine lv_iconst (v := 1) hx hb dX5_opens_6 rfl ?_
    cases hf
    exact z_zret hx hb hr (z_nb (Or.inr rfl)) hlk hw dX5_opens_7
theorem zc_X5_read : zC yX5_read wsX5_read cX5_read 7 (some .int) 2 := ⟨⟨_, rfl⟩, by decide +kernel, by decide +kernel, by decide +kernel, by decide +kernel⟩
theorem m_X5_read_0 : (.fieldLink RX5 22 "CellKeys$Reader" "item" "I" : Cond) ∈ wsX5_read := by decide +kernel
theorem in_X5_read_X5 : ∀ w ∈ u_ws RX5 TX5 5, w ∈ wsX5_read := by decide +kernel
theorem m_X5_read_1 : (.fieldLink RX5 29 "CellKeys$Reader" "counted" "Z" : Cond) ∈ wsX5_read := by decide +kernel
theorem m_X5_read_2 : (.fieldLink RX5 26 "CellKeys$Reader" "taken" "I" : Cond) ∈ wsX5_read := by decide +kernel
set_option maxHeartbeats 4000000 in
set_option maxRecDepth 100000 in
theorem k_X5_read_61 {p : Program} {l : Launch} {e : Env} {s : State} {m : MethodId} {args : Array Value} {below : List Frame} {meth : Method} {c : Code} {A : Nat → Prop} {G : zG} {q : Nat → Nat} {o : Nat} {q1 : Nat → Nat} {o1 : Nat} {r_24 : VX5 → VX8 → Int32 → Int32 → Int32 → Option (Int32 × VX5)} (hZ : zZ p s m args meth c A G cX5_read 7 RX5 wsX5_read (some .int)) (y : Int32 × VX5) (h_24 : ∀ (S : VX5) (P1 : VX8) (v2 : Int32) (v3 : Int32) (v4 : Int32) (H : Heap) (locs : List Loc) (ls : Array Slot), r_24 S P1 v2 v3 v4 = some y → zH G A s.heap [bX5 G q o S.2.1 S.2.2.1 S.2.2.2.1 S.2.2.2.2, bX2 G q (o + 2) S.1.1 S.1.2.1 S.1.2.2.1 S.1.2.2.2.1 S.1.2.2.2.2.1 S.1.2.2.2.2.2.1 S.1.2.2.2.2.2.2.1 S.1.2.2.2.2.2.2.2, bX8 G q1 o1 P1.1 P1.2] H locs → lv_has ls 7 [(0, .ref (q (o + 0))), (1, .ref (q1 (o1 + 0))), (2, .int v2), (3, .int v3), (4, .int v4)] → W p l e { frames := 5, cells := 0, slots := 0, locals := 115 } s m args below meth c H locs 0 0 (MQ below (zQ (some (.int y.1)) (zPost G [bX5 G q o y.2.2.1 y.2.2.2.1 y.2.2.2.2.1 y.2.2.2.2.2, bX2 G q (o + 2) y.2.1.1 y.2.1.2.1 y.2.1.2.2.1 y.2.1.2.2.2.1 y.2.1.2.2.2.2.1 y.2.1.2.2.2.2.2.1 y.2.1.2.2.2.2.2.2.1 y.2.1.2.2.2.2.2.2.2, bX8 G q1 o1 P1.1 P1.2]) A) args s 0 0 A) (F0 m 24 ls [])) : ∀ (S : VX5) (P1 : VX8) (v2 : Int32) (v3 : Int32) (v4 : Int32) (t0 : Int32) (H : Heap) (locs : List Loc) (ls : Array Slot), f_X5_read_61 r_24 S P1 v2 v3 v4 t0 = some y → zH G A s.heap [bX5 G q o S.2.1 S.2.2.1 S.2.2.2.1 S.2.2.2.2, bX2 G q (o + 2) S.1.1 S.1.2.1 S.1.2.2.1 S.1.2.2.2.1 S.1.2.2.2.2.1 S.1.2.2.2.2.2.1 S.1.2.2.2.2.2.2.1 S.1.2.2.2.2.2.2.2, bX8 G q1 o1 P1.1 P1.2] H locs → lv_has ls 7 [(0, .ref (q (o + 0))), (1, .ref (q1 (o1 + 0))), (2, .int v2), (3, .int v3), (4, .int v4)] → W p l e { frames := 5, cells := 0, slots := 0, locals := 115 } s m args below meth c H locs 0 0 (MQ below (zQ (some (.int y.1)) (zPost G [bX5 G q o y.2.2.1 y.2.2.2.1 y.2.2.2.2.1 y.2.2.2.2.2, bX2 G q (o + 2) y.2.1.1 y.2.1.2.1 y.2.1.2.2.1 y.2.1.2.2.2.1 y.2.1.2.2.2.2.1 y.2.1.2.2.2.2.2.1 y.2.1.2.2.2.2.2.2.1 y.2.1.2.2.2.2.2.2.2, bX8 G q1 o1 P1.1 P1.2]) A) args s 0 0 A) (F0 m 61 ls [.int t0]) := by
  obtain ⟨hS0, hr, hlk, hK, hA, hT⟩ := id hZ
  have hx := hS0.1
  have hb := hS0.2.1
  have hml := hS0.2.2.1
  have hown : s.vm.findClass RX5 = some m.cls := hS0.2.2.2.1
  have hts := hS0.2.2.2.2
  intro S P1 v2 v3 v4 t0 H locs ls hf hw hl
  unfold f_X5_read_61 at hf
  refine lv_istore (lv' := [(6, .int t0), (0, .ref (q (o + 0))), (1, .ref (q1 (o1 + 0))), (2, .int v2), (3, .int v3), (4, .int v4)]) hx hb dX5_read_61 hl (by decide) rfl (fun ls hl => ?_)
  refine lv_iload hx hb dX5_read_63 (lv_at hl 0 rfl) ?_
  refine lv_if_ne (tgt := 71) hx hb dX5_read_65 rfl (fun hc => ?_) (fun hc => ?_)
  · have hf := z_f hc hf
    refine lv_iinc (v := (v4 + 1)) (lv' := [(4, .int (v4 + 1)), (6, .int t0), (0, .ref (q (o + 0))), (1, .ref (q1 (o1 + 0))), (2, .int v2), (3, .int v3)]) hx hb dX5_read_71 hl (k := 5) rfl rfl (by decide) rfl (fun ls hl => ?_)
    refine lv_goto (tgt := 24) hx hb dX5_read_74 rfl ?_
    exact h_24 _ _ _ _ _ _ _ _ hf hw (lv_sub hl [2, 3, 4, 5, 0] rfl)
  · have hf := z_t hc hf
    refine lv_iload hx hb dX5_read_68 (lv_at hl 5 rfl) ?_
    cases hf
    exact z_iret hx hb hr hlk hw dX5_read_70
set_option maxHeartbeats 4000000 in
set_option maxRecDepth 100000 in
theorem k_X5_read_24 {p : Program} {l : Launch} {e : Env} {s : State} {m : MethodId} {args : Array Value} {below : List Frame} {meth : Method} {c : Code} {A : Nat → Prop} {G : zG} {q : Nat → Nat} {o : Nat} {q1 : Nat → Nat} {o1 : Nat}  (hZ : zZ p s m args meth c A G cX5_read 7 RX5 wsX5_read (some .int)) (y : Int32 × VX5)  (n : Nat) : ∀ (S : VX5) (P1 : VX8) (v2 : Int32) (v3 : Int32) (v4 : Int32) (H : Heap) (locs : List Loc) (ls : Array Slot), f_X5_read_24 n S P1 v2 v3 v4 = some y → zH G A s.heap [bX5 G q o S.2.1 S.2.2.1 S.2.2.2.1 S.2.2.2.2, bX2 G q (o + 2) S.1.1 S.1.2.1 S.1.2.2.1 S.1.2.2.2.1 S.1.2.2.2.2.1 S.1.2.2.2.2.2.1 S.1.2.2.2.2.2.2.1 S.1.2.2.2.2.2.2.2, bX8 G q1 o1 P1.1 P1.2] H locs → lv_has ls 7 [(0, .ref (q (o + 0))), (1, .ref (q1 (o1 + 0))), (2, .int v2), (3, .int v3), (4, .int v4)] → W p l e { frames := 5, cells := 0, slots := 0, locals := 115 } s m args below meth c H locs 0 0 (MQ below (zQ (some (.int y.1)) (zPost G [bX5 G q o y.2.2.1 y.2.2.2.1 y.2.2.2.2.1 y.2.2.2.2.2, bX2 G q (o + 2) y.2.1.1 y.2.1.2.1 y.2.1.2.2.1 y.2.1.2.2.2.1 y.2.1.2.2.2.2.1 y.2.1.2.2.2.2.2.1 y.2.1.2.2.2.2.2.2.1 y.2.1.2.2.2.2.2.2.2, bX8 G q1 o1 P1.1 P1.2]) A) args s 0 0 A) (F0 m 24 ls []) := by
  obtain ⟨hS0, hr, hlk, hK, hA, hT⟩ := id hZ
  have hx := hS0.1
  have hb := hS0.2.1
  have hml := hS0.2.2.1
  have hown : s.vm.findClass RX5 = some m.cls := hS0.2.2.2.1
  have hts := hS0.2.2.2.2
  induction n with
  | zero =>
    intro S P1 v2 v3 v4 H locs ls hf hw hl
    unfold f_X5_read_24 at hf
    cases hf
  | succ n ih =>
    intro S P1 v2 v3 v4 H locs ls hf hw hl
    unfold f_X5_read_24 at hf
    refine lv_iload hx hb dX5_read_24 (lv_at hl 4 rfl) ?_
    refine lv_iload_n hx hb dX5_read_26 rfl (lv_at hl 3 rfl) ?_
    refine lv_icmp_ge (tgt := 77) hx hb dX5_read_27 rfl (fun hc => ?_) (fun hc => ?_)
    · have hf := z_t hc hf
      refine lv_aload_n hx hb dX5_read_77 rfl (lv_at hl 0 rfl) ?_
      refine z_get hS0 in_X5_read_X5 hK hw 0 2 rfl rfl rfl (by decide) (hts _ m_X5_read_0) (v := .int S.2.2.1) rfl dX5_read_78 ?_
      refine lv_if_ne (tgt := 96) hx hb dX5_read_81 rfl (fun hc => ?_) (fun hc => ?_)
      · have hf := z_f hc hf
        refine lv_iload_n hx hb dX5_read_96 rfl (lv_at hl 3 rfl) ?_
        cases hf
        exact z_iret hx hb hr hlk hw dX5_read_97
      · have hf := z_t hc hf
        refine lv_aload_n hx hb dX5_read_84 rfl (lv_at hl 0 rfl) ?_
        refine z_get hS0 in_X5_read_X5 hK hw 0 4 rfl rfl rfl (by decide) (hts _ m_X5_read_1) (v := .int S.2.2.2.2) rfl dX5_read_85 ?_
        refine lv_if_eq (tgt := 96) hx hb dX5_read_88 rfl (fun hc => ?_) (fun hc => ?_)
        · have hf := z_t hc hf
          refine lv_iload_n hx hb dX5_read_96 rfl (lv_at hl 3 rfl) ?_
          cases hf
          exact z_iret hx hb hr hlk hw dX5_read_97
        · have hf := z_f hc hf
          refine lv_bipush (v := (-9)) hx hb dX5_read_91 rfl ?_
          refine lv_goto (tgt := 97) hx hb dX5_read_93 rfl ?_
          cases hf
          exact z_iret hx hb hr hlk hw dX5_read_97
    · have hf := z_f hc hf
      refine lv_aload_n hx hb dX5_read_30 rfl (lv_at hl 1 rfl) ?_
      refine lv_iload_n hx hb dX5_read_31 rfl (lv_at hl 2 rfl) ?_
      refine lv_iload hx hb dX5_read_32 (lv_at hl 4 rfl) ?_
      obtain ⟨r1, e2, hf⟩ := z_bd hf
      refine z_callV1 (As := [.int v2, .int v4]) (rest := []) (bs' := [bX5 G q o S.2.1 S.2.2.1 S.2.2.2.1 S.2.2.2.2, bX2 G q (o + 2) S.1.1 S.1.2.1 S.1.2.2.1 S.1.2.2.2.1 S.1.2.2.2.2.1 S.1.2.2.2.2.2.1 S.1.2.2.2.2.2.2.1 S.1.2.2.2.2.2.2.2, bX8 G q1 o1 P1.1 P1.2]) hS0 (c_X8_get l G q1 o1 P1 v2 v4 r1 e2) zc_X8_get rfl gX5_read_X8_get ⟨Nat.le_of_ble_eq_true rfl, Nat.le_of_ble_eq_true rfl⟩ hK hA hT hw (is := [2]) rfl rfl rfl rfl rfl rfl rfl hl.1 rfl (Nat.le_of_ble_eq_true rfl) dX5_read_34 (fun H locs hw => ?_)
      refine lv_istore (lv' := [(5, .int r1), (0, .ref (q (o + 0))), (1, .ref (q1 (o1 + 0))), (2, .int v2), (3, .int v3), (4, .int v4)]) hx hb dX5_read_37 hl (by decide) rfl (fun ls hl => ?_)
      refine lv_aload_n hx hb dX5_read_39 rfl (lv_at hl 1 rfl) ?_
      refine z_get hS0 in_X5_read_X5 hK hw 0 2 rfl rfl rfl (by decide) (hts _ m_X5_read_0) (v := .int S.2.2.1) rfl dX5_read_40 ?_
      refine lv_if_ne (tgt := 55) hx hb dX5_read_43 rfl (fun hc => ?_) (fun hc => ?_)
      · have hf := z_f hc hf
        refine lv_aload_n hx hb dX5_read_55 rfl (lv_at hl 1 rfl) ?_
        refine lv_iload hx hb dX5_read_56 (lv_at hl 0 rfl) ?_
        obtain ⟨r3, e4, hf⟩ := z_bd hf
        refine z_callV1 (As := [.int r1]) (rest := []) (bs' := [bX5 G q o r3.2.2.1 r3.2.2.2.1 r3.2.2.2.2.1 r3.2.2.2.2.2, bX2 G q (o + 2) r3.2.1.1 r3.2.1.2.1 r3.2.1.2.2.1 r3.2.1.2.2.2.1 r3.2.1.2.2.2.2.1 r3.2.1.2.2.2.2.2.1 r3.2.1.2.2.2.2.2.2.1 r3.2.1.2.2.2.2.2.2.2, bX8 G q1 o1 P1.1 P1.2]) hS0 (c_X5_continues l G q o S r1 r3 e4) zc_X5_continues rfl gX5_read_X5_continues ⟨Nat.le_of_ble_eq_true rfl, Nat.le_of_ble_eq_true rfl⟩ hK hA hT hw (is := [0, 1]) rfl rfl rfl rfl rfl rfl rfl hl.1 rfl (Nat.le_of_ble_eq_true rfl) dX5_read_58 (fun H locs hw => ?_)
        exact k_X5_read_61 hZ _ ih _ _ _ _ _ _ _ _ _ hf hw (lv_sub hl [1, 2, 3, 4, 5] rfl)
      · have hf := z_t hc hf
        refine lv_aload_n hx hb dX5_read_46 rfl (lv_at hl 1 rfl) ?_
        refine lv_iload hx hb dX5_read_47 (lv_at hl 0 rfl) ?_
        obtain ⟨r5, e6, hf⟩ := z_bd hf
        refine z_callV1 (As := [.int r1]) (rest := []) (bs' := [bX5 G q o r5.2.2.1 r5.2.2.2.1 r5.2.2.2.2.1 r5.2.2.2.2.2, bX2 G q (o + 2) r5.2.1.1 r5.2.1.2.1 r5.2.1.2.2.1 r5.2.1.2.2.2.1 r5.2.1.2.2.2.2.1 r5.2.1.2.2.2.2.2.1 r5.2.1.2.2.2.2.2.2.1 r5.2.1.2.2.2.2.2.2.2, bX8 G q1 o1 P1.1 P1.2]) hS0 (c_X5_opens l G q o S r1 r5 e6) zc_X5_opens rfl gX5_read_X5_opens ⟨Nat.le_of_ble_eq_true rfl, Nat.le_of_ble_eq_true rfl⟩ hK hA hT hw (is := [0, 1]) rfl rfl rfl rfl rfl rfl rfl hl.1 rfl (Nat.le_of_ble_eq_true rfl) dX5_read_49 (fun H locs hw => ?_)
        refine lv_goto (tgt := 61) hx hb dX5_read_52 rfl ?_
        exact k_X5_read_61 hZ _ ih _ _ _ _ _ _ _ _ _ hf hw (lv_sub hl [1, 2, 3, 4, 5] rfl)
set_option maxHeartbeats 4000000 in
set_option maxRecDepth 100000 in
theorem c_X5_read (l : Launch) (G : zG) (q : Nat → Nat) (o : Nat) (q1 : Nat → Nat) (o1 : Nat) (S : VX5) (P1 : VX8) (v2 : Int32) (y : Int32 × VX5) (hf : f_X5_read S P1 v2 = some y) : zMet l yX5_read wsX5_read 5 115 G [.ref (q (o + 0)), .ref (q1 (o1 + 0)), .int v2] [bX5 G q o S.2.1 S.2.2.1 S.2.2.2.1 S.2.2.2.2, bX2 G q (o + 2) S.1.1 S.1.2.1 S.1.2.2.1 S.1.2.2.2.1 S.1.2.2.2.2.1 S.1.2.2.2.2.2.1 S.1.2.2.2.2.2.2.1 S.1.2.2.2.2.2.2.2, bX8 G q1 o1 P1.1 P1.2] (some (.int y.1)) [bX5 G q o y.2.2.1 y.2.2.2.1 y.2.2.2.2.1 y.2.2.2.2.2, bX2 G q (o + 2) y.2.1.1 y.2.1.2.1 y.2.1.2.2.1 y.2.1.2.2.2.1 y.2.1.2.2.2.2.1 y.2.1.2.2.2.2.2.1 y.2.1.2.2.2.2.2.2.1 y.2.1.2.2.2.2.2.2.2, bX8 G q1 o1 P1.1 P1.2] := by
  refine z_met zc_X5_read (Nat.le_of_ble_eq_true rfl) ?_
  intro p e s m below meth c A ls hZ hl hw
  have hl : lv_has ls 7 [(0, .ref (q (o + 0))), (1, .ref (q1 (o1 + 0))), (2, .int v2)] := hl
  obtain ⟨hS0, hr, hlk, hK, hA, hT⟩ := id hZ
  have hx := hS0.1
  have hb := hS0.2.1
  have hml := hS0.2.2.1
  have hown : s.vm.findClass RX5 = some m.cls := hS0.2.2.2.1
  have hts := hS0.2.2.2.2
  unfold f_X5_read at hf
  refine lv_aload_n hx hb dX5_read_0 rfl (lv_at hl 0 rfl) ?_
  refine lv_iconst (v := 0) hx hb dX5_read_1 rfl ?_
  refine z_put (blk' := bX5 G q o S.2.1 0 S.2.2.2.1 S.2.2.2.2) (bs' := [bX5 G q o S.2.1 0 S.2.2.2.1 S.2.2.2.2, bX2 G q (o + 2) S.1.1 S.1.2.1 S.1.2.2.1 S.1.2.2.2.1 S.1.2.2.2.2.1 S.1.2.2.2.2.2.1 S.1.2.2.2.2.2.2.1 S.1.2.2.2.2.2.2.2, bX8 G q1 o1 P1.1 P1.2]) hS0 in_X5_read_X5 tyX5 tyX5_ok nmX5 hK hw 0 2 rfl rfl rfl (by decide) (hts _ m_X5_read_0) rfl (ty := tyX5 2) (tyX5_ok 2 (by decide)) rfl rfl (Nat.le_of_ble_eq_true rfl) dX5_read_2 rfl rfl (fun H locs hw => ?_)
  refine lv_aload_n hx hb dX5_read_5 rfl (lv_at hl 0 rfl) ?_
  refine lv_iconst (v := 0) hx hb dX5_read_6 rfl ?_
  refine z_put (blk' := bX5 G q o S.2.1 0 0 S.2.2.2.2) (bs' := [bX5 G q o S.2.1 0 0 S.2.2.2.2, bX2 G q (o + 2) S.1.1 S.1.2.1 S.1.2.2.1 S.1.2.2.2.1 S.1.2.2.2.2.1 S.1.2.2.2.2.2.1 S.1.2.2.2.2.2.2.1 S.1.2.2.2.2.2.2.2, bX8 G q1 o1 P1.1 P1.2]) hS0 in_X5_read_X5 tyX5 tyX5_ok nmX5 hK hw 0 3 rfl rfl rfl (by decide) (hts _ m_X5_read_2) rfl (ty := tyX5 3) (tyX5_ok 3 (by decide)) rfl rfl (Nat.le_of_ble_eq_true rfl) dX5_read_7 rfl rfl (fun H locs hw => ?_)
  refine lv_aload_n hx hb dX5_read_10 rfl (lv_at hl 0 rfl) ?_
  refine lv_iconst (v := 0) hx hb dX5_read_11 rfl ?_
  refine z_put (blk' := bX5 G q o S.2.1 0 0 0) (bs' := [bX5 G q o S.2.1 0 0 0, bX2 G q (o + 2) S.1.1 S.1.2.1 S.1.2.2.1 S.1.2.2.2.1 S.1.2.2.2.2.1 S.1.2.2.2.2.2.1 S.1.2.2.2.2.2.2.1 S.1.2.2.2.2.2.2.2, bX8 G q1 o1 P1.1 P1.2]) hS0 in_X5_read_X5 tyX5 tyX5_ok nmX5 hK hw 0 4 rfl rfl rfl (by decide) (hts _ m_X5_read_1) rfl (ty := tyX5 4) (tyX5_ok 4 (by decide)) rfl rfl (Nat.le_of_ble_eq_true rfl) dX5_read_12 rfl rfl (fun H locs hw => ?_)
  refine lv_aload_n hx hb dX5_read_15 rfl (lv_at hl 1 rfl) ?_
  refine lv_iload_n hx hb dX5_read_16 rfl (lv_at hl 2 rfl) ?_
  obtain ⟨r7, e8, hf⟩ := z_bd hf
  refine z_callV1 (As := [.int v2]) (rest := []) (bs' := [bX5 G q o S.2.1 0 0 0, bX2 G q (o + 2) S.1.1 S.1.2.1 S.1.2.2.1 S.1.2.2.2.1 S.1.2.2.2.2.1 S.1.2.2.2.2.2.1 S.1.2.2.2.2.2.2.1 S.1.2.2.2.2.2.2.2, bX8 G q1 o1 P1.1 P1.2]) hS0 (c_X8_sizeOf l G q1 o1 P1 v2 r7 e8) zc_X8_sizeOf rfl gX5_read_X8_sizeOf ⟨Nat.le_of_ble_eq_true rfl, Nat.le_of_ble_eq_true rfl⟩ hK hA hT hw (is := [2]) rfl rfl rfl rfl rfl rfl rfl hl.1 rfl (Nat.le_of_ble_eq_true rfl) dX5_read_17 (fun H locs hw => ?_)
  refine lv_istore_n (lv' := [(3, .int r7), (0, .ref (q (o + 0))), (1, .ref (q1 (o1 + 0))), (2, .int v2)]) hx hb dX5_read_20 rfl hl (by decide) rfl (fun ls hl => ?_)
  refine lv_iconst (v := 0) hx hb dX5_read_21 rfl ?_
  refine lv_istore (lv' := [(4, .int 0), (3, .int r7), (0, .ref (q (o + 0))), (1, .ref (q1 (o1 + 0))), (2, .int v2)]) hx hb dX5_read_22 hl (by decide) rfl (fun ls hl => ?_)
  exact k_X5_read_24 hZ _ 4096 _ _ _ _ _ _ _ _ hf hw (lv_sub hl [2, 3, 4, 1, 0] rfl)
