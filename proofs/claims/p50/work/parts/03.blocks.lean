abbrev bX2 (G : zG) (q : Nat → Nat) (o : Nat) (f_kinds : Nat → Int32) (f_keepers : Nat → Int32) (f_otherKeepers : Nat → Int32) (f_lates : Nat → Int32) (f_foes : Nat → Int32) (f_cells : Int32) (f_sprungOnes : Int32) (f_blindOnes : Int32) : va_W := [(q (o + 0), .inr (2, [.ref (q (o + 1)), .ref (q (o + 2)), .ref (q (o + 3)), .ref (q (o + 4)), .ref (q (o + 5)), .int f_cells, .int f_sprungOnes, .int f_blindOnes])), (q (o + 1), .inl (G.2.1, 8, .inl f_kinds)), (q (o + 2), .inl (G.2.1, 8, .inl f_keepers)), (q (o + 3), .inl (G.2.1, 8, .inl f_otherKeepers)), (q (o + 4), .inl (G.2.1, 8, .inl f_lates)), (q (o + 5), .inl (G.2.1, 8, .inl f_foes))]
abbrev bX4 (G : zG) (q : Nat → Nat) (o : Nat) (f_fewest : Nat → Int32) (f_active : Int32) : va_W := [(q (o + 0), .inr (4, [.ref (q (o + 1)), .int f_active])), (q (o + 1), .inl (G.2.1, 256, .inl f_fewest))]
abbrev bX9 (G : zG) (q : Nat → Nat) (o : Nat) (f_often : Nat → Int32) (f_latest : Int32) (f_upperNumber : Int64) (f_lowerNumber : Int64) (f_latestFinding : Int32) : va_W := [(q (o + 0), .inr (9, [.ref (q (o + 1)), .int f_latest, .long f_upperNumber, .long f_lowerNumber, .int f_latestFinding])), (q (o + 1), .inl (G.2.1, 6, .inl f_often))]
abbrev bX6 (G : zG) (q : Nat → Nat) (o : Nat) (f_places : Nat → Nat → Int32) (f_sizes : Nat → Int32) : va_W := [(q (o + 0), .inr (6, [.ref (q (o + 1)), .ref (q (o + 8))])), (q (o + 1), .inl (G.2.2.2.1, 6, .inr (.inr (.inr (.inr (fun i => if i < 6 then some (q (o + 2 + i)) else none)))))), (q (o + 2 + 0), .inl (G.2.1, 60, .inl (f_places 0))), (q (o + 2 + 1), .inl (G.2.1, 60, .inl (f_places 1))), (q (o + 2 + 2), .inl (G.2.1, 60, .inl (f_places 2))), (q (o + 2 + 3), .inl (G.2.1, 60, .inl (f_places 3))), (q (o + 2 + 4), .inl (G.2.1, 60, .inl (f_places 4))), (q (o + 2 + 5), .inl (G.2.1, 60, .inl (f_places 5))), (q (o + 8), .inl (G.2.1, 6, .inl f_sizes))]
abbrev bX8 (G : zG) (q : Nat → Nat) (o : Nat) (f_places : Nat → Nat → Int32) (f_sizes : Nat → Int32) : va_W := [(q (o + 0), .inr (8, [.ref (q (o + 1)), .ref (q (o + 6))])), (q (o + 1), .inl (G.2.2.2.2.1, 4, .inr (.inr (.inr (.inr (fun i => if i < 4 then some (q (o + 2 + i)) else none)))))), (q (o + 2 + 0), .inl (G.2.2.1, 100, .inl (f_places 0))), (q (o + 2 + 1), .inl (G.2.2.1, 100, .inl (f_places 1))), (q (o + 2 + 2), .inl (G.2.2.1, 100, .inl (f_places 2))), (q (o + 2 + 3), .inl (G.2.2.1, 100, .inl (f_places 3))), (q (o + 6), .inl (G.2.1, 4, .inl f_sizes))]
abbrev bX5 (G : zG) (q : Nat → Nat) (o : Nat) (f_parts : Nat → Int32) (f_item : Int32) (f_taken : Int32) (f_counted : Int32) : va_W := [(q (o + 0), .inr (5, [.ref (q (o + 2 + 0)), .ref (q (o + 1)), .int f_item, .int f_taken, .int f_counted])), (q (o + 1), .inl (G.2.1, 3, .inl f_parts))]
abbrev bX1 (G : zG) (q : Nat → Nat) (o : Nat) (f_keptOut : Nat → Int32) (f_keptFavours : Nat → Int32) (f_gone : Int32) (f_favours : Int32) : va_W := [(q (o + 0), .inr (1, [.ref (q (o + 1)), .ref (q (o + 2)), .int f_gone, .int f_favours])), (q (o + 1), .inl (G.2.1, 3, .inl f_keptOut)), (q (o + 2), .inl (G.2.1, 3, .inl f_keptFavours))]
abbrev bX3 (G : zG) (q : Nat → Nat) (o : Nat) (f_numbers : Nat → Int32) (f_rest : Nat → Int32) (f_nexts : Nat → Int32) (f_steps : Nat → Int32) : va_W := [(q (o + 0), .inr (3, [.ref (q (o + 1)), .ref (q (o + 2)), .ref (q (o + 3)), .ref (q (o + 4))])), (q (o + 1), .inl (G.2.1, 256, .inl f_numbers)), (q (o + 2), .inl (G.2.1, 256, .inl f_rest)), (q (o + 3), .inl (G.2.1, 256, .inl f_nexts)), (q (o + 4), .inl (G.2.1, 8, .inl f_steps))]
abbrev bX0 (G : zG) (q : Nat → Nat) (o : Nat) (f_firstDeal : Nat → Int32) (f_wanted : Nat → Int32) : va_W := [(q (o + 0), .inr (0, [.ref (q (o + 3 + 0)), .ref (q (o + 9 + 0)), .ref (q (o + 1)), .ref (q (o + 2))])), (q (o + 1), .inl (G.2.1, 5, .inl f_firstDeal)), (q (o + 2), .inl (G.2.1, 8, .inl f_wanted))]
abbrev bX7 (G : zG) (q : Nat → Nat) (o : Nat) (f_who : Nat → Int32) (f_was : Nat → Int32) (f_size : Int32) : va_W := [(q (o + 0), .inr (7, [.ref (q (o + 1)), .ref (q (o + 2)), .int f_size])), (q (o + 1), .inl (G.2.1, 8, .inl f_who)), (q (o + 2), .inl (G.2.1, 8, .inl f_was))]
abbrev bX10 (G : zG) (q : Nat → Nat) (o : Nat)  : va_W := [(q (o + 0), .inr (10, [.ref (q (o + 1 + 0)), .ref (q (o + 3 + 0)), .ref (q (o + 12 + 0)), .ref (q (o + 19 + 0)), .ref (q (o + 27 + 0)), .ref (q (o + 33 + 0)), .ref (q (o + 36 + 0)), .ref (q (o + 38 + 0)), .ref (q (o + 43 + 0)), .ref (q (o + 54 + 0))]))]
theorem z_row_X6 {G : zG} {q : Nat → Nat} {o : Nat} {P : Nat → Nat → Int32} {Z : Nat → Int32} {i : Int32} (h : vp_in i 6) : ∃ k : Nat, (bX6 G q o P Z)[k]? = some (q (o + 2 + i.toNatClampNeg), .inl (G.2.1, 60, .inl (P i.toNatClampNeg))) ∧ ∀ f : Nat → Int32, (bX6 G q o P Z).set k (q (o + 2 + i.toNatClampNeg), .inl (G.2.1, 60, .inl f)) = bX6 G q o (zg P i.toNatClampNeg f) Z := by
  obtain ⟨j, hj, rfl⟩ := vp_in_of h (by decide)
  rw [nI_clamp (by omega)]
  match j, hj with
  | 0, _ => exact ⟨2, rfl, fun f => rfl⟩
  | 1, _ => exact ⟨3, rfl, fun f => rfl⟩
  | 2, _ => exact ⟨4, rfl, fun f => rfl⟩
  | 3, _ => exact ⟨5, rfl, fun f => rfl⟩
  | 4, _ => exact ⟨6, rfl, fun f => rfl⟩
  | 5, _ => exact ⟨7, rfl, fun f => rfl⟩
theorem z_row_X8 {G : zG} {q : Nat → Nat} {o : Nat} {P : Nat → Nat → Int32} {Z : Nat → Int32} {i : Int32} (h : vp_in i 4) : ∃ k : Nat, (bX8 G q o P Z)[k]? = some (q (o + 2 + i.toNatClampNeg), .inl (G.2.2.1, 100, .inl (P i.toNatClampNeg))) ∧ ∀ f : Nat → Int32, (bX8 G q o P Z).set k (q (o + 2 + i.toNatClampNeg), .inl (G.2.2.1, 100, .inl f)) = bX8 G q o (zg P i.toNatClampNeg f) Z := by
  obtain ⟨j, hj, rfl⟩ := vp_in_of h (by decide)
  rw [nI_clamp (by omega)]
  match j, hj with
  | 0, _ => exact ⟨2, rfl, fun f => rfl⟩
  | 1, _ => exact ⟨3, rfl, fun f => rfl⟩
  | 2, _ => exact ⟨4, rfl, fun f => rfl⟩
  | 3, _ => exact ⟨5, rfl, fun f => rfl⟩
abbrev bA48 (G : zG) (q : Nat → Nat) (o : Nat) (f : Nat → Int32) : va_W := [(q (o + 0), .inl (G.2.1, 48, .inl f))]
abbrev bA64 (G : zG) (q : Nat → Nat) (o : Nat) (f : Nat → Int32) : va_W := [(q (o + 0), .inl (G.2.1, 64, .inl f))]
abbrev bA8 (G : zG) (q : Nat → Nat) (o : Nat) (f : Nat → Int32) : va_W := [(q (o + 0), .inl (G.2.1, 8, .inl f))]
/-! the JDK's own methods on this class' String constants -/
theorem zB_ok : ∀ k, k < 6 → ∀ j, j < zL k → ((zB k j &&& 255).toUInt32 % 65536).toInt32 = zB k j ∧ narrow .char (.int (zB k j)) = .int (zB k j) := by
  intro k hk j hj
  have h : ∀ k : Fin 6, ∀ j : Fin 3, j.val < zL k.val → ((zB k.val j.val &&& 255).toUInt32 % 65536).toInt32 = zB k.val j.val ∧ narrow .char (.int (zB k.val j.val)) = .int (zB k.val j.val) := by decide +kernel
  have h3 : ∀ k : Fin 6, zL k.val ≤ 3 := by decide +kernel
  have := h3 ⟨k, hk⟩
  exact h ⟨k, hk⟩ ⟨j, by have q : zL k ≤ 3 := this; omega⟩ hj
theorem zL_le : ∀ k, k < 6 → zL k ≤ 3 := fun k hk => (by decide +kernel : ∀ k : Fin 6, zL k.val ≤ 3) ⟨k, hk⟩
theorem zc_J3_checkIndex_8e157 : zC yJ3_checkIndex_8e157 wsJ3_checkIndex_8e157 cJ3_checkIndex_8e157 3 (some .int) 3 := ⟨⟨_, rfl⟩, by decide +kernel, by decide +kernel, by decide +kernel, by decide +kernel⟩
set_option maxHeartbeats 4000000 in
set_option maxRecDepth 100000 in
theorem cc_J3_checkIndex_8e157 (l : Launch) (G : zG) (i n : Int32) (a : Nat) (h1 : ¬ i < 0) (h2 : i < n) : zMet l yJ3_checkIndex_8e157 wsJ3_checkIndex_8e157 0 0 G [.int i, .int n, .ref a] [] (some (.int i)) [] := by
  refine z_met zc_J3_checkIndex_8e157 (Nat.le_of_ble_eq_true rfl) ?_
  intro p e s m below meth c A ls hZ hl hw
  have hl : lv_has ls 3 [(0, .int i), (1, .int n), (2, .ref a)] := hl
  obtain ⟨hS0, hr, hlk, hK, hA, hT⟩ := id hZ
  have hx := hS0.1
  have hb := hS0.2.1
  have hml := hS0.2.2.1
  have hown : s.vm.findClass RJ3 = some m.cls := hS0.2.2.2.1
  have hts := hS0.2.2.2.2
  refine lv_iload_n hx hb dJ3_checkIndex_8e157_0 rfl (lv_at hl 0 rfl) ?_
  refine lv_if_lt (tgt := 9) hx hb dJ3_checkIndex_8e157_1 rfl (fun hc => absurd hc h1) (fun hc => ?_)
  refine lv_iload_n hx hb dJ3_checkIndex_8e157_4 rfl (lv_at hl 0 rfl) ?_
  refine lv_iload_n hx hb dJ3_checkIndex_8e157_5 rfl (lv_at hl 1 rfl) ?_
  refine lv_icmp_lt (tgt := 16) hx hb dJ3_checkIndex_8e157_6 rfl (fun hc => ?_) (fun hc => absurd h2 hc)
  refine lv_iload_n hx hb dJ3_checkIndex_8e157_16 rfl (lv_at hl 0 rfl) ?_
  exact z_iret hx hb hr hlk hw dJ3_checkIndex_8e157_17
set_option maxHeartbeats 4000000 in
set_option maxRecDepth 100000 in
theorem cc_J3_null (l : Launch) (G : zG) (i n : Int32) (h1 : ¬ i < 0) (h2 : i < n) : zMet l yJ3_checkIndex_8e157 wsJ3_checkIndex_8e157 0 0 G [.int i, .int n, .null] [] (some (.int i)) [] := by
  refine z_met zc_J3_checkIndex_8e157 (Nat.le_of_ble_eq_true rfl) ?_
  intro p e s m below meth c A ls hZ hl hw
  have hl : lv_has ls 3 [(0, .int i), (1, .int n), (2, .null)] := hl
  obtain ⟨hS0, hr, hlk, hK, hA, hT⟩ := id hZ
  have hx := hS0.1
  have hb := hS0.2.1
  have hml := hS0.2.2.1
  have hown : s.vm.findClass RJ3 = some m.cls := hS0.2.2.2.1
  have hts := hS0.2.2.2.2
  refine lv_iload_n hx hb dJ3_checkIndex_8e157_0 rfl (lv_at hl 0 rfl) ?_
  refine lv_if_lt (tgt := 9) hx hb dJ3_checkIndex_8e157_1 rfl (fun hc => absurd hc h1) (fun hc => ?_)
  refine lv_iload_n hx hb dJ3_checkIndex_8e157_4 rfl (lv_at hl 0 rfl) ?_
  refine lv_iload_n hx hb dJ3_checkIndex_8e157_5 rfl (lv_at hl 1 rfl) ?_
  refine lv_icmp_lt (tgt := 16) hx hb dJ3_checkIndex_8e157_6 rfl (fun hc => ?_) (fun hc => absurd h2 hc)
  refine lv_iload_n hx hb dJ3_checkIndex_8e157_16 rfl (lv_at hl 0 rfl) ?_
  exact z_iret hx hb hr hlk hw dJ3_checkIndex_8e157_17
theorem zc_J0_checkIndex_df160 : zC yJ0_checkIndex_df160 wsJ0_checkIndex_df160 cJ0_checkIndex_df160 2 none 2 := ⟨⟨_, rfl⟩, by decide +kernel, by decide +kernel, by decide +kernel, by decide +kernel⟩
set_option maxHeartbeats 4000000 in
set_option maxRecDepth 100000 in
theorem cc_J0_checkIndex_df160 (l : Launch) (G : zG) (i n : Int32) (h1 : ¬ i < 0) (h2 : i < n) : zMet l yJ0_checkIndex_df160 wsJ0_checkIndex_df160 1 22 G [.int i, .int n] [] none [] := by
  refine z_met zc_J0_checkIndex_df160 (Nat.le_of_ble_eq_true rfl) ?_
  intro p e s m below meth c A ls hZ hl hw
  have hl : lv_has ls 2 [(0, .int i), (1, .int n)] := hl
  obtain ⟨hS0, hr, hlk, hK, hA, hT⟩ := id hZ
  have hx := hS0.1
  have hb := hS0.2.1
  have hml := hS0.2.2.1
  have hown : s.vm.findClass RJ0 = some m.cls := hS0.2.2.2.1
  have hts := hS0.2.2.2.2
  rcases hT.2.2.1 with hZf | ⟨a, hZf⟩
  · refine lv_iload_n hx hb dJ0_checkIndex_df160_0 rfl (lv_at hl 0 rfl) ?_
    refine lv_iload_n hx hb dJ0_checkIndex_df160_1 rfl (lv_at hl 1 rfl) ?_
    refine va_gets hx hb hZf hw.2.2 hown (hts _ (show (.fieldLink RJ0 1053 "jdk/internal/util/Preconditions" "SIOOBE_FORMATTER" "Ljava/util/function/BiFunction;" : Cond) ∈ wsJ0_checkIndex_df160 by decide +kernel)) (fun _ h => h) dJ0_checkIndex_df160_2 ?_
    refine z_callS1 (As := [.int i, .int n, .null]) (rest := []) (bs' := []) hS0 (cc_J3_null l G i n h1 h2) zc_J3_checkIndex_8e157 gJ0_checkIndex_df160_J3_checkIndex_8e157 ⟨Nat.le_of_ble_eq_true rfl, Nat.le_of_ble_eq_true rfl⟩ hK hA hT hw (is := []) rfl rfl rfl rfl rfl hl.1 rfl (Nat.le_of_ble_eq_true rfl) dJ0_checkIndex_df160_5 (fun H locs hw => ?_)
    refine lv_pop hx hb dJ0_checkIndex_df160_8 rfl ?_
    exact z_vret hx hb hr hlk hw dJ0_checkIndex_df160_9
  · refine lv_iload_n hx hb dJ0_checkIndex_df160_0 rfl (lv_at hl 0 rfl) ?_
    refine lv_iload_n hx hb dJ0_checkIndex_df160_1 rfl (lv_at hl 1 rfl) ?_
    refine va_gets hx hb hZf hw.2.2 hown (hts _ (show (.fieldLink RJ0 1053 "jdk/internal/util/Preconditions" "SIOOBE_FORMATTER" "Ljava/util/function/BiFunction;" : Cond) ∈ wsJ0_checkIndex_df160 by decide +kernel)) (fun _ h => h) dJ0_checkIndex_df160_2 ?_
    refine z_callS1 (As := [.int i, .int n, .ref a]) (rest := []) (bs' := []) hS0 (cc_J3_checkIndex_8e157 l G i n a h1 h2) zc_J3_checkIndex_8e157 gJ0_checkIndex_df160_J3_checkIndex_8e157 ⟨Nat.le_of_ble_eq_true rfl, Nat.le_of_ble_eq_true rfl⟩ hK hA hT hw (is := []) rfl rfl rfl rfl rfl hl.1 rfl (Nat.le_of_ble_eq_true rfl) dJ0_checkIndex_df160_5 (fun H locs hw => ?_)
    refine lv_pop hx hb dJ0_checkIndex_df160_8 rfl ?_
    exact z_vret hx hb hr hlk hw dJ0_checkIndex_df160_9
theorem zc_J1_charAt_3b067 : zC yJ1_charAt_3b067 wsJ1_charAt_3b067 cJ1_charAt_3b067 2 (some .char) 2 := ⟨⟨_, rfl⟩, by decide +kernel, by decide +kernel, by decide +kernel, by decide +kernel⟩
set_option maxHeartbeats 4000000 in
set_option maxRecDepth 100000 in
theorem cc_J1_charAt_3b067 (l : Launch) (G : zG) (k : Nat) (i : Int32) (hk : k < 6) (hi : zIn i (zL k) = true) : zMet l yJ1_charAt_3b067 wsJ1_charAt_3b067 2 43 G [.ref (G.2.2.2.2.2.2.1 k), .int i] [] (some (.int (zB k i.toNatClampNeg))) [] := by
  refine z_met zc_J1_charAt_3b067 (Nat.le_of_ble_eq_true rfl) ?_
  intro p e s m below meth c A ls hZ hl hw
  have hl : lv_has ls 2 [(0, .ref (G.2.2.2.2.2.2.1 k)), (1, .int i)] := hl
  obtain ⟨hS0, hr, hlk, hK, hA, hT⟩ := id hZ
  have hx := hS0.1
  have hb := hS0.2.1
  have hml := hS0.2.2.1
  have hown : s.vm.findClass RJ1 = some m.cls := hS0.2.2.2.1
  have hts := hS0.2.2.2.2
  have hV := (hT.1.1 k hk).2.2.2
  have hin := zIn_vp hi
  have hle := zL_le k hk
  obtain ⟨j, hj, rfl⟩ := vp_in_of hin (by omega)
  have e9 : (nI j).toNatClampNeg = j := nI_clamp (by omega)
  obtain ⟨hb1, hb2⟩ := zB_ok k hk j hj
  refine lv_iload_n hx hb dJ1_charAt_3b067_0 rfl (lv_at hl 1 rfl) ?_
  refine lv_aload_n hx hb dJ1_charAt_3b067_1 rfl (lv_at hl 0 rfl) ?_
  refine va_tlen (v := nI (zL k)) hx hb hV hw.2.2 rfl dJ1_charAt_3b067_2 ?_
  refine z_callS0 (As := [.int (nI j), .int (nI (zL k))]) (rest := []) (bs' := []) hS0 (cc_J0_checkIndex_df160 l G (nI j) (nI (zL k)) (nI_pos (by omega)) (nI_lt hj (by omega))) zc_J0_checkIndex_df160 gJ1_charAt_3b067_J0_checkIndex_df160 ⟨Nat.le_of_ble_eq_true rfl, Nat.le_of_ble_eq_true rfl⟩ hK hA hT hw (is := []) rfl rfl rfl rfl rfl hl.1 rfl (Nat.le_of_ble_eq_true rfl) dJ1_charAt_3b067_3 (fun H locs hw => ?_)
  refine lv_aload_n hx hb dJ1_charAt_3b067_6 rfl (lv_at hl 0 rfl) ?_
  refine lv_iload_n hx hb dJ1_charAt_3b067_7 rfl (lv_at hl 1 rfl) ?_
  refine va_tb (v := .int (zB k (nI j).toNatClampNeg)) hx hb hV hw.2.2 hin rfl dJ1_charAt_3b067_8 ?_
  refine lv_sipush (v := 255) hx hb dJ1_charAt_3b067_9 rfl ?_
  refine lv_iand hx hb dJ1_charAt_3b067_12 ?_
  refine lv_i2c (v := zB k (nI j).toNatClampNeg) hx hb dJ1_charAt_3b067_13 (by rw [e9]; exact hb1) ?_
  exact z_zret hx hb hr (by rw [e9]; exact hb2) hlk hw dJ1_charAt_3b067_14
theorem zc_J0_isLatin1_aae02 : zC yJ0_isLatin1_aae02 wsJ0_isLatin1_aae02 cJ0_isLatin1_aae02 1 (some .boolean) 0 := ⟨⟨_, rfl⟩, by decide +kernel, by decide +kernel, by decide +kernel, by decide +kernel⟩
set_option maxHeartbeats 4000000 in
set_option maxRecDepth 100000 in
theorem cc_J0_isLatin1_aae02 (l : Launch) (G : zG) (k : Nat) (hk : k < 6) : zMet l yJ0_isLatin1_aae02 wsJ0_isLatin1_aae02 0 0 G [.ref (G.2.2.2.2.2.1 k)] [] (some (.int 1)) [] := by
  refine z_met zc_J0_isLatin1_aae02 (Nat.le_of_ble_eq_true rfl) ?_
  intro p e s m below meth c A ls hZ hl hw
  have hl : lv_has ls 1 [(0, .ref (G.2.2.2.2.2.1 k))] := hl
  obtain ⟨hS0, hr, hlk, hK, hA, hT⟩ := id hZ
  have hx := hS0.1
  have hb := hS0.2.1
  have hml := hS0.2.2.1
  have hown : s.vm.findClass RJ0 = some m.cls := hS0.2.2.2.1
  have hts := hS0.2.2.2.2
  have hC := (hT.1.1 k hk).2.1
  refine va_gets hx hb hT.2.1 hw.2.2 hown (hts _ (show (.fieldLink RJ0 38 "java/lang/String" "COMPACT_STRINGS" "Z" : Cond) ∈ wsJ0_isLatin1_aae02 by decide +kernel)) (fun _ h => h) dJ0_isLatin1_aae02_0 ?_
  refine lv_if_eq (tgt := 17) hx hb dJ0_isLatin1_aae02_3 rfl (fun hc => absurd hc (by decide)) (fun hc => ?_)
  refine lv_aload_n hx hb dJ0_isLatin1_aae02_6 rfl (lv_at hl 0 rfl) ?_
  refine vk_getf hx hb hC hw.2.2 hown (hts _ (show (.fieldLink RJ0 15 "java/lang/String" "coder" "B" : Cond) ∈ wsJ0_isLatin1_aae02 by decide +kernel)) (fun _ h => h) dJ0_isLatin1_aae02_7 ?_
  refine lv_if_ne (tgt := 17) hx hb dJ0_isLatin1_aae02_10 rfl (fun hc => absurd rfl hc) (fun hc => ?_)
  refine lv_iconst (v := 1) hx hb dJ0_isLatin1_aae02_13 rfl ?_
  refine lv_goto (tgt := 18) hx hb dJ0_isLatin1_aae02_14 rfl ?_
  exact z_zret hx hb hr rfl hlk hw dJ0_isLatin1_aae02_18
theorem zc_J0_coder_7d493 : zC yJ0_coder_7d493 wsJ0_coder_7d493 cJ0_coder_7d493 1 (some .byte) 0 := ⟨⟨_, rfl⟩, by decide +kernel, by decide +kernel, by decide +kernel, by decide +kernel⟩
set_option maxHeartbeats 4000000 in
set_option maxRecDepth 100000 in
theorem cc_J0_coder_7d493 (l : Launch) (G : zG) (k : Nat) (hk : k < 6) : zMet l yJ0_coder_7d493 wsJ0_coder_7d493 0 0 G [.ref (G.2.2.2.2.2.1 k)] [] (some (.int 0)) [] := by
  refine z_met zc_J0_coder_7d493 (Nat.le_of_ble_eq_true rfl) ?_
  intro p e s m below meth c A ls hZ hl hw
  have hl : lv_has ls 1 [(0, .ref (G.2.2.2.2.2.1 k))] := hl
  obtain ⟨hS0, hr, hlk, hK, hA, hT⟩ := id hZ
  have hx := hS0.1
  have hb := hS0.2.1
  have hml := hS0.2.2.1
  have hown : s.vm.findClass RJ0 = some m.cls := hS0.2.2.2.1
  have hts := hS0.2.2.2.2
  have hC := (hT.1.1 k hk).2.1
  refine va_gets hx hb hT.2.1 hw.2.2 hown (hts _ (show (.fieldLink RJ0 38 "java/lang/String" "COMPACT_STRINGS" "Z" : Cond) ∈ wsJ0_coder_7d493 by decide +kernel)) (fun _ h => h) dJ0_coder_7d493_0 ?_
  refine lv_if_eq (tgt := 13) hx hb dJ0_coder_7d493_3 rfl (fun hc => absurd hc (by decide)) (fun hc => ?_)
  refine lv_aload_n hx hb dJ0_coder_7d493_6 rfl (lv_at hl 0 rfl) ?_
  refine vk_getf hx hb hC hw.2.2 hown (hts _ (show (.fieldLink RJ0 15 "java/lang/String" "coder" "B" : Cond) ∈ wsJ0_coder_7d493 by decide +kernel)) (fun _ h => h) dJ0_coder_7d493_7 ?_
  refine lv_goto (tgt := 14) hx hb dJ0_coder_7d493_10 rfl ?_
  exact z_zret hx hb hr rfl hlk hw dJ0_coder_7d493_14
theorem zc_J0_length_8abf5 : zC yJ0_length_8abf5 wsJ0_length_8abf5 cJ0_length_8abf5 1 (some .int) 0 := ⟨⟨_, rfl⟩, by decide +kernel, by decide +kernel, by decide +kernel, by decide +kernel⟩
set_option maxHeartbeats 4000000 in
set_option maxRecDepth 100000 in
theorem cc_J0_length_8abf5 (l : Launch) (G : zG) (k : Nat) (hk : k < 6) : zMet l yJ0_length_8abf5 wsJ0_length_8abf5 1 20 G [.ref (G.2.2.2.2.2.1 k)] [] (some (.int (nI (zL k)))) [] := by
  refine z_met zc_J0_length_8abf5 (Nat.le_of_ble_eq_true rfl) ?_
  intro p e s m below meth c A ls hZ hl hw
  have hl : lv_has ls 1 [(0, .ref (G.2.2.2.2.2.1 k))] := hl
  obtain ⟨hS0, hr, hlk, hK, hA, hT⟩ := id hZ
  have hx := hS0.1
  have hb := hS0.2.1
  have hml := hS0.2.2.1
  have hown : s.vm.findClass RJ0 = some m.cls := hS0.2.2.2.1
  have hts := hS0.2.2.2.2
  have hF := (hT.1.1 k hk).2.2.1
  have hV := (hT.1.1 k hk).2.2.2
  refine lv_aload_n hx hb dJ0_length_8abf5_0 rfl (lv_at hl 0 rfl) ?_
  refine vk_getf hx hb hF hw.2.2 hown (hts _ (show (.fieldLink RJ0 9 "java/lang/String" "value" "[B" : Cond) ∈ wsJ0_length_8abf5 by decide +kernel)) (fun _ h => h) dJ0_length_8abf5_1 ?_
  refine va_tlen (v := nI (zL k)) hx hb hV hw.2.2 rfl dJ0_length_8abf5_4 ?_
  refine lv_aload_n hx hb dJ0_length_8abf5_5 rfl (lv_at hl 0 rfl) ?_
  refine z_callT (As := []) (rest := [.int (nI (zL k))]) hS0 hk (cc_J0_coder_7d493 l G k hk) zc_J0_coder_7d493 rfl gJ0_length_8abf5_J0_coder_7d493 ⟨Nat.le_of_ble_eq_true rfl, Nat.le_of_ble_eq_true rfl⟩ hK hA hT hw rfl hl.1 rfl (Nat.le_of_ble_eq_true rfl) dJ0_length_8abf5_6 (fun H locs hw => ?_)
  refine lv_ishr hx hb dJ0_length_8abf5_9 ?_
  rw [sc_shr0 (by have := zL_le k hk; omega)]
  exact z_iret hx hb hr hlk hw dJ0_length_8abf5_10
theorem zc_J0_isEmpty_aae02 : zC yJ0_isEmpty_aae02 wsJ0_isEmpty_aae02 cJ0_isEmpty_aae02 1 (some .boolean) 0 := ⟨⟨_, rfl⟩, by decide +kernel, by decide +kernel, by decide +kernel, by decide +kernel⟩
set_option maxHeartbeats 4000000 in
set_option maxRecDepth 100000 in
theorem cc_J0_isEmpty_aae02 (l : Launch) (G : zG) (k : Nat) (hk : k < 6) : zMet l yJ0_isEmpty_aae02 wsJ0_isEmpty_aae02 0 0 G [.ref (G.2.2.2.2.2.1 k)] [] (some (.int (if zL k = 0 then 1 else 0))) [] := by
  refine z_met zc_J0_isEmpty_aae02 (Nat.le_of_ble_eq_true rfl) ?_
  intro p e s m below meth c A ls hZ hl hw
  have hl : lv_has ls 1 [(0, .ref (G.2.2.2.2.2.1 k))] := hl
  obtain ⟨hS0, hr, hlk, hK, hA, hT⟩ := id hZ
  have hx := hS0.1
  have hb := hS0.2.1
  have hml := hS0.2.2.1
  have hown : s.vm.findClass RJ0 = some m.cls := hS0.2.2.2.1
  have hts := hS0.2.2.2.2
  have hF := (hT.1.1 k hk).2.2.1
  have hV := (hT.1.1 k hk).2.2.2
  refine lv_aload_n hx hb dJ0_isEmpty_aae02_0 rfl (lv_at hl 0 rfl) ?_
  refine vk_getf hx hb hF hw.2.2 hown (hts _ (show (.fieldLink RJ0 9 "java/lang/String" "value" "[B" : Cond) ∈ wsJ0_isEmpty_aae02 by decide +kernel)) (fun _ h => h) dJ0_isEmpty_aae02_1 ?_
  refine va_tlen (v := nI (zL k)) hx hb hV hw.2.2 rfl dJ0_isEmpty_aae02_4 ?_
  by_cases h0 : zL k = 0
  · rw [if_pos h0]
    refine lv_if_ne (tgt := 12) hx hb dJ0_isEmpty_aae02_5 rfl (fun hc => absurd (by rw [h0]; rfl) hc) (fun hc => ?_)
    refine lv_iconst (v := 1) hx hb dJ0_isEmpty_aae02_8 rfl ?_
    refine lv_goto (tgt := 13) hx hb dJ0_isEmpty_aae02_9 rfl ?_
    exact z_zret hx hb hr rfl hlk hw dJ0_isEmpty_aae02_13
  · rw [if_neg h0]
    refine lv_if_ne (tgt := 12) hx hb dJ0_isEmpty_aae02_5 rfl (fun hc => ?_) (fun hc => absurd hc (nI_ne0 (by omega) (by have := zL_le k hk; omega)))
    refine lv_iconst (v := 0) hx hb dJ0_isEmpty_aae02_12 rfl ?_
    exact z_zret hx hb hr rfl hlk hw dJ0_isEmpty_aae02_13
theorem zc_J0_charAt_5068e : zC yJ0_charAt_5068e wsJ0_charAt_5068e cJ0_charAt_5068e 2 (some .char) 1 := ⟨⟨_, rfl⟩, by decide +kernel, by decide +kernel, by decide +kernel, by decide +kernel⟩
set_option maxHeartbeats 4000000 in
set_option maxRecDepth 100000 in
theorem cc_J0_charAt_5068e (l : Launch) (G : zG) (k : Nat) (i : Int32) (hk : k < 6) (hi : zIn i (zL k) = true) : zMet l yJ0_charAt_5068e wsJ0_charAt_5068e 3 64 G [.ref (G.2.2.2.2.2.1 k), .int i] [] (some (.int (zB k i.toNatClampNeg))) [] := by
  refine z_met zc_J0_charAt_5068e (Nat.le_of_ble_eq_true rfl) ?_
  intro p e s m below meth c A ls hZ hl hw
  have hl : lv_has ls 2 [(0, .ref (G.2.2.2.2.2.1 k)), (1, .int i)] := hl
  obtain ⟨hS0, hr, hlk, hK, hA, hT⟩ := id hZ
  have hx := hS0.1
  have hb := hS0.2.1
  have hml := hS0.2.2.1
  have hown : s.vm.findClass RJ0 = some m.cls := hS0.2.2.2.1
  have hts := hS0.2.2.2.2
  have hF := (hT.1.1 k hk).2.2.1
  refine lv_aload_n hx hb dJ0_charAt_5068e_0 rfl (lv_at hl 0 rfl) ?_
  refine z_callT (As := []) (rest := []) hS0 hk (cc_J0_isLatin1_aae02 l G k hk) zc_J0_isLatin1_aae02 rfl gJ0_charAt_5068e_J0_isLatin1_aae02 ⟨Nat.le_of_ble_eq_true rfl, Nat.le_of_ble_eq_true rfl⟩ hK hA hT hw rfl hl.1 rfl (Nat.le_of_ble_eq_true rfl) dJ0_charAt_5068e_1 (fun H locs hw => ?_)
  refine lv_if_eq (tgt := 16) hx hb dJ0_charAt_5068e_4 rfl (fun hc => absurd hc (by decide)) (fun hc => ?_)
  refine lv_aload_n hx hb dJ0_charAt_5068e_7 rfl (lv_at hl 0 rfl) ?_
  refine vk_getf hx hb hF hw.2.2 hown (hts _ (show (.fieldLink RJ0 9 "java/lang/String" "value" "[B" : Cond) ∈ wsJ0_charAt_5068e by decide +kernel)) (fun _ h => h) dJ0_charAt_5068e_8 ?_
  refine lv_iload_n hx hb dJ0_charAt_5068e_11 rfl (lv_at hl 1 rfl) ?_
  refine z_callS1 (As := [.ref (G.2.2.2.2.2.2.1 k), .int i]) (rest := []) hS0 (cc_J1_charAt_3b067 l G k i hk hi) zc_J1_charAt_3b067 gJ0_charAt_5068e_J1_charAt_3b067 ⟨Nat.le_of_ble_eq_true rfl, Nat.le_of_ble_eq_true rfl⟩ hK hA hT hw (is := []) rfl rfl rfl rfl rfl hl.1 rfl (Nat.le_of_ble_eq_true rfl) dJ0_charAt_5068e_12 (fun H locs hw => ?_)
  exact z_zret hx hb hr (by
    have hin := zIn_vp hi
    have hle := zL_le k hk
    obtain ⟨j, hj, rfl⟩ := vp_in_of hin (by omega)
    rw [nI_clamp (by omega)]
    exact (zB_ok k hk j hj).2) hlk hw dJ0_charAt_5068e_15
theorem k_J0_length_8abf5 {k : Nat} {y : Int32} (h : f_J0_length_8abf5 k = some y) : k < 6 := (z_gd h).1
theorem k_J0_isEmpty_aae02 {k : Nat} {y : Int32} (h : f_J0_isEmpty_aae02 k = some y) : k < 6 := (z_gd h).1
theorem k_J0_charAt_5068e {k : Nat} {i y : Int32} (h : f_J0_charAt_5068e k i = some y) : k < 6 := (z_gd h).1
theorem c_J0_length_8abf5 (l : Launch) (G : zG) (k : Nat) (y : Int32) (h : f_J0_length_8abf5 k = some y) : zMet l yJ0_length_8abf5 wsJ0_length_8abf5 1 20 G [.ref (G.2.2.2.2.2.1 k)] [] (some (.int y)) [] := by
  obtain ⟨h1, h2⟩ := z_gd h
  cases h2
  exact cc_J0_length_8abf5 l G k h1
theorem c_J0_isEmpty_aae02 (l : Launch) (G : zG) (k : Nat) (y : Int32) (h : f_J0_isEmpty_aae02 k = some y) : zMet l yJ0_isEmpty_aae02 wsJ0_isEmpty_aae02 0 0 G [.ref (G.2.2.2.2.2.1 k)] [] (some (.int y)) [] := by
  obtain ⟨h1, h2⟩ := z_gd h
  cases h2
  exact cc_J0_isEmpty_aae02 l G k h1
theorem c_J0_charAt_5068e (l : Launch) (G : zG) (k : Nat) (i y : Int32) (h : f_J0_charAt_5068e k i = some y) : zMet l yJ0_charAt_5068e wsJ0_charAt_5068e 3 64 G [.ref (G.2.2.2.2.2.1 k), .int i] [] (some (.int y)) [] := by
  obtain ⟨h1, h2⟩ := z_gd h
  obtain ⟨h3, h4⟩ := z_gd h2
  cases h4
  exact cc_J0_charAt_5068e l G k i h1 h3
