def RR0 : Prop := RR (((fun _ => 0), 0, 0, 1, 0), ((fun _ _ => 0), (upd (upd (upd (upd (upd (upd (fun _ => 0) 0 (-1)) 1 (-1)) 2 (-1)) 3 (-1)) 4 (-1)) 5 (-1))), ((fun _ _ => 0), (upd (upd (upd (upd (fun _ => 0) 0 (-1)) 1 (-1)) 2 (-1)) 3 (-1))), (((fun _ => 0), (fun _ => 0), (fun _ => 0), (fun _ => 0), (fun _ => 0), 0, 0, 0), (fun _ => 0), 0, 0, 0), ((fun _ => 0), (fun _ => 0), (fun _ => 0), (fun _ => 0), (fun _ => 0), 0, 0, 0), v_X1, ((fun _ => 0), 0), ((fun _ => 0), (fun _ => 0), (fun _ => 0), (fun _ => 0)), (((fun _ => 0), (fun _ => 0), (fun _ => 0), (fun _ => 0), (fun _ => 0), 0, 0, 0), ((fun _ => 0), 0), (fun _ => 0), (fun _ => 0)), ((fun _ => 0), (fun _ => 0), 0)) (0, (fun _ => 0), 0, 0, 1, (upd (upd (upd (upd (upd (upd (fun _ => 0) 0 (-1)) 1 (-1)) 2 (-1)) 3 (-1)) 4 (-1)) 5 (-1)), (fun _ => 0), (fun _ => 0), (upd (upd (upd (upd (fun _ => 0) 0 (-1)) 1 (-1)) 2 (-1)) 3 (-1)), (fun _ => 0), 0, (fun _ => 0), (fun _ => 0), 0, 0, 0, (fun _ => 0), (fun _ => 0), 0, 0, (upd (upd (upd (fun _ => 0) 0 (-1)) 1 (-1)) 2 (-1)), (fun _ => 0), (fun _ => 0), (fun _ => 0), (fun _ => 0), (fun _ => 0), (fun _ => 0), 0, (fun _ => 0), (fun _ => 0), 0)
set_option maxHeartbeats 8000000 in
set_option maxRecDepth 100000 in
/-- what the start's tables give: the classes, the arrays' classes, the texts -/
theorem lw_known {p : Program} {s : State} {m : MethodId} {meth : Method} {c : Code} {b L : Nat} {xs : Nat → Int32} (C0 : lw_At p s m meth c b L xs) : ∃ G : zG, zK G s ∧ zS G (fun q : Nat => s.heap.size ≤ q) s s.heap ∧ zN s := by
  obtain ⟨hx, hb, hr, hml, hown, hts, hX, hbl, hlocks, hgv⟩ := id C0
  obtain ⟨k0, i0, hKn0⟩ := u_known (C := RX0) (T := TX0) (N := 4) (n := 4) hts inW_X0 (hts (.instantiable RX0 4) (List.mem_of_getElem? (i := 261) (by decide +kernel)))
  obtain ⟨k1, i1, hKn1⟩ := u_known (C := RX1) (T := TX1) (N := 4) (n := 4) hts inW_X1 (hts (.instantiable RX1 4) (List.mem_of_getElem? (i := 206) (by decide +kernel)))
  obtain ⟨k2, i2, hKn2⟩ := u_known (C := RX2) (T := TX2) (N := 8) (n := 8) hts inW_X2 (hts (.instantiable RX2 8) (List.mem_of_getElem? (i := 157) (by decide +kernel)))
  obtain ⟨k3, i3, hKn3⟩ := u_known (C := RX3) (T := TX3) (N := 4) (n := 4) hts inW_X3 (hts (.instantiable RX3 4) (List.mem_of_getElem? (i := 242) (by decide +kernel)))
  obtain ⟨k4, i4, hKn4⟩ := u_known (C := RX4) (T := TX4) (N := 2) (n := 2) hts inW_X4 (hts (.instantiable RX4 2) (List.mem_of_getElem? (i := 229) (by decide +kernel)))
  obtain ⟨k5, i5, hKn5⟩ := u_known (C := RX5) (T := TX5) (N := 5) (n := 5) hts inW_X5 (hts (.instantiable RX5 5) (List.mem_of_getElem? (i := 151) (by decide +kernel)))
  obtain ⟨k6, i6, hKn6⟩ := u_known (C := RX6) (T := TX6) (N := 2) (n := 2) hts inW_X6 (hts (.instantiable RX6 2) (List.mem_of_getElem? (i := 120) (by decide +kernel)))
  obtain ⟨k7, i7, hKn7⟩ := u_known (C := RX7) (T := TX7) (N := 3) (n := 3) hts inW_X7 (hts (.instantiable RX7 3) (List.mem_of_getElem? (i := 284) (by decide +kernel)))
  obtain ⟨k8, i8, hKn8⟩ := u_known (C := RX8) (T := TX8) (N := 2) (n := 2) hts inW_X8 (hts (.instantiable RX8 2) (List.mem_of_getElem? (i := 135) (by decide +kernel)))
  obtain ⟨k9, i9, hKn9⟩ := u_known (C := RX9) (T := TX9) (N := 5) (n := 5) hts inW_X9 (hts (.instantiable RX9 5) (List.mem_of_getElem? (i := 97) (by decide +kernel)))
  obtain ⟨k10, i10, hKn10⟩ := u_known (C := RX10) (T := TX10) (N := 10) (n := 10) hts inW_X10 (hts (.instantiable RX10 10) (List.mem_of_getElem? (i := 89) (by decide +kernel)))
  obtain ⟨k11, i11, hKn11⟩ := u_known (C := RX11) (T := TX11) (N := 31) (n := 31) hts inW_X11 (hts (.instantiable RX11 31) (List.mem_of_getElem? (i := 1110) (by decide +kernel)))
  obtain ⟨dC, dI, hKc⟩ : ∃ (dC : Nat → ClassId) (dI : Nat → Nat → Nat), ∀ (k : Nat) (q : vw_C), vwCl[k]? = some q → u_Kn s q.1 q.2.1 q.2.2 (dC k) (dI k) := by
    refine ⟨fun k => if k = 0 then k0 else if k = 1 then k1 else if k = 2 then k2 else if k = 3 then k3 else if k = 4 then k4 else if k = 5 then k5 else if k = 6 then k6 else if k = 7 then k7 else if k = 8 then k8 else if k = 9 then k9 else if k = 10 then k10 else k11, fun k => if k = 0 then i0 else if k = 1 then i1 else if k = 2 then i2 else if k = 3 then i3 else if k = 4 then i4 else if k = 5 then i5 else if k = 6 then i6 else if k = 7 then i7 else if k = 8 then i8 else if k = 9 then i9 else if k = 10 then i10 else i11, ?_⟩
    intro k q hq
    match k, hq with
    | 0, hq => cases hq; exact hKn0
    | 1, hq => cases hq; exact hKn1
    | 2, hq => cases hq; exact hKn2
    | 3, hq => cases hq; exact hKn3
    | 4, hq => cases hq; exact hKn4
    | 5, hq => cases hq; exact hKn5
    | 6, hq => cases hq; exact hKn6
    | 7, hq => cases hq; exact hKn7
    | 8, hq => cases hq; exact hKn8
    | 9, hq => cases hq; exact hKn9
    | 10, hq => cases hq; exact hKn10
    | 11, hq => cases hq; exact hKn11
    | k + 12, hq => simp [vwCl] at hq
  have aI : (Cond.arrayClass .int).before #[Value.ref b] s = true := hts _ (List.mem_of_getElem? (i := 118) (by decide +kernel))
  have aB : (Cond.arrayClass .byte).before #[Value.ref b] s = true := hts _ (List.mem_of_getElem? (i := 149) (by decide +kernel))
  have oI' : (Cond.arrayOver (.array .int)).before #[Value.ref b] s = true := hts _ (List.mem_of_getElem? (i := 126) (by decide +kernel))
  have oB' : (Cond.arrayOver (.array .byte)).before #[Value.ref b] s = true := hts _ (List.mem_of_getElem? (i := 141) (by decide +kernel))
  obtain ⟨cI, kI', cmI, fI, gI, hI⟩ := Cond.arrayClass_spec aI
  obtain ⟨cB, kB, cmB, fB, gB, hB⟩ := Cond.arrayClass_spec aB
  obtain ⟨cp2, cII, kII, e1, gII, hII, fII⟩ := Cond.arrayOver_specA oI'
  obtain ⟨cp3, cBB, kBB, e3, gBB, hBB, fBB⟩ := Cond.arrayOver_specA oB'
  have hgs := flat_of_before _ hgv
  have hAout : ∀ a : Nat, a < s.heap.size → ¬ (fun q : Nat => s.heap.size ≤ q) a := fun a h => Nat.not_le.mpr h
  obtain ⟨adK, adV, hvk, hev⟩ := vk_Sof (args := #[Value.ref b]) (s := s) (N := 6) (tm := fun i => .string "CellKeys$Reader" (zEnt.getD i 0)) (len := zLen) (byt := zByt) (A := (fun q : Nat => s.heap.size ≤ q)) (by decide) (fun i hi => by match i, hi with | 0, _ => exact hgs _ (by decide +kernel) | 1, _ => exact hgs _ (by decide +kernel) | 2, _ => exact hgs _ (by decide +kernel) | 3, _ => exact hgs _ (by decide +kernel) | 4, _ => exact hgs _ (by decide +kernel) | 5, _ => exact hgs _ (by decide +kernel)) (fun i hi => by match i, hi with | 0, _ => exact hgs _ (by decide +kernel) | 1, _ => exact hgs _ (by decide +kernel) | 2, _ => exact hgs _ (by decide +kernel) | 3, _ => exact hgs _ (by decide +kernel) | 4, _ => exact hgs _ (by decide +kernel) | 5, _ => exact hgs _ (by decide +kernel)) (fun i hi => by match i, hi with | 0, _ => exact hgs _ (by decide +kernel) | 1, _ => exact hgs _ (by decide +kernel) | 2, _ => exact hgs _ (by decide +kernel) | 3, _ => exact hgs _ (by decide +kernel) | 4, _ => exact hgs _ (by decide +kernel) | 5, _ => exact hgs _ (by decide +kernel)) (fun i hi => by match i, hi with | 0, _ => exact hgs _ (by decide +kernel) | 1, _ => exact hgs _ (by decide +kernel) | 2, _ => exact hgs _ (by decide +kernel) | 3, _ => exact hgs _ (by decide +kernel) | 4, _ => exact hgs _ (by decide +kernel) | 5, _ => exact hgs _ (by decide +kernel)) (fun i hi j hj => by match i, hi, j, hj with | 0, _, j, hj => exact (by match j, hj with | 0, _ => exact hgs _ (by decide +kernel) | j + 1, hj => exact absurd hj (by show ¬ j + 1 < 1; omega)) | 1, _, j, hj => exact (by match j, hj with | 0, _ => exact hgs _ (by decide +kernel) | j + 1, hj => exact absurd hj (by show ¬ j + 1 < 1; omega)) | 2, _, j, hj => exact (by match j, hj with | 0, _ => exact hgs _ (by decide +kernel) | 1, _ => exact hgs _ (by decide +kernel) | j + 2, hj => exact absurd hj (by show ¬ j + 2 < 2; omega)) | 3, _, j, hj => exact (by match j, hj with | 0, _ => exact hgs _ (by decide +kernel) | 1, _ => exact hgs _ (by decide +kernel) | 2, _ => exact hgs _ (by decide +kernel) | j + 3, hj => exact absurd hj (by show ¬ j + 3 < 3; omega)) | 4, _, j, hj => exact (by match j, hj with | 0, _ => exact hgs _ (by decide +kernel) | 1, _ => exact hgs _ (by decide +kernel) | 2, _ => exact hgs _ (by decide +kernel) | j + 3, hj => exact absurd hj (by show ¬ j + 3 < 3; omega)) | 5, _, j, hj => exact (by match j, hj with | j + 0, hj => exact absurd hj (by show ¬ j + 0 < 0; omega))) (fun i j hi hj hij => by
    have h6 : ∀ i j : Fin 6, i ≠ j → (Cond.not (Cond.eq (.string "CellKeys$Reader" (zEnt.getD i.val 0)) (.string "CellKeys$Reader" (zEnt.getD j.val 0)))) ∈ flatC (Jvm.Cond.and given_1 narrow_1) ∨ (Cond.not (Cond.eq (.string "CellKeys$Reader" (zEnt.getD j.val 0)) (.string "CellKeys$Reader" (zEnt.getD i.val 0)))) ∈ flatC (Jvm.Cond.and given_1 narrow_1) := by decide +kernel
    rcases h6 ⟨i, hi⟩ ⟨j, hj⟩ (fun e => hij (congrArg Fin.val e)) with h | h
    · exact Or.inl (hgs _ h)
    · exact Or.inr (hgs _ h)) hAout
  refine ⟨((dC, dI), cI, cB, cII, cBB, adK, adV), ⟨hKc, ?_⟩, ⟨hvk, va_Zof (hts _ (List.mem_of_getElem? (i := 504) (by decide +kernel))) (hts _ (List.mem_of_getElem? (i := 82) (by decide +kernel))) (va_eqi (hgs _ (by decide +kernel))) hAout, ?_, ?_⟩, ⟨?_, over_moved (Vm.Alike.refl s.vm) oI', over_moved (Vm.Alike.refl s.vm) oB'⟩⟩
  · intro k q hq
    match k, hq with
    | 0, hq => cases hq; exact ⟨fun n z => ⟨fun k h => (by cases h), kI', gI, cmI, hI⟩, fI⟩
    | 1, hq => cases hq; exact ⟨fun n z => ⟨fun k h => (by cases h), kB, gB, cmB, hB⟩, fB⟩
    | 2, hq => cases hq; exact ⟨fun n z => ⟨fun k h => (by cases h), kII, gII, cp2, hII⟩, fII⟩
    | 3, hq => cases hq; exact ⟨fun n z => ⟨fun k h => (by cases h), kBB, gBB, cp3, hBB⟩, fBB⟩
    | k + 4, hq => simp at hq
  · exact va_Zqof (hts _ (List.mem_of_getElem? (i := 520) (by decide +kernel))) (hts _ (List.mem_of_getElem? (i := 84) (by decide +kernel))) (hgs (.isRef (.static "jdk/internal/util/Preconditions" "SIOOBE_FORMATTER" "Ljava/util/function/BiFunction;")) (by decide +kernel)) hAout
  · intro i hi
    refine vk_R.of (A := #[Value.ref b]) ?_ (hev i hi)
    match i, hi with
    | 0, _ => exact hts _ (List.mem_of_getElem? (i := 481) (by decide +kernel))
    | 1, _ => exact hts _ (List.mem_of_getElem? (i := 482) (by decide +kernel))
    | 2, _ => exact hts _ (List.mem_of_getElem? (i := 483) (by decide +kernel))
    | 3, _ => exact hts _ (List.mem_of_getElem? (i := 484) (by decide +kernel))
    | 4, _ => exact hts _ (List.mem_of_getElem? (i := 485) (by decide +kernel))
    | 5, _ => exact hts _ (List.mem_of_getElem? (i := 486) (by decide +kernel))
  · intro q hq
    rcases List.mem_cons.mp hq with rfl | hq
    · exact va_Nw.of rfl (hts _ (List.mem_of_getElem? (i := 98) (by decide +kernel)))
    rcases List.mem_cons.mp hq with rfl | hq
    · exact va_Nw.of rfl (hts _ (List.mem_of_getElem? (i := 152) (by decide +kernel)))
    rcases List.mem_cons.mp hq with rfl | hq
    · exact va_Nw.of rfl (hts _ (List.mem_of_getElem? (i := 204) (by decide +kernel)))
    rcases List.mem_cons.mp hq with rfl | hq
    · exact va_Nw.of rfl (hts _ (List.mem_of_getElem? (i := 230) (by decide +kernel)))
    rcases List.mem_cons.mp hq with rfl | hq
    · exact va_Nw.of rfl (hts _ (List.mem_of_getElem? (i := 243) (by decide +kernel)))
    rcases List.mem_cons.mp hq with rfl | hq
    · exact va_Nw.of rfl (hts _ (List.mem_of_getElem? (i := 262) (by decide +kernel)))
    rcases List.mem_cons.mp hq with rfl | hq
    · exact va_Nw.of rfl (hts _ (List.mem_of_getElem? (i := 285) (by decide +kernel)))
    rcases List.mem_cons.mp hq with rfl | hq
    · exact va_Nw.of rfl (hts _ (List.mem_of_getElem? (i := 267) (by decide +kernel)))
    rcases List.mem_cons.mp hq with rfl | hq
    · exact va_Nw.of rfl (hts _ (List.mem_of_getElem? (i := 269) (by decide +kernel)))
    rcases List.mem_cons.mp hq with rfl | hq
    · exact va_Nw.of rfl (hts _ (List.mem_of_getElem? (i := 158) (by decide +kernel)))
    exact absurd hq List.not_mem_nil
set_option maxHeartbeats 8000000 in
set_option maxRecDepth 100000 in
theorem whole_start0 (h0 : RR0) {p : Program} {e : Env} {s : State} {m : MethodId} {below : List Frame} {meth : Method} {c : Code} (l : Launch) {b L : Nat} {xs : Nat → Int32} (hL : L ≤ 3072) (C0 : lw_At p s m meth c b L xs) : W p l e room_1 s m #[Value.ref b] below meth c s.heap [] 0 0 (lw_Z below #[Value.ref b] s) (entryFrame m ([Value.ref b] : List Value).toArray 4) := by
  obtain ⟨G, hK, hT, hN⟩ := lw_known C0
  obtain ⟨hx, hb, hr, hml, hown, hts, hX, hbl, hlocks, hgv⟩ := id C0
  have hA : ∀ q : Nat, s.heap.size ≤ q → (fun q : Nat => s.heap.size ≤ q) q := fun _ h => h
  have hbA : ¬ (fun q : Nat => s.heap.size ≤ q) b := Nat.not_le.mpr hbl
  have hS0 : CallFix p m c cL_law 4 s #[Value.ref b] lw_tbl RL := ⟨hx, hb, hml, hown, hts⟩
  have hP : va_P G.1 vwCl [] s.heap := fun k q hq => by simp at hq
  have hD : va_D (fun q : Nat => s.heap.size ≤ q) [] := ⟨fun i j x y hi => by simp at hi, fun k q hq => by simp at hq⟩
  have hS : va_S (fun q : Nat => s.heap.size ≤ q) s.heap s.heap [] := va_S.rf
  rw [lg_entry_eq]
  have hl := lv_entry [Value.ref b] (n := 4) (Nat.le_of_ble_eq_true rfl)
  have hl : lv_has _ 4 [(0, .ref b)] := hl
  refine va_new (ci := 10) (fs := [.null, .null, .null, .null, .null, .null, .null, .null, .null, .null]) (C := RX10) (T := TX10) (N := 10) hx hb hts inW_X10 tyX10 tyX10_ok hown (hts _ (List.mem_of_getElem? (i := 88) (by decide +kernel))) (hts _ (List.mem_of_getElem? (i := 89) (by decide +kernel))) (hts _ (List.mem_of_getElem? (i := 69) (by decide +kernel))) hK hP hD hS hA rfl (fun j hj => zi_df10 (P := fun j => defaultValue (tyX10 j) = vp_V [.null, .null, .null, .null, .null, .null, .null, .null, .null, .null] j) hj rfl rfl rfl rfl rfl rfl rfl rfl rfl rfl) (Nat.le_of_ble_eq_true rfl) (Nat.le_of_ble_eq_true rfl) dL_law_0 (fun o1 H hP hD hS => ?_)
  refine lv_dup hx hb dL_law_3 rfl ?_
  refine zi_call (w := []) (rest := [.ref o1]) hS0 (i_X10 l G) rfl gw_X10_init (hts _ (List.mem_of_getElem? (i := 69) (by decide +kernel))) (hts _ (List.mem_of_getElem? (i := 90) (by decide +kernel))) (hts _ (List.mem_of_getElem? (i := 91) (by decide +kernel))) rfl (by decide +kernel) ⟨Nat.le_of_ble_eq_true rfl, Nat.le_of_ble_eq_true rfl⟩ hK hA hT hN hP hD hS hl.1 (Nat.le_of_ble_eq_true rfl) dL_law_4 ⟨Nat.le_of_ble_eq_true rfl, Nat.le_of_ble_eq_true rfl⟩ (fun q H locs hq hP hD hS => ?_)
  rw [← hq]
  refine lv_astore_n (lv' := [(1, .ref (q (0 + 0))), (0, .ref b)]) hx hb dL_law_7 rfl hl (by decide) rfl (fun ls hl => ?_)
  refine va_new (ci := 11) (fs := [.int 0, .null, .int 0, .long 0, .long 0, .null, .null, .null, .null, .null, .int 0, .null, .null, .int 0, .int 0, .int 0, .null, .null, .int 0, .int 0, .null, .null, .null, .null, .null, .null, .null, .int 0, .null, .null, .long 0]) (C := RX11) (T := TX11) (N := 31) hx hb hts inW_X11 tyX11 tyX11_ok hown (hts _ (List.mem_of_getElem? (i := 1109) (by decide +kernel))) (hts _ (List.mem_of_getElem? (i := 1110) (by decide +kernel))) (hts _ (List.mem_of_getElem? (i := 80) (by decide +kernel))) hK hP hD hS hA rfl (fun j hj => zi_df31 (P := fun j => defaultValue (tyX11 j) = vp_V [.int 0, .null, .int 0, .long 0, .long 0, .null, .null, .null, .null, .null, .int 0, .null, .null, .int 0, .int 0, .int 0, .null, .null, .int 0, .int 0, .null, .null, .null, .null, .null, .null, .null, .int 0, .null, .null, .long 0] j) hj rfl rfl rfl rfl rfl rfl rfl rfl rfl rfl rfl rfl rfl rfl rfl rfl rfl rfl rfl rfl rfl rfl rfl rfl rfl rfl rfl rfl rfl rfl rfl) (Nat.le_of_ble_eq_true rfl) (Nat.le_of_ble_eq_true rfl) dL_law_8 (fun o2 H hP hD hS => ?_)
  refine lv_dup hx hb dL_law_11 rfl ?_
  refine zi_call (w := _) (rest := [.ref o2]) hS0 (i_X11 l G) rfl gw_X11_init (hts _ (List.mem_of_getElem? (i := 80) (by decide +kernel))) (hts _ (List.mem_of_getElem? (i := 1111) (by decide +kernel))) (hts _ (List.mem_of_getElem? (i := 1112) (by decide +kernel))) rfl (by decide +kernel) ⟨Nat.le_of_ble_eq_true rfl, Nat.le_of_ble_eq_true rfl⟩ hK hA hT hN hP hD hS hl.1 (Nat.le_of_ble_eq_true rfl) dL_law_12 ⟨Nat.le_of_ble_eq_true rfl, Nat.le_of_ble_eq_true rfl⟩ (fun q1 H locs hq1 hP hD hS => ?_)
  rw [← hq1]
  refine lv_astore_n (lv' := [(2, .ref (q1 (0 + 0))), (1, .ref (q (0 + 0))), (0, .ref b)]) hx hb dL_law_15 rfl hl (by decide) rfl (fun ls hl => ?_)
  refine lv_iconst (v := 0) hx hb dL_law_16 rfl ?_
  refine lv_istore_n (lv' := [(3, .int 0), (2, .ref (q1 (0 + 0))), (1, .ref (q (0 + 0))), (0, .ref b)]) hx hb dL_law_17 rfl hl (by decide) rfl (fun ls hl => ?_)
  exact lw_loop l hL C0 G hK hT q q1 (L + 1) 0 _ _ h0 (Nat.zero_le _) (by omega) H locs ls ⟨hP, hD, hS⟩ (lv_sub hl [3, 2, 1, 0] rfl)
theorem rr0 : RR0 := rr0_of v_X1_ok
theorem whole_start {p : Program} {e : Env} {s : State} {m : MethodId} {below : List Frame} {meth : Method} {c : Code} (l : Launch) (hflags : l.flags = flags0) {b L : Nat} {xs : Nat → Int32} (hL : L ≤ 3072) (C0 : lw_At p s m meth c b L xs) : W p l e room_1 s m #[Value.ref b] below meth c s.heap [] 0 0 (lw_Z below #[Value.ref b] s) (entryFrame m ([Value.ref b] : List Value).toArray 4) := whole_start0 rr0 l hL C0
