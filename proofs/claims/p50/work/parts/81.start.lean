set_option maxHeartbeats 8000000 in
set_option maxRecDepth 100000 in
/-- what the start's tables give: the classes, the arrays' classes, the texts -/
theorem lw_known {p : Program} {s : State} {m : MethodId} {meth : Method} {c : Code} {b L : Nat} {xs : Nat → Int32} (C0 : lw_At p s m meth c b L xs) : ∃ G : zG, (zb G = b ∧ zX G = (L, xs)) ∧ zK G s ∧ zS G (fun q : Nat => s.heap.size ≤ q) s s.heap ∧ zN s := by
  obtain ⟨hx, hb, hr, hml, hown, hts, hX, hbl, hlocks, hgv⟩ := id C0
  obtain ⟨k0, i0, hKn0⟩ := u_known (C := RX0) (T := TX0) (N := 4) (n := 4) hts inW_X0 (hts (.instantiable RX0 4) (List.mem_of_getElem? (i := 215) (by decide +kernel)))
  obtain ⟨k1, i1, hKn1⟩ := u_known (C := RX1) (T := TX1) (N := 4) (n := 4) hts inW_X1 (hts (.instantiable RX1 4) (List.mem_of_getElem? (i := 160) (by decide +kernel)))
  obtain ⟨k2, i2, hKn2⟩ := u_known (C := RX2) (T := TX2) (N := 8) (n := 8) hts inW_X2 (hts (.instantiable RX2 8) (List.mem_of_getElem? (i := 111) (by decide +kernel)))
  obtain ⟨k3, i3, hKn3⟩ := u_known (C := RX3) (T := TX3) (N := 4) (n := 4) hts inW_X3 (hts (.instantiable RX3 4) (List.mem_of_getElem? (i := 196) (by decide +kernel)))
  obtain ⟨k4, i4, hKn4⟩ := u_known (C := RX4) (T := TX4) (N := 2) (n := 2) hts inW_X4 (hts (.instantiable RX4 2) (List.mem_of_getElem? (i := 183) (by decide +kernel)))
  obtain ⟨k5, i5, hKn5⟩ := u_known (C := RX5) (T := TX5) (N := 5) (n := 5) hts inW_X5 (hts (.instantiable RX5 5) (List.mem_of_getElem? (i := 105) (by decide +kernel)))
  obtain ⟨k6, i6, hKn6⟩ := u_known (C := RX6) (T := TX6) (N := 2) (n := 2) hts inW_X6 (hts (.instantiable RX6 2) (List.mem_of_getElem? (i := 74) (by decide +kernel)))
  obtain ⟨k7, i7, hKn7⟩ := u_known (C := RX7) (T := TX7) (N := 3) (n := 3) hts inW_X7 (hts (.instantiable RX7 3) (List.mem_of_getElem? (i := 238) (by decide +kernel)))
  obtain ⟨k8, i8, hKn8⟩ := u_known (C := RX8) (T := TX8) (N := 2) (n := 2) hts inW_X8 (hts (.instantiable RX8 2) (List.mem_of_getElem? (i := 89) (by decide +kernel)))
  obtain ⟨k9, i9, hKn9⟩ := u_known (C := RX9) (T := TX9) (N := 5) (n := 5) hts inW_X9 (hts (.instantiable RX9 5) (List.mem_of_getElem? (i := 51) (by decide +kernel)))
  obtain ⟨k10, i10, hKn10⟩ := u_known (C := RX10) (T := TX10) (N := 10) (n := 10) hts inW_X10 (hts (.instantiable RX10 10) (List.mem_of_getElem? (i := 43) (by decide +kernel)))
  obtain ⟨dC, dI, hKc⟩ : ∃ (dC : Nat → ClassId) (dI : Nat → Nat → Nat), ∀ (k : Nat) (q : vw_C), vwCl[k]? = some q → u_Kn s q.1 q.2.1 q.2.2 (dC k) (dI k) := by
    refine ⟨fun k => if k = 0 then k0 else if k = 1 then k1 else if k = 2 then k2 else if k = 3 then k3 else if k = 4 then k4 else if k = 5 then k5 else if k = 6 then k6 else if k = 7 then k7 else if k = 8 then k8 else if k = 9 then k9 else k10, fun k => if k = 0 then i0 else if k = 1 then i1 else if k = 2 then i2 else if k = 3 then i3 else if k = 4 then i4 else if k = 5 then i5 else if k = 6 then i6 else if k = 7 then i7 else if k = 8 then i8 else if k = 9 then i9 else i10, ?_⟩
    intro k q hq
    match k, hq with
    | 0, hq => cases hq; exact hKn0
    | 1, hq => cases hq; exact hKn1
    | 2, hq => cases hq; exact hKn2
    | 3, hq => cases hq; exact hKn3
    | 4, hq => cases hq; exact hKn4
    | 5, hq => cases hq; exact hKn5
    | 6, hq => cases hq; exact hKn6
    | 7, hq => cases hq; exact hKn7
    | 8, hq => cases hq; exact hKn8
    | 9, hq => cases hq; exact hKn9
    | 10, hq => cases hq; exact hKn10
    | k + 11, hq => simp [vwCl] at hq
  have aI : (Cond.arrayClass .int).before #[Value.ref b] s = true := hts _ (List.mem_of_getElem? (i := 72) (by decide +kernel))
  have aB : (Cond.arrayClass .byte).before #[Value.ref b] s = true := hts _ (List.mem_of_getElem? (i := 103) (by decide +kernel))
  have oI' : (Cond.arrayOver (.array .int)).before #[Value.ref b] s = true := hts _ (List.mem_of_getElem? (i := 80) (by decide +kernel))
  have oB' : (Cond.arrayOver (.array .byte)).before #[Value.ref b] s = true := hts _ (List.mem_of_getElem? (i := 95) (by decide +kernel))
  obtain ⟨cI, kI', cmI, fI, gI, hI⟩ := Cond.arrayClass_spec aI
  obtain ⟨cB, kB, cmB, fB, gB, hB⟩ := Cond.arrayClass_spec aB
  obtain ⟨cp2, cII, kII, e1, gII, hII, fII⟩ := Cond.arrayOver_specA oI'
  obtain ⟨cp3, cBB, kBB, e3, gBB, hBB, fBB⟩ := Cond.arrayOver_specA oB'
  have hgs := flat_of_before _ hgv
  have hAout : ∀ a : Nat, a < s.heap.size → ¬ (fun q : Nat => s.heap.size ≤ q) a := fun a h => Nat.not_le.mpr h
  obtain ⟨adK, adV, hvk, hev⟩ := vk_Sof (args := #[Value.ref b]) (s := s) (N := 6) (tm := fun i => .string "CellKeys$Reader" (zEnt.getD i 0)) (len := zLen) (byt := zByt) (A := (fun q : Nat => s.heap.size ≤ q)) (by decide) (fun i hi => by match i, hi with | 0, _ => exact hgs _ (by decide +kernel) | 1, _ => exact hgs _ (by decide +kernel) | 2, _ => exact hgs _ (by decide +kernel) | 3, _ => exact hgs _ (by decide +kernel) | 4, _ => exact hgs _ (by decide +kernel) | 5, _ => exact hgs _ (by decide +kernel)) (fun i hi => by match i, hi with | 0, _ => exact hgs _ (by decide +kernel) | 1, _ => exact hgs _ (by decide +kernel) | 2, _ => exact hgs _ (by decide +kernel) | 3, _ => exact hgs _ (by decide +kernel) | 4, _ => exact hgs _ (by decide +kernel) | 5, _ => exact hgs _ (by decide +kernel)) (fun i hi => by match i, hi with | 0, _ => exact hgs _ (by decide +kernel) | 1, _ => exact hgs _ (by decide +kernel) | 2, _ => exact hgs _ (by decide +kernel) | 3, _ => exact hgs _ (by decide +kernel) | 4, _ => exact hgs _ (by decide +kernel) | 5, _ => exact hgs _ (by decide +kernel)) (fun i hi => by match i, hi with | 0, _ => exact hgs _ (by decide +kernel) | 1, _ => exact hgs _ (by decide +kernel) | 2, _ => exact hgs _ (by decide +kernel) | 3, _ => exact hgs _ (by decide +kernel) | 4, _ => exact hgs _ (by decide +kernel) | 5, _ => exact hgs _ (by decide +kernel)) (fun i hi j hj => by match i, hi, j, hj with | 0, _, j, hj => exact (by match j, hj with | 0, _ => exact hgs _ (by decide +kernel) | j + 1, hj => exact absurd hj (by show ¬ j + 1 < 1; omega)) | 1, _, j, hj => exact (by match j, hj with | 0, _ => exact hgs _ (by decide +kernel) | j + 1, hj => exact absurd hj (by show ¬ j + 1 < 1; omega)) | 2, _, j, hj => exact (by match j, hj with | 0, _ => exact hgs _ (by decide +kernel) | 1, _ => exact hgs _ (by decide +kernel) | j + 2, hj => exact absurd hj (by show ¬ j + 2 < 2; omega)) | 3, _, j, hj => exact (by match j, hj with | 0, _ => exact hgs _ (by decide +kernel) | 1, _ => exact hgs _ (by decide +kernel) | 2, _ => exact hgs _ (by decide +kernel) | j + 3, hj => exact absurd hj (by show ¬ j + 3 < 3; omega)) | 4, _, j, hj => exact (by match j, hj with | 0, _ => exact hgs _ (by decide +kernel) | 1, _ => exact hgs _ (by decide +kernel) | 2, _ => exact hgs _ (by decide +kernel) | j + 3, hj => exact absurd hj (by show ¬ j + 3 < 3; omega)) | 5, _, j, hj => exact (by match j, hj with | j + 0, hj => exact absurd hj (by show ¬ j + 0 < 0; omega))) (fun i j hi hj hij => by
    have h6 : ∀ i j : Fin 6, i ≠ j → (Cond.not (Cond.eq (.string "CellKeys$Reader" (zEnt.getD i.val 0)) (.string "CellKeys$Reader" (zEnt.getD j.val 0)))) ∈ flatC (Jvm.Cond.and given_1 narrow_1) ∨ (Cond.not (Cond.eq (.string "CellKeys$Reader" (zEnt.getD j.val 0)) (.string "CellKeys$Reader" (zEnt.getD i.val 0)))) ∈ flatC (Jvm.Cond.and given_1 narrow_1) := by decide +kernel
    rcases h6 ⟨i, hi⟩ ⟨j, hj⟩ (fun e => hij (congrArg Fin.val e)) with h | h
    · exact Or.inl (hgs _ h)
    · exact Or.inr (hgs _ h)) hAout
  refine ⟨((dC, dI), cI, cB, cII, cBB, adK, adV, b, L, xs), ⟨rfl, rfl⟩, ⟨hKc, ?_⟩, ⟨hvk, va_Zof (hts _ (List.mem_of_getElem? (i := 626) (by decide +kernel))) (hts _ (List.mem_of_getElem? (i := 37) (by decide +kernel))) (va_eqi (hgs _ (by decide +kernel))) hAout, ?_, ?_, hbl, Nat.not_le.mpr hbl, hX⟩, ⟨?_, over_moved (Vm.Alike.refl s.vm) oI', over_moved (Vm.Alike.refl s.vm) oB'⟩⟩
  · intro k q hq
    match k, hq with
    | 0, hq => cases hq; exact ⟨fun n z => ⟨fun k h => (by cases h), kI', gI, cmI, hI⟩, fI⟩
    | 1, hq => cases hq; exact ⟨fun n z => ⟨fun k h => (by cases h), kB, gB, cmB, hB⟩, fB⟩
    | 2, hq => cases hq; exact ⟨fun n z => ⟨fun k h => (by cases h), kII, gII, cp2, hII⟩, fII⟩
    | 3, hq => cases hq; exact ⟨fun n z => ⟨fun k h => (by cases h), kBB, gBB, cp3, hBB⟩, fBB⟩
    | k + 4, hq => simp at hq
  · exact va_Zqof (hts _ (List.mem_of_getElem? (i := 642) (by decide +kernel))) (hts _ (List.mem_of_getElem? (i := 39) (by decide +kernel))) (hgs (.isRef (.static "jdk/internal/util/Preconditions" "SIOOBE_FORMATTER" "Ljava/util/function/BiFunction;")) (by decide +kernel)) hAout
  · intro i hi
    refine vk_R.of (A := #[Value.ref b]) ?_ (hev i hi)
    match i, hi with
    | 0, _ => exact hts _ (List.mem_of_getElem? (i := 603) (by decide +kernel))
    | 1, _ => exact hts _ (List.mem_of_getElem? (i := 604) (by decide +kernel))
    | 2, _ => exact hts _ (List.mem_of_getElem? (i := 605) (by decide +kernel))
    | 3, _ => exact hts _ (List.mem_of_getElem? (i := 606) (by decide +kernel))
    | 4, _ => exact hts _ (List.mem_of_getElem? (i := 607) (by decide +kernel))
    | 5, _ => exact hts _ (List.mem_of_getElem? (i := 608) (by decide +kernel))
  · intro q hq
    rcases List.mem_cons.mp hq with rfl | hq
    · exact va_Nw.of rfl (hts _ (List.mem_of_getElem? (i := 52) (by decide +kernel)))
    rcases List.mem_cons.mp hq with rfl | hq
    · exact va_Nw.of rfl (hts _ (List.mem_of_getElem? (i := 106) (by decide +kernel)))
    rcases List.mem_cons.mp hq with rfl | hq
    · exact va_Nw.of rfl (hts _ (List.mem_of_getElem? (i := 158) (by decide +kernel)))
    rcases List.mem_cons.mp hq with rfl | hq
    · exact va_Nw.of rfl (hts _ (List.mem_of_getElem? (i := 184) (by decide +kernel)))
    rcases List.mem_cons.mp hq with rfl | hq
    · exact va_Nw.of rfl (hts _ (List.mem_of_getElem? (i := 197) (by decide +kernel)))
    rcases List.mem_cons.mp hq with rfl | hq
    · exact va_Nw.of rfl (hts _ (List.mem_of_getElem? (i := 216) (by decide +kernel)))
    rcases List.mem_cons.mp hq with rfl | hq
    · exact va_Nw.of rfl (hts _ (List.mem_of_getElem? (i := 239) (by decide +kernel)))
    rcases List.mem_cons.mp hq with rfl | hq
    · exact va_Nw.of rfl (hts _ (List.mem_of_getElem? (i := 221) (by decide +kernel)))
    rcases List.mem_cons.mp hq with rfl | hq
    · exact va_Nw.of rfl (hts _ (List.mem_of_getElem? (i := 223) (by decide +kernel)))
    rcases List.mem_cons.mp hq with rfl | hq
    · exact va_Nw.of rfl (hts _ (List.mem_of_getElem? (i := 112) (by decide +kernel)))
    exact absurd hq List.not_mem_nil
def v0 : VX10 := (((fun _ => 0), 0, 0, 1, 0), ((fun _ _ => 0), (upd (upd (upd (upd (upd (upd (fun _ => 0) 0 (-1)) 1 (-1)) 2 (-1)) 3 (-1)) 4 (-1)) 5 (-1))), ((fun _ _ => 0), (upd (upd (upd (upd (fun _ => 0) 0 (-1)) 1 (-1)) 2 (-1)) 3 (-1))), (((fun _ => 0), (fun _ => 0), (fun _ => 0), (fun _ => 0), (fun _ => 0), 0, 0, 0), (fun _ => 0), 0, 0, 0), ((fun _ => 0), (fun _ => 0), (fun _ => 0), (fun _ => 0), (fun _ => 0), 0, 0, 0), v_X1, ((fun _ => 0), 0), ((fun _ => 0), (fun _ => 0), (fun _ => 0), (fun _ => 0)), (((fun _ => 0), (fun _ => 0), (fun _ => 0), (fun _ => 0), (fun _ => 0), 0, 0, 0), ((fun _ => 0), 0), (fun _ => 0), (fun _ => 0)), ((fun _ => 0), (fun _ => 0), 0))
/-- what is to be shown of the law's functions -/
def LawOK (SX : VSX) : Prop := ∃ (d : VA48) (S1 : VX10), f_L_numbers SX (fun _ => 0) 10 6 = some d ∧ f_L_jail v0 d = some (1, S1) ∧ zIn 0 48 = true ∧ f_L_law_49 SX S1 d (fun _ => 0) (d 0) (((1 : Int32) <<< (d 0 &&& 31)) - 1) = some 1
set_option maxHeartbeats 8000000 in
set_option maxRecDepth 100000 in
theorem whole_start0 {p : Program} {e : Env} {s : State} {m : MethodId} {below : List Frame} {meth : Method} {c : Code} (l : Launch) {b L : Nat} {xs : Nat → Int32} (h0 : LawOK (L, xs)) (C0 : lw_At p s m meth c b L xs) : W p l e room_1 s m #[Value.ref b] below meth c s.heap [] 0 0 (lw_Z below #[Value.ref b] s) (entryFrame m ([Value.ref b] : List Value).toArray 19) := by
  obtain ⟨G, ⟨hGb, hGX⟩, hK, hT, hN⟩ := lw_known C0
  rw [← hGX] at h0
  obtain ⟨d, S1, e1, e2, -, e3⟩ := h0
  subst hGb
  obtain ⟨hx, hb, hr, hml, hown, hts, hX, hbl, hlocks, hgv⟩ := id C0
  have hA : ∀ q : Nat, s.heap.size ≤ q → (fun q : Nat => s.heap.size ≤ q) q := fun _ h => h
  have hS0 : CallFix p m c cL_law 19 s #[Value.ref (zb G)] lw_tbl RL := ⟨hx, hb, hml, hown, hts⟩
  have hP : va_P G.1 vwCl [] s.heap := fun k q hq => by simp at hq
  have hD : va_D (fun q : Nat => s.heap.size ≤ q) [] := ⟨fun i j x y hi => by simp at hi, fun k q hq => by simp at hq⟩
  have hS : va_S (fun q : Nat => s.heap.size ≤ q) s.heap s.heap [] := va_S.rf
  rw [lg_entry_eq]
  have hl := lv_entry [Value.ref (zb G)] (n := 19) (Nat.le_of_ble_eq_true rfl)
  have hl : lv_has _ 19 [(0, .ref (zb G))] := hl
  refine va_new (ci := 10) (fs := [.null, .null, .null, .null, .null, .null, .null, .null, .null, .null]) (C := RX10) (T := TX10) (N := 10) hx hb hts inW_X10 tyX10 tyX10_ok hown (hts _ (List.mem_of_getElem? (i := 42) (by decide +kernel))) (hts _ (List.mem_of_getElem? (i := 43) (by decide +kernel))) (hts _ (List.mem_of_getElem? (i := 26) (by decide +kernel))) hK hP hD hS hA rfl (fun j hj => zi_df10 (P := fun j => defaultValue (tyX10 j) = vp_V [.null, .null, .null, .null, .null, .null, .null, .null, .null, .null] j) hj rfl rfl rfl rfl rfl rfl rfl rfl rfl rfl) (Nat.le_of_ble_eq_true rfl) (Nat.le_of_ble_eq_true rfl) dL_law_0 (fun o1 H hP hD hS => ?_)
  refine lv_dup hx hb dL_law_3 rfl ?_
  refine zi_call (w := []) (rest := [.ref o1]) hS0 (i_X10 l G) rfl gw_X10_init (hts _ (List.mem_of_getElem? (i := 26) (by decide +kernel))) (hts _ (List.mem_of_getElem? (i := 44) (by decide +kernel))) (hts _ (List.mem_of_getElem? (i := 45) (by decide +kernel))) rfl (by decide +kernel) ⟨Nat.le_of_ble_eq_true rfl, Nat.le_of_ble_eq_true rfl⟩ hK hA hT hN hP hD hS hl.1 (Nat.le_of_ble_eq_true rfl) dL_law_4 ⟨Nat.le_of_ble_eq_true rfl, Nat.le_of_ble_eq_true rfl⟩ (fun q H locs hq hP hD hS => ?_)
  rw [← hq]
  refine lv_astore_n (lv' := [(1, .ref (q (0 + 0))), (0, .ref (zb G))]) hx hb dL_law_7 rfl hl (by decide) rfl (fun ls hl => ?_)
  have hP : va_P G.1 vwCl [bX10 G q 0, bX9 G q (0 + 1) v0.1.1 v0.1.2.1 v0.1.2.2.1 v0.1.2.2.2.1 v0.1.2.2.2.2, bX6 G q (0 + 3) v0.2.1.1 v0.2.1.2, bX8 G q (0 + 12) v0.2.2.1.1 v0.2.2.1.2, bX5 G q (0 + 19) v0.2.2.2.1.2.1 v0.2.2.2.1.2.2.1 v0.2.2.2.1.2.2.2.1 v0.2.2.2.1.2.2.2.2, bX2 G q ((0 + 19) + 2) v0.2.2.2.1.1.1 v0.2.2.2.1.1.2.1 v0.2.2.2.1.1.2.2.1 v0.2.2.2.1.1.2.2.2.1 v0.2.2.2.1.1.2.2.2.2.1 v0.2.2.2.1.1.2.2.2.2.2.1 v0.2.2.2.1.1.2.2.2.2.2.2.1 v0.2.2.2.1.1.2.2.2.2.2.2.2, bX2 G q (0 + 27) v0.2.2.2.2.1.1 v0.2.2.2.2.1.2.1 v0.2.2.2.2.1.2.2.1 v0.2.2.2.2.1.2.2.2.1 v0.2.2.2.2.1.2.2.2.2.1 v0.2.2.2.2.1.2.2.2.2.2.1 v0.2.2.2.2.1.2.2.2.2.2.2.1 v0.2.2.2.2.1.2.2.2.2.2.2.2, bX1 G q (0 + 33) v0.2.2.2.2.2.1.1 v0.2.2.2.2.2.1.2.1 v0.2.2.2.2.2.1.2.2.1 v0.2.2.2.2.2.1.2.2.2, bX4 G q (0 + 36) v0.2.2.2.2.2.2.1.1 v0.2.2.2.2.2.2.1.2, bX3 G q (0 + 38) v0.2.2.2.2.2.2.2.1.1 v0.2.2.2.2.2.2.2.1.2.1 v0.2.2.2.2.2.2.2.1.2.2.1 v0.2.2.2.2.2.2.2.1.2.2.2, bX0 G q (0 + 43) v0.2.2.2.2.2.2.2.2.1.2.2.1 v0.2.2.2.2.2.2.2.2.1.2.2.2, bX2 G q ((0 + 43) + 3) v0.2.2.2.2.2.2.2.2.1.1.1 v0.2.2.2.2.2.2.2.2.1.1.2.1 v0.2.2.2.2.2.2.2.2.1.1.2.2.1 v0.2.2.2.2.2.2.2.2.1.1.2.2.2.1 v0.2.2.2.2.2.2.2.2.1.1.2.2.2.2.1 v0.2.2.2.2.2.2.2.2.1.1.2.2.2.2.2.1 v0.2.2.2.2.2.2.2.2.1.1.2.2.2.2.2.2.1 v0.2.2.2.2.2.2.2.2.1.1.2.2.2.2.2.2.2, bX4 G q ((0 + 43) + 9) v0.2.2.2.2.2.2.2.2.1.2.1.1 v0.2.2.2.2.2.2.2.2.1.2.1.2, bX7 G q (0 + 54) v0.2.2.2.2.2.2.2.2.2.1 v0.2.2.2.2.2.2.2.2.2.2.1 v0.2.2.2.2.2.2.2.2.2.2.2].flatten H := hP
  have hD : va_D (fun q : Nat => s.heap.size ≤ q) [bX10 G q 0, bX9 G q (0 + 1) v0.1.1 v0.1.2.1 v0.1.2.2.1 v0.1.2.2.2.1 v0.1.2.2.2.2, bX6 G q (0 + 3) v0.2.1.1 v0.2.1.2, bX8 G q (0 + 12) v0.2.2.1.1 v0.2.2.1.2, bX5 G q (0 + 19) v0.2.2.2.1.2.1 v0.2.2.2.1.2.2.1 v0.2.2.2.1.2.2.2.1 v0.2.2.2.1.2.2.2.2, bX2 G q ((0 + 19) + 2) v0.2.2.2.1.1.1 v0.2.2.2.1.1.2.1 v0.2.2.2.1.1.2.2.1 v0.2.2.2.1.1.2.2.2.1 v0.2.2.2.1.1.2.2.2.2.1 v0.2.2.2.1.1.2.2.2.2.2.1 v0.2.2.2.1.1.2.2.2.2.2.2.1 v0.2.2.2.1.1.2.2.2.2.2.2.2, bX2 G q (0 + 27) v0.2.2.2.2.1.1 v0.2.2.2.2.1.2.1 v0.2.2.2.2.1.2.2.1 v0.2.2.2.2.1.2.2.2.1 v0.2.2.2.2.1.2.2.2.2.1 v0.2.2.2.2.1.2.2.2.2.2.1 v0.2.2.2.2.1.2.2.2.2.2.2.1 v0.2.2.2.2.1.2.2.2.2.2.2.2, bX1 G q (0 + 33) v0.2.2.2.2.2.1.1 v0.2.2.2.2.2.1.2.1 v0.2.2.2.2.2.1.2.2.1 v0.2.2.2.2.2.1.2.2.2, bX4 G q (0 + 36) v0.2.2.2.2.2.2.1.1 v0.2.2.2.2.2.2.1.2, bX3 G q (0 + 38) v0.2.2.2.2.2.2.2.1.1 v0.2.2.2.2.2.2.2.1.2.1 v0.2.2.2.2.2.2.2.1.2.2.1 v0.2.2.2.2.2.2.2.1.2.2.2, bX0 G q (0 + 43) v0.2.2.2.2.2.2.2.2.1.2.2.1 v0.2.2.2.2.2.2.2.2.1.2.2.2, bX2 G q ((0 + 43) + 3) v0.2.2.2.2.2.2.2.2.1.1.1 v0.2.2.2.2.2.2.2.2.1.1.2.1 v0.2.2.2.2.2.2.2.2.1.1.2.2.1 v0.2.2.2.2.2.2.2.2.1.1.2.2.2.1 v0.2.2.2.2.2.2.2.2.1.1.2.2.2.2.1 v0.2.2.2.2.2.2.2.2.1.1.2.2.2.2.2.1 v0.2.2.2.2.2.2.2.2.1.1.2.2.2.2.2.2.1 v0.2.2.2.2.2.2.2.2.1.1.2.2.2.2.2.2.2, bX4 G q ((0 + 43) + 9) v0.2.2.2.2.2.2.2.2.1.2.1.1 v0.2.2.2.2.2.2.2.2.1.2.1.2, bX7 G q (0 + 54) v0.2.2.2.2.2.2.2.2.2.1 v0.2.2.2.2.2.2.2.2.2.2.1 v0.2.2.2.2.2.2.2.2.2.2.2].flatten := hD
  refine lv_bipush (v := 48) hx hb dL_law_8 rfl ?_
  refine zi_newI (n := 48) (N := 48) hS0 (hts _ (List.mem_of_getElem? (i := 72) (by decide +kernel))) hK hP hD hS hA (by decide) rfl (by decide) (Nat.le_of_ble_eq_true rfl) (Nat.le_of_ble_eq_true rfl) dL_law_10 (fun a1 H hP hD hS => ?_)
  have hw : zH G (fun q : Nat => s.heap.size ≤ q) s.heap [bX10 G q 0, bX9 G q (0 + 1) v0.1.1 v0.1.2.1 v0.1.2.2.1 v0.1.2.2.2.1 v0.1.2.2.2.2, bX6 G q (0 + 3) v0.2.1.1 v0.2.1.2, bX8 G q (0 + 12) v0.2.2.1.1 v0.2.2.1.2, bX5 G q (0 + 19) v0.2.2.2.1.2.1 v0.2.2.2.1.2.2.1 v0.2.2.2.1.2.2.2.1 v0.2.2.2.1.2.2.2.2, bX2 G q ((0 + 19) + 2) v0.2.2.2.1.1.1 v0.2.2.2.1.1.2.1 v0.2.2.2.1.1.2.2.1 v0.2.2.2.1.1.2.2.2.1 v0.2.2.2.1.1.2.2.2.2.1 v0.2.2.2.1.1.2.2.2.2.2.1 v0.2.2.2.1.1.2.2.2.2.2.2.1 v0.2.2.2.1.1.2.2.2.2.2.2.2, bX2 G q (0 + 27) v0.2.2.2.2.1.1 v0.2.2.2.2.1.2.1 v0.2.2.2.2.1.2.2.1 v0.2.2.2.2.1.2.2.2.1 v0.2.2.2.2.1.2.2.2.2.1 v0.2.2.2.2.1.2.2.2.2.2.1 v0.2.2.2.2.1.2.2.2.2.2.2.1 v0.2.2.2.2.1.2.2.2.2.2.2.2, bX1 G q (0 + 33) v0.2.2.2.2.2.1.1 v0.2.2.2.2.2.1.2.1 v0.2.2.2.2.2.1.2.2.1 v0.2.2.2.2.2.1.2.2.2, bX4 G q (0 + 36) v0.2.2.2.2.2.2.1.1 v0.2.2.2.2.2.2.1.2, bX3 G q (0 + 38) v0.2.2.2.2.2.2.2.1.1 v0.2.2.2.2.2.2.2.1.2.1 v0.2.2.2.2.2.2.2.1.2.2.1 v0.2.2.2.2.2.2.2.1.2.2.2, bX0 G q (0 + 43) v0.2.2.2.2.2.2.2.2.1.2.2.1 v0.2.2.2.2.2.2.2.2.1.2.2.2, bX2 G q ((0 + 43) + 3) v0.2.2.2.2.2.2.2.2.1.1.1 v0.2.2.2.2.2.2.2.2.1.1.2.1 v0.2.2.2.2.2.2.2.2.1.1.2.2.1 v0.2.2.2.2.2.2.2.2.1.1.2.2.2.1 v0.2.2.2.2.2.2.2.2.1.1.2.2.2.2.1 v0.2.2.2.2.2.2.2.2.1.1.2.2.2.2.2.1 v0.2.2.2.2.2.2.2.2.1.1.2.2.2.2.2.2.1 v0.2.2.2.2.2.2.2.2.1.1.2.2.2.2.2.2.2, bX4 G q ((0 + 43) + 9) v0.2.2.2.2.2.2.2.2.1.2.1.1 v0.2.2.2.2.2.2.2.2.1.2.1.2, bX7 G q (0 + 54) v0.2.2.2.2.2.2.2.2.2.1 v0.2.2.2.2.2.2.2.2.2.2.1 v0.2.2.2.2.2.2.2.2.2.2.2, bA48 G (fun _ => a1) 0 (fun _ => 0)] H locs := zH_push hP hD hS
  refine lv_astore_n (lv' := [(2, .ref a1), (1, .ref (q (0 + 0))), (0, .ref (zb G))]) hx hb dL_law_12 rfl hl (by decide) rfl (fun ls hl => ?_)
  refine lv_aload_n hx hb dL_law_13 rfl (lv_at hl 2 rfl) ?_
  refine lv_bipush (v := 10) hx hb dL_law_14 rfl ?_
  refine lv_bipush (v := 6) hx hb dL_law_16 rfl ?_
  refine lv_aload_n hx hb dL_law_18 rfl (lv_at hl 0 rfl) ?_
  refine zq_callS0 (As := [.ref (zb G), .int 10, .int 6, .ref a1]) (rest := []) (bs' := [bX10 G q 0, bX9 G q (0 + 1) v0.1.1 v0.1.2.1 v0.1.2.2.1 v0.1.2.2.2.1 v0.1.2.2.2.2, bX6 G q (0 + 3) v0.2.1.1 v0.2.1.2, bX8 G q (0 + 12) v0.2.2.1.1 v0.2.2.1.2, bX5 G q (0 + 19) v0.2.2.2.1.2.1 v0.2.2.2.1.2.2.1 v0.2.2.2.1.2.2.2.1 v0.2.2.2.1.2.2.2.2, bX2 G q ((0 + 19) + 2) v0.2.2.2.1.1.1 v0.2.2.2.1.1.2.1 v0.2.2.2.1.1.2.2.1 v0.2.2.2.1.1.2.2.2.1 v0.2.2.2.1.1.2.2.2.2.1 v0.2.2.2.1.1.2.2.2.2.2.1 v0.2.2.2.1.1.2.2.2.2.2.2.1 v0.2.2.2.1.1.2.2.2.2.2.2.2, bX2 G q (0 + 27) v0.2.2.2.2.1.1 v0.2.2.2.2.1.2.1 v0.2.2.2.2.1.2.2.1 v0.2.2.2.2.1.2.2.2.1 v0.2.2.2.2.1.2.2.2.2.1 v0.2.2.2.2.1.2.2.2.2.2.1 v0.2.2.2.2.1.2.2.2.2.2.2.1 v0.2.2.2.2.1.2.2.2.2.2.2.2, bX1 G q (0 + 33) v0.2.2.2.2.2.1.1 v0.2.2.2.2.2.1.2.1 v0.2.2.2.2.2.1.2.2.1 v0.2.2.2.2.2.1.2.2.2, bX4 G q (0 + 36) v0.2.2.2.2.2.2.1.1 v0.2.2.2.2.2.2.1.2, bX3 G q (0 + 38) v0.2.2.2.2.2.2.2.1.1 v0.2.2.2.2.2.2.2.1.2.1 v0.2.2.2.2.2.2.2.1.2.2.1 v0.2.2.2.2.2.2.2.1.2.2.2, bX0 G q (0 + 43) v0.2.2.2.2.2.2.2.2.1.2.2.1 v0.2.2.2.2.2.2.2.2.1.2.2.2, bX2 G q ((0 + 43) + 3) v0.2.2.2.2.2.2.2.2.1.1.1 v0.2.2.2.2.2.2.2.2.1.1.2.1 v0.2.2.2.2.2.2.2.2.1.1.2.2.1 v0.2.2.2.2.2.2.2.2.1.1.2.2.2.1 v0.2.2.2.2.2.2.2.2.1.1.2.2.2.2.1 v0.2.2.2.2.2.2.2.2.1.1.2.2.2.2.2.1 v0.2.2.2.2.2.2.2.2.1.1.2.2.2.2.2.2.1 v0.2.2.2.2.2.2.2.2.1.1.2.2.2.2.2.2.2, bX4 G q ((0 + 43) + 9) v0.2.2.2.2.2.2.2.2.1.2.1.1 v0.2.2.2.2.2.2.2.2.1.2.1.2, bX7 G q (0 + 54) v0.2.2.2.2.2.2.2.2.2.1 v0.2.2.2.2.2.2.2.2.2.2.1 v0.2.2.2.2.2.2.2.2.2.2.2, bA48 G (fun _ => a1) 0 d]) hS0 (c_L_numbers l G (fun _ => a1) 0 (fun _ => 0) 10 6 d e1) zc_L_numbers gw_L_numbers ⟨Nat.le_of_ble_eq_true rfl, Nat.le_of_ble_eq_true rfl⟩ ⟨Nat.le_of_ble_eq_true rfl, Nat.le_of_ble_eq_true rfl⟩ hK hA hT hw (is := [14]) rfl rfl rfl rfl rfl hl.1 rfl (Nat.le_of_ble_eq_true rfl) dL_law_19 (fun H locs hw => ?_)
  refine lv_aload_n hx hb dL_law_22 rfl (lv_at hl 1 rfl) ?_
  refine lv_aload_n hx hb dL_law_23 rfl (lv_at hl 0 rfl) ?_
  refine zq_callS1 (As := [.ref (q (0 + 0)), .ref a1]) (rest := []) (bs' := [bX10 G q 0, bX9 G q (0 + 1) S1.1.1 S1.1.2.1 S1.1.2.2.1 S1.1.2.2.2.1 S1.1.2.2.2.2, bX6 G q (0 + 3) S1.2.1.1 S1.2.1.2, bX8 G q (0 + 12) S1.2.2.1.1 S1.2.2.1.2, bX5 G q (0 + 19) S1.2.2.2.1.2.1 S1.2.2.2.1.2.2.1 S1.2.2.2.1.2.2.2.1 S1.2.2.2.1.2.2.2.2, bX2 G q ((0 + 19) + 2) S1.2.2.2.1.1.1 S1.2.2.2.1.1.2.1 S1.2.2.2.1.1.2.2.1 S1.2.2.2.1.1.2.2.2.1 S1.2.2.2.1.1.2.2.2.2.1 S1.2.2.2.1.1.2.2.2.2.2.1 S1.2.2.2.1.1.2.2.2.2.2.2.1 S1.2.2.2.1.1.2.2.2.2.2.2.2, bX2 G q (0 + 27) S1.2.2.2.2.1.1 S1.2.2.2.2.1.2.1 S1.2.2.2.2.1.2.2.1 S1.2.2.2.2.1.2.2.2.1 S1.2.2.2.2.1.2.2.2.2.1 S1.2.2.2.2.1.2.2.2.2.2.1 S1.2.2.2.2.1.2.2.2.2.2.2.1 S1.2.2.2.2.1.2.2.2.2.2.2.2, bX1 G q (0 + 33) S1.2.2.2.2.2.1.1 S1.2.2.2.2.2.1.2.1 S1.2.2.2.2.2.1.2.2.1 S1.2.2.2.2.2.1.2.2.2, bX4 G q (0 + 36) S1.2.2.2.2.2.2.1.1 S1.2.2.2.2.2.2.1.2, bX3 G q (0 + 38) S1.2.2.2.2.2.2.2.1.1 S1.2.2.2.2.2.2.2.1.2.1 S1.2.2.2.2.2.2.2.1.2.2.1 S1.2.2.2.2.2.2.2.1.2.2.2, bX0 G q (0 + 43) S1.2.2.2.2.2.2.2.2.1.2.2.1 S1.2.2.2.2.2.2.2.2.1.2.2.2, bX2 G q ((0 + 43) + 3) S1.2.2.2.2.2.2.2.2.1.1.1 S1.2.2.2.2.2.2.2.2.1.1.2.1 S1.2.2.2.2.2.2.2.2.1.1.2.2.1 S1.2.2.2.2.2.2.2.2.1.1.2.2.2.1 S1.2.2.2.2.2.2.2.2.1.1.2.2.2.2.1 S1.2.2.2.2.2.2.2.2.1.1.2.2.2.2.2.1 S1.2.2.2.2.2.2.2.2.1.1.2.2.2.2.2.2.1 S1.2.2.2.2.2.2.2.2.1.1.2.2.2.2.2.2.2, bX4 G q ((0 + 43) + 9) S1.2.2.2.2.2.2.2.2.1.2.1.1 S1.2.2.2.2.2.2.2.2.1.2.1.2, bX7 G q (0 + 54) S1.2.2.2.2.2.2.2.2.2.1 S1.2.2.2.2.2.2.2.2.2.2.1 S1.2.2.2.2.2.2.2.2.2.2.2, bA48 G (fun _ => a1) 0 d]) hS0 (c_L_jail l G q 0 (fun _ => a1) 0 v0 d (1, S1) e2) zc_L_jail gw_L_jail ⟨Nat.le_of_ble_eq_true rfl, Nat.le_of_ble_eq_true rfl⟩ ⟨Nat.le_of_ble_eq_true rfl, Nat.le_of_ble_eq_true rfl⟩ hK hA hT hw (is := [0, 1, 2, 3, 4, 5, 6, 7, 8, 9, 10, 11, 12, 13, 14]) rfl rfl rfl rfl rfl hl.1 rfl (Nat.le_of_ble_eq_true rfl) dL_law_24 (fun H locs hw => ?_)
  refine lv_if_ne (tgt := 32) hx hb dL_law_27 rfl (fun hc => ?_) (fun hc => absurd hc i10)
  refine lv_aload_n hx hb dL_law_32 rfl (lv_at hl 0 rfl) ?_
  refine lv_iconst (v := 0) hx hb dL_law_33 rfl ?_
  refine z_iald hS0 hK hw 14 0 (zIn_vp (n := 48) (by decide)) rfl rfl dL_law_34 ?_
  refine lv_istore_n (lv' := [(3, .int (d 0)), (2, .ref a1), (1, .ref (q (0 + 0))), (0, .ref (zb G))]) hx hb dL_law_35 rfl hl (by decide) rfl (fun ls hl => ?_)
  refine lv_iconst (v := 1) hx hb dL_law_36 rfl ?_
  refine lv_iload_n hx hb dL_law_37 rfl (lv_at hl 0 rfl) ?_
  refine lv_ishl hx hb dL_law_38 ?_
  refine lv_iconst (v := 1) hx hb dL_law_39 rfl ?_
  refine lv_isub hx hb dL_law_40 ?_
  refine lv_istore (lv' := [(4, .int (((1 : Int32) <<< (d 0 &&& 31)) - 1)), (3, .int (d 0)), (2, .ref a1), (1, .ref (q (0 + 0))), (0, .ref (zb G))]) hx hb dL_law_41 hl (by decide) rfl (fun ls hl => ?_)
  refine lv_bipush (v := 64) hx hb dL_law_43 rfl ?_
  refine zi_newI (n := 64) (N := 64) hS0 (hts _ (List.mem_of_getElem? (i := 72) (by decide +kernel))) hK hw.1 hw.2.1 hw.2.2 hA (by decide) rfl (by decide) (Nat.le_of_ble_eq_true rfl) (Nat.le_of_ble_eq_true rfl) dL_law_45 (fun a2 H hP hD hS => ?_)
  have hw : zH G (fun q : Nat => s.heap.size ≤ q) s.heap [bX10 G q 0, bX9 G q (0 + 1) S1.1.1 S1.1.2.1 S1.1.2.2.1 S1.1.2.2.2.1 S1.1.2.2.2.2, bX6 G q (0 + 3) S1.2.1.1 S1.2.1.2, bX8 G q (0 + 12) S1.2.2.1.1 S1.2.2.1.2, bX5 G q (0 + 19) S1.2.2.2.1.2.1 S1.2.2.2.1.2.2.1 S1.2.2.2.1.2.2.2.1 S1.2.2.2.1.2.2.2.2, bX2 G q ((0 + 19) + 2) S1.2.2.2.1.1.1 S1.2.2.2.1.1.2.1 S1.2.2.2.1.1.2.2.1 S1.2.2.2.1.1.2.2.2.1 S1.2.2.2.1.1.2.2.2.2.1 S1.2.2.2.1.1.2.2.2.2.2.1 S1.2.2.2.1.1.2.2.2.2.2.2.1 S1.2.2.2.1.1.2.2.2.2.2.2.2, bX2 G q (0 + 27) S1.2.2.2.2.1.1 S1.2.2.2.2.1.2.1 S1.2.2.2.2.1.2.2.1 S1.2.2.2.2.1.2.2.2.1 S1.2.2.2.2.1.2.2.2.2.1 S1.2.2.2.2.1.2.2.2.2.2.1 S1.2.2.2.2.1.2.2.2.2.2.2.1 S1.2.2.2.2.1.2.2.2.2.2.2.2, bX1 G q (0 + 33) S1.2.2.2.2.2.1.1 S1.2.2.2.2.2.1.2.1 S1.2.2.2.2.2.1.2.2.1 S1.2.2.2.2.2.1.2.2.2, bX4 G q (0 + 36) S1.2.2.2.2.2.2.1.1 S1.2.2.2.2.2.2.1.2, bX3 G q (0 + 38) S1.2.2.2.2.2.2.2.1.1 S1.2.2.2.2.2.2.2.1.2.1 S1.2.2.2.2.2.2.2.1.2.2.1 S1.2.2.2.2.2.2.2.1.2.2.2, bX0 G q (0 + 43) S1.2.2.2.2.2.2.2.2.1.2.2.1 S1.2.2.2.2.2.2.2.2.1.2.2.2, bX2 G q ((0 + 43) + 3) S1.2.2.2.2.2.2.2.2.1.1.1 S1.2.2.2.2.2.2.2.2.1.1.2.1 S1.2.2.2.2.2.2.2.2.1.1.2.2.1 S1.2.2.2.2.2.2.2.2.1.1.2.2.2.1 S1.2.2.2.2.2.2.2.2.1.1.2.2.2.2.1 S1.2.2.2.2.2.2.2.2.1.1.2.2.2.2.2.1 S1.2.2.2.2.2.2.2.2.1.1.2.2.2.2.2.2.1 S1.2.2.2.2.2.2.2.2.1.1.2.2.2.2.2.2.2, bX4 G q ((0 + 43) + 9) S1.2.2.2.2.2.2.2.2.1.2.1.1 S1.2.2.2.2.2.2.2.2.1.2.1.2, bX7 G q (0 + 54) S1.2.2.2.2.2.2.2.2.2.1 S1.2.2.2.2.2.2.2.2.2.2.1 S1.2.2.2.2.2.2.2.2.2.2.2, bA48 G (fun _ => a1) 0 d, bA64 G (fun _ => a2) 0 (fun _ => 0)] H locs := zH_push hP hD hS
  refine lv_astore (lv' := [(5, .ref a2), (4, .int (((1 : Int32) <<< (d 0 &&& 31)) - 1)), (3, .int (d 0)), (2, .ref a1), (1, .ref (q (0 + 0))), (0, .ref (zb G))]) hx hb dL_law_47 hl (by decide) rfl (fun ls hl => ?_)
  have hE : lw_E p l e s m #[Value.ref (zb G)] below meth c (fun q : Nat => s.heap.size ≤ q) G (lw_Z below #[Value.ref (zb G)] s) := by
    intro bs v H locs ls pc hv hw hdg
    subst hv
    refine va_forget (fun q hq => hw.2.2.2.2 q hq) ?_
    refine W.widen (k := 600000) (n := 7302250) (by decide) (by decide) ?_
    exact lw_ret hx hb hr hlocks hdg
  exact k_L_law_49 (q1 := q) (o1 := 0) (q2 := fun _ => a1) (o2 := 0) (q3 := fun _ => a2) (o3 := 0) ⟨⟨hS0, hr, hlocks, hK, hA, hT⟩, hE⟩ S1 d (fun _ => 0) (d 0) (((1 : Int32) <<< (d 0 &&& 31)) - 1) H locs ls e3 hw (lv_sub hl [5, 4, 3, 2, 1, 0] rfl)
