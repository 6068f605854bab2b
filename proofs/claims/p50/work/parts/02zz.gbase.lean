/-! CALLS where cells have been made before, and of a method that makes some -/
section ZQ
variable {p : Program} {l : Launch} {e : Env} {R : Room} {s : State} {m : MethodId} {args : Array Value} {below : List Frame} {meth : Method} {c : Code} {H : Heap} {locs : List Loc} {cells slots : Nat} {Q : State → Prop} {cc : ByteArray} {pc : Nat} {ls : Array Slot} {st0 rest : List Value} {A : Nat → Prop} {G : zG} {bs bs' cbs cbs' : List va_W}
/-! calls with cells made before -/
theorem zq_after {a : Array Value} {rv : Option Value} {is : List Nat} (hr : va_Run p l e R s m args below meth c H locs cells slots 0 0 (F0 m pc ls st0) rest (zQ rv (zPost G cbs') (va_A cbs.flatten H.size) a) (va_A cbs.flatten H.size)) (hA : ∀ q : Nat, s.heap.size ≤ q → A q) (hw : zH G A s.heap bs H locs)
    (hC : is.map (fun i => bs[i]?) = cbs.map some) (hn : va_nd is = true) (had : cbs'.map (List.map Prod.fst) = cbs.map (List.map Prod.fst)) (hb : zput bs is cbs' = bs')
    (kk : ∀ (H1 : Heap) (locs1 : List Loc), zH G A s.heap bs' H1 locs1 → W p l e R s m args below meth c H1 locs1 cells slots Q (F0 m (pc + 3) ls (rv.toList ++ rest))) : W p l e R s m args below meth c H locs cells slots Q (F0 m pc ls st0) := by
  have hF : ∀ q, va_A cbs.flatten H.size q → A q := by
    rintro q (⟨k, x, h⟩ | h)
    · exact (z_sub hw hC hn).2.2 k (q, x) h
    · exact hA q (Nat.le_trans hw.2.2.1 h)
  intro T hT X
  obtain ⟨v, st₀, t, T', L, h0, X', hL, e1, e2, ⟨hv, hB, hz, hk⟩, st⟩ := hr T hT X
  cases hv
  rw [h0] at hz hk
  have hS := hw.2.2
  obtain ⟨t2, a1, b1⟩ := kk T'.heap (locs ++ L) (z_back hw hC had hb (by rw [e1]; exact hB) (fun q h1 h2 => by rw [e1]; exact hk q h1 h2)
    ⟨Nat.le_trans hS.1 (by rw [e1]; exact hz), fun q h1 h2 => by rw [e1, hk q (Nat.lt_of_lt_of_le h1 hS.1) (fun z => h2 (hF q z))]; exact hS.2.1 q h1 h2, fun q hq => by
      rcases List.mem_append.mp hq with h | h
      · exact hS.2.2 q h
      · exact hF _ (hL q h)⟩) T' rfl X'
  exact ⟨t2, st t2 a1, b1⟩
theorem zq_afterN {a : Array Value} {mc ms : Nat} {rv : Option Value} {is : List Nat} (hr : va_Run p l e R s m args below meth c H locs cells slots mc ms (F0 m pc ls st0) rest (zQ rv (zPost G cbs') (va_A cbs.flatten H.size) a) (va_A cbs.flatten H.size)) (hA : ∀ q : Nat, s.heap.size ≤ q → A q) (hw : zH G A s.heap bs H locs)
    (hC : is.map (fun i => bs[i]?) = cbs.map some) (hn : va_nd is = true) (had : cbs'.map (List.map Prod.fst) = cbs.map (List.map Prod.fst)) (hb : zput bs is cbs' = bs')
    (kk : ∀ (H1 : Heap) (locs1 : List Loc), zH G A s.heap bs' H1 locs1 → W p l e R s m args below meth c H1 locs1 (cells + mc) (slots + ms) Q (F0 m (pc + 3) ls (rv.toList ++ rest))) : W p l e R s m args below meth c H locs cells slots Q (F0 m pc ls st0) := by
  have hF : ∀ q, va_A cbs.flatten H.size q → A q := by
    rintro q (⟨k, x, h⟩ | h)
    · exact (z_sub hw hC hn).2.2 k (q, x) h
    · exact hA q (Nat.le_trans hw.2.2.1 h)
  intro T hT X
  obtain ⟨v, st₀, t, T', L, h0, X', hL, e1, e2, ⟨hv, hB, hz, hk⟩, st⟩ := hr T hT X
  cases hv
  rw [h0] at hz hk
  have hS := hw.2.2
  obtain ⟨t2, a1, b1⟩ := kk T'.heap (locs ++ L) (z_back hw hC had hb (by rw [e1]; exact hB) (fun q h1 h2 => by rw [e1]; exact hk q h1 h2)
    ⟨Nat.le_trans hS.1 (by rw [e1]; exact hz), fun q h1 h2 => by rw [e1, hk q (Nat.lt_of_lt_of_le h1 hS.1) (fun z => h2 (hF q z))]; exact hS.2.1 q h1 h2, fun q hq => by
      rcases List.mem_append.mp hq with h | h
      · exact hS.2.2 q h
      · exact hF _ (hL q h)⟩) T' rfl X'
  exact ⟨t2, st t2 a1, b1⟩
theorem zq_callV {nL : Nat} {own : String} {Ts : List Cond} (S : CallFix p m c cc nL s args Ts own) {y : MethodName} {ws : List Cond} {bytes : ByteArray} {maxL n index ci fr lc : Nat} {ret : Option FieldType} {C : String} {T : u_T} {N b : Nat} {fs : List Value} {As : List Value} {rv : Option Value} {is : List Nat}
    (hM : zMet l y ws fr lc G (.ref b :: As) cbs rv cbs') (hc : zC y ws bytes maxL ret n) (hyC : y.cls = C) (hG : GoodIn Ts (wsV own index C y ws)) (hR : fr + 1 ≤ R.frames ∧ 8 + (maxL + 11) + lc ≤ R.locals) (hf : cells ≤ R.cells ∧ slots ≤ R.slots)
    (hK : zK G s) (hA : ∀ q : Nat, s.heap.size ≤ q → A q) (hT : zS G A s s.heap) (hw : zH G A s.heap bs H locs)
    (hC : is.map (fun i => bs[i]?) = cbs.map some) (hn : va_nd is = true) (had : cbs'.map (List.map Prod.fst) = cbs.map (List.map Prod.fst)) (hb : zput bs is cbs' = bs')
    (hq : cbs.flatten[0]? = some (b, .inr (ci, fs))) (hcl : vwCl[ci]? = some (C, T, N)) (hnA : As.length = n) (hls : ls.size = nL) (hst : st0 = As.reverse ++ .ref b :: rest) (hrm : (rest.map fun v => v.category).sum ≤ 8) (hdg : decode cc pc = .ok (.invokevirtual index, 3))
    (kk : ∀ (H1 : Heap) (locs1 : List Loc), zH G A s.heap bs' H1 locs1 → W p l e R s m args below meth c H1 locs1 cells slots Q (F0 m (pc + 3) ls (rv.toList ++ rest))) : W p l e R s m args below meth c H locs cells slots Q (F0 m pc ls st0) := by
  obtain ⟨⟨ws', hw0⟩, -, h1, h2, h3⟩ := hc
  exact zq_after (va_runV (As := As) (rest := rest) S (hM H.size) (cwV n S.2.2.2.2 hG hw0 rfl rfl ⟨hyC, h1, h2, h3⟩ hR) ⟨z_blind, va_recv (q := (C, T, N)) hK (z_sub hw hC hn).1 hcl hq, z_pre hK hT hA hw hC hn⟩ rfl hnA hls hst (lv_room hrm) hdg hf) hA hw hC hn had hb kk
theorem zq_callS {nL : Nat} {own : String} {Ts : List Cond} (S : CallFix p m c cc nL s args Ts own) {y : MethodName} {ws : List Cond} {bytes : ByteArray} {maxL n index fr lc : Nat} {ret : Option FieldType} {As : List Value} {rv : Option Value} {is : List Nat}
    (hM : zMet l y ws fr lc G As cbs rv cbs') (hc : zC y ws bytes maxL ret n) (hG : GoodIn Ts (va_wsS own index y ws)) (hR : fr + 1 ≤ R.frames ∧ 8 + (maxL + 11) + lc ≤ R.locals) (hf : cells ≤ R.cells ∧ slots ≤ R.slots)
    (hK : zK G s) (hA : ∀ q : Nat, s.heap.size ≤ q → A q) (hT : zS G A s s.heap) (hw : zH G A s.heap bs H locs)
    (hC : is.map (fun i => bs[i]?) = cbs.map some) (hn : va_nd is = true) (had : cbs'.map (List.map Prod.fst) = cbs.map (List.map Prod.fst)) (hb : zput bs is cbs' = bs')
    (hnA : As.length = n) (hls : ls.size = nL) (hst : st0 = As.reverse ++ rest) (hrm : (rest.map fun v => v.category).sum ≤ 8) (hdg : decode cc pc = .ok (.invokestatic index, 3))
    (kk : ∀ (H1 : Heap) (locs1 : List Loc), zH G A s.heap bs' H1 locs1 → W p l e R s m args below meth c H1 locs1 cells slots Q (F0 m (pc + 3) ls (rv.toList ++ rest))) : W p l e R s m args below meth c H locs cells slots Q (F0 m pc ls st0) := by
  obtain ⟨⟨ws', hw0⟩, -, h1, h2, h3⟩ := hc
  exact zq_after (va_runS (As := As) (rest := rest) S (hM H.size) (va_cwS n S.2.2.2.2 hG hw0 rfl rfl ⟨h1, h2, h3⟩ hR) ⟨z_blind, z_pre hK hT hA hw hC hn⟩ rfl hnA hls hst (lv_room hrm) hdg hf) hA hw hC hn had hb kk
theorem zq_callV1 {nL : Nat} {own : String} {Ts : List Cond} (S : CallFix p m c cc nL s args Ts own) {y : MethodName} {ws : List Cond} {bytes : ByteArray} {maxL n index ci fr lc : Nat} {ret : Option FieldType} {C : String} {T : u_T} {N b : Nat} {fs : List Value} {As : List Value} {rv : Value} {is : List Nat}
    (hM : zMet l y ws fr lc G (.ref b :: As) cbs (some rv) cbs') (hc : zC y ws bytes maxL ret n) (hyC : y.cls = C) (hG : GoodIn Ts (wsV own index C y ws)) (hR : fr + 1 ≤ R.frames ∧ 8 + (maxL + 11) + lc ≤ R.locals) (hf : cells ≤ R.cells ∧ slots ≤ R.slots)
    (hK : zK G s) (hA : ∀ q : Nat, s.heap.size ≤ q → A q) (hT : zS G A s s.heap) (hw : zH G A s.heap bs H locs)
    (hC : is.map (fun i => bs[i]?) = cbs.map some) (hn : va_nd is = true) (had : cbs'.map (List.map Prod.fst) = cbs.map (List.map Prod.fst)) (hb : zput bs is cbs' = bs')
    (hq : cbs.flatten[0]? = some (b, .inr (ci, fs))) (hcl : vwCl[ci]? = some (C, T, N)) (hnA : As.length = n) (hls : ls.size = nL) (hst : st0 = As.reverse ++ .ref b :: rest) (hrm : (rest.map fun v => v.category).sum ≤ 8) (hdg : decode cc pc = .ok (.invokevirtual index, 3))
    (kk : ∀ (H1 : Heap) (locs1 : List Loc), zH G A s.heap bs' H1 locs1 → W p l e R s m args below meth c H1 locs1 cells slots Q (F0 m (pc + 3) ls (rv :: rest))) : W p l e R s m args below meth c H locs cells slots Q (F0 m pc ls st0) :=
  zq_callV S hM hc hyC hG hR hf hK hA hT hw hC hn had hb hq hcl hnA hls hst hrm hdg kk
theorem zq_callV0 {nL : Nat} {own : String} {Ts : List Cond} (S : CallFix p m c cc nL s args Ts own) {y : MethodName} {ws : List Cond} {bytes : ByteArray} {maxL n index ci fr lc : Nat} {ret : Option FieldType} {C : String} {T : u_T} {N b : Nat} {fs : List Value} {As : List Value} {is : List Nat}
    (hM : zMet l y ws fr lc G (.ref b :: As) cbs none cbs') (hc : zC y ws bytes maxL ret n) (hyC : y.cls = C) (hG : GoodIn Ts (wsV own index C y ws)) (hR : fr + 1 ≤ R.frames ∧ 8 + (maxL + 11) + lc ≤ R.locals) (hf : cells ≤ R.cells ∧ slots ≤ R.slots)
    (hK : zK G s) (hA : ∀ q : Nat, s.heap.size ≤ q → A q) (hT : zS G A s s.heap) (hw : zH G A s.heap bs H locs)
    (hC : is.map (fun i => bs[i]?) = cbs.map some) (hn : va_nd is = true) (had : cbs'.map (List.map Prod.fst) = cbs.map (List.map Prod.fst)) (hb : zput bs is cbs' = bs')
    (hq : cbs.flatten[0]? = some (b, .inr (ci, fs))) (hcl : vwCl[ci]? = some (C, T, N)) (hnA : As.length = n) (hls : ls.size = nL) (hst : st0 = As.reverse ++ .ref b :: rest) (hrm : (rest.map fun v => v.category).sum ≤ 8) (hdg : decode cc pc = .ok (.invokevirtual index, 3))
    (kk : ∀ (H1 : Heap) (locs1 : List Loc), zH G A s.heap bs' H1 locs1 → W p l e R s m args below meth c H1 locs1 cells slots Q (F0 m (pc + 3) ls rest)) : W p l e R s m args below meth c H locs cells slots Q (F0 m pc ls st0) :=
  zq_callV S hM hc hyC hG hR hf hK hA hT hw hC hn had hb hq hcl hnA hls hst hrm hdg kk
theorem zq_callS1 {nL : Nat} {own : String} {Ts : List Cond} (S : CallFix p m c cc nL s args Ts own) {y : MethodName} {ws : List Cond} {bytes : ByteArray} {maxL n index fr lc : Nat} {ret : Option FieldType} {As : List Value} {rv : Value} {is : List Nat}
    (hM : zMet l y ws fr lc G As cbs (some rv) cbs') (hc : zC y ws bytes maxL ret n) (hG : GoodIn Ts (va_wsS own index y ws)) (hR : fr + 1 ≤ R.frames ∧ 8 + (maxL + 11) + lc ≤ R.locals) (hf : cells ≤ R.cells ∧ slots ≤ R.slots)
    (hK : zK G s) (hA : ∀ q : Nat, s.heap.size ≤ q → A q) (hT : zS G A s s.heap) (hw : zH G A s.heap bs H locs)
    (hC : is.map (fun i => bs[i]?) = cbs.map some) (hn : va_nd is = true) (had : cbs'.map (List.map Prod.fst) = cbs.map (List.map Prod.fst)) (hb : zput bs is cbs' = bs')
    (hnA : As.length = n) (hls : ls.size = nL) (hst : st0 = As.reverse ++ rest) (hrm : (rest.map fun v => v.category).sum ≤ 8) (hdg : decode cc pc = .ok (.invokestatic index, 3))
    (kk : ∀ (H1 : Heap) (locs1 : List Loc), zH G A s.heap bs' H1 locs1 → W p l e R s m args below meth c H1 locs1 cells slots Q (F0 m (pc + 3) ls (rv :: rest))) : W p l e R s m args below meth c H locs cells slots Q (F0 m pc ls st0) :=
  zq_callS S hM hc hG hR hf hK hA hT hw hC hn had hb hnA hls hst hrm hdg kk
theorem zq_callS0 {nL : Nat} {own : String} {Ts : List Cond} (S : CallFix p m c cc nL s args Ts own) {y : MethodName} {ws : List Cond} {bytes : ByteArray} {maxL n index fr lc : Nat} {ret : Option FieldType} {As : List Value} {is : List Nat}
    (hM : zMet l y ws fr lc G As cbs none cbs') (hc : zC y ws bytes maxL ret n) (hG : GoodIn Ts (va_wsS own index y ws)) (hR : fr + 1 ≤ R.frames ∧ 8 + (maxL + 11) + lc ≤ R.locals) (hf : cells ≤ R.cells ∧ slots ≤ R.slots)
    (hK : zK G s) (hA : ∀ q : Nat, s.heap.size ≤ q → A q) (hT : zS G A s s.heap) (hw : zH G A s.heap bs H locs)
    (hC : is.map (fun i => bs[i]?) = cbs.map some) (hn : va_nd is = true) (had : cbs'.map (List.map Prod.fst) = cbs.map (List.map Prod.fst)) (hb : zput bs is cbs' = bs')
    (hnA : As.length = n) (hls : ls.size = nL) (hst : st0 = As.reverse ++ rest) (hrm : (rest.map fun v => v.category).sum ≤ 8) (hdg : decode cc pc = .ok (.invokestatic index, 3))
    (kk : ∀ (H1 : Heap) (locs1 : List Loc), zH G A s.heap bs' H1 locs1 → W p l e R s m args below meth c H1 locs1 cells slots Q (F0 m (pc + 3) ls rest)) : W p l e R s m args below meth c H locs cells slots Q (F0 m pc ls st0) :=
  zq_callS S hM hc hG hR hf hK hA hT hw hC hn had hb hnA hls hst hrm hdg kk
def zMetN (l : Launch) (y : MethodName) (ws : List Cond) (fr lc mc ms : Nat) (G : zG) (av : List Value) (bs : List va_W) (rv : Option Value) (bs' : List va_W) : Prop :=
  ∀ sz : Nat, Met l y ws { frames := fr, cells := mc, slots := ms, locals := lc } (va_Pc av (zPre G bs sz)) (zQ rv (zPost G bs') (va_A bs.flatten sz)) mc ms (va_A bs.flatten sz)
theorem zq_callS1N {nL : Nat} {own : String} {Ts : List Cond} (S : CallFix p m c cc nL s args Ts own) {y : MethodName} {ws : List Cond} {bytes : ByteArray} {maxL n index fr lc : Nat} {ret : Option FieldType} {As : List Value} {rv : Value} {mc ms : Nat} {is : List Nat}
    (hM : zMetN l y ws fr lc mc ms G As cbs (some rv) cbs') (hc : zC y ws bytes maxL ret n) (hG : GoodIn Ts (va_wsS own index y ws)) (hR : fr + 1 ≤ R.frames ∧ 8 + (maxL + 11) + lc ≤ R.locals) (hf : cells + mc ≤ R.cells ∧ slots + ms ≤ R.slots)
    (hK : zK G s) (hA : ∀ q : Nat, s.heap.size ≤ q → A q) (hT : zS G A s s.heap) (hw : zH G A s.heap bs H locs)
    (hC : is.map (fun i => bs[i]?) = cbs.map some) (hn : va_nd is = true) (had : cbs'.map (List.map Prod.fst) = cbs.map (List.map Prod.fst)) (hb : zput bs is cbs' = bs')
    (hnA : As.length = n) (hls : ls.size = nL) (hst : st0 = As.reverse ++ rest) (hrm : (rest.map fun v => v.category).sum ≤ 8) (hdg : decode cc pc = .ok (.invokestatic index, 3))
    (kk : ∀ (H1 : Heap) (locs1 : List Loc), zH G A s.heap bs' H1 locs1 → W p l e R s m args below meth c H1 locs1 (cells + mc) (slots + ms) Q (F0 m (pc + 3) ls (rv :: rest))) : W p l e R s m args below meth c H locs cells slots Q (F0 m pc ls st0) := by
  obtain ⟨⟨ws', hw0⟩, -, h1, h2, h3⟩ := hc
  exact zq_afterN (va_runS (As := As) (rest := rest) S (hM H.size) (va_cwS n S.2.2.2.2 hG hw0 rfl rfl ⟨h1, h2, h3⟩ hR) ⟨z_blind, z_pre hK hT hA hw hC hn⟩ rfl hnA hls hst (lv_room hrm) hdg hf) hA hw hC hn had hb kk
theorem zq_zret {v : Int32} {ty : FieldType} {bs1 : List va_W} {b9 : va_W} (hx : p.tables.exec = Jvm.exec) (hb : c.code = cc) (hr : meth.sig.returnType = some ty) (hn : narrow ty (.int v) = .int v) (hlk : meth.locks = false) (hw : zH G A s.heap bs H locs) (hdg : decode cc pc = .ok (.ireturn, 1)) (e9 : bs = bs1 ++ [b9]) : W p l e R s m args below meth c H locs cells slots (MQ below (zQ (some (.int v)) (zPost G bs1) A) args s cells slots A) (F0 m pc ls [.int v]) :=
  W.zret hx hb hr hn (fun t ht _ => ⟨rfl, by
    show va_P _ _ _ t.heap
    rw [ht]
    refine z_P_of fun x hx => z_P_mem hw.1 ?_
    rw [e9, List.flatten_append]
    exact List.mem_append_left _ hx, hw.2.2.F ht⟩) hw.2.2.2.2 hdg hlk
theorem z_metN {l : Launch} {y : MethodName} {ws : List Cond} {bytes : ByteArray} {maxL n : Nat} {ret : Option FieldType} {fr lc mc ms : Nat} {G : zG} {av : List Value} {bs : List va_W} {rv : Option Value} {bs' : List va_W} (hc : zC y ws bytes maxL ret n) (hlen : (lg_sl av).length ≤ maxL)
    (body : ∀ (p : Program) (e : Env) (s : State) (m : MethodId) (below : List Frame) (meth : Method) (c : Code) (A : Nat → Prop) (ls : Array Slot), zZ p s m av.toArray meth c A G bytes maxL y.cls ws ret → lv_has ls maxL (lv_args 0 av) → zH G A s.heap bs s.heap [] →
      W p l e { frames := fr, cells := mc, slots := ms, locals := lc } s m av.toArray below meth c s.heap [] 0 0 (MQ below (zQ rv (zPost G bs') A) av.toArray s mc ms A) (F0 m 0 ls [])) : zMetN l y ws fr lc mc ms G av bs rv bs' := by
  obtain ⟨⟨ws', hw⟩, hy, -, -, -⟩ := hc
  intro sz
  refine Met.ofW (cc := bytes) (maxL := maxL) (ret := ret) hy hw ?_
  intro p e s m args below meth c s₁ B hml hv
  obtain ⟨rfl, hsz, hP, hK, hD0, hT⟩ := hv
  have hts := atoms_spec (ws := ws) B.pre
  have hown : s.vm.findClass y.cls = some m.cls := findClass_of_methodNamed B.named
  subst hsz
  have hD := hD0.self (sz := s.heap.size)
  rw [lg_entry_eq]
  exact body p e s m below meth c _ _ ⟨⟨B.exec, B.bytes, hml, hown, hts⟩, B.returns, B.notSynchronized, hK, fun q h => Or.inr h, hT⟩ (lv_entry av hlen) ⟨hP, hD, va_S.rf⟩
/-! the script -/
theorem z_sld {Ts : List Cond} {own : String} {nL : Nat} (S : CallFix p m c cc nL s args Ts own) (hT : zS G A s s.heap) (hw : zH G A s.heap bs H locs) {i : Int32} (hin : vp_in i (zX G).1) (hdg : decode cc pc = .ok (.iaload, 1))
    (kk : W p l e R s m args below meth c H locs cells slots Q (F0 m (pc + 1) ls (.int ((zX G).2 i.toNatClampNeg) :: rest))) : W p l e R s m args below meth c H locs cells slots Q (F0 m pc ls (.int i :: .ref (zb G) :: rest)) :=
  va_sld S.1 S.2.1 hT.2.2.2.2.2.2 hT.2.2.2.2.1 hT.2.2.2.2.2.1 hw.2.2 hin hdg kk
theorem z_slen {Ts : List Cond} {own : String} {nL : Nat} (S : CallFix p m c cc nL s args Ts own) (hT : zS G A s s.heap) (hw : zH G A s.heap bs H locs) (hdg : decode cc pc = .ok (.arraylength, 1))
    (kk : W p l e R s m args below meth c H locs cells slots Q (F0 m (pc + 1) ls (.int (Int32.ofNat (zX G).1) :: rest))) : W p l e R s m args below meth c H locs cells slots Q (F0 m pc ls (.ref (zb G) :: rest)) :=
  va_slen S.1 S.2.1 hT.2.2.2.2.2.2 hT.2.2.2.2.1 hT.2.2.2.2.2.1 hw.2.2 hdg kk
end ZQ
