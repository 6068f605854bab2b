/-! CONSTRUCTORS, and calls where cells have been made before -/
/-- private constructors of nest mates -/
def zNw : List (String × Nat × MethodName) := [(RX10, 9, yX9_init), (RX10, 32, yX5_init), (RX10, 39, yX2_init), (RX10, 53, yX4_init), (RX10, 60, yX3_init), (RX10, 67, yX0_init), (RX10, 74, yX7_init), (RX0, 11, yX2_init), (RX0, 20, yX4_init), (RX5, 11, yX2_init)]
def zN (U : State) : Prop := (∀ q ∈ zNw, va_Nw (.methodLinkNest q.1 q.2.1 q.2.2 "CellKeys") U) ∧ (Cond.arrayOver (.array .int)).before #[] U = true ∧ (Cond.arrayOver (.array .byte)).before #[] U = true
theorem zN.blind {U : State} {g : JFrame} {mk : MethodId} {a : Array Value} (h : zN U) : zN (U.calling g mk a) := ⟨fun x hx => va_Nw.same rfl rfl (h.1 x hx), over_moved (u := U) (E := U.calling g mk a) (Vm.Alike.refl U.vm) h.2.1, over_moved (u := U) (E := U.calling g mk a) (Vm.Alike.refl U.vm) h.2.2⟩
theorem zN.warm {s U : State} (hW : s.WarmedH U.vm) (h : zN s) : zN U := ⟨fun x hx => va_Nw.warmM hW (h.1 x hx), over_moved hW.alike h.2.1, over_moved hW.alike h.2.2⟩
def zIPre (G : zG) (w : va_W) (sz : Nat) : State → Prop := fun U => U.heap.size = sz ∧ va_P G.1 vwCl w U.heap ∧ zK G U ∧ va_D (fun _ => True) w ∧ zS G (va_A w sz) U U.heap ∧ zN U
def zInit (l : Launch) (y : MethodName) (ws : List Cond) (fr lc mc ms : Nat) (G : zG) (ci : Nat) (fs : List Value) (bsf : (Nat → Nat) → List va_W) : Prop :=
  ∀ h sz : Nat, Met l y ws { frames := fr, cells := mc, slots := ms, locals := lc } (va_Pc [.ref h] (zIPre G [(h, .inr (ci, fs))] sz))
    (va_Qv (S := Nat → Nat) (fun u => u (0 + 0) = h) (fun u t => va_P G.1 vwCl (bsf u).flatten t.heap ∧ va_D (va_A [(h, .inr (ci, fs))] sz) (bsf u).flatten) (va_A [(h, .inr (ci, fs))] sz)) mc ms (va_A [(h, .inr (ci, fs))] sz)
theorem zi_blind {G : zG} {w : va_W} {av : List Value} {sz : Nat} : FrameBlind (va_Pc av (zIPre G w sz)) := fun a U g mk q => by
  obtain ⟨q0, q1, qP, qK, qD, qT, qN⟩ := q
  exact ⟨q0, q1, qP, va_K.moved (u := U) (U := U.calling g mk a) (Vm.Alike.refl U.vm) qK, qD, zS.blind (H := U.heap) qT, zN.blind qN⟩
/-- the head of a constructor -/
theorem zi_met {l : Launch} {y : MethodName} {ws : List Cond} {bytes : ByteArray} {maxL fr lc mc ms ci : Nat} {G : zG} {fs : List Value} {bsf : (Nat → Nat) → List va_W} (hw0 : ∃ ws', ws = Cond.code y bytes maxL none :: ws') (hy : plainName y.cls = true) (hlen : (lg_sl [Value.ref 0]).length ≤ maxL) (hyn : y.name = "<init>")
    (body : ∀ (h : Nat) (p : Program) (e : Env) (s : State) (m : MethodId) (below : List Frame) (meth : Method) (c : Code) (A : Nat → Prop) (ls : Array Slot), zZ p s m [Value.ref h].toArray meth c A G bytes maxL y.cls ws none → meth.name = "<init>" → zN s → lv_has ls maxL [(0, .ref h)] → va_P G.1 vwCl [(h, .inr (ci, fs))] s.heap → va_D A [(h, .inr (ci, fs))] → va_S A s.heap s.heap [] →
      W p l e { frames := fr, cells := mc, slots := ms, locals := lc } s m [Value.ref h].toArray below meth c s.heap [] 0 0 (MQ below (va_Qv (S := Nat → Nat) (fun u => u (0 + 0) = h) (fun u t => va_P G.1 vwCl (bsf u).flatten t.heap ∧ va_D A (bsf u).flatten) A) [Value.ref h].toArray s mc ms A) (F0 m 0 ls [])) : zInit l y ws fr lc mc ms G ci fs bsf := by
  obtain ⟨ws', hw⟩ := hw0
  intro h sz
  refine Met.ofW (cc := bytes) (maxL := maxL) (ret := none) hy hw ?_
  intro p e s m args below meth c s₁ B hml hv
  obtain ⟨rfl, hsz, hP, hK, hD0, hT, hN⟩ := hv
  have hts := atoms_spec (ws := ws) B.pre
  have hown : s.vm.findClass y.cls = some m.cls := findClass_of_methodNamed B.named
  have hin : meth.name = "<init>" := (name_of_methodNamed B.named B.method).1.trans hyn
  subst hsz
  have hD := hD0.self (sz := s.heap.size)
  rw [lg_entry_eq]
  have hl := lv_entry [Value.ref h] (n := maxL) hlen
  exact body h p e s m below meth c _ _ ⟨⟨B.exec, B.bytes, hml, hown, hts⟩, B.returns, B.notSynchronized, hK, fun q h => Or.inr h, hT⟩ hin hN hl hP hD va_S.rf
section ZI
variable {p : Program} {l : Launch} {e : Env} {R : Room} {s : State} {m : MethodId} {args : Array Value} {below : List Frame} {meth : Method} {c : Code} {H : Heap} {locs : List Loc} {cells slots : Nat} {Q : State → Prop} {cc : ByteArray} {pc : Nat} {ls : Array Slot} {st0 rest : List Value} {A : Nat → Prop} {G : zG} {w : va_W} {H0 : Heap}
theorem zi_cls {cA : ClassId} {ty : FieldType} {D : va_G} {tys : List (ClassId × FieldType)} (hK : va_K D vwCl (tys ++ [(cA, ty)]) s) {k : Nat} {cB : ClassId} (hk : tys[k]? = some (cB, ty)) (hty : ∀ C, ty ≠ .object C) : cA = cB := by
  have h1 := (hK.2 tys.length (cA, ty) (by simp)).2
  have hlt := (List.getElem?_eq_some_iff.mp hk).1
  have h2 := (hK.2 k (cB, ty) (by rw [List.getElem?_append_left hlt]; exact hk)).2
  cases ty with
  | object C => exact absurd rfl (hty C)
  | _ => exact Option.some.inj (h1.symm.trans h2)
theorem zi_newI {n : Int32} {N : Nat} {own : String} {nL : Nat} {Ts : List Cond} (S : CallFix p m c cc nL s args Ts own) (harr : (Cond.arrayClass .int).before args s = true) (hK : zK G s) (hP : va_P G.1 vwCl w H) (hD : va_D A w) (hS : va_S A H0 H locs) (hA : ∀ q : Nat, H0.size ≤ q → A q) (hn : ¬ n < 0) (hN : n.toNatClampNeg = N) (hbytes : N * 4 ≤ 536870912) (hcells : cells + 1 ≤ R.cells) (hslots : slots + N ≤ R.slots) (hdg : decode cc pc = .ok (.newarray .int, 2))
    (kk : ∀ (q : Nat) (H1 : Heap), va_P G.1 vwCl (w ++ [(q, .inl (G.2.1, N, .inl (fun _ => 0)))]) H1 → va_D A (w ++ [(q, .inl (G.2.1, N, .inl (fun _ => 0)))]) → va_S A H0 H1 locs → W p l e R s m args below meth c H1 locs (cells + 1) (slots + N) Q (F0 m (pc + 2) ls (.ref q :: rest))) : W p l e R s m args below meth c H locs cells slots Q (F0 m pc ls (.int n :: rest)) := by
  refine va_newa (atype := .int) (ty := .int) (a0 := (N, .inl (fun _ => 0))) S.1 S.2.1 harr rfl hK hP hD hS hA (fun _ => rfl) hn hN hbytes hcells hslots hdg (fun q cA H1 hK1 hP1 hD1 hS1 => ?_)
  have e := zi_cls (cB := G.2.1) hK1 (k := 0) rfl (fun C h => by cases h)
  subst e
  exact kk q H1 hP1 hD1 hS1
theorem zi_newB {n : Int32} {N : Nat} {own : String} {nL : Nat} {Ts : List Cond} (S : CallFix p m c cc nL s args Ts own) (harr : (Cond.arrayClass .byte).before args s = true) (hK : zK G s) (hP : va_P G.1 vwCl w H) (hD : va_D A w) (hS : va_S A H0 H locs) (hA : ∀ q : Nat, H0.size ≤ q → A q) (hn : ¬ n < 0) (hN : n.toNatClampNeg = N) (hbytes : N * 1 ≤ 536870912) (hcells : cells + 1 ≤ R.cells) (hslots : slots + N ≤ R.slots) (hdg : decode cc pc = .ok (.newarray .byte, 2))
    (kk : ∀ (q : Nat) (H1 : Heap), va_P G.1 vwCl (w ++ [(q, .inl (G.2.2.1, N, .inl (fun _ => 0)))]) H1 → va_D A (w ++ [(q, .inl (G.2.2.1, N, .inl (fun _ => 0)))]) → va_S A H0 H1 locs → W p l e R s m args below meth c H1 locs (cells + 1) (slots + N) Q (F0 m (pc + 2) ls (.ref q :: rest))) : W p l e R s m args below meth c H locs cells slots Q (F0 m pc ls (.int n :: rest)) := by
  refine va_newa (atype := .byte) (ty := .byte) (a0 := (N, .inl (fun _ => 0))) S.1 S.2.1 harr rfl hK hP hD hS hA (fun _ => rfl) hn hN hbytes hcells hslots hdg (fun q cA H1 hK1 hP1 hD1 hS1 => ?_)
  have e := zi_cls (cB := G.2.2.1) hK1 (k := 1) rfl (fun C h => by cases h)
  subst e
  exact kk q H1 hP1 hD1 hS1
/-- new C() by C's constructor: the fresh object stands last -/
theorem zi_call {own : String} {nL : Nat} {Ts : List Cond} (S : CallFix p m c cc nL s args Ts own) {y : MethodName} {ws ws' : List Cond} {bytes : ByteArray} {maxL index fr lc mc ms ci a : Nat} {fs : List Value} {bsf : (Nat → Nat) → List va_W} (hM : zInit l y ws fr lc mc ms G ci fs bsf) (hw0 : ws = Cond.code y bytes maxL none :: ws') (hG : GoodIn Ts ws) (hini : (Cond.initialized y.cls).before args s = true) (hl : (Cond.methodLink own index y).before args s = true) (hin : (Cond.instanceMethod y).before args s = true) (hy1 : y.name = "<init>")
    (hd : y.cls ≠ "java/lang/invoke/MethodHandle" ∧ y.cls ≠ "java/lang/invoke/VarHandle" ∧ (parseMethodDescriptor y.desc).map (fun d => d.parameters.length) = some 0) (hR : fr + 1 ≤ R.frames ∧ 8 + (maxL + 11) + lc ≤ R.locals)
    (hK : zK G s) (hA : ∀ q : Nat, s.heap.size ≤ q → A q) (hT : zS G A s s.heap) (hN : zN s) (hP : va_P G.1 vwCl (w ++ [(a, .inr (ci, fs))]) H) (hD : va_D A (w ++ [(a, .inr (ci, fs))])) (hS : va_S A s.heap H locs) (hls : ls.size = nL) (hrm : (rest.map fun v => v.category).sum ≤ 8) (hdg : decode cc pc = .ok (.invokespecial index, 3)) (hf : cells + mc ≤ R.cells ∧ slots + ms ≤ R.slots)
    (kk : ∀ (u : Nat → Nat) (H1 : Heap) (locs1 : List Loc), u (0 + 0) = a → va_P G.1 vwCl (w ++ (bsf u).flatten) H1 → va_D A (w ++ (bsf u).flatten) → va_S A s.heap H1 locs1 → W p l e R s m args below meth c H1 locs1 (cells + mc) (slots + ms) Q (F0 m (pc + 3) ls rest)) : W p l e R s m args below meth c H locs cells slots Q (F0 m pc ls (.ref a :: rest)) := by
  have hlen : (w ++ [(a, (.inr (ci, fs) : va_E))])[w.length]? = some (a, .inr (ci, fs)) := by simp
  have hFc : ∀ q, va_A [(a, (.inr (ci, fs) : va_E))] H.size q → A q := va_free (wc := [(a, .inr (ci, fs))]) hD hS hA [w.length] (by simp)
  have hPc : va_P G.1 vwCl [(a, .inr (ci, fs))] H := hP.sub [w.length] (by simp)
  have hDc : va_D A [(a, (.inr (ci, fs) : va_E))] := hD.sub [w.length] rfl (by simp)
  refine va_callv (va_runI (As := []) (rest := rest) S (hM a H.size) (cwI 0 S.2.2.2.2 hG hw0 rfl rfl hini hl hin hy1 hd hR) ⟨zi_blind, fun U hU hW => ⟨rfl, by rw [hU], by rw [hU]; exact hPc, va_K.moved hW.alike hK, hDc.weaken (fun _ _ _ _ => trivial), by
    rw [hU]
    exact ((hT.kept hS.2.1).narrow hFc).warm hW, zN.warm hW hN⟩⟩ rfl rfl hls rfl (lv_room hrm) hdg hf) hS (fun q _ h => hFc q h) hFc (fun u t H1 locs1 ht hvm hu hB hz1 hk1 hS1 => ?_)
  obtain ⟨hP1, hD1⟩ := hB
  rw [ht] at hP1
  have hD0 : va_D A w := ⟨fun i j x y hi hj => hD.1 i j x y (by rw [List.getElem?_append_left (List.getElem?_eq_some_iff.mp hi).1]; exact hi) (by rw [List.getElem?_append_left (List.getElem?_eq_some_iff.mp hj).1]; exact hj), fun k x hx => hD.2 k x (by rw [List.getElem?_append_left (List.getElem?_eq_some_iff.mp hx).1]; exact hx)⟩
  have hout : ∀ (k : Nat) (x : Nat × va_E), w[k]? = some x → x.1 < H.size ∧ ¬ va_A [(a, (.inr (ci, fs) : va_E))] H.size x.1 := fun k x hx => by
    have hx' : (w ++ [(a, (.inr (ci, fs) : va_E))])[k]? = some x := by rw [List.getElem?_append_left (List.getElem?_eq_some_iff.mp hx).1]; exact hx
    have hlt := (hP k x hx').lt
    refine ⟨hlt, ?_⟩
    rintro (⟨j, e9, hj⟩ | hj)
    · have hj0 : j < 1 := (List.getElem?_eq_some_iff.mp hj).1
      rw [show j = 0 by omega] at hj
      cases hj
      have := hD.1 k w.length x _ hx' hlen rfl
      have := (List.getElem?_eq_some_iff.mp hx).1
      omega
    · omega
  refine kk u H1 locs1 hu (va_P.app (fun k x hx => ?_) hP1) (va_D.app hD0 (hD1.weaken (fun k x _ h => hFc x.1 h)) (fun i j x y hx hy hxy => ?_)) hS1
  · have hx' : (w ++ [(a, (.inr (ci, fs) : va_E))])[k]? = some x := by rw [List.getElem?_append_left (List.getElem?_eq_some_iff.mp hx).1]; exact hx
    obtain ⟨g1, g2⟩ := hout k x hx
    exact (hP k x hx').kept (hk1 x.1 g1 g2)
  · exact (hout i x hx).2 (by rw [hxy]; exact hD1.2 j y hy)
/-- .. by a private constructor of a nest mate -/
theorem zi_callN {own : String} {nL : Nat} {Ts : List Cond} (S : CallFix p m c cc nL s args Ts own) {y : MethodName} {ws ws' : List Cond} {bytes : ByteArray} {maxL index fr lc mc ms ci a : Nat} {fs : List Value} {bsf : (Nat → Nat) → List va_W} (hM : zInit l y ws fr lc mc ms G ci fs bsf) (hw0 : ws = Cond.code y bytes maxL none :: ws') (hG : GoodIn Ts ws) (hini : (Cond.initialized y.cls).before args s = true) (hl : (own, index, y) ∈ zNw) (hin : (Cond.instanceMethod y).before args s = true) (hy1 : y.name = "<init>")
    (hd : y.cls ≠ "java/lang/invoke/MethodHandle" ∧ y.cls ≠ "java/lang/invoke/VarHandle" ∧ (parseMethodDescriptor y.desc).map (fun d => d.parameters.length) = some 0) (hR : fr + 1 ≤ R.frames ∧ 8 + (maxL + 11) + lc ≤ R.locals)
    (hK : zK G s) (hA : ∀ q : Nat, s.heap.size ≤ q → A q) (hT : zS G A s s.heap) (hN : zN s) (hP : va_P G.1 vwCl (w ++ [(a, .inr (ci, fs))]) H) (hD : va_D A (w ++ [(a, .inr (ci, fs))])) (hS : va_S A s.heap H locs) (hls : ls.size = nL) (hrm : (rest.map fun v => v.category).sum ≤ 8) (hdg : decode cc pc = .ok (.invokespecial index, 3)) (hf : cells + mc ≤ R.cells ∧ slots + ms ≤ R.slots)
    (kk : ∀ (u : Nat → Nat) (H1 : Heap) (locs1 : List Loc), u (0 + 0) = a → va_P G.1 vwCl (w ++ (bsf u).flatten) H1 → va_D A (w ++ (bsf u).flatten) → va_S A s.heap H1 locs1 → W p l e R s m args below meth c H1 locs1 (cells + mc) (slots + ms) Q (F0 m (pc + 3) ls rest)) : W p l e R s m args below meth c H locs cells slots Q (F0 m pc ls (.ref a :: rest)) := by
  have hlen : (w ++ [(a, (.inr (ci, fs) : va_E))])[w.length]? = some (a, .inr (ci, fs)) := by simp
  have hFc : ∀ q, va_A [(a, (.inr (ci, fs) : va_E))] H.size q → A q := va_free (wc := [(a, .inr (ci, fs))]) hD hS hA [w.length] (by simp)
  have hPc : va_P G.1 vwCl [(a, .inr (ci, fs))] H := hP.sub [w.length] (by simp)
  have hDc : va_D A [(a, (.inr (ci, fs) : va_E))] := hD.sub [w.length] rfl (by simp)
  refine va_callv (va_runIN (As := []) (rest := rest) S (hM a H.size) ⟨va_cnB (host := "CellKeys") 0 S.2.2.2.2 hG hw0 rfl rfl (hN.1 _ hl) hini hd hR, hy1, hin⟩ ⟨zi_blind, fun U hU hW => ⟨rfl, by rw [hU], by rw [hU]; exact hPc, va_K.moved hW.alike hK, hDc.weaken (fun _ _ _ _ => trivial), by
    rw [hU]
    exact ((hT.kept hS.2.1).narrow hFc).warm hW, zN.warm hW hN⟩⟩ rfl rfl hls rfl (lv_room hrm) hdg hf) hS (fun q _ h => hFc q h) hFc (fun u t H1 locs1 ht hvm hu hB hz1 hk1 hS1 => ?_)
  obtain ⟨hP1, hD1⟩ := hB
  rw [ht] at hP1
  have hD0 : va_D A w := ⟨fun i j x y hi hj => hD.1 i j x y (by rw [List.getElem?_append_left (List.getElem?_eq_some_iff.mp hi).1]; exact hi) (by rw [List.getElem?_append_left (List.getElem?_eq_some_iff.mp hj).1]; exact hj), fun k x hx => hD.2 k x (by rw [List.getElem?_append_left (List.getElem?_eq_some_iff.mp hx).1]; exact hx)⟩
  have hout : ∀ (k : Nat) (x : Nat × va_E), w[k]? = some x → x.1 < H.size ∧ ¬ va_A [(a, (.inr (ci, fs) : va_E))] H.size x.1 := fun k x hx => by
    have hx' : (w ++ [(a, (.inr (ci, fs) : va_E))])[k]? = some x := by rw [List.getElem?_append_left (List.getElem?_eq_some_iff.mp hx).1]; exact hx
    have hlt := (hP k x hx').lt
    refine ⟨hlt, ?_⟩
    rintro (⟨j, e9, hj⟩ | hj)
    · have hj0 : j < 1 := (List.getElem?_eq_some_iff.mp hj).1
      rw [show j = 0 by omega] at hj
      cases hj
      have := hD.1 k w.length x _ hx' hlen rfl
      have := (List.getElem?_eq_some_iff.mp hx).1
      omega
    · omega
  refine kk u H1 locs1 hu (va_P.app (fun k x hx => ?_) hP1) (va_D.app hD0 (hD1.weaken (fun k x _ h => hFc x.1 h)) (fun i j x y hx hy hxy => ?_)) hS1
  · have hx' : (w ++ [(a, (.inr (ci, fs) : va_E))])[k]? = some x := by rw [List.getElem?_append_left (List.getElem?_eq_some_iff.mp hx).1]; exact hx
    obtain ⟨g1, g2⟩ := hout k x hx
    exact (hP k x hx').kept (hk1 x.1 g1 g2)
  · exact (hout i x hx).2 (by rw [hxy]; exact hD1.2 j y hy)
/-- a constructor's end -/
theorem zi_ret {u : Nat → Nat} {h : Nat} {bsf : (Nat → Nat) → List va_W} (hx : p.tables.exec = Jvm.exec) (hb : c.code = cc) (hr : meth.sig.returnType = none) (hlk : meth.locks = false) (hu : u (0 + 0) = h) (hP : va_P G.1 vwCl (bsf u).flatten H) (hD : va_D A (bsf u).flatten) (hS : va_S A s.heap H locs) (hdg : decode cc pc = .ok (.return_, 1)) : W p l e R s m args below meth c H locs cells slots (MQ below (va_Qv (S := Nat → Nat) (fun u => u (0 + 0) = h) (fun u t => va_P G.1 vwCl (bsf u).flatten t.heap ∧ va_D A (bsf u).flatten) A) args s cells slots A) (F0 m pc ls []) :=
  W.vret hx hb hr (fun t ht _ => ⟨⟨u, rfl, hu, by rw [ht]; exact hP, hD⟩, hS.F ht⟩) hS.2.2 hdg hlk
end ZI
