/-! THE BASE OF THE WALKS: worlds as lists of blocks, a contract that says the one answer, calls in place. -/
/-- what stays: where the classes' fields lie, the classes of int[], byte[], int[][], byte[][] -/
abbrev zG : Type := va_G × ClassId × ClassId × ClassId × ClassId × (Nat → Nat) × (Nat → Nat) × Nat × Nat × (Nat → Int32)
/-- the script: where it lies, its length and ints -/
abbrev zb (G : zG) : Nat := G.2.2.2.2.2.2.2.1
abbrev zX (G : zG) : VSX := G.2.2.2.2.2.2.2.2
def zScr (G : zG) (A : Nat → Prop) (U : State) (H : Heap) : Prop := zb G < H.size ∧ ¬ A (zb G) ∧ va_X (zb G) (zX G).1 (zX G).2 U H
abbrev zTy (G : zG) : List (ClassId × FieldType) := [(G.2.1, .int), (G.2.2.1, .byte), (G.2.2.2.1, .array .int), (G.2.2.2.2.1, .array .byte)]
/-- the class' own String constants: entry, text, length, bytes -/
def zEnt : List Nat := [75, 77, 79, 81, 83, 85]
def zTxt : List String := ["c", "x", "xx", "xxx", "xxf", ""]
/-- what the text methods stand on: the constants, two static fields; none of it among what is written -/
theorem va_X.lt {b L : Nat} {xs : Nat → Int32} {U : State} {H : Heap} (h : va_X b L xs U H) : b < H.size := by
  obtain ⟨scr, h1, -⟩ := h
  exact (Array.getElem?_eq_some_iff.mp h1).1
def zS (G : zG) (A : Nat → Prop) (U : State) (H : Heap) : Prop := vk_S 6 zLen zByt G.2.2.2.2.2.1 G.2.2.2.2.2.2.1 A U H ∧ va_Z "java/lang/String" "COMPACT_STRINGS" "Z" (.int 1) A U H ∧ va_Zq "jdk/internal/util/Preconditions" "SIOOBE_FORMATTER" "Ljava/util/function/BiFunction;" A U H ∧ (∀ i : Nat, i < 6 → vk_R "CellKeys$Reader" (zEnt.getD i 0) (zTxt.getD i "") (G.2.2.2.2.2.1 i) U) ∧ zScr G A U H
theorem zS.blind {G : zG} {A : Nat → Prop} {U : State} {H : Heap} {g : JFrame} {mk : MethodId} {a : Array Value} (h : zS G A U H) : zS G A (U.calling g mk a) H := by
  obtain ⟨h1, h2, h3, h4, h5, h6, h7⟩ := h
  exact ⟨vk_S.moved (u := U) (U := U.calling g mk a) (Vm.Alike.refl U.vm) h1, va_Z.moved (u := U) (U := U.calling g mk a) (Vm.Alike.refl U.vm) h2, va_Zq.moved (u := U) (U := U.calling g mk a) (Vm.Alike.refl U.vm) h3, fun i hi => vk_R.same rfl (h4 i hi), h5, h6, va_X.moved (u := U) (U := U.calling g mk a) (Vm.Alike.refl U.vm) h7⟩
theorem zS.kept {G : zG} {A : Nat → Prop} {U : State} {H H1 : Heap} (h : zS G A U H) (hq : ∀ a : Nat, a < H.size → ¬ A a → H1[a]? = H[a]?) : zS G A U H1 := by
  obtain ⟨h1, h2, h3, h4, h5, h6, h7⟩ := h
  exact ⟨h1.kept hq, h2.kept hq, h3.kept hq, h4, (va_X.kept h7 (hq _ h5 h6)).lt, h6, va_X.kept h7 (hq _ h5 h6)⟩
theorem zS.narrow {G : zG} {A B : Nat → Prop} {U : State} {H : Heap} (h : zS G A U H) (hAB : ∀ q, B q → A q) : zS G B U H := by
  obtain ⟨h1, h2, h3, h4, h5, h6, h7⟩ := h
  exact ⟨h1.narrow hAB, h2.narrow hAB, h3.narrow hAB, h4, h5, fun q => h6 (hAB _ q), h7⟩
theorem zS.warm {G : zG} {A : Nat → Prop} {s U : State} {H : Heap} (hW : s.WarmedH U.vm) (h : zS G A s H) : zS G A U H := by
  obtain ⟨h1, h2, h3, h4, h5, h6, h7⟩ := h
  exact ⟨h1.moved hW.alike, h2.moved hW.alike, h3.moved hW.alike, fun i hi => (h4 i hi).warm hW, h5, h6, h7.moved hW.alike⟩
abbrev zK (G : zG) (U : State) : Prop := va_K G.1 vwCl (zTy G) U
def zH (G : zG) (A : Nat → Prop) (H0 : Heap) (bs : List va_W) (H : Heap) (locs : List Loc) : Prop := va_P G.1 vwCl bs.flatten H ∧ va_D A bs.flatten ∧ va_S A H0 H locs
/-- a place within a block -/
theorem z_at {bs : List va_W} {bi ci : Nat} {blk : va_W} {x : Nat × va_E} (hb : bs[bi]? = some blk) (hc : blk[ci]? = some x) : ∃ q0 : Nat, bs.flatten[q0]? = some x ∧ ∀ x' : Nat × va_E, bs.flatten.set q0 x' = (bs.set bi (blk.set ci x')).flatten := by
  induction bs generalizing bi with
  | nil => simp at hb
  | cons b bs ih =>
    have hl := (List.getElem?_eq_some_iff.mp hc).1
    cases bi with
    | zero =>
      rw [List.getElem?_cons_zero] at hb
      cases hb
      refine ⟨ci, ?_, fun x' => ?_⟩
      · rw [List.flatten_cons, List.getElem?_append_left hl]; exact hc
      · rw [List.flatten_cons, List.set_append_left _ _ hl, List.set_cons_zero, List.flatten_cons]
    | succ bi =>
      rw [List.getElem?_cons_succ] at hb
      obtain ⟨q0, h1, h2⟩ := ih hb
      refine ⟨b.length + q0, ?_, fun x' => ?_⟩
      · rw [List.flatten_cons, List.getElem?_append_right (Nat.le_add_right _ _), Nat.add_sub_cancel_left]; exact h1
      · rw [List.flatten_cons, List.set_append_right _ _ (Nat.le_add_right _ _), Nat.add_sub_cancel_left, h2, List.set_cons_succ, List.flatten_cons]
def zput : List va_W → List Nat → List va_W → List va_W
  | bs, i :: is, b :: cs => zput (bs.set i b) is cs
  | bs, _, _ => bs
theorem zput_at : ∀ (is : List Nat) (cs bs : List va_W) (j : Nat) (b : va_W), is.length = cs.length → (zput bs is cs)[j]? = some b → (b ∈ cs) ∨ (j ∉ is ∧ bs[j]? = some b)
  | [], [], bs, j, b, _, h => Or.inr ⟨List.not_mem_nil, h⟩
  | [], c :: cs, bs, j, b, hl, _ => by simp at hl
  | i :: is, [], bs, j, b, hl, _ => by simp at hl
  | i :: is, c :: cs, bs, j, b, hl, h => by
    have hl' : is.length = cs.length := by simpa using hl
    rcases zput_at is cs (bs.set i c) j b hl' h with h1 | ⟨h1, h2⟩
    · exact Or.inl (List.mem_cons_of_mem _ h1)
    · by_cases e : j = i
      · subst e
        by_cases hlt : j < bs.length
        · rw [List.getElem?_set_self hlt] at h2
          cases h2
          exact Or.inl List.mem_cons_self
        · rw [List.getElem?_eq_none (by rw [List.length_set]; omega)] at h2
          cases h2
      · rw [List.getElem?_set_ne (fun q => e q.symm)] at h2
        exact Or.inr ⟨fun q => (List.mem_cons.mp q).elim e h1, h2⟩
theorem zput_ad : ∀ (is : List Nat) (cs bs : List va_W), (∀ (k i : Nat) (c : va_W), is[k]? = some i → cs[k]? = some c → ∃ b, bs[i]? = some b ∧ b.map Prod.fst = c.map Prod.fst) → (zput bs is cs).map (List.map Prod.fst) = bs.map (List.map Prod.fst)
  | [], _, bs, _ => by simp [zput]
  | i :: is, [], bs, _ => by simp [zput]
  | i :: is, c :: cs, bs, h => by
    obtain ⟨b, hb, hbc⟩ := h 0 i c rfl rfl
    have key : (bs.set i c).map (List.map Prod.fst) = bs.map (List.map Prod.fst) := by
      apply List.ext_getElem?
      intro j
      rw [List.getElem?_map, List.getElem?_map]
      by_cases e : j = i
      · subst e
        rw [List.getElem?_set_self (List.getElem?_eq_some_iff.mp hb).1, hb, Option.map_some, Option.map_some, hbc]
      · rw [List.getElem?_set_ne (fun q => e q.symm)]
    show (zput (bs.set i c) is cs).map (List.map Prod.fst) = _
    rw [zput_ad is cs (bs.set i c) (fun k i' c' h1 h2 => ?_), key]
    obtain ⟨b', hb', hbc'⟩ := h (k + 1) i' c' h1 h2
    by_cases e : i' = i
    · subst e
      rw [hb] at hb'
      cases hb'
      exact ⟨c, List.getElem?_set_self (List.getElem?_eq_some_iff.mp hb).1, by rw [← hbc']; exact hbc.symm⟩
    · exact ⟨b', by rw [List.getElem?_set_ne (fun q => e q.symm)]; exact hb', hbc'⟩
theorem z_D {A : Nat → Prop} {w w' : va_W} (h : va_D A w) (e : w'.map Prod.fst = w.map Prod.fst) : va_D A w' := by
  have key : ∀ (k : Nat) (x : Nat × va_E), w'[k]? = some x → ∃ x0, w[k]? = some x0 ∧ x0.1 = x.1 := by
    intro k x hk
    have h1 : (w'.map Prod.fst)[k]? = some x.1 := by rw [List.getElem?_map, hk]; rfl
    rw [e, List.getElem?_map] at h1
    cases hw : w[k]? with
    | none => rw [hw] at h1; cases h1
    | some x0 => rw [hw] at h1; exact ⟨x0, rfl, Option.some.inj h1⟩
  refine ⟨fun i j x y hi hj hxy => ?_, fun k x hk => ?_⟩
  · obtain ⟨x0, a1, a2⟩ := key i x hi
    obtain ⟨y0, b1, b2⟩ := key j y hj
    exact h.1 i j x0 y0 a1 b1 (a2.trans (hxy.trans b2.symm))
  · obtain ⟨x0, a1, a2⟩ := key k x hk
    rw [← a2]; exact h.2 k x0 a1
theorem z_pw {A : Nat → Prop} {w : va_W} (h : va_D A w) : w.Pairwise (fun x y => x.1 ≠ y.1) := by
  rw [List.pairwise_iff_getElem]
  intro i j hi hj hij e
  have := h.1 i j _ _ (List.getElem?_eq_getElem hi) (List.getElem?_eq_getElem hj) e
  omega
theorem z_apart {A : Nat → Prop} {bs : List va_W} (h : va_D A bs.flatten) {i j : Nat} {b c : va_W} (hb : bs[i]? = some b) (hc : bs[j]? = some c) (hij : i ≠ j) {x y : Nat × va_E} (hx : x ∈ b) (hy : y ∈ c) : x.1 ≠ y.1 := by
  have h1 := (List.pairwise_flatten.mp (z_pw h)).2
  rw [List.pairwise_iff_getElem] at h1
  obtain ⟨li, ei⟩ := List.getElem?_eq_some_iff.mp hb
  obtain ⟨lj, ej⟩ := List.getElem?_eq_some_iff.mp hc
  rcases Nat.lt_or_gt_of_ne hij with q | q
  · exact h1 i j li lj q x (by rw [ei]; exact hx) y (by rw [ej]; exact hy)
  · exact fun e => h1 j i lj li q y (by rw [ej]; exact hy) x (by rw [ei]; exact hx) e.symm
theorem z_P_mem {D : va_G} {cl : List vw_C} {w : va_W} {H : Heap} (h : va_P D cl w H) {x : Nat × va_E} (hx : x ∈ w) : va_at D cl x H := by
  obtain ⟨k, hk⟩ := List.getElem?_of_mem hx
  exact h k x hk
theorem z_P_of {D : va_G} {cl : List vw_C} {w : va_W} {H : Heap} (h : ∀ x ∈ w, va_at D cl x H) : va_P D cl w H := fun k x hk => h x (List.mem_of_getElem? hk)
theorem z_pick {bs cbs : List va_W} {is : List Nat} (hC : is.map (fun i => bs[i]?) = cbs.map some) : is.length = cbs.length ∧ ∀ (k : Nat) (c : va_W), cbs[k]? = some c → ∃ i, is[k]? = some i ∧ bs[i]? = some c := by
  refine ⟨by have := congrArg List.length hC; simpa using this, fun k c hk => ?_⟩
  have h1 : (is.map (fun i => bs[i]?))[k]? = some (some c) := by rw [hC, List.getElem?_map, hk]; rfl
  rw [List.getElem?_map] at h1
  cases hi : is[k]? with
  | none => rw [hi] at h1; cases h1
  | some i => rw [hi] at h1; exact ⟨i, rfl, Option.some.inj h1⟩
/-- a callee's blocks among the caller's -/
theorem z_sub {G : zG} {A : Nat → Prop} {H0 H : Heap} {bs cbs : List va_W} {locs : List Loc} {is : List Nat} (hw : zH G A H0 bs H locs) (hC : is.map (fun i => bs[i]?) = cbs.map some) (hn : va_nd is = true) : va_P G.1 vwCl cbs.flatten H ∧ va_D A cbs.flatten := by
  obtain ⟨hP, hD, hS⟩ := hw
  obtain ⟨hlen, hk⟩ := z_pick hC
  refine ⟨z_P_of fun x hx => ?_, ?_⟩
  · obtain ⟨c, hc, hxc⟩ := List.mem_flatten.mp hx
    obtain ⟨k, hkc⟩ := List.getElem?_of_mem hc
    obtain ⟨i, -, hi⟩ := hk k c hkc
    exact z_P_mem hP (List.mem_flatten.mpr ⟨c, List.mem_of_getElem? hi, hxc⟩)
  · have hpw : cbs.flatten.Pairwise (fun x y => x.1 ≠ y.1) := by
      rw [List.pairwise_flatten]
      have hb := (List.pairwise_flatten.mp (z_pw hD)).1
      refine ⟨fun c hc => ?_, ?_⟩
      · obtain ⟨k, hkc⟩ := List.getElem?_of_mem hc
        obtain ⟨i, -, hi⟩ := hk k c hkc
        exact hb c (List.mem_of_getElem? hi)
      · rw [List.pairwise_iff_getElem]
        intro a b ha hb' hab x hx y hy
        obtain ⟨i, e1, hi⟩ := hk a _ (List.getElem?_eq_getElem ha)
        obtain ⟨j, e2, hj⟩ := hk b _ (List.getElem?_eq_getElem hb')
        refine z_apart hD hi hj (fun e => ?_) hx hy
        subst e
        have := va_nd_inj is hn a b i e1 e2
        omega
    rw [List.pairwise_iff_getElem] at hpw
    refine ⟨fun i j x y hi hj hxy => ?_, fun k x hx => ?_⟩
    · obtain ⟨li, ei⟩ := List.getElem?_eq_some_iff.mp hi
      obtain ⟨lj, ej⟩ := List.getElem?_eq_some_iff.mp hj
      rcases Nat.lt_trichotomy i j with q | q | q
      · exact absurd (by rw [ei, ej]; exact hxy) (hpw i j li lj q)
      · exact q
      · exact absurd (by rw [ei, ej]; exact hxy.symm) (hpw j i lj li q)
    · obtain ⟨c, hc, hxc⟩ := List.mem_flatten.mp (List.mem_of_getElem? hx)
      obtain ⟨k', hkc⟩ := List.getElem?_of_mem hc
      obtain ⟨i, -, hi⟩ := hk k' c hkc
      obtain ⟨k2, h2⟩ := List.getElem?_of_mem (List.mem_flatten.mpr ⟨c, List.mem_of_getElem? hi, hxc⟩)
      exact hD.2 k2 x h2
/-- behind a call that made nothing -/
theorem z_back {G : zG} {A : Nat → Prop} {H0 H H1 : Heap} {bs cbs cbs' bs' : List va_W} {locs locs1 : List Loc} {is : List Nat} (hw : zH G A H0 bs H locs) (hC : is.map (fun i => bs[i]?) = cbs.map some) (had : cbs'.map (List.map Prod.fst) = cbs.map (List.map Prod.fst)) (hb : zput bs is cbs' = bs')
    (hP1 : va_P G.1 vwCl cbs'.flatten H1) (hk : ∀ q : Nat, q < H.size → ¬ va_A cbs.flatten H.size q → H1[q]? = H[q]?) (hS : va_S A H0 H1 locs1) : zH G A H0 bs' H1 locs1 := by
  obtain ⟨hP, hD, -⟩ := hw
  obtain ⟨hlen, hpk⟩ := z_pick hC
  have hlen' : is.length = cbs'.length := by have := congrArg List.length had; simp at this; omega
  subst hb
  refine ⟨z_P_of fun x hx => ?_, ?_, hS⟩
  · obtain ⟨b, hb, hxb⟩ := List.mem_flatten.mp hx
    obtain ⟨j, hj⟩ := List.getElem?_of_mem hb
    rcases zput_at is cbs' bs j b hlen' hj with h | ⟨h1, h2⟩
    · exact z_P_mem hP1 (List.mem_flatten.mpr ⟨b, h, hxb⟩)
    · have hxa := z_P_mem hP (List.mem_flatten.mpr ⟨b, List.mem_of_getElem? h2, hxb⟩)
      refine hxa.kept (hk x.1 hxa.lt ?_)
      rintro (⟨k, e, h3⟩ | h3)
      · obtain ⟨c, hc, hxc⟩ := List.mem_flatten.mp (List.mem_of_getElem? h3)
        obtain ⟨k', hkc⟩ := List.getElem?_of_mem hc
        obtain ⟨i, e1, hi⟩ := hpk k' c hkc
        exact z_apart hD h2 hi (fun q => h1 (by rw [q]; exact List.mem_of_getElem? e1)) hxb hxc rfl
      · exact absurd hxa.lt (by omega)
  · refine z_D hD ?_
    rw [List.map_flatten, List.map_flatten, zput_ad is cbs' bs]
    intro k i c h1 h2
    have hkl : k < cbs.length := by have := (List.getElem?_eq_some_iff.mp h2).1; omega
    obtain ⟨i', e1, hi⟩ := hpk k _ (List.getElem?_eq_getElem hkl)
    rw [h1] at e1
    cases e1
    refine ⟨_, hi, ?_⟩
    have h4 : (cbs'.map (List.map Prod.fst))[k]? = (cbs.map (List.map Prod.fst))[k]? := by rw [had]
    rw [List.getElem?_map, List.getElem?_map, h2, List.getElem?_eq_getElem hkl] at h4
    exact (Option.some.inj h4).symm
/-! the contract: from just this world, with just these arguments, this answer, that world -/
def zPre (G : zG) (bs : List va_W) (sz : Nat) : State → Prop := fun U => U.heap.size = sz ∧ va_P G.1 vwCl bs.flatten U.heap ∧ zK G U ∧ va_D (fun _ => True) bs.flatten ∧ zS G (va_A bs.flatten sz) U U.heap
def zPost (G : zG) (bs : List va_W) : State → Prop := fun t => va_P G.1 vwCl bs.flatten t.heap
def zQ (rv : Option Value) (B : State → Prop) (A : Nat → Prop) : Array Value → State → Outcome → State → Prop := fun _ st oc t => oc = .returned rv ∧ B t ∧ va_F A st t
def zC (y : MethodName) (ws : List Cond) (bytes : ByteArray) (maxL : Nat) (ret : Option FieldType) (n : Nat) : Prop := (∃ ws', ws = Cond.code y bytes maxL ret :: ws') ∧ plainName y.cls = true ∧ y.cls ≠ "java/lang/invoke/MethodHandle" ∧ y.cls ≠ "java/lang/invoke/VarHandle" ∧ (parseMethodDescriptor y.desc).map (fun d => d.parameters.length) = some n
def zMet (l : Launch) (y : MethodName) (ws : List Cond) (fr lc : Nat) (G : zG) (av : List Value) (bs : List va_W) (rv : Option Value) (bs' : List va_W) : Prop :=
  ∀ sz : Nat, Met l y ws { frames := fr, cells := 0, slots := 0, locals := lc } (va_Pc av (zPre G bs sz)) (zQ rv (zPost G bs') (va_A bs.flatten sz)) 0 0 (va_A bs.flatten sz)
/-- what holds all through a method's run -/
abbrev zZ (p : Program) (s : State) (m : MethodId) (args : Array Value) (meth : Method) (c : Code) (A : Nat → Prop) (G : zG) (cc : ByteArray) (nL : Nat) (own : String) (Ts : List Cond) (ret : Option FieldType) : Prop :=
  (p.tables.exec = Jvm.exec ∧ c.code = cc ∧ c.maxLocals = nL ∧ s.vm.findClass own = some m.cls ∧ ∀ w ∈ Ts, w.before args s = true) ∧ meth.sig.returnType = ret ∧ meth.locks = false ∧ zK G s ∧ (∀ q : Nat, s.heap.size ≤ q → A q) ∧ zS G A s s.heap
theorem z_met {l : Launch} {y : MethodName} {ws : List Cond} {bytes : ByteArray} {maxL n : Nat} {ret : Option FieldType} {fr lc : Nat} {G : zG} {av : List Value} {bs : List va_W} {rv : Option Value} {bs' : List va_W} (hc : zC y ws bytes maxL ret n) (hlen : (lg_sl av).length ≤ maxL)
    (body : ∀ (p : Program) (e : Env) (s : State) (m : MethodId) (below : List Frame) (meth : Method) (c : Code) (A : Nat → Prop) (ls : Array Slot), zZ p s m av.toArray meth c A G bytes maxL y.cls ws ret → lv_has ls maxL (lv_args 0 av) → zH G A s.heap bs s.heap [] →
      W p l e { frames := fr, cells := 0, slots := 0, locals := lc } s m av.toArray below meth c s.heap [] 0 0 (MQ below (zQ rv (zPost G bs') A) av.toArray s 0 0 A) (F0 m 0 ls [])) : zMet l y ws fr lc G av bs rv bs' := by
  obtain ⟨⟨ws', hw⟩, hy, -, -, -⟩ := hc
  intro sz
  refine Met.ofW (cc := bytes) (maxL := maxL) (ret := ret) hy hw ?_
  intro p e s m args below meth c s₁ B hml hv
  obtain ⟨rfl, hsz, hP, hK, hD0, hT⟩ := hv
  have hts := atoms_spec (ws := ws) B.pre
  have hown : s.vm.findClass y.cls = some m.cls := findClass_of_methodNamed B.named
  subst hsz
  have hD := hD0.self (sz := s.heap.size)
  rw [lg_entry_eq]
  exact body p e s m below meth c _ _ ⟨⟨B.exec, B.bytes, hml, hown, hts⟩, B.returns, B.notSynchronized, hK, fun q h => Or.inr h, hT⟩ (lv_entry av hlen) ⟨hP, hD, va_S.rf⟩
section ZW
variable {p : Program} {l : Launch} {e : Env} {R : Room} {s : State} {m : MethodId} {args : Array Value} {below : List Frame} {meth : Method} {c : Code} {H : Heap} {locs : List Loc} {cells slots : Nat} {Q : State → Prop} {cc : ByteArray} {pc : Nat} {ls : Array Slot} {st0 rest : List Value} {A : Nat → Prop} {G : zG} {bs bs' cbs cbs' : List va_W}
theorem z_after {a : Array Value} {rv : Option Value} {is : List Nat} (hr : va_Run p l e R s m args below meth c H locs 0 0 0 0 (F0 m pc ls st0) rest (zQ rv (zPost G cbs') (va_A cbs.flatten H.size) a) (va_A cbs.flatten H.size)) (hA : ∀ q : Nat, s.heap.size ≤ q → A q) (hw : zH G A s.heap bs H locs)
    (hC : is.map (fun i => bs[i]?) = cbs.map some) (hn : va_nd is = true) (had : cbs'.map (List.map Prod.fst) = cbs.map (List.map Prod.fst)) (hb : zput bs is cbs' = bs')
    (kk : ∀ (H1 : Heap) (locs1 : List Loc), zH G A s.heap bs' H1 locs1 → W p l e R s m args below meth c H1 locs1 0 0 Q (F0 m (pc + 3) ls (rv.toList ++ rest))) : W p l e R s m args below meth c H locs 0 0 Q (F0 m pc ls st0) := by
  have hF : ∀ q, va_A cbs.flatten H.size q → A q := by
    rintro q (⟨k, x, h⟩ | h)
    · exact (z_sub hw hC hn).2.2 k (q, x) h
    · exact hA q (Nat.le_trans hw.2.2.1 h)
  intro T hT X
  obtain ⟨v, st₀, t, T', L, h0, X', hL, e1, e2, ⟨hv, hB, hz, hk⟩, st⟩ := hr T hT X
  cases hv
  rw [h0] at hz hk
  have hS := hw.2.2
  obtain ⟨t2, a1, b1⟩ := kk T'.heap (locs ++ L) (z_back hw hC had hb (by rw [e1]; exact hB) (fun q h1 h2 => by rw [e1]; exact hk q h1 h2)
    ⟨Nat.le_trans hS.1 (by rw [e1]; exact hz), fun q h1 h2 => by rw [e1, hk q (Nat.lt_of_lt_of_le h1 hS.1) (fun z => h2 (hF q z))]; exact hS.2.1 q h1 h2, fun q hq => by
      rcases List.mem_append.mp hq with h | h
      · exact hS.2.2 q h
      · exact hF _ (hL q h)⟩) T' rfl X'
  exact ⟨t2, st t2 a1, b1⟩
theorem z_blind {av : List Value} {sz : Nat} : FrameBlind (va_Pc av (zPre G bs sz)) := fun a U g mk q => by
  obtain ⟨q0, q1, qP, qK, qD, qT⟩ := q
  exact ⟨q0, q1, qP, va_K.moved (u := U) (U := U.calling g mk a) (Vm.Alike.refl U.vm) qK, qD, zS.blind (H := U.heap) qT⟩
theorem z_pre {av : List Value} (hK : zK G s) (hT : zS G A s s.heap) (hA : ∀ q : Nat, s.heap.size ≤ q → A q) (hw : zH G A s.heap bs H locs) {is : List Nat} (hC : is.map (fun i => bs[i]?) = cbs.map some) (hn : va_nd is = true) (U : State) (hU : U.heap = H) (hW : s.WarmedH U.vm) : va_Pc av (zPre G cbs H.size) av.toArray U := by
  obtain ⟨hP, hD⟩ := z_sub hw hC hn
  refine ⟨rfl, by rw [hU], by rw [hU]; exact hP, va_K.moved hW.alike hK, hD.weaken (fun _ _ _ _ => trivial), ?_⟩
  rw [hU]
  refine ((hT.kept hw.2.2.2.1).narrow ?_).warm hW
  rintro q (⟨k, x, h⟩ | h)
  · exact hD.2 k (q, x) h
  · exact hA q (Nat.le_trans hw.2.2.1 h)
/-- a call of an instance method of ours -/
theorem z_callV {nL : Nat} {own : String} {Ts : List Cond} (S : CallFix p m c cc nL s args Ts own) {y : MethodName} {ws : List Cond} {bytes : ByteArray} {maxL n index ci fr lc : Nat} {ret : Option FieldType} {C : String} {T : u_T} {N b : Nat} {fs : List Value} {As : List Value} {rv : Option Value} {is : List Nat}
    (hM : zMet l y ws fr lc G (.ref b :: As) cbs rv cbs') (hc : zC y ws bytes maxL ret n) (hyC : y.cls = C) (hG : GoodIn Ts (wsV own index C y ws)) (hR : fr + 1 ≤ R.frames ∧ 8 + (maxL + 11) + lc ≤ R.locals)
    (hK : zK G s) (hA : ∀ q : Nat, s.heap.size ≤ q → A q) (hT : zS G A s s.heap) (hw : zH G A s.heap bs H locs)
    (hC : is.map (fun i => bs[i]?) = cbs.map some) (hn : va_nd is = true) (had : cbs'.map (List.map Prod.fst) = cbs.map (List.map Prod.fst)) (hb : zput bs is cbs' = bs')
    (hq : cbs.flatten[0]? = some (b, .inr (ci, fs))) (hcl : vwCl[ci]? = some (C, T, N)) (hnA : As.length = n) (hls : ls.size = nL) (hst : st0 = As.reverse ++ .ref b :: rest) (hrm : (rest.map fun v => v.category).sum ≤ 8) (hdg : decode cc pc = .ok (.invokevirtual index, 3))
    (kk : ∀ (H1 : Heap) (locs1 : List Loc), zH G A s.heap bs' H1 locs1 → W p l e R s m args below meth c H1 locs1 0 0 Q (F0 m (pc + 3) ls (rv.toList ++ rest))) : W p l e R s m args below meth c H locs 0 0 Q (F0 m pc ls st0) := by
  obtain ⟨⟨ws', hw0⟩, -, h1, h2, h3⟩ := hc
  exact z_after (va_runV (As := As) (rest := rest) S (hM H.size) (cwV n S.2.2.2.2 hG hw0 rfl rfl ⟨hyC, h1, h2, h3⟩ hR) ⟨z_blind, va_recv (q := (C, T, N)) hK (z_sub hw hC hn).1 hcl hq, z_pre hK hT hA hw hC hn⟩ rfl hnA hls hst (lv_room hrm) hdg ⟨Nat.zero_le _, Nat.zero_le _⟩) hA hw hC hn had hb kk
/-- a call of a static method -/
theorem z_callS {nL : Nat} {own : String} {Ts : List Cond} (S : CallFix p m c cc nL s args Ts own) {y : MethodName} {ws : List Cond} {bytes : ByteArray} {maxL n index fr lc : Nat} {ret : Option FieldType} {As : List Value} {rv : Option Value} {is : List Nat}
    (hM : zMet l y ws fr lc G As cbs rv cbs') (hc : zC y ws bytes maxL ret n) (hG : GoodIn Ts (va_wsS own index y ws)) (hR : fr + 1 ≤ R.frames ∧ 8 + (maxL + 11) + lc ≤ R.locals)
    (hK : zK G s) (hA : ∀ q : Nat, s.heap.size ≤ q → A q) (hT : zS G A s s.heap) (hw : zH G A s.heap bs H locs)
    (hC : is.map (fun i => bs[i]?) = cbs.map some) (hn : va_nd is = true) (had : cbs'.map (List.map Prod.fst) = cbs.map (List.map Prod.fst)) (hb : zput bs is cbs' = bs')
    (hnA : As.length = n) (hls : ls.size = nL) (hst : st0 = As.reverse ++ rest) (hrm : (rest.map fun v => v.category).sum ≤ 8) (hdg : decode cc pc = .ok (.invokestatic index, 3))
    (kk : ∀ (H1 : Heap) (locs1 : List Loc), zH G A s.heap bs' H1 locs1 → W p l e R s m args below meth c H1 locs1 0 0 Q (F0 m (pc + 3) ls (rv.toList ++ rest))) : W p l e R s m args below meth c H locs 0 0 Q (F0 m pc ls st0) := by
  obtain ⟨⟨ws', hw0⟩, -, h1, h2, h3⟩ := hc
  exact z_after (va_runS (As := As) (rest := rest) S (hM H.size) (va_cwS n S.2.2.2.2 hG hw0 rfl rfl ⟨h1, h2, h3⟩ hR) ⟨z_blind, z_pre hK hT hA hw hC hn⟩ rfl hnA hls hst (lv_room hrm) hdg ⟨Nat.zero_le _, Nat.zero_le _⟩) hA hw hC hn had hb kk
/-! fields and arrays by block and place -/
theorem z_get {Ts : List Cond} {own C : String} {T : u_T} {N ci index : Nat} {nL : Nat} (S : CallFix p m c cc nL s args Ts own) (hin : ∀ w ∈ u_ws C T N, w ∈ Ts) (hK : zK G s) (hw : zH G A s.heap bs H locs) (bi k : Nat) {blk : va_W} {a : Nat} {fs : List Value} (hb : bs[bi]? = some blk) (he : blk[0]? = some (a, .inr (ci, fs))) (hc : vwCl[ci]? = some (C, T, N)) (hk : k < N) (hlink : (Cond.fieldLink own index (T k).1 (T k).2.1 (T k).2.2.1).before args s = true) {v : Value} (hv : fs[k]? = some v) (hdg : decode cc pc = .ok (.getfield index, 3))
    (kk : W p l e R s m args below meth c H locs cells slots Q (F0 m (pc + 3) ls (v :: rest))) : W p l e R s m args below meth c H locs cells slots Q (F0 m pc ls (.ref a :: rest)) := by
  obtain ⟨q0, h1, -⟩ := z_at hb he
  exact va_get S.1 S.2.1 S.2.2.2.2 hin S.2.2.2.1 hK hw.1 q0 h1 hc k hk hlink (fun _ h => h) hv hdg kk
theorem z_put {Ts : List Cond} {own C : String} {T : u_T} {N ci index : Nat} {nL : Nat} (S : CallFix p m c cc nL s args Ts own) (hin : ∀ w ∈ u_ws C T N, w ∈ Ts) (ty0 : Nat → FieldType) (hty : ∀ k, k < N → parseFieldDescriptor (T k).2.2.1 = some (ty0 k)) (hnm : ∀ a, a < N → ∀ b, b < N → a ≠ b → (T a).2.1 ≠ (T b).2.1) (hK : zK G s) (hw : zH G A s.heap bs H locs) (bi k : Nat) {blk blk' : va_W} {a : Nat} {fs : List Value} (hb : bs[bi]? = some blk) (he : blk[0]? = some (a, .inr (ci, fs))) (hc : vwCl[ci]? = some (C, T, N)) (hk : k < N) (hlink : (Cond.fieldLink own index (T k).1 (T k).2.1 (T k).2.2.1).before args s = true) (hfin : (T k).2.2.2 = false) {ty : FieldType} {v : Value} (hd : parseFieldDescriptor (T k).2.2.1 = some ty) (hn : narrow ty v = v) (hfit : fits ty v = true) (hl : k < fs.length) (hdg : decode cc pc = .ok (.putfield index, 3))
    (h1 : blk.set 0 (a, .inr (ci, fs.set k v)) = blk') (h2 : bs.set bi blk' = bs')
    (kk : ∀ (H1 : Heap) (locs1 : List Loc), zH G A s.heap bs' H1 locs1 → W p l e R s m args below meth c H1 locs1 cells slots Q (F0 m (pc + 3) ls rest)) : W p l e R s m args below meth c H locs cells slots Q (F0 m pc ls (v :: .ref a :: rest)) := by
  obtain ⟨q0, g1, g2⟩ := z_at hb he
  refine va_put S.1 S.2.1 S.2.2.2.2 hin ty0 hty hnm S.2.2.2.1 hK hw.1 hw.2.1 hw.2.2 q0 g1 hc k hk hlink (fun _ h => h) hfin hd hn hfit hl hdg (fun H1 locs1 hP hD hS => kk H1 locs1 ?_)
  rw [g2, h1, h2] at hP hD
  exact ⟨hP, hD, hS⟩
theorem z_iald {Ts : List Cond} {own : String} {nL : Nat} (S : CallFix p m c cc nL s args Ts own) (hK : zK G s) (hw : zH G A s.heap bs H locs) (bi k : Nat) {blk : va_W} {a n : Nat} {f : Nat → Int32} {i : Int32} (hin : vp_in i n) (hb : bs[bi]? = some blk) (he : blk[k]? = some (a, .inl (G.2.1, n, .inl f))) (hdg : decode cc pc = .ok (.iaload, 1))
    (kk : W p l e R s m args below meth c H locs cells slots Q (F0 m (pc + 1) ls (.int (f i.toNatClampNeg) :: rest))) : W p l e R s m args below meth c H locs cells slots Q (F0 m pc ls (.int i :: .ref a :: rest)) := by
  obtain ⟨q0, h1, -⟩ := z_at hb he
  exact va_iald S.1 S.2.1 hK hw.1 q0 0 h1 rfl hin hdg kk
theorem z_bald {Ts : List Cond} {own : String} {nL : Nat} (S : CallFix p m c cc nL s args Ts own) (hK : zK G s) (hw : zH G A s.heap bs H locs) (bi k : Nat) {blk : va_W} {a n : Nat} {f : Nat → Int32} {i : Int32} (hin : vp_in i n) (hb : bs[bi]? = some blk) (he : blk[k]? = some (a, .inl (G.2.2.1, n, .inl f))) (hdg : decode cc pc = .ok (.baload, 1))
    (kk : W p l e R s m args below meth c H locs cells slots Q (F0 m (pc + 1) ls (.int (f i.toNatClampNeg) :: rest))) : W p l e R s m args below meth c H locs cells slots Q (F0 m pc ls (.int i :: .ref a :: rest)) := by
  obtain ⟨q0, h1, -⟩ := z_at hb he
  exact va_bald S.1 S.2.1 hK hw.1 q0 1 h1 rfl hin hdg kk
theorem z_iast {Ts : List Cond} {own : String} {nL : Nat} (S : CallFix p m c cc nL s args Ts own) (hK : zK G s) (hw : zH G A s.heap bs H locs) (bi k : Nat) {blk blk' : va_W} {a n : Nat} {f : Nat → Int32} {i x : Int32} (hin : vp_in i n) (hb : bs[bi]? = some blk) (he : blk[k]? = some (a, .inl (G.2.1, n, .inl f))) (hdg : decode cc pc = .ok (.iastore, 1)) (h1 : blk.set k (a, .inl (G.2.1, n, .inl (upd f i.toNatClampNeg x))) = blk') (h2 : bs.set bi blk' = bs')
    (kk : ∀ (H1 : Heap) (locs1 : List Loc), zH G A s.heap bs' H1 locs1 → W p l e R s m args below meth c H1 locs1 cells slots Q (F0 m (pc + 1) ls rest)) : W p l e R s m args below meth c H locs cells slots Q (F0 m pc ls (.int x :: .int i :: .ref a :: rest)) := by
  obtain ⟨q0, g1, g2⟩ := z_at hb he
  refine va_iast S.1 S.2.1 hK hw.1 hw.2.1 hw.2.2 q0 0 g1 rfl hin hdg (fun H1 locs1 hP hD hS => kk H1 locs1 ?_)
  rw [g2, h1, h2] at hP hD
  exact ⟨hP, hD, hS⟩
theorem z_bast {Ts : List Cond} {own : String} {nL : Nat} (S : CallFix p m c cc nL s args Ts own) (hK : zK G s) (hw : zH G A s.heap bs H locs) (bi k : Nat) {blk blk' : va_W} {a n : Nat} {f : Nat → Int32} {i x : Int32} (hin : vp_in i n) (hb : bs[bi]? = some blk) (he : blk[k]? = some (a, .inl (G.2.2.1, n, .inl f))) (hdg : decode cc pc = .ok (.bastore, 1)) (h1 : blk.set k (a, .inl (G.2.2.1, n, .inl (upd f i.toNatClampNeg x.toInt8.toInt32))) = blk') (h2 : bs.set bi blk' = bs')
    (kk : ∀ (H1 : Heap) (locs1 : List Loc), zH G A s.heap bs' H1 locs1 → W p l e R s m args below meth c H1 locs1 cells slots Q (F0 m (pc + 1) ls rest)) : W p l e R s m args below meth c H locs cells slots Q (F0 m pc ls (.int x :: .int i :: .ref a :: rest)) := by
  obtain ⟨q0, g1, g2⟩ := z_at hb he
  refine va_bast S.1 S.2.1 hK hw.1 hw.2.1 hw.2.2 q0 1 g1 rfl hin hdg (fun H1 locs1 hP hD hS => kk H1 locs1 ?_)
  rw [vp_nar_byte, g2, h1, h2] at hP hD
  exact ⟨hP, hD, hS⟩
theorem z_alen {Ts : List Cond} {own : String} {nL : Nat} (S : CallFix p m c cc nL s args Ts own) (hK : zK G s) (hw : zH G A s.heap bs H locs) (bi k : Nat) {blk : va_W} {a t0 : Nat} {cA : ClassId} {x : vp_A} {ty : FieldType} {v : Int32} (hb : bs[bi]? = some blk) (he : blk[k]? = some (a, .inl (cA, x))) (ht : (zTy G)[t0]? = some (cA, ty)) (hv : Int32.ofNat x.1 = v) (hdg : decode cc pc = .ok (.arraylength, 1))
    (kk : W p l e R s m args below meth c H locs cells slots Q (F0 m (pc + 1) ls (.int v :: rest))) : W p l e R s m args below meth c H locs cells slots Q (F0 m pc ls (.ref a :: rest)) := by
  obtain ⟨q0, h1, -⟩ := z_at hb he
  exact va_alen S.1 S.2.1 hK hw.1 q0 t0 h1 ht hv hdg kk
theorem z_aald {Ts : List Cond} {own : String} {nL : Nat} (S : CallFix p m c cc nL s args Ts own) (hK : zK G s) (hw : zH G A s.heap bs H locs) (bi k t0 : Nat) {blk : va_W} {a n : Nat} {cA : ClassId} {ty : FieldType} {f : Nat → Option Nat} {i : Int32} (hin : vp_in i n) (hb : bs[bi]? = some blk) (he : blk[k]? = some (a, .inl (cA, n, .inr (.inr (.inr (.inr f)))))) (ht : (zTy G)[t0]? = some (cA, .array ty)) (hdg : decode cc pc = .ok (.aaload, 1)) {r : Nat} (hr : f i.toNatClampNeg = some r)
    (kk : W p l e R s m args below meth c H locs cells slots Q (F0 m (pc + 1) ls (.ref r :: rest))) : W p l e R s m args below meth c H locs cells slots Q (F0 m pc ls (.int i :: .ref a :: rest)) := by
  obtain ⟨q0, h1, -⟩ := z_at hb he
  have hlt : i.toNatClampNeg < n := Nat.not_le.mp fun q => hin (Or.inr q)
  exact W.aald (v := .ref r) (ty := .array ty) S.1 S.2.1 (hw.1 q0 _ h1) ((hK.2 t0 _ ht).1 n (fun j => va_rf (f j))) rfl (fun q => by cases q) (by show ¬ (i < 0 ∨ (arrV _ _ _).slots.size ≤ _); rw [arrV_size]; exact hin) (by show (arrV _ _ _).slots[_]? = _; rw [arrV_read _ _ hlt, hr]; rfl) rfl rfl hdg kk
/-! ends -/
theorem z_iret {v : Int32} (hx : p.tables.exec = Jvm.exec) (hb : c.code = cc) (hr : meth.sig.returnType = some .int) (hlk : meth.locks = false) (hw : zH G A s.heap bs H locs) (hdg : decode cc pc = .ok (.ireturn, 1)) : W p l e R s m args below meth c H locs 0 0 (MQ below (zQ (some (.int v)) (zPost G bs) A) args s 0 0 A) (F0 m pc ls [.int v]) :=
  W.iret hx hb hr (fun t ht _ => ⟨rfl, by show va_P _ _ _ t.heap; rw [ht]; exact hw.1, hw.2.2.F ht⟩) hw.2.2.2.2 hdg hlk
theorem z_zret {v : Int32} {ty : FieldType} (hx : p.tables.exec = Jvm.exec) (hb : c.code = cc) (hr : meth.sig.returnType = some ty) (hn : narrow ty (.int v) = .int v) (hlk : meth.locks = false) (hw : zH G A s.heap bs H locs) (hdg : decode cc pc = .ok (.ireturn, 1)) : W p l e R s m args below meth c H locs 0 0 (MQ below (zQ (some (.int v)) (zPost G bs) A) args s 0 0 A) (F0 m pc ls [.int v]) :=
  W.zret hx hb hr hn (fun t ht _ => ⟨rfl, by show va_P _ _ _ t.heap; rw [ht]; exact hw.1, hw.2.2.F ht⟩) hw.2.2.2.2 hdg hlk
theorem z_lret {v : Int64} (hx : p.tables.exec = Jvm.exec) (hb : c.code = cc) (hr : meth.sig.returnType = some .long) (hlk : meth.locks = false) (hw : zH G A s.heap bs H locs) (hdg : decode cc pc = .ok (.lreturn, 1)) : W p l e R s m args below meth c H locs 0 0 (MQ below (zQ (some (.long v)) (zPost G bs) A) args s 0 0 A) (F0 m pc ls [.long v]) :=
  W.lret hx hb hr (fun t ht _ => ⟨rfl, by show va_P _ _ _ t.heap; rw [ht]; exact hw.1, hw.2.2.F ht⟩) hw.2.2.2.2 hdg hlk
theorem z_vret (hx : p.tables.exec = Jvm.exec) (hb : c.code = cc) (hr : meth.sig.returnType = none) (hlk : meth.locks = false) (hw : zH G A s.heap bs H locs) (hdg : decode cc pc = .ok (.return_, 1)) : W p l e R s m args below meth c H locs 0 0 (MQ below (zQ none (zPost G bs) A) args s 0 0 A) (F0 m pc ls []) :=
  W.vret hx hb hr (fun t ht _ => ⟨rfl, by show va_P _ _ _ t.heap; rw [ht]; exact hw.1, hw.2.2.F ht⟩) hw.2.2.2.2 hdg hlk
theorem z_aret {v : Value} {rt : FieldType} (hx : p.tables.exec = Jvm.exec) (hb : c.code = cc) (hr : meth.sig.returnType = some rt) (hrt : (∃ n, rt = .object n) ∨ ∃ t, rt = .array t) (hv : v = .null ∨ ∃ a, v = .ref a) (hlk : meth.locks = false) (hw : zH G A s.heap bs H locs) (hdg : decode cc pc = .ok (.areturn, 1)) : W p l e R s m args below meth c H locs 0 0 (MQ below (zQ (some v) (zPost G bs) A) args s 0 0 A) (F0 m pc ls [v]) :=
  W.aret hx hb hr hrt hv (fun t ht _ => ⟨rfl, by show va_P _ _ _ t.heap; rw [ht]; exact hw.1, hw.2.2.F ht⟩) hw.2.2.2.2 hdg hlk
end ZW
/-! the pure side: guards, binds -/
theorem zIn_vp {i : Int32} {n : Nat} (h : zIn i n = true) : vp_in i n := by
  unfold zIn at h
  rw [Bool.and_eq_true, decide_eq_true_eq, decide_eq_true_eq] at h
  exact vp_in_iff.mpr h
theorem z_gd {α : Type} {c : Prop} [Decidable c] {X : Option α} {y : α} (h : (if c then X else none) = some y) : c ∧ X = some y := by
  by_cases hc : c
  · rw [if_pos hc] at h; exact ⟨hc, h⟩
  · rw [if_neg hc] at h; cases h
theorem z_gn {α : Type} {c : Prop} [Decidable c] {X : Option α} {y : α} (h : (if c then none else X) = some y) : ¬ c ∧ X = some y := by
  by_cases hc : c
  · rw [if_pos hc] at h; cases h
  · rw [if_neg hc] at h; exact ⟨hc, h⟩
theorem z_t {α : Type} {c : Prop} [Decidable c] {X Y : Option α} {y : α} (hc : c) (h : (if c then X else Y) = some y) : X = some y := by rw [if_pos hc] at h; exact h
theorem z_f {α : Type} {c : Prop} [Decidable c] {X Y : Option α} {y : α} (hc : ¬ c) (h : (if c then X else Y) = some y) : Y = some y := by rw [if_neg hc] at h; exact h
theorem z_bd {α β : Type} {X : Option α} {f : α → Option β} {y : β} (h : X.bind f = some y) : ∃ x, X = some x ∧ f x = some y := by
  cases X with
  | none => cases h
  | some x => exact ⟨x, rfl, h⟩
theorem z_ne {x k : Int32} {n : Int} (hk : k.toInt = n) (h : ¬ x = k) : x.toInt ≠ n := fun e => h (Int32.toInt_inj.mp (e.trans hk.symm))
theorem z_nb {v : Int32} (h : v = 0 ∨ v = 1) : narrow .boolean (.int v) = .int v := by rcases h with rfl | rfl <;> rfl
theorem z_cond {c A B : Prop} [Decidable c] (a : c → A) (b : ¬ c → B) : (c → A) ∧ (¬ c → B) := ⟨a, b⟩
/-! a row of a grid -/
theorem z_grid {i : Int32} {n : Nat} {f : Nat → Nat} (h : vp_in i n) : (fun j => if j < n then some (f j) else none) i.toNatClampNeg = some (f i.toNatClampNeg) := by
  have hlt : i.toNatClampNeg < n := Nat.not_le.mp fun q => h (Or.inr q)
  show (if i.toNatClampNeg < n then _ else _) = _
  rw [if_pos hlt]
section ZW2
variable {p : Program} {l : Launch} {e : Env} {R : Room} {s : State} {m : MethodId} {args : Array Value} {below : List Frame} {meth : Method} {c : Code} {H : Heap} {locs : List Loc} {cells slots : Nat} {Q : State → Prop} {cc : ByteArray} {pc : Nat} {ls : Array Slot} {st0 rest : List Value} {A : Nat → Prop} {G : zG} {bs bs' cbs cbs' : List va_W}
theorem z_callV1 {nL : Nat} {own : String} {Ts : List Cond} (S : CallFix p m c cc nL s args Ts own) {y : MethodName} {ws : List Cond} {bytes : ByteArray} {maxL n index ci fr lc : Nat} {ret : Option FieldType} {C : String} {T : u_T} {N b : Nat} {fs : List Value} {As : List Value} {rv : Value} {is : List Nat}
    (hM : zMet l y ws fr lc G (.ref b :: As) cbs (some rv) cbs') (hc : zC y ws bytes maxL ret n) (hyC : y.cls = C) (hG : GoodIn Ts (wsV own index C y ws)) (hR : fr + 1 ≤ R.frames ∧ 8 + (maxL + 11) + lc ≤ R.locals)
    (hK : zK G s) (hA : ∀ q : Nat, s.heap.size ≤ q → A q) (hT : zS G A s s.heap) (hw : zH G A s.heap bs H locs)
    (hC : is.map (fun i => bs[i]?) = cbs.map some) (hn : va_nd is = true) (had : cbs'.map (List.map Prod.fst) = cbs.map (List.map Prod.fst)) (hb : zput bs is cbs' = bs')
    (hq : cbs.flatten[0]? = some (b, .inr (ci, fs))) (hcl : vwCl[ci]? = some (C, T, N)) (hnA : As.length = n) (hls : ls.size = nL) (hst : st0 = As.reverse ++ .ref b :: rest) (hrm : (rest.map fun v => v.category).sum ≤ 8) (hdg : decode cc pc = .ok (.invokevirtual index, 3))
    (kk : ∀ (H1 : Heap) (locs1 : List Loc), zH G A s.heap bs' H1 locs1 → W p l e R s m args below meth c H1 locs1 0 0 Q (F0 m (pc + 3) ls (rv :: rest))) : W p l e R s m args below meth c H locs 0 0 Q (F0 m pc ls st0) :=
  z_callV S hM hc hyC hG hR hK hA hT hw hC hn had hb hq hcl hnA hls hst hrm hdg kk
theorem z_callV0 {nL : Nat} {own : String} {Ts : List Cond} (S : CallFix p m c cc nL s args Ts own) {y : MethodName} {ws : List Cond} {bytes : ByteArray} {maxL n index ci fr lc : Nat} {ret : Option FieldType} {C : String} {T : u_T} {N b : Nat} {fs : List Value} {As : List Value} {is : List Nat}
    (hM : zMet l y ws fr lc G (.ref b :: As) cbs none cbs') (hc : zC y ws bytes maxL ret n) (hyC : y.cls = C) (hG : GoodIn Ts (wsV own index C y ws)) (hR : fr + 1 ≤ R.frames ∧ 8 + (maxL + 11) + lc ≤ R.locals)
    (hK : zK G s) (hA : ∀ q : Nat, s.heap.size ≤ q → A q) (hT : zS G A s s.heap) (hw : zH G A s.heap bs H locs)
    (hC : is.map (fun i => bs[i]?) = cbs.map some) (hn : va_nd is = true) (had : cbs'.map (List.map Prod.fst) = cbs.map (List.map Prod.fst)) (hb : zput bs is cbs' = bs')
    (hq : cbs.flatten[0]? = some (b, .inr (ci, fs))) (hcl : vwCl[ci]? = some (C, T, N)) (hnA : As.length = n) (hls : ls.size = nL) (hst : st0 = As.reverse ++ .ref b :: rest) (hrm : (rest.map fun v => v.category).sum ≤ 8) (hdg : decode cc pc = .ok (.invokevirtual index, 3))
    (kk : ∀ (H1 : Heap) (locs1 : List Loc), zH G A s.heap bs' H1 locs1 → W p l e R s m args below meth c H1 locs1 0 0 Q (F0 m (pc + 3) ls rest)) : W p l e R s m args below meth c H locs 0 0 Q (F0 m pc ls st0) :=
  z_callV S hM hc hyC hG hR hK hA hT hw hC hn had hb hq hcl hnA hls hst hrm hdg kk
theorem z_callS1 {nL : Nat} {own : String} {Ts : List Cond} (S : CallFix p m c cc nL s args Ts own) {y : MethodName} {ws : List Cond} {bytes : ByteArray} {maxL n index fr lc : Nat} {ret : Option FieldType} {As : List Value} {rv : Value} {is : List Nat}
    (hM : zMet l y ws fr lc G As cbs (some rv) cbs') (hc : zC y ws bytes maxL ret n) (hG : GoodIn Ts (va_wsS own index y ws)) (hR : fr + 1 ≤ R.frames ∧ 8 + (maxL + 11) + lc ≤ R.locals)
    (hK : zK G s) (hA : ∀ q : Nat, s.heap.size ≤ q → A q) (hT : zS G A s s.heap) (hw : zH G A s.heap bs H locs)
    (hC : is.map (fun i => bs[i]?) = cbs.map some) (hn : va_nd is = true) (had : cbs'.map (List.map Prod.fst) = cbs.map (List.map Prod.fst)) (hb : zput bs is cbs' = bs')
    (hnA : As.length = n) (hls : ls.size = nL) (hst : st0 = As.reverse ++ rest) (hrm : (rest.map fun v => v.category).sum ≤ 8) (hdg : decode cc pc = .ok (.invokestatic index, 3))
    (kk : ∀ (H1 : Heap) (locs1 : List Loc), zH G A s.heap bs' H1 locs1 → W p l e R s m args below meth c H1 locs1 0 0 Q (F0 m (pc + 3) ls (rv :: rest))) : W p l e R s m args below meth c H locs 0 0 Q (F0 m pc ls st0) :=
  z_callS S hM hc hG hR hK hA hT hw hC hn had hb hnA hls hst hrm hdg kk
theorem z_callS0 {nL : Nat} {own : String} {Ts : List Cond} (S : CallFix p m c cc nL s args Ts own) {y : MethodName} {ws : List Cond} {bytes : ByteArray} {maxL n index fr lc : Nat} {ret : Option FieldType} {As : List Value} {is : List Nat}
    (hM : zMet l y ws fr lc G As cbs none cbs') (hc : zC y ws bytes maxL ret n) (hG : GoodIn Ts (va_wsS own index y ws)) (hR : fr + 1 ≤ R.frames ∧ 8 + (maxL + 11) + lc ≤ R.locals)
    (hK : zK G s) (hA : ∀ q : Nat, s.heap.size ≤ q → A q) (hT : zS G A s s.heap) (hw : zH G A s.heap bs H locs)
    (hC : is.map (fun i => bs[i]?) = cbs.map some) (hn : va_nd is = true) (had : cbs'.map (List.map Prod.fst) = cbs.map (List.map Prod.fst)) (hb : zput bs is cbs' = bs')
    (hnA : As.length = n) (hls : ls.size = nL) (hst : st0 = As.reverse ++ rest) (hrm : (rest.map fun v => v.category).sum ≤ 8) (hdg : decode cc pc = .ok (.invokestatic index, 3))
    (kk : ∀ (H1 : Heap) (locs1 : List Loc), zH G A s.heap bs' H1 locs1 → W p l e R s m args below meth c H1 locs1 0 0 Q (F0 m (pc + 3) ls rest)) : W p l e R s m args below meth c H locs 0 0 Q (F0 m pc ls st0) :=
  z_callS S hM hc hG hR hK hA hT hw hC hn had hb hnA hls hst hrm hdg kk
/-- a call on a text constant -/
theorem z_callT {nL : Nat} {own : String} {Ts : List Cond} (S : CallFix p m c cc nL s args Ts own) {y : MethodName} {ws : List Cond} {bytes : ByteArray} {maxL n index fr lc k : Nat} {ret : Option FieldType} {As : List Value} {rv : Value} (hk : k < 6)
    (hM : zMet l y ws fr lc G (.ref (G.2.2.2.2.2.1 k) :: As) [] (some rv) []) (hc : zC y ws bytes maxL ret n) (hyC : y.cls = "java/lang/String") (hG : GoodIn Ts (wsV own index "java/lang/String" y ws)) (hR : fr + 1 ≤ R.frames ∧ 8 + (maxL + 11) + lc ≤ R.locals)
    (hK : zK G s) (hA : ∀ q : Nat, s.heap.size ≤ q → A q) (hT : zS G A s s.heap) (hw : zH G A s.heap bs H locs) (hnA : As.length = n) (hls : ls.size = nL) (hst : st0 = As.reverse ++ .ref (G.2.2.2.2.2.1 k) :: rest) (hrm : (rest.map fun v => v.category).sum ≤ 8) (hdg : decode cc pc = .ok (.invokevirtual index, 3))
    (kk : ∀ (H1 : Heap) (locs1 : List Loc), zH G A s.heap bs H1 locs1 → W p l e R s m args below meth c H1 locs1 0 0 Q (F0 m (pc + 3) ls (rv :: rest))) : W p l e R s m args below meth c H locs 0 0 Q (F0 m pc ls st0) := by
  obtain ⟨⟨ws', hw0⟩, -, h1, h2, h3⟩ := hc
  exact z_after (is := []) (va_runV (As := As) (rest := rest) S (hM H.size) (cwV n S.2.2.2.2 hG hw0 rfl rfl ⟨hyC, h1, h2, h3⟩ hR) ⟨z_blind, vk_recv hT.1 hk hw.2.2, z_pre (is := []) hK hT hA hw rfl rfl⟩ rfl hnA hls hst (lv_room hrm) hdg ⟨Nat.zero_le _, Nat.zero_le _⟩) hA hw rfl rfl rfl rfl kk
/-- a switch's default -/
theorem z_dflt (hexec : p.tables.exec = Jvm.exec) (hb : c.code = cc) {dflt lo hi : Int} {offs : Array Int} {len : Nat} {x : Int32} {tgt : Nat} (ks : List Nat) (hdg : decode cc pc = .ok (.tableswitch dflt lo hi offs, len)) (hsz : hi = lo + (offs.size : Int) - 1) (hks : ∀ j : Nat, j < offs.size → offs[j]? = some dflt ∨ j ∈ ks) (hne : ∀ k ∈ ks, x.toInt ≠ lo + (k : Int)) (ht : (pc : Int) + dflt = (tgt : Int))
    (k : W p l e R s m args below meth c H locs cells slots Q (F0 m tgt ls rest)) : W p l e R s m args below meth c H locs cells slots Q (F0 m pc ls (.int x :: rest)) := by
  by_cases h1 : x.toInt < lo
  · exact lv_tableOut hexec hb hdg (Or.inl h1) ht k
  by_cases h2 : hi < x.toInt
  · exact lv_tableOut hexec hb hdg (Or.inr h2) ht k
  have hj : (x.toInt - lo).toNat < offs.size := by omega
  rcases hks _ hj with h | h
  · exact lv_tableIn hexec hb hdg h1 h2 h ht k
  · exact absurd (by omega) (hne _ h)
/-- System.arraycopy between two rows of a grid, or one -/
theorem zCp_ok {sp dp n : Int32} {k : Nat} (h : zCp sp dp n k = true) : ¬ sp < 0 ∧ ¬ dp < 0 ∧ ¬ n < 0 ∧ sp.toNatClampNeg + n.toNatClampNeg ≤ k ∧ dp.toNatClampNeg + n.toNatClampNeg ≤ k := by
  unfold zCp at h
  simp only [Bool.and_eq_true, decide_eq_true_eq] at h
  obtain ⟨h1, h2, h3, h4, h5⟩ := h
  refine ⟨fun z => ?_, fun z => ?_, fun z => ?_, h4, h5⟩ <;> (rw [Int32.lt_iff_toInt_lt, Int32.toInt_zero] at z; omega)
theorem z_copyi {Ts : List Cond} {own : String} {nL index : Nat} (S : CallFix p m c cc nL s args Ts own) (hlink : (Cond.methodLink own index arraycopyName).before args s = true) (hnat : (Cond.native arraycopyName).before args s = true) (hstat : (Cond.static arraycopyName).before args s = true) (hini : (Cond.initialized "java/lang/System").before args s = true) (hK : zK G s) (hw : zH G A s.heap bs H locs) (bi k0 k1 : Nat) {blk blk' : va_W} {a0 a1 n0 : Nat} {f g : Nat → Int32} {sp dp n : Int32} (hb : bs[bi]? = some blk) (he0 : blk[k0]? = some (a0, .inl (G.2.1, n0, .inl f))) (he1 : blk[k1]? = some (a1, .inl (G.2.1, n0, .inl g))) (hg : zCp sp dp n n0 = true) (hls : ls.size = nL) (hframes : 1 ≤ R.frames) (hlocals : (rest.map fun v => v.category).sum + (nativeFrameWords "java/lang/System" "arraycopy" 5 + 11) ≤ R.locals) (hdg : decode cc pc = .ok (.invokestatic index, 3))
    (h1 : blk.set k1 (a1, .inl (G.2.1, n0, .inl (va_cpy f g sp.toNatClampNeg dp.toNatClampNeg n.toNatClampNeg))) = blk') (h2 : bs.set bi blk' = bs')
    (kk : ∀ (H1 : Heap) (locs1 : List Loc), zH G A s.heap bs' H1 locs1 → W p l e R s m args below meth c H1 locs1 cells slots Q (F0 m (pc + 3) ls rest)) : W p l e R s m args below meth c H locs cells slots Q (F0 m pc ls (.int n :: .int dp :: .ref a1 :: .int sp :: .ref a0 :: rest)) := by
  obtain ⟨q0, g0, -⟩ := z_at hb he0
  obtain ⟨q1, g1, g2⟩ := z_at hb he1
  obtain ⟨c1, c2, c3, c4, c5⟩ := zCp_ok hg
  refine va_copyi S.1 S.2.1 (S.2.2.1.trans hls.symm) S.2.2.2.1 hlink hnat hstat hini hK hw.1 hw.2.1 hw.2.2 q0 q1 0 0 g0 g1 rfl rfl rfl c1 c2 c3 c4 c5 (fun _ _ => rfl) hframes hlocals hdg (fun H1 locs1 hP hD hS => kk H1 locs1 ?_)
  rw [g2, h1, h2] at hP hD
  exact ⟨hP, hD, hS⟩
end ZW2
