/-! THE STEPS: deals: numbers and their figures -/
/-- whether x's door may have y -/
def okB (a : AJ) (x y : Nat) : Bool := if aK a x = 2 then decide (y = 0) else decide (y ≠ x ∧ aO a x ≠ y)
/-- the figure of x -/
def dg (n m x : Nat) : Nat := m / n ^ (n - 1 - x) % n
def dealA (a : AJ) (m : Nat) : AJ := (aN a, aK a, fun x => if aK a x = 2 then 99 else dg (aN a) m x, aO a, aL a, aF a)
/-- a number is a deal -/
def Val (a : AJ) (m : Nat) : Prop := ∀ x, x < aN a → okB a x (dg (aN a) m x) = true
def SameJ (a a' : AJ) : Prop := aN a' = aN a ∧ aK a' = aK a ∧ aO a' = aO a ∧ aL a' = aL a ∧ aF a' = aF a
theorem dg_lt {n m x : Nat} (hn : 0 < n) : dg n m x < n := Nat.mod_lt _ hn
theorem Val.V {a : AJ} (hV : AV a) (h2 : 0 < aN a) {m : Nat} (h : Val a m) : AV (dealA a m) := by
  refine ⟨hV.1, hV.2.1, fun x hx => ?_⟩
  obtain ⟨k1, k2, k3, k4, k5, k6, k7, k8, k9⟩ := hV.2.2 x hx
  have hx : x < aN a := hx
  have ho := h x hx
  unfold okB at ho
  refine ⟨k1, fun e => ?_, fun e => ?_, k4, k5, k6, k7, k8, k9⟩
  · show (if aK a x = 2 then 99 else dg (aN a) m x) = 99
    exact if_pos e
  · show (if aK a x = 2 then 99 else dg (aN a) m x) < aN a ∧ (if aK a x = 2 then 99 else dg (aN a) m x) ≠ x ∧ aO a x ≠ (if aK a x = 2 then 99 else dg (aN a) m x)
    have e : aK a x ≠ 2 := e
    rw [if_neg e] at ho
    rw [if_neg e]
    have := of_decide_eq_true ho
    exact ⟨dg_lt h2, this.1, this.2⟩
theorem MR.cg {M : VX11} {a a' : AJ} (h : MR M a) (hs : SameJ a a') (hP : ∀ x, x < aN a → aP a' x = aP a x) : MR M a' := by
  obtain ⟨s1, s2, s3, s4, s5⟩ := hs
  refine ⟨by rw [s1]; exact h.1, fun x hx => ?_⟩
  rw [s1] at hx
  rw [s2, s3, s4, s5, hP x hx]
  exact h.2 x hx
theorem JR.cg {J : VX2} {a a' : AJ} (h : JR J a) (hs : SameJ a a') (hP : ∀ x, x < aN a → aP a' x = aP a x) : JR J a' := by
  obtain ⟨s1, s2, s3, s4, s5⟩ := hs
  have e1 : spr a' = spr a := by unfold spr; rw [s1, s2]
  have e2 : bld a' = bld a := by unfold bld; rw [s1, s2]
  refine ⟨by rw [s1]; exact h.1, by rw [e1]; exact h.2.1, by rw [e2]; exact h.2.2.1, fun x hx => ?_⟩
  rw [s1] at hx
  rw [s2, s3, s4, s5, hP x hx]
  exact h.2.2.2 x hx
theorem AV.cg {a a' : AJ} (h : AV a) (hs : SameJ a a') (hP : ∀ x, x < aN a → aP a' x = aP a x) : AV a' := by
  obtain ⟨s1, s2, s3, s4, s5⟩ := hs
  refine ⟨by rw [s1]; exact h.1, by rw [s1]; exact h.2.1, fun x hx => ?_⟩
  rw [s1] at hx
  have := h.2.2 x hx
  unfold AVd at this ⊢
  rw [s1, s2, s3, s4, s5, hP x hx]
  exact this
/-! the class: whether a number is a deal -/
theorem loop_dn1 {σ α : Type} (F : Nat → σ → Int32 → Option α) (I : Nat → σ → Prop) (Q : Option α → Prop) (hend : ∀ n s, I 0 s → Q (F (n + 1) s (-1))) (N : Nat)
    (hstep : ∀ n s i, i < N → I (i + 1) s → Q (F (n + 1) s (nI i)) ∨ ∃ s', I i s' ∧ F (n + 1) s (nI i) = F n s' (nI i + -1)) :
    ∀ i fuel s, i ≤ N → I i s → i < fuel → Q (F fuel s (ixd i)) := by
  intro i
  induction i with
  | zero =>
    intro fuel s _ h h1
    obtain ⟨n, rfl⟩ : ∃ n, fuel = n + 1 := ⟨fuel - 1, by omega⟩
    exact hend n s h
  | succ i ih =>
    intro fuel s hi h h1
    obtain ⟨n, rfl⟩ : ∃ n, fuel = n + 1 := ⟨fuel - 1, by omega⟩
    show Q (F (n + 1) s (nI i))
    rcases hstep n s i (by omega) h with g | ⟨s', g1, g2⟩
    · exact g
    · rw [g2, ixd_m1]; exact ih n s' (by omega) g1 (by omega)
/-- keeper of an inside door: nothing changes -/
theorem JR.in9 {J : VX2} {a : AJ} (hJ : JR J a) (hV : AV a) {x : Nat} (hx : x < aN a) (hk : aK a x = 2) : JR ((J.1, upd J.2.1 x (-9), J.2.2.1, J.2.2.2.1, J.2.2.2.2.1, J.2.2.2.2.2.1, J.2.2.2.2.2.2.1, J.2.2.2.2.2.2.2)) a := by
  refine ⟨hJ.1, hJ.2.1, hJ.2.2.1, fun z hz => ?_⟩
  obtain ⟨g1, g2, g3⟩ := hJ.2.2.2 z hz
  refine ⟨g1, ?_, g3⟩
  show upd J.2.1 x (-9) z = kI (aP a z)
  rw [upd_at]
  by_cases c : z = x
  · rw [if_pos c, c, (hV.2.2 x hx).2.1 hk]; rfl
  · rw [if_neg c, g2]
theorem pow_le5 {n : Nat} (hn : n ≤ 5) : ∀ j, j ≤ n → n ^ j ≤ 3125 := fun j hj =>
  (by decide +kernel : ∀ n : Fin 6, ∀ j : Fin 6, n.val ^ j.val ≤ 3125) ⟨n, by omega⟩ ⟨j, by omega⟩
theorem x0_isDeal {Dl : VX0} {a a0 : AJ} (h0 : 0 < aN a) (h5 : aN a ≤ 5) (hV0 : AV a0) (hJ0 : JR Dl.1 a0) (hs0 : SameJ a a0) {m : Nat} (hm : m < 2 ^ 20) :
    (Val a m ∧ ∃ T, f_X0_isDeal Dl (nI m) (nI (aN a)) = some (1, (T, Dl.2.1, Dl.2.2.1, Dl.2.2.2)) ∧ AV (dealA a m) ∧ JR T (dealA a m)) ∨
    (¬ Val a m ∧ ∃ T a', f_X0_isDeal Dl (nI m) (nI (aN a)) = some (0, (T, Dl.2.1, Dl.2.2.1, Dl.2.2.2)) ∧ AV a' ∧ JR T a' ∧ SameJ a a') := by
  unfold f_X0_isDeal
  rw [if_pos (show (1 : Int32) ≤ nI (aN a) from nI_le (show 1 ≤ aN a by omega) (by omega)), ixd_sub]
  refine loop_dn1 (fun f (σ : VX2 × Nat) v4 => f_X0_isDeal_14 f ((σ.1, Dl.2.1, Dl.2.2.1, Dl.2.2.2)) (nI (aN a)) (nI σ.2) v4)
    (fun i σ => σ.2 = m / aN a ^ (aN a - i) ∧ ∃ a', AV a' ∧ JR σ.1 a' ∧ SameJ a a' ∧ ∀ x, i ≤ x → x < aN a → okB a x (dg (aN a) m x) = true ∧ aP a' x = if aK a x = 2 then 99 else dg (aN a) m x)
    (fun o => (Val a m ∧ ∃ T, o = some (1, (T, Dl.2.1, Dl.2.2.1, Dl.2.2.2)) ∧ AV (dealA a m) ∧ JR T (dealA a m)) ∨ (¬ Val a m ∧ ∃ T a', o = some (0, (T, Dl.2.1, Dl.2.2.1, Dl.2.2.2)) ∧ AV a' ∧ JR T a' ∧ SameJ a a')) ?_ (aN a) ?_ (aN a) 4096 (Dl.1, m) (Nat.le_refl _) ⟨?_, a0, hV0, hJ0, hs0, fun x h1 h2 => by omega⟩ (by omega)
  · rintro n ⟨T, left⟩ ⟨-, a', hV', hJ', hs', hx⟩
    have hJ' : JR T a' := hJ'
    obtain ⟨s1, s2, s3, s4, s5⟩ := id hs'
    have hval : Val a m := fun x hxn => (hx x (Nat.zero_le _) hxn).1
    have hsD : SameJ a' (dealA a m) := ⟨s1.symm, s2.symm, s3.symm, s4.symm, s5.symm⟩
    have hPD : ∀ x, x < aN a' → aP (dealA a m) x = aP a' x := fun x hxn => ((hx x (Nat.zero_le _) (by rw [← s1]; exact hxn)).2).symm
    left
    refine ⟨hval, T, ?_, ?_, hJ'.cg hsD hPD⟩
    · show f_X0_isDeal_14 (n + 1) ((T, Dl.2.1, Dl.2.2.1, Dl.2.2.2)) (nI (aN a)) (nI left) (-1) = _
      rw [f_X0_isDeal_14, if_pos (by decide)]
    · exact hV'.cg hsD hPD
  · rintro n ⟨T, left⟩ i hi ⟨hl, a', hV', hJ', hs', hx⟩
    have hl : left = m / aN a ^ (aN a - (i + 1)) := hl
    have hJ' : JR T a' := hJ'
    obtain ⟨s1, s2, s3, s4, s5⟩ := id hs'
    have hi' : i < aN a' := by rw [s1]; exact hi
    have hn' := hV'.2.1
    have hle : left ≤ m := by rw [hl]; exact Nat.div_le_self _ _
    have hd : left % aN a = dg (aN a) m i := by unfold dg; rw [hl, show aN a - (i + 1) = aN a - 1 - i by omega]
    have hdl : dg (aN a) m i < aN a := dg_lt h0
    have hleft : left / aN a = m / aN a ^ (aN a - i) := by
      rw [hl, Nat.div_div_eq_div_mul, ← Nat.pow_succ, show (aN a - (i + 1)).succ = aN a - i by omega]
    have hq : left / aN a ≤ left := Nat.div_le_self _ _
    have more : ∀ T' a'', JR T' a'' → AV a'' → SameJ a a'' → okB a i (dg (aN a) m i) = true → aP a'' i = (if aK a i = 2 then 99 else dg (aN a) m i) → (∀ x, x ≠ i → aP a'' x = aP a' x) → ∃ s' : VX2 × Nat, (s'.2 = m / aN a ^ (aN a - i) ∧ ∃ a', AV a' ∧ JR s'.1 a' ∧ SameJ a a' ∧ ∀ x, i ≤ x → x < aN a → okB a x (dg (aN a) m x) = true ∧ aP a' x = if aK a x = 2 then 99 else dg (aN a) m x) ∧ s' = (T', left / aN a) := fun T' a'' j1 j2 j3 j4 j5 j6 => by
      refine ⟨(T', left / aN a), ⟨hleft, a'', j2, j1, j3, fun x h1 h2 => ?_⟩, rfl⟩
      by_cases c : x = i
      · subst c; exact ⟨j4, j5⟩
      · rw [j6 x c]; exact hx x (by omega) h2
    show _ ∨ ∃ s' : VX2 × Nat, _ ∧ f_X0_isDeal_14 (n + 1) ((T, Dl.2.1, Dl.2.2.1, Dl.2.2.2)) (nI (aN a)) (nI left) (nI i) = f_X0_isDeal_14 n ((s'.1, Dl.2.1, Dl.2.2.1, Dl.2.2.2)) (nI (aN a)) (nI s'.2) (nI i + -1)
    have e65 : ∀ y : Int32, ∀ t : Int32, f_X0_isDeal_65 (f_X0_isDeal_14 n) ((T, Dl.2.1, Dl.2.2.1, Dl.2.2.2)) (nI (aN a)) (nI (left / aN a)) (nI i) y t = if t = 0 then some (0, (T, Dl.2.1, Dl.2.2.1, Dl.2.2.2)) else if aK a i = 2 then f_X0_isDeal_14 n ((((T.1, upd T.2.1 i (-9), T.2.2.1, T.2.2.2.1, T.2.2.2.2.1, T.2.2.2.2.2.1, T.2.2.2.2.2.2.1, T.2.2.2.2.2.2.2)), Dl.2.1, Dl.2.2.1, Dl.2.2.2)) (nI (aN a)) (nI (left / aN a)) (nI i + -1) else f_X0_isDeal_14 n ((((T.1, upd T.2.1 i y, T.2.2.1, T.2.2.2.1, T.2.2.2.2.1, T.2.2.2.2.2.1, T.2.2.2.2.2.2.1, T.2.2.2.2.2.2.2)), Dl.2.1, Dl.2.2.1, Dl.2.2.2)) (nI (aN a)) (nI (left / aN a)) (nI i + -1) := fun y t => by
      unfold f_X0_isDeal_65
      by_cases c : t = 0
      · rw [if_pos c, if_pos c]
      · rw [if_neg c, if_neg c, show f_X2_isOf ((T, Dl.2.1, Dl.2.2.1, Dl.2.2.2)).1 (nI i) 2 = _ from x2_isOf hJ' hV' hi' (j := 2) (by decide), Option.bind_some, s2]
        unfold f_X0_isDeal_100
        rw [show f_X2_setKeeper ((T, Dl.2.1, Dl.2.2.1, Dl.2.2.2)).1 (nI i) (-9) = _ from x2_setKeeper hJ'.1 hn' hi' (-9), Option.bind_some, show f_X2_setKeeper ((T, Dl.2.1, Dl.2.2.1, Dl.2.2.2)).1 (nI i) y = _ from x2_setKeeper hJ'.1 hn' hi' y, Option.bind_some]
        by_cases k : aK a i = 2
        · rw [if_pos k, show ofB (aK a i) 2 = true by rw [k]; rfl, if_neg (show ¬ bI true = 0 from i10)]
        · rw [if_neg k, show ofB (aK a i) 2 = false by unfold ofB; simp [k], if_pos (show bI false = 0 from rfl)]
    have eF : f_X0_isDeal_14 (n + 1) ((T, Dl.2.1, Dl.2.2.1, Dl.2.2.2)) (nI (aN a)) (nI left) (nI i) = f_X0_isDeal_65 (f_X0_isDeal_14 n) ((T, Dl.2.1, Dl.2.2.1, Dl.2.2.2)) (nI (aN a)) (nI (left / aN a)) (nI i) (nI (dg (aN a) m i)) (bI (okB a i (dg (aN a) m i))) := by
      rw [f_X0_isDeal_14, if_neg (nI_pos (by omega)), if_neg (nI_ne0 h0 (by omega)), if_neg (nI_ne0 h0 (by omega)), show f_X2_isOf ((T, Dl.2.1, Dl.2.2.1, Dl.2.2.2)).1 (nI i) 2 = _ from x2_isOf hJ' hV' hi' (j := 2) (by decide), Option.bind_some, pk_rem (show left < 2 ^ 31 by omega) h0 (by omega), pk_div (show left < 2 ^ 31 by omega) h0 (by omega), hd, s2, show f_X2_mayKeep ((T, Dl.2.1, Dl.2.2.1, Dl.2.2.2)).1 (nI i) (nI (dg (aN a) m i)) = _ from x2_may hJ' hV' hi' (by rw [s1]; exact hdl), Option.bind_some, s2, s3]
      unfold okB
      by_cases k : aK a i = 2
      · rw [if_pos k, show ofB (aK a i) 2 = true by rw [k]; rfl, if_neg (show ¬ bI true = 0 from i10)]
        by_cases c : dg (aN a) m i = 0
        · rw [if_pos (by rw [c]; rfl), decide_eq_true c]; rfl
        · rw [if_neg (nI_ne0 (by omega) (by omega)), decide_eq_false c]; rfl
      · rw [if_neg k, show ofB (aK a i) 2 = false by unfold ofB; simp [k], if_pos (show bI false = 0 from rfl)]
        have : decide (dg (aN a) m i ≠ i ∧ aK a i ≠ 2 ∧ aO a i ≠ dg (aN a) m i) = decide (dg (aN a) m i ≠ i ∧ aO a i ≠ dg (aN a) m i) := decide_eq_decide.mpr ⟨fun q => ⟨q.1, q.2.2⟩, fun q => ⟨q.1, k, q.2⟩⟩
        rw [this]
    rw [eF, e65]
    cases hok : okB a i (dg (aN a) m i) with
    | false =>
      left
      right
      exact ⟨(fun q => by have := q i hi; rw [hok] at this; cases this), T, a', if_pos rfl, hV', hJ', hs'⟩
    | true =>
      right
      rw [if_neg (show ¬ bI true = 0 from i10)]
      by_cases k : aK a i = 2
      · have k' : aK a' i = 2 := by rw [s2]; exact k
        obtain ⟨s', g1, g2⟩ := more _ a' (hJ'.in9 hV' hi' k') hV' hs' hok (by rw [if_pos k]; exact (hV'.2.2 i hi').2.1 k') (fun _ _ => rfl)
        refine ⟨s', g1, ?_⟩
        rw [if_pos k, g2]
      · have k' : aK a' i ≠ 2 := by rw [s2]; exact k
        have ho := hok
        unfold okB at ho
        rw [if_neg k] at ho
        have ho := of_decide_eq_true ho
        obtain ⟨s', g1, g2⟩ := more _ (aKy a' i (dg (aN a) m i)) (hJ'.key (show dg (aN a) m i < 8 by omega)) (hV'.key k' (by rw [s1]; exact hdl) ho.1 (by rw [s3]; exact ho.2)) hs' hok (by rw [if_neg k]; exact if_pos rfl) (fun x hx => if_neg hx)
        refine ⟨s', g1, ?_⟩
        rw [if_neg k, g2]
  · show m = m / aN a ^ (aN a - aN a)
    rw [Nat.sub_self, Nat.pow_zero, Nat.div_one]
