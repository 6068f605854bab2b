/-! THE MODEL'S JAIL answers so -/
theorem m_kind {M : VX11} {a : AJ} (hM : MR M a) (hn : aN a ≤ 8) {x : Nat} (hx : x < aN a) : f_X11_kind M (nI x) = some (nI (aK a x)) := by
  unfold f_X11_kind
  rw [show (4 : Int32) * nI x = nI (4 * x) from pk_mul 4 x, zIn_t (by omega) (by decide), if_pos rfl, nI_clamp (by omega), (hM.2 x hx).1]
theorem m_keeper {M : VX11} {a : AJ} (hM : MR M a) (hn : aN a ≤ 8) {x : Nat} (hx : x < aN a) : f_X11_keeper M (nI x) = some (kI (aP a x)) := by
  unfold f_X11_keeper
  rw [show (4 : Int32) * nI x = nI (4 * x) from pk_mul 4 x, nI_1, zIn_t (by omega) (by decide), if_pos rfl, nI_clamp (by omega), (hM.2 x hx).2.1]
theorem m_other {M : VX11} {a : AJ} (hM : MR M a) (hn : aN a ≤ 8) {x : Nat} (hx : x < aN a) : f_X11_otherKeeper M (nI x) = some (kI (aO a x)) := by
  unfold f_X11_otherKeeper
  rw [show (4 : Int32) * nI x = nI (4 * x) from pk_mul 4 x, show nI (4 * x) + 2 = nI (4 * x + 2) from nI_add _ 2, zIn_t (by omega) (by decide), if_pos rfl, nI_clamp (by omega), (hM.2 x hx).2.2.1]
theorem m_quarrel {M : VX11} {a : AJ} (hM : MR M a) (hV : AV a) {x y : Nat} (hx : x < aN a) (hy : y < 31) : f_X11_doQuarrel M (nI x) (nI y) = some (bI ((aF a x).testBit y)) := by
  have hn := hV.2.1
  have hf : aF a x < 2 ^ aN a := (hV.2.2 x hx).2.2.2.2.2.2.1
  have hf8 : aF a x < 2 ^ 8 := Nat.lt_of_lt_of_le hf (Nat.pow_le_pow_right (by decide) hn)
  unfold f_X11_doQuarrel
  rw [zIn_t (show x < 8 by omega) (by decide), if_pos rfl, nI_clamp (by omega), (hM.2 x hx).2.2.2.2, n_has (Nat.lt_of_lt_of_le hf8 (by decide)) hy, Option.bind_some]
  exact if_pos (by cases (aF a x).testBit y <;> simp [bI])
theorem m_late {M : VX11} {a : AJ} (hM : MR M a) (hn : aN a ≤ 8) {x : Nat} (hx : x < aN a) (hk : aK a x ≤ 5) : f_X11_isLate M (nI x) = some (bI (decide (aK a x = 3 ∨ aK a x = 4))) := by
  unfold f_X11_isLate
  rw [m_kind hM hn hx, Option.bind_some, Option.bind_some]
  revert hk
  generalize aK a x = k
  intro hk
  have h : k = 0 ∨ k = 1 ∨ k = 2 ∨ k = 3 ∨ k = 4 ∨ k = 5 := by omega
  rcases h with rfl | rfl | rfl | rfl | rfl | rfl <;> rfl
theorem m_two {M : VX11} {a : AJ} (hM : MR M a) (hn : aN a ≤ 8) {x : Nat} (hx : x < aN a) (hk : aK a x ≤ 5) : f_X11_isTwo M (nI x) = some (bI (decide (aK a x = 1 ∨ aK a x = 5))) := by
  unfold f_X11_isTwo
  rw [m_kind hM hn hx, Option.bind_some, Option.bind_some]
  revert hk
  generalize aK a x = k
  intro hk
  have h : k = 0 ∨ k = 1 ∨ k = 2 ∨ k = 3 ∨ k = 4 ∨ k = 5 := by omega
  rcases h with rfl | rfl | rfl | rfl | rfl | rfl <;> rfl
/-- 1000: never -/
def nv : Option Nat → Nat
  | none => 1000
  | some c => c
/-- whether z of the first i lends a hand -/
def hnd2 (a : AJ) (x y s : Nat) (z : Nat) : Bool := s.testBit z && !decide (z = y) && !decide (z = x) && !decide (aK a z = 4) && !(aF a x).testBit z
def anyB (p : Nat → Bool) : Nat → Bool
  | 0 => false
  | n + 1 => anyB p n || p n
theorem anyB_iff (p : Nat → Bool) : ∀ n, anyB p n = true ↔ ∃ i, i < n ∧ p i = true
  | 0 => by simp [anyB]
  | n + 1 => by
    rw [anyB, Bool.or_eq_true, anyB_iff p n]
    constructor
    · rintro (⟨i, h1, h2⟩ | h)
      · exact ⟨i, by omega, h2⟩
      · exact ⟨n, by omega, h⟩
    · rintro ⟨i, h1, h2⟩
      by_cases e : i = n
      · subst e; exact Or.inr h2
      · exact Or.inl ⟨i, by omega, h2⟩
def allB (p : Nat → Bool) (i0 : Nat) : Nat → Bool
  | 0 => true
  | n + 1 => allB p i0 n && (decide (n < i0) || p n)
theorem allB_iff (p : Nat → Bool) (i0 : Nat) : ∀ n, allB p i0 n = true ↔ ∀ i, i0 ≤ i → i < n → p i = true
  | 0 => by simp [allB]
  | n + 1 => by
    rw [allB, Bool.and_eq_true, Bool.or_eq_true, decide_eq_true_eq, allB_iff p i0 n]
    constructor
    · rintro ⟨h1, h2⟩ i h3 h4
      by_cases e : i = n
      · subst e; rcases h2 with h2 | h2
        · omega
        · exact h2
      · exact h1 i h3 (by omega)
    · intro h
      refine ⟨fun i h3 h4 => h i h3 (by omega), ?_⟩
      by_cases e : n < i0
      · exact Or.inl e
      · exact Or.inr (h n (by omega) (by omega))
/-- a wall between, in the model's words -/
def wOk2 (a : AJ) (x s act z : Nat) : Bool := !s.testBit z && act.testBit z && !decide (aK a z = 5) && !(aF a x).testBit z
theorem m_walls {M : VX11} {a : AJ} (hM : MR M a) (hV : AV a) {x y s act b : Nat} (hx : x < aN a) (hy : y < aN a) (hxy : y ≠ x) (hs : s < 256) (ha : act < 256) (hb : b ≤ 1000) (w : Bool) :
    f_X11_keyCost_163 M (nI x) (nI y) (nI s) (nI act) (nI b) (bI w) = some (nI (if (w && allB (wOk2 a x s act) (min x y + 1) (max x y)) = true then min b (max x y - min x y) else b)) := by
  have hn := hV.2.1
  have hs31 : s < 2 ^ 31 := Nat.lt_of_lt_of_le hs (by decide)
  have ha31 : act < 2 ^ 31 := Nat.lt_of_lt_of_le ha (by decide)
  unfold f_X11_keyCost_163
  rw [n_lesser _ _ (by omega) (by omega), Option.bind_some, nI_1]
  refine loop_up (fun f (v6 : Int32) v7 => f_X11_keyCost_174 f M (nI x) (nI y) (nI s) (nI act) (nI b) v6 v7) (max x y) (fun i v6 => min x y + 1 ≤ i ∧ v6 = bI (w && allB (wOk2 a x s act) (min x y + 1) i)) (fun o => o = some (nI (if (w && allB (wOk2 a x s act) (min x y + 1) (max x y)) = true then min b (max x y - min x y) else b))) ?_ ?_ 4096 (min x y + 1) (bI w) (by omega) ⟨Nat.le_refl _, ?_⟩ (by omega)
  · rintro n v6 ⟨-, rfl⟩
    show f_X11_keyCost_174 (n + 1) M (nI x) (nI y) (nI s) (nI act) (nI b) _ (nI (max x y)) = _
    unfold f_X11_keyCost_174
    rw [n_greater _ _ (by omega) (by omega), Option.bind_some, if_pos (nI_le (Nat.le_refl _) (by omega)), n_far _ _ (by omega) (by omega), Option.bind_some, n_lesser _ _ (by omega) (by omega), Option.bind_some]
    cases (w && allB (wOk2 a x s act) (min x y + 1) (max x y)) with
    | true => rw [if_neg (by decide)]; rfl
    | false => rw [if_pos (by decide)]; rfl
  · rintro n v6 i hi ⟨h1, rfl⟩
    right
    have hin : i < aN a := by omega
    refine ⟨bI (w && allB (wOk2 a x s act) (min x y + 1) (i + 1)), ⟨by omega, rfl⟩, ?_⟩
    show f_X11_keyCost_174 (n + 1) M (nI x) (nI y) (nI s) (nI act) (nI b) _ (nI i) = f_X11_keyCost_174 n M (nI x) (nI y) (nI s) (nI act) (nI b) _ (nI (i + 1))
    rw [f_X11_keyCost_174, n_greater _ _ (by omega) (by omega), Option.bind_some, if_neg (nI_ge (by omega) (by omega)), n_has hs31 (by omega), n_has ha31 (by omega), m_kind hM hn hin, m_quarrel hM hV hx (by omega), nI_1, allB, decide_eq_false (show ¬ i < min x y + 1 by omega), Bool.false_or, ← Bool.and_assoc]
    have hk5 : (nI (aK a i) = 5) = (aK a i = 5) := propext (nI_eq (show aK a i < 2 ^ 31 by have := (hV.2.2 i hin).1; omega) (show 5 < 2 ^ 31 by decide))
    simp only [Option.bind_some, hk5]
    cases (w && allB (wOk2 a x s act) (min x y + 1) i) with
    | false => rw [if_pos (by decide)]; rfl
    | true =>
      rw [if_neg (by decide), Bool.true_and]
      unfold wOk2
      cases s.testBit i with
      | true => rw [if_neg (by decide)]; rfl
      | false =>
        rw [if_pos (by decide)]
        cases act.testBit i with
        | false => rw [if_pos (by decide)]; rfl
        | true =>
          rw [if_neg (by decide)]
          by_cases c : aK a i = 5
          · rw [if_pos c, decide_eq_true c]; rfl
          · rw [if_neg c, decide_eq_false c]
            cases (aF a x).testBit i with
            | true => rw [if_neg (by decide)]; rfl
            | false => rw [if_pos (by decide)]; rfl
  · rw [(allB_iff _ _ _).2 (fun i h1 h2 => by omega), Bool.and_true]
theorem keyC_nv {a : AJ} {x y s act : Nat} (hV : AV a) (hx : x < aN a) (hy : y < aN a) (hxy : y ≠ x) (hsn : s < 2 ^ aN a) (h1 : act.testBit y = true) (h2 : (aF a x).testBit y = false) :
    (if ((!s.testBit y && (!decide (aK a x = 5) && !decide (aK a y = 5))) && allB (wOk2 a x s act) (min x y + 1) (max x y)) = true
      then min (if anyB (hnd2 a x y s) (aN a) = true then min (if s.testBit y = true ∧ aK a y ≠ 4 then 1 else 1000) 2 else (if s.testBit y = true ∧ aK a y ≠ 4 then 1 else 1000)) (max x y - min x y)
      else (if anyB (hnd2 a x y s) (aN a) = true then min (if s.testBit y = true ∧ aK a y ≠ 4 then 1 else 1000) 2 else (if s.testBit y = true ∧ aK a y ≠ 4 then 1 else 1000))) = nv (keyC a x y s act) := by
  have hn := hV.2.1
  unfold keyC
  rw [if_neg (by simp [h1, h2] : ¬ (act.testBit y = false ∨ (aF a x).testBit y = true))]
  by_cases c : s.testBit y = true ∧ aK a y ≠ 4
  · rw [if_pos c, if_pos c, c.1]
    show (if (false && _) = true then _ else _) = 1
    rw [Bool.false_and, if_neg (by decide)]
    split <;> rfl
  · rw [if_neg c, if_neg c]
    have e1 : anyB (hnd2 a x y s) (aN a) = true ↔ hndC a x s := by
      rw [anyB_iff]
      constructor
      · rintro ⟨z, hz, h⟩
        unfold hnd2 at h
        simp at h
        exact ⟨z, by omega, h.1.1.1.1, h.1.1.2, h.1.2, h.2⟩
      · rintro ⟨z, hz, g1, g2, g3, g4⟩
        refine ⟨z, Classical.byContradiction fun h6 => (by rw [s_out hsn (show aN a ≤ z by omega)] at g1; cases g1), ?_⟩
        unfold hnd2
        have : z ≠ y := fun e => c (by subst e; exact ⟨g1, g3⟩)
        simp [g1, g2, g3, g4, this]
    have e2 : ((!s.testBit y && (!decide (aK a x = 5) && !decide (aK a y = 5))) && allB (wOk2 a x s act) (min x y + 1) (max x y)) = true ↔ ∀ z, z < 8 → min x y ≤ z → z ≤ max x y → wOk a x s act z = true := by
      rw [Bool.and_eq_true, allB_iff]
      constructor
      · rintro ⟨g1, g2⟩ z h8 g3 g4
        simp at g1
        unfold wOk
        by_cases zx : z = x
        · subst zx; simp [g1.2.1]
        by_cases zy : z = y
        · subst zy; simp [g1.2.2, h1, h2, g1.1]
        have g5 := g2 z (by omega) (by omega)
        unfold wOk2 at g5
        simp at g5
        simp [g5]
      · intro g
        have gx := g x (by omega) (by omega) (by omega)
        have gy := g y (by omega) (by omega) (by omega)
        unfold wOk at gx gy
        simp at gx
        simp [hxy] at gy
        refine ⟨by simp [gx, gy], fun z g3 g4 => ?_⟩
        have gz := g z (by omega) (by omega) (by omega)
        unfold wOk at gz
        have zx : z ≠ x := by
          rintro rfl
          omega
        simp [zx] at gz
        unfold wOk2
        simp [gz]
    unfold wallC
    by_cases d1 : anyB (hnd2 a x y s) (aN a) = true
    · rw [if_pos d1, if_pos (e1.1 d1)]
      by_cases d2 : ((!s.testBit y && (!decide (aK a x = 5) && !decide (aK a y = 5))) && allB (wOk2 a x s act) (min x y + 1) (max x y)) = true
      · rw [if_pos d2, if_pos (e2.1 d2)]; rfl
      · rw [if_neg d2, if_neg (fun h => d2 (e2.2 h))]; rfl
    · rw [if_neg d1, if_neg (fun h => d1 (e1.2 h))]
      by_cases d2 : ((!s.testBit y && (!decide (aK a x = 5) && !decide (aK a y = 5))) && allB (wOk2 a x s act) (min x y + 1) (max x y)) = true
      · rw [if_pos d2, if_pos (e2.1 d2)]
        show min 1000 (max x y - min x y) = max x y - min x y
        omega
      · rw [if_neg d2, if_neg (fun h => d2 (e2.2 h))]; rfl
theorem m_key {M : VX11} {a : AJ} (hM : MR M a) (hV : AV a) {x y s act : Nat} (hx : x < aN a) (hy : y < aN a) (hxy : y ≠ x) (hsn : s < 2 ^ aN a) (ha : act < 256) :
    f_X11_keyCost M (nI x) (nI y) (nI s) (nI act) = some (nI (nv (keyC a x y s act))) := by
  have hn := hV.2.1
  have hs : s < 256 := Nat.lt_of_lt_of_le hsn (Nat.pow_le_pow_right (show 2 > 0 by decide) hn)
  have hs31 : s < 2 ^ 31 := Nat.lt_of_lt_of_le hs (by decide)
  have ha31 : act < 2 ^ 31 := Nat.lt_of_lt_of_le ha (by decide)
  have kk : ∀ i, i < aN a → ∀ q : Nat, q ≤ 5 → (nI (aK a i) = nI q) = (aK a i = q) := fun i hi q hq => propext (nI_eq (by have := (hV.2.2 i hi).1; omega) (by omega))
  have k5x : (nI (aK a x) = 5) = (aK a x = 5) := kk x hx 5 (by omega)
  have k5y : (nI (aK a y) = 5) = (aK a y = 5) := kk y hy 5 (by omega)
  have k4y : (nI (aK a y) = 4) = (aK a y = 4) := kk y hy 4 (by omega)
  have main : ∀ b0 : Nat, b0 ≤ 1000 → f_X11_keyCost_51 4096 M (nI x) (nI y) (nI s) (nI act) (nI b0) 0 = some (nI (if ((!s.testBit y && (!decide (aK a x = 5) && !decide (aK a y = 5))) && allB (wOk2 a x s act) (min x y + 1) (max x y)) = true then min (if anyB (hnd2 a x y s) (aN a) = true then min b0 2 else b0) (max x y - min x y) else (if anyB (hnd2 a x y s) (aN a) = true then min b0 2 else b0))) := by
    intro b0 hb0
    refine loop_up (fun f (v5 : Int32) v6 => f_X11_keyCost_51 f M (nI x) (nI y) (nI s) (nI act) v5 v6) (aN a) (fun i v5 => v5 = nI (if anyB (hnd2 a x y s) i = true then min b0 2 else b0)) (fun o => o = _) ?_ ?_ 4096 0 (nI b0) (Nat.zero_le _) rfl (by omega)
    · rintro n v5 rfl
      show f_X11_keyCost_51 (n + 1) M (nI x) (nI y) (nI s) (nI act) _ (nI (aN a)) = _
      rw [f_X11_keyCost_51, hM.1, if_pos (nI_le (Nat.le_refl _) (by omega)), n_has hs31 (by omega), m_kind hM hn hx, m_kind hM hn hy, Option.bind_some, Option.bind_some, Option.bind_some]
      simp only [k5x, k5y]
      have hb : (if anyB (hnd2 a x y s) (aN a) = true then min b0 2 else b0) ≤ 1000 := by split <;> omega
      have w0 := m_walls hM hV hx hy hxy hs ha hb false
      have w1 := m_walls hM hV hx hy hxy hs ha hb true
      cases s.testBit y with
      | true => rw [if_neg (by decide)]; exact w0
      | false =>
        rw [if_pos (by decide)]
        by_cases c1 : aK a x = 5
        · rw [if_pos c1, decide_eq_true c1]; exact w0
        · rw [if_neg c1, decide_eq_false c1]
          by_cases c2 : aK a y = 5
          · rw [if_pos c2, decide_eq_true c2]; exact w0
          · rw [if_neg c2, decide_eq_false c2]; exact w1
    · rintro n v5 i hi rfl
      right
      refine ⟨nI (if anyB (hnd2 a x y s) (i + 1) = true then min b0 2 else b0), rfl, ?_⟩
      show f_X11_keyCost_51 (n + 1) M (nI x) (nI y) (nI s) (nI act) _ (nI i) = f_X11_keyCost_51 n M (nI x) (nI y) (nI s) (nI act) _ (nI (i + 1))
      have g0 : ∀ b : Nat, f_X11_keyCost_106 (f_X11_keyCost_51 n) M (nI x) (nI y) (nI s) (nI act) (nI b) (nI i) 0 = f_X11_keyCost_51 n M (nI x) (nI y) (nI s) (nI act) (nI b) (nI (i + 1)) := fun b => by
        unfold f_X11_keyCost_106
        rw [if_pos rfl, nI_1]
      have g1 : ∀ b : Nat, b ≤ 1000 → f_X11_keyCost_106 (f_X11_keyCost_51 n) M (nI x) (nI y) (nI s) (nI act) (nI b) (nI i) 1 = f_X11_keyCost_51 n M (nI x) (nI y) (nI s) (nI act) (nI (min b 2)) (nI (i + 1)) := fun b hb => by
        unfold f_X11_keyCost_106
        rw [if_neg (by decide), show f_X11_lesser (nI b) 2 = some (nI (min b 2)) from n_lesser b 2 (by omega) (by decide), Option.bind_some, nI_1]
      have k4 : (nI (aK a i) = 4) = (aK a i = 4) := kk i hi 4 (by omega)
      have hiy : (nI i = nI y) = (i = y) := propext (nI_eq (by omega) (by omega))
      have hix : (nI i = nI x) = (i = x) := propext (nI_eq (by omega) (by omega))
      rw [f_X11_keyCost_51, hM.1, if_neg (nI_ge hi (by omega)), n_has hs31 (by omega), m_kind hM hn hi, m_quarrel hM hV hx (by omega), Option.bind_some, Option.bind_some, Option.bind_some]
      simp only [k4, hiy, hix]
      rw [g0, g1 _ (by split <;> omega)]
      have ha1 : anyB (hnd2 a x y s) (i + 1) = (anyB (hnd2 a x y s) i || hnd2 a x y s i) := rfl
      rw [ha1]
      have no : hnd2 a x y s i = false → (if (anyB (hnd2 a x y s) i || hnd2 a x y s i) = true then min b0 2 else b0) = (if anyB (hnd2 a x y s) i = true then min b0 2 else b0) := fun h => by rw [h, Bool.or_false]
      have yes : hnd2 a x y s i = true → (if (anyB (hnd2 a x y s) i || hnd2 a x y s i) = true then min b0 2 else b0) = min (if anyB (hnd2 a x y s) i = true then min b0 2 else b0) 2 := fun h => by
        rw [h, Bool.or_true, if_pos rfl]; split <;> omega
      by_cases d1 : s.testBit i = true
      · rw [d1, if_neg (by decide)]
        by_cases d2 : i = y
        · rw [if_pos d2, no (by simp [hnd2, d2])]
        rw [if_neg d2]
        by_cases d3 : i = x
        · rw [if_pos d3, no (by simp [hnd2, d3])]
        rw [if_neg d3]
        by_cases d4 : aK a i = 4
        · rw [if_pos d4, no (by simp [hnd2, d4])]
        rw [if_neg d4]
        cases d5 : (aF a x).testBit i with
        | true => rw [if_neg (by decide), no (by simp [hnd2, d5])]
        | false => rw [if_pos (by decide), yes (by simp [hnd2, d1, d2, d3, d4, d5])]
      · have d1' : s.testBit i = false := by simpa using d1
        rw [d1', if_pos (by decide), no (by simp [hnd2, d1'])]
  unfold f_X11_keyCost
  rw [n_has ha31 (by omega), Option.bind_some, m_quarrel hM hV hx (by omega), Option.bind_some, n_has hs31 (by omega), Option.bind_some, m_kind hM hn hy, Option.bind_some]
  simp only [k4y]
  rw [show f_X11_keyCost_51 4096 M (nI x) (nI y) (nI s) (nI act) 1000 0 = _ from main 1000 (by omega), show f_X11_keyCost_51 4096 M (nI x) (nI y) (nI s) (nI act) 1 0 = _ from main 1 (by omega)]
  cases h1 : act.testBit y with
  | false => rw [if_pos (by decide)]; unfold keyC; rw [if_pos (Or.inl h1)]; rfl
  | true =>
    rw [if_neg (by decide)]
    cases h2 : (aF a x).testBit y with
    | true => rw [if_neg (by decide)]; unfold keyC; rw [if_pos (Or.inr h2)]; rfl
    | false =>
      rw [if_pos (by decide), ← keyC_nv hV hx hy hxy hsn h1 h2]
      cases h3 : s.testBit y with
      | false => rw [if_pos (by decide), if_neg (by simp : ¬ (false = true ∧ aK a y ≠ 4))]
      | true =>
        rw [if_neg (by decide)]
        by_cases h4 : aK a y = 4
        · rw [if_pos h4, if_neg (by simp [h4] : ¬ (true = true ∧ aK a y ≠ 4))]
        · rw [if_neg h4, if_pos (⟨rfl, h4⟩ : true = true ∧ aK a y ≠ 4)]
theorem m_cost {M : VX11} {a : AJ} (hM : MR M a) (hV : AV a) {x s act : Nat} (hx : x < aN a) (hsn : s < 2 ^ aN a) (ha : act < 256) :
    f_X11_costOf M (nI x) (nI s) (nI act) = some (nI (nv (costC a x s act))) := by
  have hn := hV.2.1
  have hs : s < 256 := Nat.lt_of_lt_of_le hsn (Nat.pow_le_pow_right (show 2 > 0 by decide) hn)
  obtain ⟨dk, dk2, dP, dO, dO2, dL, -⟩ := hV.2.2 x hx
  have k2 : (nI (aK a x) = 2) = (aK a x = 2) := propext (nI_eq (show aK a x < 2 ^ 31 by omega) (show 2 < 2 ^ 31 by decide))
  have f80 : ∀ c d : Nat, c ≤ 1000 → d ≤ 1000 → f_X11_costOf_80 M (nI d) (nI c) = some (nI (min (c + d) 1000)) := fun c d hc hd => by
    unfold f_X11_costOf_80
    rw [nI_add, show f_X11_lesser (nI (c + d)) 1000 = some (nI (min (c + d) 1000)) from n_lesser _ 1000 (by omega) (by decide)]; rfl
  unfold f_X11_costOf
  rw [m_kind hM hn hx, Option.bind_some, m_late hM hn hx dk, Option.bind_some, n_bits hs, Option.bind_some, show (4 : Int32) * nI x = nI (4 * x) from pk_mul 4 x, show nI (4 * x) + 3 = nI (4 * x + 3) from nI_add _ 3, zIn_t (by omega) (by decide), if_pos rfl, nI_clamp (by omega), (hM.2 x hx).2.2.2.1]
  simp only [k2]
  unfold costC
  by_cases c2 : aK a x = 2
  · rw [if_pos c2, if_pos c2]; rfl
  rw [if_neg c2, if_neg c2]
  obtain ⟨hp1, hp2, hp3⟩ := dP c2
  have nvle : ∀ y, y < 8 → nv (keyC a x y s act) ≤ 1000 := fun y hy => by
    cases hk : keyC a x y s act with
    | none => exact Nat.le_refl _
    | some v => have := keyC_le (show x < 8 by omega) hy hk; show v ≤ 1000; omega
  have key : f_X11_costOf_40 M (nI x) (nI s) (nI act) = some (nI (nv (match keyC a x (aP a x) s act with
    | none => none
    | some c => if aK a x = 1 ∨ aK a x = 5 then (match keyC a x (aO a x) s act with | none => none | some d => some (c + d)) else some c))) := by
    unfold f_X11_costOf_40
    rw [m_keeper hM hn hx, Option.bind_some, kI_lt (by omega), m_key hM hV hx hp1 hp2 hsn ha, Option.bind_some, m_two hM hn hx dk, Option.bind_some]
    have b1 := nvle (aP a x) (by omega)
    by_cases ct : aK a x = 1 ∨ aK a x = 5
    · obtain ⟨ho1, ho2⟩ := dO ct
      have b2 := nvle (aO a x) (by omega)
      rw [decide_eq_true ct, if_neg (by decide), m_other hM hn hx, Option.bind_some, kI_lt (by omega), m_key hM hV hx ho1 ho2 hsn ha, Option.bind_some, f80 _ _ b1 b2]
      cases hk1 : keyC a x (aP a x) s act with
      | none =>
        show some (nI (min (1000 + _) 1000)) = some (nI 1000)
        rw [Nat.min_eq_right (by omega)]
      | some v =>
        have := keyC_le (by omega) (by omega) hk1
        show _ = some (nI (nv (if aK a x = 1 ∨ aK a x = 5 then _ else _)))
        rw [if_pos ct]
        cases hk2 : keyC a x (aO a x) s act with
        | none =>
          show some (nI (min (v + 1000) 1000)) = some (nI 1000)
          rw [Nat.min_eq_right (by omega)]
        | some w =>
          have := keyC_le (by omega) (by omega) hk2
          show some (nI (min (v + w) 1000)) = some (nI (v + w))
          rw [Nat.min_eq_left (by omega)]
    · rw [decide_eq_false ct, if_pos (by decide), show f_X11_costOf_80 M 0 (nI (nv (keyC a x (aP a x) s act))) = _ from f80 _ 0 b1 (by decide)]
      cases hk1 : keyC a x (aP a x) s act with
      | none => rfl
      | some v =>
        have := keyC_le (by omega) (by omega) hk1
        show some (nI (min (v + 0) 1000)) = some (nI (nv (if aK a x = 1 ∨ aK a x = 5 then _ else _)))
        rw [if_neg ct, Nat.min_eq_left (by omega)]; rfl
  rw [key]
  by_cases cl : aK a x = 3 ∨ aK a x = 4
  · rw [decide_eq_true cl, if_neg (by decide)]
    have hpc : pc s ≤ 8 := pc_le s
    by_cases c3 : pc s < aL a x
    · rw [if_neg (nI_ge c3 (by omega)), if_pos ⟨cl, c3⟩]; rfl
    · rw [if_pos (nI_le (by omega) (by omega)), if_neg (fun h => c3 h.2)]; rfl
  · rw [decide_eq_false cl, if_pos (by decide), if_neg (fun h => cl h.1)]; rfl
theorem m_all {M : VX11} {n : Nat} (hJ : M.2.2.2.2.2.2.2.2.2.2.1 = nI n) (hn : n ≤ 8) : f_X11_all M = some (nI (2 ^ n - 1)) := by
  unfold f_X11_all
  rw [hJ, n_one (by omega), show (1 : Int32) = nI 1 from rfl, pk_sub (Nat.one_le_two_pow)]
theorem m_cell {M : VX11} {n x : Nat} (hJ : M.2.2.2.2.2.2.2.2.2.2.1 = nI n) (hn : n ≤ 8) (hx : x < n) : f_X11_isCell M (nI x) = some 1 := by
  unfold f_X11_isCell f_X11_in
  rw [hJ, if_neg (nI_pos (by omega)), show (1 : Int32) = nI 1 from rfl, pk_sub (by omega), if_neg (nI_nlt (by omega) (by omega))]
  rfl
theorem m_cell0 {M : VX11} {n : Nat} {x : Int32} (hJ : M.2.2.2.2.2.2.2.2.2.2.1 = nI n) (hn : n ≤ 8) (h : x < 0 ∨ nI n ≤ x) : f_X11_isCell M x = some 0 := by
  unfold f_X11_isCell f_X11_in
  by_cases h0 : x < 0
  · rw [if_pos h0]; rfl
  rw [if_neg h0]
  have h1 : nI n - 1 < x := by
    rcases h with h | h
    · exact absurd h h0
    rw [hJ] at *
    rw [Int32.lt_iff_toInt_lt, show (1 : Int32) = nI 1 from rfl, pk_sub_toInt (by omega) (by omega)]
    rw [Int32.le_iff_toInt_le, nI_toInt (by omega)] at h
    omega
  rw [hJ, if_pos h1]; rfl
