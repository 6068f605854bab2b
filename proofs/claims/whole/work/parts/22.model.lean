/-! THE MODEL'S JAIL answers so -/
theorem m_kind {M : VX11} {a : AJ} (hM : MR M a) (hn : aN a ≤ 8) {x : Nat} (hx : x < aN a) : f_X11_kind M (nI x) = some (nI (aK a x)) := by
  unfold f_X11_kind
  rw [show (4 : Int32) * nI x = nI (4 * x) from pk_mul 4 x, zIn_t (by omega) (by decide), if_pos rfl, nI_clamp (by omega), (hM.2 x hx).1]
theorem m_keeper {M : VX11} {a : AJ} (hM : MR M a) (hn : aN a ≤ 8) {x : Nat} (hx : x < aN a) : f_X11_keeper M (nI x) = some (kI (aP a x)) := by
  unfold f_X11_keeper
  rw [show (4 : Int32) * nI x = nI (4 * x) from pk_mul 4 x, nI_1, zIn_t (by omega) (by decide), if_pos rfl, nI_clamp (by omega), (hM.2 x hx).2.1]
theorem m_other {M : VX11} {a : AJ} (hM : MR M a) (hn : aN a ≤ 8) {x : Nat} (hx : x < aN a) : f_X11_otherKeeper M (nI x) = some (kI (aO a x)) := by
  unfold f_X11_otherKeeper
  rw [show (4 : Int32) * nI x = nI (4 * x) from pk_mul 4 x, show nI (4 * x) + 2 = nI (4 * x + 2) from nI_add _ 2, zIn_t (by omega) (by decide), if_pos rfl, nI_clamp (by omega), (hM.2 x hx).2.2.1]
theorem m_quarrel {M : VX11} {a : AJ} (hM : MR M a) (hV : AV a) {x y : Nat} (hx : x < aN a) (hy : y < 31) : f_X11_doQuarrel M (nI x) (nI y) = some (bI ((aF a x).testBit y)) := by
  have hn := hV.2.1
  have hf : aF a x < 2 ^ aN a := (hV.2.2 x hx).2.2.2.2.2.2.1
  have hf8 : aF a x < 2 ^ 8 := Nat.lt_of_lt_of_le hf (Nat.pow_le_pow_right (by decide) hn)
  unfold f_X11_doQuarrel
  rw [zIn_t (show x < 8 by omega) (by decide), if_pos rfl, nI_clamp (by omega), (hM.2 x hx).2.2.2.2, n_has (Nat.lt_of_lt_of_le hf8 (by decide)) hy, Option.bind_some]
  exact if_pos (by cases (aF a x).testBit y <;> simp [bI])
theorem m_late {M : VX11} {a : AJ} (hM : MR M a) (hn : aN a ≤ 8) {x : Nat} (hx : x < aN a) (hk : aK a x ≤ 5) : f_X11_isLate M (nI x) = some (bI (decide (aK a x = 3 ∨ aK a x = 4))) := by
  unfold f_X11_isLate
  rw [m_kind hM hn hx, Option.bind_some, Option.bind_some]
  revert hk
  generalize aK a x = k
  intro hk
  have h : k = 0 ∨ k = 1 ∨ k = 2 ∨ k = 3 ∨ k = 4 ∨ k = 5 := by omega
  rcases h with rfl | rfl | rfl | rfl | rfl | rfl <;> rfl
theorem m_two {M : VX11} {a : AJ} (hM : MR M a) (hn : aN a ≤ 8) {x : Nat} (hx : x < aN a) (hk : aK a x ≤ 5) : f_X11_isTwo M (nI x) = some (bI (decide (aK a x = 1 ∨ aK a x = 5))) := by
  unfold f_X11_isTwo
  rw [m_kind hM hn hx, Option.bind_some, Option.bind_some]
  revert hk
  generalize aK a x = k
  intro hk
  have h : k = 0 ∨ k = 1 ∨ k = 2 ∨ k = 3 ∨ k = 4 ∨ k = 5 := by omega
  rcases h with rfl | rfl | rfl | rfl | rfl | rfl <;> rfl
/-- 1000: never -/
def nv : Option Nat → Nat
  | none => 1000
  | some c => c
/-- whether z of the first i lends a hand -/
def hnd2 (a : AJ) (x y s : Nat) (z : Nat) : Bool := s.testBit z && !decide (z = y) && !decide (z = x) && !decide (aK a z = 4) && !(aF a x).testBit z
def anyB (p : Nat → Bool) : Nat → Bool
  | 0 => false
  | n + 1 => anyB p n || p n
theorem anyB_iff (p : Nat → Bool) : ∀ n, anyB p n = true ↔ ∃ i, i < n ∧ p i = true
  | 0 => by simp [anyB]
  | n + 1 => by
    rw [anyB, Bool.or_eq_true, anyB_iff p n]
    constructor
    · rintro (⟨i, h1, h2⟩ | h)
      · exact ⟨i, by omega, h2⟩
      · exact ⟨n, by omega, h⟩
    · rintro ⟨i, h1, h2⟩
      by_cases e : i = n
      · subst e; exact Or.inr h2
      · exact Or.inl ⟨i, by omega, h2⟩
def allB (p : Nat → Bool) (i0 : Nat) : Nat → Bool
  | 0 => true
  | n + 1 => allB p i0 n && (decide (n < i0) || p n)
theorem allB_iff (p : Nat → Bool) (i0 : Nat) : ∀ n, allB p i0 n = true ↔ ∀ i, i0 ≤ i → i < n → p i = true
  | 0 => by simp [allB]
  | n + 1 => by
    rw [allB, Bool.and_eq_true, Bool.or_eq_true, decide_eq_true_eq, allB_iff p i0 n]
    constructor
    · rintro ⟨h1, h2⟩ i h3 h4
      by_cases e : i = n
      · subst e; rcases h2 with h2 | h2
        · omega
        · exact h2
      · exact h1 i h3 (by omega)
    · intro h
      refine ⟨fun i h3 h4 => h i h3 (by omega), ?_⟩
      by_cases e : n < i0
      · exact Or.inl e
      · exact Or.inr (h n (by omega) (by omega))
/-- a wall between, in the model's words -/
def wOk2 (a : AJ) (x s act z : Nat) : Bool := !s.testBit z && act.testBit z && !decide (aK a z = 5) && !(aF a x).testBit z
theorem m_walls {M : VX11} {a : AJ} (hM : MR M a) (hV : AV a) {x y s act b : Nat} (hx : x < aN a) (hy : y < aN a) (hxy : y ≠ x) (hs : s < 256) (ha : act < 256) (hb : b ≤ 1000) (w : Bool) :
    f_X11_keyCost_163 M (nI x) (nI y) (nI s) (nI act) (nI b) (bI w) = some (nI (if (w && allB (wOk2 a x s act) (min x y + 1) (max x y)) = true then min b (max x y - min x y) else b)) := by
  have hn := hV.2.1
  have hs31 : s < 2 ^ 31 := Nat.lt_of_lt_of_le hs (by decide)
  have ha31 : act < 2 ^ 31 := Nat.lt_of_lt_of_le ha (by decide)
  unfold f_X11_keyCost_163
  rw [n_lesser _ _ (by omega) (by omega), Option.bind_some, nI_1]
  refine loop_up (fun f (v6 : Int32) v7 => f_X11_keyCost_174 f M (nI x) (nI y) (nI s) (nI act) (nI b) v6 v7) (max x y) (fun i v6 => min x y + 1 ≤ i ∧ v6 = bI (w && allB (wOk2 a x s act) (min x y + 1) i)) (fun o => o = some (nI (if (w && allB (wOk2 a x s act) (min x y + 1) (max x y)) = true then min b (max x y - min x y) else b))) ?_ ?_ 4096 (min x y + 1) (bI w) (by omega) ⟨Nat.le_refl _, ?_⟩ (by omega)
  · rintro n v6 ⟨-, rfl⟩
    show f_X11_keyCost_174 (n + 1) M (nI x) (nI y) (nI s) (nI act) (nI b) _ (nI (max x y)) = _
    unfold f_X11_keyCost_174
    rw [n_greater _ _ (by omega) (by omega), Option.bind_some, if_pos (nI_le (Nat.le_refl _) (by omega)), n_far _ _ (by omega) (by omega), Option.bind_some, n_lesser _ _ (by omega) (by omega), Option.bind_some]
    cases (w && allB (wOk2 a x s act) (min x y + 1) (max x y)) with
    | true => rw [if_neg (by decide)]; rfl
    | false => rw [if_pos (by decide)]; rfl
  · rintro n v6 i hi ⟨h1, rfl⟩
    right
    have hin : i < aN a := by omega
    refine ⟨bI (w && allB (wOk2 a x s act) (min x y + 1) (i + 1)), ⟨by omega, rfl⟩, ?_⟩
    show f_X11_keyCost_174 (n + 1) M (nI x) (nI y) (nI s) (nI act) (nI b) _ (nI i) = f_X11_keyCost_174 n M (nI x) (nI y) (nI s) (nI act) (nI b) _ (nI (i + 1))
    rw [f_X11_keyCost_174, n_greater _ _ (by omega) (by omega), Option.bind_some, if_neg (nI_ge (by omega) (by omega)), n_has hs31 (by omega), n_has ha31 (by omega), m_kind hM hn hin, m_quarrel hM hV hx (by omega), nI_1, allB, decide_eq_false (show ¬ i < min x y + 1 by omega), Bool.false_or, ← Bool.and_assoc]
    have hk5 : (nI (aK a i) = 5) = (aK a i = 5) := propext (nI_eq (show aK a i < 2 ^ 31 by have := (hV.2.2 i hin).1; omega) (show 5 < 2 ^ 31 by decide))
    simp only [Option.bind_some, hk5]
    cases (w && allB (wOk2 a x s act) (min x y + 1) i) with
    | false => rw [if_pos (by decide)]; rfl
    | true =>
      rw [if_neg (by decide), Bool.true_and]
      unfold wOk2
      cases s.testBit i with
      | true => rw [if_neg (by decide)]; rfl
      | false =>
        rw [if_pos (by decide)]
        cases act.testBit i with
        | false => rw [if_pos (by decide)]; rfl
        | true =>
          rw [if_neg (by decide)]
          by_cases c : aK a i = 5
          · rw [if_pos c, decide_eq_true c]; rfl
          · rw [if_neg c, decide_eq_false c]
            cases (aF a x).testBit i with
            | true => rw [if_neg (by decide)]; rfl
            | false => rw [if_pos (by decide)]; rfl
  · rw [(allB_iff _ _ _).2 (fun i h1 h2 => by omega), Bool.and_true]
