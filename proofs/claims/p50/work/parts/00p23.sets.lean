/-! THE FEWEST FAVOURS OF A SET, by what they are the least of -/
def IsMin (o : Option Nat) (P : Nat → Prop) : Prop := match o with
  | none => ∀ v, ¬ P v
  | some m => P m ∧ ∀ v, P v → m ≤ v
theorem IsMin.uniq {o o' : Option Nat} {P : Nat → Prop} (h : IsMin o P) (h' : IsMin o' P) : o = o' := by
  cases o with
  | none => cases o' with
    | none => rfl
    | some m => exact absurd h'.1 (h m)
  | some m => cases o' with
    | none => exact absurd h.1 (h' m)
    | some m' => rw [Nat.le_antisymm (h.2 m' h'.1) (h'.2 m h.1)]
theorem IsMin.congr {o : Option Nat} {P P' : Nat → Prop} (h : IsMin o P) (e : ∀ v, P v ↔ P' v) : IsMin o P' := by
  have : P = P' := funext fun v => propext (e v)
  exact this ▸ h
theorem IsMin.none_iff {o : Option Nat} {P : Nat → Prop} (h : IsMin o P) : o = none ↔ ∀ v, ¬ P v := by
  cases o with
  | none => exact ⟨fun _ => h, fun _ => rfl⟩
  | some m => exact ⟨fun e => (by cases e), fun e => absurd h.1 (e m)⟩
/-- one more value -/
theorem IsMin.add {o : Option Nat} {P : Nat → Prop} (h : IsMin o P) (v : Nat) : IsMin (omin o (some v)) (fun w => P w ∨ w = v) := by
  cases o with
  | none => exact ⟨Or.inr rfl, fun w hw => by rcases hw with hw | rfl; exact absurd hw (h w); exact Nat.le_refl _⟩
  | some m =>
    show IsMin (some (min m v)) _
    refine ⟨?_, fun w hw => ?_⟩
    · by_cases c : m ≤ v
      · rw [Nat.min_eq_left c]; exact Or.inl h.1
      · rw [Nat.min_eq_right (by omega)]; exact Or.inr rfl
    · rcases hw with hw | rfl
      · have := h.2 w hw; omega
      · omega
theorem IsMin.nil {P : Nat → Prop} (h : ∀ v, ¬ P v) : IsMin none P := h
/-- what reaching t from one cell less costs -/
def cand (a : AJ) (act : Nat) (R : Nat → Option Nat) (t x : Nat) (v : Nat) : Prop := t.testBit x = true ∧ ∃ r c, R (sd t (2 ^ x)) = some r ∧ costC a x (sd t (2 ^ x)) act = some c ∧ v = r + c
/-- the fewest favours, some alone acting -/
def IsR (a : AJ) (act N : Nat) (R : Nat → Option Nat) : Prop := R 0 = some 0 ∧ ∀ t, 0 < t → t < N → (sd t act = 0 → IsMin (R t) (fun v => ∃ x, x < aN a ∧ cand a act R t x v)) ∧ (sd t act ≠ 0 → R t = none)
theorem sd_le {t s : Nat} : sd t s ≤ t := by
  have : sd t s = t &&& (t ^^^ s) := Nat.eq_of_testBit_eq (fun i => by
    rw [sd_bit, Nat.testBit_and, Nat.testBit_xor]
    cases t.testBit i <;> cases s.testBit i <;> rfl)
  rw [this]; exact Nat.and_le_left
theorem sd_less {t x : Nat} (h : t.testBit x = true) : sd t (2 ^ x) < t := by
  refine Nat.lt_of_le_of_ne sd_le (fun e => ?_)
  have h2 : (sd t (2 ^ x)).testBit x = false := by rw [sd_bit, Nat.testBit_two_pow_self, Bool.not_true, Bool.and_false]
  rw [e, h] at h2; cases h2
theorem IsR.uniq {a : AJ} {act N : Nat} {R R' : Nat → Option Nat} (h : IsR a act N R) (h' : IsR a act N R') : ∀ t, t < N → R t = R' t := by
  intro t
  induction t using Nat.strongRecOn with
  | ind t ih =>
    intro ht
    by_cases h0 : t = 0
    · subst h0; rw [h.1, h'.1]
    obtain ⟨g1, g2⟩ := h.2 t (by omega) ht
    obtain ⟨g1', g2'⟩ := h'.2 t (by omega) ht
    by_cases hs : sd t act = 0
    · refine (g1 hs).uniq ((g1' hs).congr fun v => ?_)
      constructor
      · rintro ⟨x, hx, hb, r, c, e1, e2, e3⟩
        exact ⟨x, hx, hb, r, c, (ih _ (sd_less hb) (Nat.lt_trans (sd_less hb) ht)).trans e1, e2, e3⟩
      · rintro ⟨x, hx, hb, r, c, e1, e2, e3⟩
        exact ⟨x, hx, hb, r, c, (ih _ (sd_less hb) (Nat.lt_trans (sd_less hb) ht)).symm.trans e1, e2, e3⟩
    · rw [g2 hs, g2' hs]
/-- in how many orders -/
def sumB (f : Nat → Nat) : Nat → Nat
  | 0 => 0
  | n + 1 => sumB f n + f n
theorem sumB_congr {f g : Nat → Nat} : ∀ n, (∀ i, i < n → f i = g i) → sumB f n = sumB g n
  | 0, _ => rfl
  | n + 1, h => by rw [sumB, sumB, sumB_congr n (fun i hi => h i (by omega)), h n (by omega)]
def wayC (a : AJ) (act : Nat) (W : Nat → Nat) (t x : Nat) : Nat := if t.testBit x = true ∧ costC a x (sd t (2 ^ x)) act ≠ none then W (sd t (2 ^ x)) else 0
def IsW (a : AJ) (act N : Nat) (W : Nat → Nat) : Prop := W 0 = 1 ∧ ∀ t, 0 < t → t < N → W t = if sd t act = 0 then sumB (wayC a act W t) (aN a) else 0
theorem IsW.uniq {a : AJ} {act N : Nat} {R R' : Nat → Nat} (h : IsW a act N R) (h' : IsW a act N R') : ∀ t, t < N → R t = R' t := by
  intro t
  induction t using Nat.strongRecOn with
  | ind t ih =>
    intro ht
    by_cases h0 : t = 0
    · subst h0; rw [h.1, h'.1]
    rw [h.2 t (by omega) ht, h'.2 t (by omega) ht]
    refine congrArg (fun q => if sd t act = 0 then q else 0) (sumB_congr _ fun x hx => ?_)
    unfold wayC
    by_cases hb : t.testBit x = true
    · rw [ih _ (sd_less hb) (Nat.lt_trans (sd_less hb) ht)]
    · rw [if_neg (fun q => hb q.1), if_neg (fun q => hb q.1)]
/-! how big they get -/
theorem pc_sd {t x : Nat} (ht : t < 256) (hx : x < 8) (hb : t.testBit x = true) : pc (sd t (2 ^ x)) + 1 = pc t :=
  (by decide +kernel : ∀ t : Fin 256, ∀ x : Fin 8, t.val.testBit x.val = true → pc (sd t.val (2 ^ x.val)) + 1 = pc t.val) ⟨t, ht⟩ ⟨x, hx⟩ hb
theorem IsR.le {a : AJ} {act N : Nat} {R : Nat → Option Nat} (hV : AV a) (hN : N ≤ 256) (h : IsR a act N R) : ∀ t, t < N → ∀ v, R t = some v → v ≤ 14 * pc t := by
  intro t
  induction t using Nat.strongRecOn with
  | ind t ih =>
    intro ht v hv
    by_cases h0 : t = 0
    · subst h0; rw [h.1] at hv; cases hv; exact Nat.zero_le _
    obtain ⟨g1, g2⟩ := h.2 t (by omega) ht
    by_cases hs : sd t act = 0
    · have := g1 hs
      rw [hv] at this
      obtain ⟨⟨x, hx, hb, r, c, e1, e2, e3⟩, -⟩ := this
      have := ih _ (sd_less hb) (Nat.lt_trans (sd_less hb) ht) r e1
      have := costC_le hV hx e2
      have := pc_sd (show t < 256 by omega) (show x < 8 by have := hV.2.1; omega) hb
      omega
    · rw [g2 hs] at hv; cases hv
theorem IsR.small {a : AJ} {act N : Nat} {R : Nat → Option Nat} (hV : AV a) (hN : N ≤ 256) (h : IsR a act N R) {t v : Nat} (ht : t < N) (hv : R t = some v) : v ≤ 112 := by
  have := h.le hV hN t ht v hv
  have := pc_le t
  omega
theorem sumB_le {f : Nat → Nat} {b : Nat} : ∀ n, (∀ i, i < n → f i ≤ b) → sumB f n ≤ n * b
  | 0, _ => by simp [sumB]
  | n + 1, h => by
    rw [sumB, Nat.succ_mul]
    have := sumB_le n (fun i hi => h i (by omega))
    have := h n (by omega)
    omega
theorem IsW.le {a : AJ} {act N : Nat} {W : Nat → Nat} (hn : aN a ≤ 8) (hN : N ≤ 256) (h : IsW a act N W) : ∀ t, t < N → W t ≤ 8 ^ pc t := by
  intro t
  induction t using Nat.strongRecOn with
  | ind t ih =>
    intro ht
    by_cases h0 : t = 0
    · subst h0; rw [h.1]; exact Nat.le_trans (by decide : 1 ≤ 8 ^ 0) (Nat.pow_le_pow_right (by decide) (Nat.zero_le _))
    rw [h.2 t (by omega) ht]
    split
    · by_cases hp : pc t = 0
      · have : ∀ x, x < aN a → wayC a act W t x ≤ 0 := fun x hx => by
          unfold wayC
          split
          · rename_i q
            have := pc_sd (show t < 256 by omega) (show x < 8 by omega) q.1
            omega
          · exact Nat.le_refl _
        exact Nat.le_trans (sumB_le _ this) (by rw [Nat.mul_zero]; exact Nat.zero_le _)
      · obtain ⟨m, hm⟩ : ∃ m, pc t = m + 1 := ⟨pc t - 1, by omega⟩
        have : ∀ x, x < aN a → wayC a act W t x ≤ 8 ^ m := fun x hx => by
          unfold wayC
          split
          · rename_i q
            have e := pc_sd (show t < 256 by omega) (show x < 8 by omega) q.1
            have := ih _ (sd_less q.1) (Nat.lt_trans (sd_less q.1) ht)
            rw [show pc (sd t (2 ^ x)) = m by omega] at this
            exact this
          · exact Nat.zero_le _
        have := sumB_le _ this
        rw [hm, Nat.pow_succ, Nat.mul_comm]
        exact Nat.le_trans this (Nat.mul_le_mul_right _ hn)
    · exact Nat.zero_le _
theorem IsW.small {a : AJ} {act N : Nat} {W : Nat → Nat} (hn : aN a ≤ 8) (hN : N ≤ 256) (h : IsW a act N W) {t : Nat} (ht : t < N) : W t ≤ 16777216 :=
  Nat.le_trans (h.le hn hN t ht) (Nat.le_trans (Nat.pow_le_pow_right (by decide) (pc_le t)) (by decide))
theorem sumB_pos {f : Nat → Nat} : ∀ n, 0 < sumB f n ↔ ∃ i, i < n ∧ 0 < f i
  | 0 => by simp [sumB]
  | n + 1 => by
    rw [sumB]
    constructor
    · intro h
      by_cases c : 0 < sumB f n
      · obtain ⟨i, h1, h2⟩ := (sumB_pos n).1 c; exact ⟨i, by omega, h2⟩
      · exact ⟨n, by omega, by omega⟩
    · rintro ⟨i, h1, h2⟩
      by_cases e : i = n
      · subst e; omega
      · have := (sumB_pos (f := f) n).2 ⟨i, by omega, h2⟩; omega
/-- there is an order exactly where there are fewest favours -/
theorem IsR.ways {a : AJ} {act N : Nat} {R : Nat → Option Nat} {W : Nat → Nat} (h : IsR a act N R) (hW : IsW a act N W) : ∀ t, t < N → (R t ≠ none ↔ 0 < W t) := by
  intro t
  induction t using Nat.strongRecOn with
  | ind t ih =>
    intro ht
    by_cases h0 : t = 0
    · subst h0; rw [h.1, hW.1]; simp
    obtain ⟨g1, g2⟩ := h.2 t (by omega) ht
    rw [hW.2 t (by omega) ht]
    by_cases hs : sd t act = 0
    · rw [if_pos hs, sumB_pos]
      constructor
      · intro hR
        cases hr : R t with
        | none => exact absurd hr hR
        | some v =>
          have := g1 hs
          rw [hr] at this
          obtain ⟨⟨x, hx, hb, r, c, e1, e2, e3⟩, -⟩ := this
          refine ⟨x, hx, ?_⟩
          unfold wayC
          rw [if_pos ⟨hb, by rw [e2]; simp⟩]
          exact (ih _ (sd_less hb) (Nat.lt_trans (sd_less hb) ht)).1 (by rw [e1]; simp)
      · rintro ⟨x, hx, hp⟩
        unfold wayC at hp
        split at hp
        · rename_i q
          have := (ih _ (sd_less q.1) (Nat.lt_trans (sd_less q.1) ht)).2 hp
          intro hr
          cases hr2 : R (sd t (2 ^ x)) with
          | none => exact this hr2
          | some r =>
            cases hc : costC a x (sd t (2 ^ x)) act with
            | none => exact q.2 hc
            | some c =>
              have h3 := g1 hs
              rw [hr] at h3
              exact h3 (r + c) ⟨x, hx, q.1, r, c, hr2, hc, rfl⟩
        · omega
    · rw [if_neg hs, g2 hs]; simp
