/-! THE CLASS' FILL: pushes from every set to those one larger -/
theorem or_sd {s x : Nat} (h : s.testBit x = false) : sd (s ||| 2 ^ x) (2 ^ x) = s := Nat.eq_of_testBit_eq (fun i => by
  rw [sd_bit, Nat.testBit_or, Nat.testBit_two_pow]
  by_cases e : x = i
  · subst e; simp [h]
  · simp [e])
theorem sd_or {t x : Nat} (h : t.testBit x = true) : sd t (2 ^ x) ||| 2 ^ x = t := Nat.eq_of_testBit_eq (fun i => by
  rw [Nat.testBit_or, sd_bit, Nat.testBit_two_pow]
  by_cases e : x = i
  · subst e; simp [h]
  · simp [e])
theorem or_bit {s x : Nat} : (s ||| 2 ^ x).testBit x = true := by rw [Nat.testBit_or, Nat.testBit_two_pow_self, Bool.or_true]
theorem or_more {s x : Nat} (h : s.testBit x = false) : s < s ||| 2 ^ x := by
  have := sd_less (t := s ||| 2 ^ x) (x := x) or_bit
  rwa [or_sd h] at this
theorem or_same {s x : Nat} : s ||| 2 ^ x = s ↔ s.testBit x = true := by
  constructor
  · intro e; rw [← e]; exact or_bit
  · intro h
    refine Nat.eq_of_testBit_eq fun i => ?_
    rw [Nat.testBit_or, Nat.testBit_two_pow]
    by_cases e : x = i
    · subst e; simp [h]
    · simp [e]
theorem sd0 {t act : Nat} : sd t act = 0 ↔ ∀ i, t.testBit i = true → act.testBit i = true := by
  constructor
  · intro h i hi
    have := congrArg (fun q => q.testBit i) h
    simp only [sd_bit, Nat.zero_testBit, hi, Bool.true_and] at this
    simpa using this
  · intro h
    refine Nat.eq_of_testBit_eq fun i => ?_
    rw [sd_bit, Nat.zero_testBit]
    cases hi : t.testBit i with
    | false => rfl
    | true => rw [h i hi]; rfl
theorem sd0_le {t act : Nat} (h : sd t act = 0) : t ≤ act := by
  have : t = t &&& act := Nat.eq_of_testBit_eq (fun i => by
    rw [Nat.testBit_and]
    cases hi : t.testBit i with
    | false => rfl
    | true => rw [sd0.1 h i hi]; rfl)
  rw [this]; exact Nat.and_le_right
def Pre (s x t y : Nat) : Prop := sd t (2 ^ y) < s ∨ (sd t (2 ^ y) = s ∧ y < x)
def Fill (a : AJ) (act s x : Nat) (F : Nat → Option Nat) : Prop := F 0 = some 0 ∧ ∀ t, 0 < t → t ≤ act → (sd t act = 0 → IsMin (F t) (fun v => ∃ y, y < aN a ∧ Pre s x t y ∧ cand a act F t y v)) ∧ (sd t act ≠ 0 → F t = none)
theorem Fill.skip {a : AJ} {act s x : Nat} {F : Nat → Option Nat} (h : Fill a act s x F) (hno : x < aN a → s ||| 2 ^ x ≤ act → sd (s ||| 2 ^ x) act = 0 → s.testBit x = false → ∀ r c, F s = some r → costC a x s act = some c → False) : Fill a act s (x + 1) F := by
  refine ⟨h.1, fun t h0 ht => ⟨fun hs => ((h.2 t h0 ht).1 hs).congr fun v => ?_, (h.2 t h0 ht).2⟩⟩
  constructor
  · rintro ⟨y, hy, hp, hc⟩
    exact ⟨y, hy, hp.imp id (fun q => ⟨q.1, by omega⟩), hc⟩
  · rintro ⟨y, hy, hp, hc⟩
    refine ⟨y, hy, ?_, hc⟩
    rcases hp with hp | ⟨hp, hyx⟩
    · exact Or.inl hp
    · by_cases e : y = x
      · subst e
        obtain ⟨hb, r, c, e1, e2, e3⟩ := hc
        have et : s ||| 2 ^ y = t := by rw [← hp]; exact sd_or hb
        have eb : s.testBit y = false := by rw [← hp, sd_bit, Nat.testBit_two_pow_self, Bool.not_true, Bool.and_false]
        rw [hp] at e1 e2
        exact (hno hy (by rw [et]; exact ht) (by rw [et]; exact hs) eb r c e1 e2).elim
      · exact Or.inr ⟨hp, by omega⟩
theorem Fill.push {a : AJ} {act s x r c : Nat} {F G : Nat → Option Nat} (h : Fill a act s x F) (hx : x < aN a) (hle : s ||| 2 ^ x ≤ act) (hsub : sd (s ||| 2 ^ x) act = 0) (hb : s.testBit x = false) (hr : F s = some r) (hc : costC a x s act = some c) (hG : G (s ||| 2 ^ x) = omin (F (s ||| 2 ^ x)) (some (r + c))) (hG' : ∀ t, t ≠ s ||| 2 ^ x → G t = F t) :
    Fill a act s (x + 1) G := by
  have hmore := or_more hb
  have eF : ∀ u, u ≤ s → G u = F u := fun u hu => hG' u (by omega)
  have eC : ∀ t y v, sd t (2 ^ y) ≤ s → (cand a act G t y v ↔ cand a act F t y v) := fun t y v hu => by
    unfold cand
    rw [eF _ hu]
  have pl : ∀ t y, Pre s (x + 1) t y → sd t (2 ^ y) ≤ s := fun t y hp => by rcases hp with hp | hp <;> omega
  refine ⟨(eF 0 (Nat.zero_le _)).trans h.1, fun t h0 ht => ?_⟩
  by_cases e : t = s ||| 2 ^ x
  · subst e
    rw [hG]
    refine ⟨fun _ => ((h.2 _ h0 ht).1 hsub |>.add (r + c)).congr fun v => ?_, fun q => absurd hsub q⟩
    constructor
    · rintro (⟨y, hy, hp, hcc⟩ | rfl)
      · have hp' : Pre s (x + 1) (s ||| 2 ^ x) y := hp.imp id (fun q => ⟨q.1, by omega⟩)
        exact ⟨y, hy, hp', (eC _ _ _ (pl _ _ hp')).2 hcc⟩
      · refine ⟨x, hx, Or.inr ⟨or_sd hb, by omega⟩, (eC _ _ _ (by rw [or_sd hb]; exact Nat.le_refl _)).2 ⟨or_bit, r, c, by rw [or_sd hb]; exact hr, by rw [or_sd hb]; exact hc, rfl⟩⟩
    · rintro ⟨y, hy, hp, hcc⟩
      have hcc := (eC _ _ _ (pl _ _ hp)).1 hcc
      rcases hp with hp | ⟨hp, hyx⟩
      · exact Or.inl ⟨y, hy, Or.inl hp, hcc⟩
      · by_cases e : y = x
        · subst e
          obtain ⟨-, r', c', e1, e2, e3⟩ := hcc
          rw [hp] at e1 e2
          rw [hr] at e1; rw [hc] at e2
          cases e1; cases e2
          exact Or.inr e3
        · exact Or.inl ⟨y, hy, Or.inr ⟨hp, by omega⟩, hcc⟩
  · rw [hG' t e]
    refine ⟨fun hs => ((h.2 t h0 ht).1 hs).congr fun v => ?_, (h.2 t h0 ht).2⟩
    constructor
    · rintro ⟨y, hy, hp, hcc⟩
      have hp' : Pre s (x + 1) t y := hp.imp id (fun q => ⟨q.1, by omega⟩)
      exact ⟨y, hy, hp', (eC _ _ _ (pl _ _ hp')).2 hcc⟩
    · rintro ⟨y, hy, hp, hcc⟩
      have hcc := (eC _ _ _ (pl _ _ hp)).1 hcc
      rcases hp with hp | ⟨hp, hyx⟩
      · exact ⟨y, hy, Or.inl hp, hcc⟩
      · by_cases e2 : y = x
        · subst e2
          exact absurd (by rw [← hp]; exact (sd_or hcc.1).symm) e
        · exact ⟨y, hy, Or.inr ⟨hp, by omega⟩, hcc⟩
theorem Fill.next {a : AJ} {act s x : Nat} {F : Nat → Option Nat} (h : Fill a act s x F) (hx : F s = none ∨ aN a ≤ x) : Fill a act (s + 1) 0 F := by
  refine ⟨h.1, fun t h0 ht => ⟨fun hs => ((h.2 t h0 ht).1 hs).congr fun v => ?_, (h.2 t h0 ht).2⟩⟩
  constructor
  · rintro ⟨y, hy, hp, hc⟩
    exact ⟨y, hy, Or.inl (by rcases hp with hp | hp <;> omega), hc⟩
  · rintro ⟨y, hy, hp, hc⟩
    refine ⟨y, hy, ?_, hc⟩
    rcases hp with hp | ⟨-, hp⟩
    · by_cases e : sd t (2 ^ y) = s
      · rcases hx with hx | hx
        · obtain ⟨-, r, c, e1, -⟩ := hc
          rw [e, hx] at e1; cases e1
        · exact Or.inr ⟨e, by omega⟩
      · exact Or.inl (by omega)
    · omega
theorem Fill.done {a : AJ} {act : Nat} {F : Nat → Option Nat} (h : Fill a act act 0 F) : IsR a act (act + 1) F := by
  refine ⟨h.1, fun t h0 ht => ⟨fun hs => ((h.2 t h0 (by omega)).1 hs).congr fun v => ?_, (h.2 t h0 (by omega)).2⟩⟩
  constructor
  · rintro ⟨y, hy, -, hc⟩; exact ⟨y, hy, hc⟩
  · rintro ⟨y, hy, hc⟩
    exact ⟨y, hy, Or.inl (by have := sd_less hc.1; omega), hc⟩
theorem Fill.start {a : AJ} {act : Nat} {F : Nat → Option Nat} (h0 : F 0 = some 0) (h : ∀ t, 0 < t → t ≤ act → F t = none) : Fill a act 0 0 F := by
  refine ⟨h0, fun t g0 ht => ⟨fun hs => ?_, fun _ => h t g0 ht⟩⟩
  rw [h t g0 ht]
  rintro v ⟨y, hy, hp, hc⟩
  rcases hp with hp | ⟨-, hp⟩ <;> omega

theorem oI_inj {o p : Option Nat} (ho : ∀ c, o = some c → c < 2 ^ 31) (hp : ∀ c, p = some c → c < 2 ^ 31) : oI o = oI p ↔ o = p := by
  cases o with
  | none => cases p with
    | none => simp
    | some d => simp [oI, m9_nI (hp d rfl)]
  | some c => cases p with
    | none => simp [oI, nI_m9 (ho c rfl)]
    | some d => simp [oI, nI_eq (ho c rfl) (hp d rfl)]
theorem upd_at (f : Nat → Int32) (k : Nat) (x : Int32) (j : Nat) : upd f k x j = if j = k then x else f j := rfl
/-- the class' table, sets up to act -/
def FR (S : VX4) (act : Nat) (F : Nat → Option Nat) : Prop := S.2 = nI act ∧ (∀ t, t ≤ act → S.1 t = oI (F t)) ∧ ∀ t, t ≤ act → ∀ v, F t = some v → v ≤ 112
