/-! THE JAIL AS NUMBERS: cells, kinds, keepers (99: none), others, f, who quarrels (a set) -/
abbrev AJ : Type := Nat × (Nat → Nat) × (Nat → Nat) × (Nat → Nat) × (Nat → Nat) × (Nat → Nat)
abbrev aN (a : AJ) : Nat := a.1
abbrev aK (a : AJ) : Nat → Nat := a.2.1
abbrev aP (a : AJ) : Nat → Nat := a.2.2.1
abbrev aO (a : AJ) : Nat → Nat := a.2.2.2.1
abbrev aL (a : AJ) : Nat → Nat := a.2.2.2.2.1
abbrev aF (a : AJ) : Nat → Nat := a.2.2.2.2.2
def kI (p : Nat) : Int32 := if p < 8 then nI p else -9
theorem kI_lt {p : Nat} (h : p < 8) : kI p = nI p := if_pos h
theorem kI_99 : kI 99 = -9 := by decide
/-- one door's words hang together -/
def AVd (a : AJ) (x : Nat) : Prop := aK a x ≤ 5 ∧ (aK a x = 2 → aP a x = 99) ∧ (aK a x ≠ 2 → aP a x < aN a ∧ aP a x ≠ x ∧ aO a x ≠ aP a x) ∧ ((aK a x = 1 ∨ aK a x = 5) → aO a x < aN a ∧ aO a x ≠ x) ∧ (¬ (aK a x = 1 ∨ aK a x = 5) → aO a x = 99) ∧ aL a x ≤ 9 ∧ aF a x < 2 ^ aN a ∧ (∀ y, y < aN a → (aF a x).testBit y = (aF a y).testBit x) ∧ (aF a x).testBit x = false
def AV (a : AJ) : Prop := (aN a = 0 ∨ 2 ≤ aN a) ∧ aN a ≤ 8 ∧ ∀ x, x < aN a → AVd a x
def spr (a : AJ) : Nat := bset (fun x => decide (aK a x = 4)) (aN a)
def bld (a : AJ) : Nat := bset (fun x => decide (aK a x = 5)) (aN a)
/-- the class' jail holds it -/
def JR (J : VX2) (a : AJ) : Prop := J.2.2.2.2.2.1 = nI (aN a) ∧ J.2.2.2.2.2.2.1 = nI (spr a) ∧ J.2.2.2.2.2.2.2 = nI (bld a) ∧ ∀ x, x < aN a → J.1 x = nI (aK a x) ∧ J.2.1 x = kI (aP a x) ∧ J.2.2.1 x = kI (aO a x) ∧ J.2.2.2.1 x = nI (aL a x) ∧ J.2.2.2.2.1 x = nI (aF a x)
/-- the model holds it -/
def MR (M : VX11) (a : AJ) : Prop := M.2.2.2.2.2.2.2.2.2.2.1 = nI (aN a) ∧ ∀ x, x < aN a → M.2.2.2.2.2.2.2.2.2.2.2.1 (4 * x) = nI (aK a x) ∧ M.2.2.2.2.2.2.2.2.2.2.2.1 (4 * x + 1) = kI (aP a x) ∧ M.2.2.2.2.2.2.2.2.2.2.2.1 (4 * x + 2) = kI (aO a x) ∧ M.2.2.2.2.2.2.2.2.2.2.2.1 (4 * x + 3) = nI (aL a x) ∧ M.2.2.2.2.2.2.2.2.2.2.2.2.1 x = nI (aF a x)
/-! what a favour costs -/
def omin : Option Nat → Option Nat → Option Nat
  | none, p => p
  | some a, none => some a
  | some a, some b => some (min a b)
/-- a cell of the wall lets it pass -/
def wOk (a : AJ) (x s act z : Nat) : Bool := aK a z != 5 && (z == x || (act.testBit z && !(aF a x).testBit z && !s.testBit z))
def wallC (a : AJ) (x y s act : Nat) : Option Nat :=
  if ∀ z, z < 8 → min x y ≤ z → z ≤ max x y → wOk a x s act z = true then some (max x y - min x y) else none
abbrev hndC (a : AJ) (x s : Nat) : Prop := ∃ z, z < 8 ∧ s.testBit z = true ∧ z ≠ x ∧ aK a z ≠ 4 ∧ (aF a x).testBit z = false
def keyC (a : AJ) (x y s act : Nat) : Option Nat :=
  if act.testBit y = false ∨ (aF a x).testBit y = true then none
  else if s.testBit y = true ∧ aK a y ≠ 4 then some 1
  else omin (if hndC a x s then some 2 else none) (wallC a x y s act)
def costC (a : AJ) (x s act : Nat) : Option Nat :=
  if aK a x = 2 then some 0
  else if (aK a x = 3 ∨ aK a x = 4) ∧ pc s < aL a x then none
  else match keyC a x (aP a x) s act with
    | none => none
    | some c => if aK a x = 1 ∨ aK a x = 5 then (match keyC a x (aO a x) s act with | none => none | some d => some (c + d)) else some c
def oI : Option Nat → Int32
  | none => -9
  | some c => nI c
theorem oI_none : oI none = -9 := rfl
theorem oI_some (c : Nat) : oI (some c) = nI c := rfl
theorem nI_m9 {c : Nat} (h : c < 2 ^ 31) : ¬ nI c = -9 := by
  intro e
  have := congrArg Int32.toInt e
  rw [nI_toInt h] at this
  have h2 : (-9 : Int32).toInt = -9 := by decide
  rw [h2] at this
  omega
theorem m9_nI {c : Nat} (h : c < 2 ^ 31) : ¬ (-9 : Int32) = nI c := fun e => nI_m9 h e.symm
theorem oI_m9 {o : Option Nat} (h : ∀ c, o = some c → c < 2 ^ 31) : oI o = -9 ↔ o = none := by
  cases o with
  | none => simp [oI]
  | some c => simp [oI, nI_m9 (h c rfl)]
/-! bounds -/
theorem wallC_le {a : AJ} {x y s act w : Nat} (hx : x < 8) (hy : y < 8) (h : wallC a x y s act = some w) : w ≤ 7 := by
  unfold wallC at h
  split at h
  · cases h; omega
  · cases h
theorem keyC_le {a : AJ} {x y s act w : Nat} (hx : x < 8) (hy : y < 8) (h : keyC a x y s act = some w) : w ≤ 7 := by
  unfold keyC at h
  split at h
  · cases h
  split at h
  · cases h; omega
  cases hw : wallC a x y s act with
  | none => rw [hw] at h; split at h <;> cases h; omega
  | some v =>
    have := wallC_le hx hy hw
    rw [hw] at h
    split at h
    · cases h; omega
    · cases h; omega
theorem costC_le {a : AJ} {x s act w : Nat} (hV : AV a) (hx : x < aN a) (h : costC a x s act = some w) : w ≤ 14 := by
  obtain ⟨-, hn, hd⟩ := hV
  obtain ⟨-, -, hP, hO, -⟩ := hd x hx
  unfold costC at h
  split at h
  · cases h; omega
  rename_i h2
  split at h
  · cases h
  split at h
  · cases h
  rename_i c hc
  have := keyC_le (by omega) (by have := (hP h2).1; omega) hc
  split at h
  · rename_i ht
    split at h
    · cases h
    · rename_i d hd
      have := keyC_le (by omega) (by have := (hO ht).1; omega) hd
      cases h; omega
  · cases h; omega
/-! the class' jail answers so -/
theorem x2_in {J : VX2} {n k : Nat} (hJ : J.2.2.2.2.2.1 = nI n) (hn : n ≤ 8) (hk : k < n) : f_X2_isCell J (nI k) = some 1 := by
  unfold f_X2_isCell
  rw [hJ, if_neg (nI_pos (by omega)), if_neg (nI_ge hk (by omega)), if_neg (show ¬ (8 : Int32) ≤ nI k from nI_ge (show k < 8 by omega) (by decide))]
theorem x2_out {J : VX2} {n : Nat} {x : Int32} (hJ : J.2.2.2.2.2.1 = nI n) (h : x < 0 ∨ nI n ≤ x) : f_X2_isCell J x = some 0 := by
  unfold f_X2_isCell
  rcases h with h | h
  · rw [if_pos h]
  · rw [hJ, if_pos h]
    split <;> rfl
theorem x2_none {J : VX2} : f_X2_isCell J (-9) = some 0 := by
  unfold f_X2_isCell
  rw [if_pos (by decide)]
theorem x2_all {J : VX2} {n : Nat} (hJ : J.2.2.2.2.2.1 = nI n) (hn : n ≤ 8) : f_X2_everyone J = some (nI (2 ^ n - 1)) := by
  unfold f_X2_everyone
  rw [hJ, n_one (by omega), show (1 : Int32) = nI 1 from rfl, pk_sub (Nat.one_le_two_pow)]
theorem x2_wall {J : VX2} {a : AJ} (hJ : JR J a) (hn : aN a ≤ 8) {x y p : Nat} (hx : x < aN a) (hy : y < aN a) (hp : p < 256) :
    f_X2_wallFavours J (nI x) (nI y) (nI p) = some (oI (if ∀ z, z < 8 → min x y ≤ z → z ≤ max x y → aK a z ≠ 5 ∧ (z ≠ x → p.testBit z = true) then some (max x y - min x y) else none)) := by
  obtain ⟨hc, hs, hb, hd⟩ := hJ
  have key : ∀ lo hi : Nat, lo ≤ hi → hi < aN a → f_X2_wallFavours_22 J (nI x) (nI p) (nI lo) (nI hi) = some (oI (if ∀ z, z < 8 → lo ≤ z → z ≤ hi → aK a z ≠ 5 ∧ (z ≠ x → p.testBit z = true) then some (hi - lo) else none)) := by
    intro lo hi hlo hhi
    have h8 : hi < 8 := by omega
    have hpl : 2 ^ (hi + 1) - 2 ^ lo < 2 ^ 9 := path_lt h8
    have hblt : bld a < 2 ^ 9 := Nat.lt_of_lt_of_le (bset_lt _ _) (Nat.pow_le_pow_right (by decide) (by omega))
    unfold f_X2_wallFavours_22
    rw [n_path hlo h8, n_one (by omega), n_sd, n_sd]
    have f0 : ∀ v6 : Int32, f_X2_wallFavours_57 J (nI lo) (nI hi) v6 0 = some (-9) := fun v6 => if_pos rfl
    have f1 : ∀ q : Nat, f_X2_wallFavours_57 J (nI lo) (nI hi) (nI q) 1 = if nI (q &&& bld a) = 0 then some (nI (hi - lo)) else some (-9) := fun q => by
      unfold f_X2_wallFavours_57
      rw [hb, n_and, if_neg (by decide), pk_sub hlo]
    rw [f0, f1]
    have e1 : nI (sd (sd (2 ^ (hi + 1) - 2 ^ lo) (2 ^ x)) p) = 0 ↔ ∀ z, z < 8 → lo ≤ z → z ≤ hi → z ≠ x → p.testBit z = true := by
      rw [nI0_eq (Nat.lt_of_lt_of_le (sd_lt (sd_lt hpl)) (by decide)), s_zero (sd_lt (sd_lt hpl))]
      constructor
      · intro h z hz h1 h2 h3
        have := h z (by omega)
        rw [sd_bit, sd_bit, path_bit hlo h8 (by omega), Nat.testBit_two_pow] at this
        cases hq : p.testBit z with
        | true => rfl
        | false => simp [hq, h1, h2, Ne.symm h3] at this
      · intro h z hz
        rw [sd_bit, sd_bit, path_bit hlo h8 (by omega), Nat.testBit_two_pow]
        by_cases h1 : lo ≤ z
        · by_cases h2 : z ≤ hi
          · by_cases h3 : x = z
            · simp [h3]
            · simp [h z (by omega) h1 h2 (Ne.symm h3)]
          · simp [h2]
        · simp [h1]
    have e2 : nI ((2 ^ (hi + 1) - 2 ^ lo) &&& bld a) = 0 ↔ ∀ z, z < 8 → lo ≤ z → z ≤ hi → aK a z ≠ 5 := by
      rw [nI0_eq (Nat.lt_of_lt_of_le (and_lt hpl) (by decide)), s_zero (and_lt hpl)]
      constructor
      · intro h z hz h1 h2 h3
        have := h z (by omega)
        rw [Nat.testBit_and, path_bit hlo h8 (by omega), bld, bset_bit] at this
        simp [h1, h2, h3, show z < aN a by omega] at this
      · intro h z hz
        rw [Nat.testBit_and, path_bit hlo h8 (by omega), bld, bset_bit]
        by_cases h1 : lo ≤ z
        · by_cases h2 : z ≤ hi
          · simp [h z (by omega) h1 h2]
          · simp [h2]
        · simp [h1]
    by_cases c1 : ∀ z, z < 8 → lo ≤ z → z ≤ hi → z ≠ x → p.testBit z = true
    · rw [if_pos (e1.2 c1)]
      by_cases c2 : ∀ z, z < 8 → lo ≤ z → z ≤ hi → aK a z ≠ 5
      · rw [if_pos (e2.2 c2), if_pos (fun z h0 h1 h2 => ⟨c2 z h0 h1 h2, c1 z h0 h1 h2⟩)]; rfl
      · rw [if_neg (fun h => c2 (e2.1 h)), if_neg (fun h => c2 (fun z h0 h1 h2 => (h z h0 h1 h2).1))]; rfl
    · rw [if_neg (fun h => c1 (e1.1 h)), if_neg (fun h => c1 (fun z h0 h1 h2 => (h z h0 h1 h2).2))]; rfl
  unfold f_X2_wallFavours
  by_cases h : y ≤ x
  · rw [if_pos (nI_le h (by omega))]
    unfold f_X2_wallFavours_10
    rw [if_pos (nI_le h (by omega)), key y x h hx, Nat.min_eq_right h, Nat.max_eq_left h]
  · rw [if_neg (nI_ge (by omega) (by omega))]
    unfold f_X2_wallFavours_10
    rw [if_neg (nI_ge (by omega) (by omega)), key x y (by omega) hy, Nat.min_eq_left (by omega), Nat.max_eq_right (by omega)]

theorem x2_key {J : VX2} {a : AJ} (hJ : JR J a) (hV : AV a) {x y s act : Nat} (hx : x < aN a) (hy : y < aN a) (hxy : y ≠ x) (hsn : s < 2 ^ aN a) (ha : act < 256) (hsa : ∀ z, s.testBit z = true → act.testBit z = true) :
    f_X2_keyFavours J (nI x) (nI y) (nI s) (nI act) = some (oI (keyC a x y s act)) := by
  obtain ⟨hc, hsp, hb, hd⟩ := id hJ
  have hn := hV.2.1
  have hF := (hd x hx).2.2.2.2
  have hs : s < 256 := Nat.lt_of_lt_of_le hsn (Nat.pow_le_pow_right (show 2 > 0 by decide) hn)
  have hw8 : sd (sd act (aF a x)) (2 ^ x) < 2 ^ 8 := sd_lt (sd_lt ha)
  have hh8 : sd (s &&& sd (sd act (aF a x)) (2 ^ x)) (spr a) < 2 ^ 8 := sd_lt (and_lt hs)
  have wb : ∀ z, (sd (sd act (aF a x)) (2 ^ x)).testBit z = (act.testBit z && !(aF a x).testBit z && !decide (x = z)) := fun z => by
    rw [sd_bit, sd_bit, Nat.testBit_two_pow]
  have hb' : ∀ z, z < aN a → (sd (s &&& sd (sd act (aF a x)) (2 ^ x)) (spr a)).testBit z = (s.testBit z && (!(aF a x).testBit z && !decide (x = z)) && !decide (aK a z = 4)) := fun z hz => by
    rw [sd_bit, Nat.testBit_and, wb, spr, bset_bit]
    cases h1 : s.testBit z with
    | false => simp
    | true => simp [hsa z h1, hz]
  unfold f_X2_keyFavours
  rw [x2_in hc hn hy, Option.bind_some, if_neg (by decide), zIn_t (show x < 8 by omega) (by decide), if_pos rfl, nI_clamp (by omega), hF, n_one (by omega), n_sd, n_sd, hsp, n_and, n_sd, n_sd, n_tstb (Nat.lt_of_lt_of_le hw8 (by decide)) (by omega), n_tstb (Nat.lt_of_lt_of_le hh8 (by decide)) (by omega), wb y, hb' y hy,
    x2_wall hJ hn hx hy (Nat.lt_of_lt_of_le (sd_lt hw8) (by decide)), Option.bind_some]
  have hwall : (if ∀ z, z < 8 → min x y ≤ z → z ≤ max x y → aK a z ≠ 5 ∧ (z ≠ x → (sd (sd (sd act (aF a x)) (2 ^ x)) s).testBit z = true) then some (max x y - min x y) else none) = wallC a x y s act := by
    unfold wallC
    refine ite_cg ⟨fun h z h0 h1 h2 => ?_, fun h z h0 h1 h2 => ?_⟩
    · obtain ⟨h3, h4⟩ := h z h0 h1 h2
      rw [sd_bit, wb] at h4
      unfold wOk
      by_cases e : z = x
      · subst e; simp [h3]
      · have := h4 e
        simp at this
        simp [h3, this]
    · have := h z h0 h1 h2
      unfold wOk at this
      rw [sd_bit, wb]
      simp at this
      refine ⟨this.1, fun e => ?_⟩
      rcases this.2 with h5 | h5
      · exact absurd h5 e
      · simp [h5, Ne.symm e]
  rw [hwall]
  have hz0 : nI (sd (s &&& sd (sd act (aF a x)) (2 ^ x)) (spr a)) = 0 ↔ ¬ hndC a x s := by
    rw [nI0_eq (Nat.lt_of_lt_of_le hh8 (by decide)), s_zero hh8]
    constructor
    · rintro h ⟨z, h1, h2, h3, h4, h5⟩
      have h6 := h z h1
      rw [sd_bit, Nat.testBit_and, wb, spr, bset_bit] at h6
      simp [h2, hsa z h2, h5, Ne.symm h3, h4] at h6
    · intro h z hz
      rw [sd_bit, Nat.testBit_and, wb, spr, bset_bit]
      cases h1 : s.testBit z with
      | false => rfl
      | true =>
        cases h2 : (aF a x).testBit z with
        | true => simp
        | false =>
          by_cases h3 : x = z
          · simp [h3]
          · by_cases h4 : aK a z = 4
            · have : z < aN a := Classical.byContradiction fun h6 => by rw [s_out hsn (by omega)] at h1; cases h1
              simp [h4, this]
            · exact absurd ⟨z, hz, h1, Ne.symm h3, h4, h2⟩ h
  cases hay : act.testBit y with
  | false => rw [if_pos (by simp [bI])]; unfold keyC; rw [if_pos (Or.inl hay)]; rfl
  | true =>
    cases hfy : (aF a x).testBit y with
    | true => rw [if_pos (by simp [bI])]; unfold keyC; rw [if_pos (Or.inr hfy)]; rfl
    | false =>
      have hk : keyC a x y s act = if s.testBit y = true ∧ aK a y ≠ 4 then some 1 else omin (if hndC a x s then some 2 else none) (wallC a x y s act) := by
        unfold keyC
        rw [if_neg (by simp [hay, hfy])]
      rw [decide_eq_false (Ne.symm hxy), if_neg (by decide), hk]
      by_cases c1 : s.testBit y = true ∧ aK a y ≠ 4
      · rw [if_pos c1, c1.1, decide_eq_false c1.2, if_pos (by decide)]; rfl
      · have c1' : (s.testBit y && (!false && !false) && !decide (aK a y = 4)) = false := by
          cases h1 : s.testBit y with
          | false => rfl
          | true => rw [decide_eq_true (Classical.byContradiction fun h => c1 ⟨h1, h⟩)]; rfl
        rw [if_neg c1, c1', if_neg (show ¬ bI false = 1 by decide)]
        have g0 : ∀ v : Int32, f_X2_keyFavours_104 J v 0 = some v := fun v => if_pos rfl
        have g1 : ∀ v : Int32, f_X2_keyFavours_104 J v 1 = some 2 := fun v => if_neg (by decide)
        rw [g0, g1]
        by_cases c2 : hndC a x s
        · rw [if_neg (fun h => hz0.1 h c2), if_pos c2]
          cases hwc : wallC a x y s act with
          | none => rfl
          | some w =>
            have := wallC_le (by omega) (by omega) hwc
            rw [oI_some, if_neg (nI_m9 (by omega))]
            by_cases c3 : w ≤ 2
            · rw [if_pos (show nI w ≤ 2 from nI_le c3 (by decide))]
              show some (nI w) = some (nI (min 2 w))
              rw [Nat.min_eq_right c3]
            · rw [if_neg (show ¬ nI w ≤ 2 from nI_ge (show 2 < w by omega) (by omega))]
              show some (2 : Int32) = some (nI (min 2 w))
              rw [Nat.min_eq_left (by omega)]; rfl
        · rw [if_pos (hz0.2 c2), if_neg c2]
          cases wallC a x y s act <;> rfl

theorem x2_isTwo {J : VX2} {a : AJ} (hJ : JR J a) (hn : aN a ≤ 8) {x : Nat} (hx : x < aN a) (hk : aK a x ≤ 5) : f_X2_isOf J (nI x) 1 = some (bI (decide (aK a x = 1 ∨ aK a x = 5))) := by
  obtain ⟨hc, -, -, hd⟩ := hJ
  unfold f_X2_isOf
  rw [x2_in hc hn hx, Option.bind_some, if_neg (by decide), zIn_t (show x < 8 by omega) (by decide), if_pos rfl, nI_clamp (by omega), (hd x hx).1]
  revert hk
  generalize aK a x = k
  intro hk
  have h : k = 0 ∨ k = 1 ∨ k = 2 ∨ k = 3 ∨ k = 4 ∨ k = 5 := by omega
  rcases h with rfl | rfl | rfl | rfl | rfl | rfl <;> rfl
theorem x2_isLate {J : VX2} {a : AJ} (hJ : JR J a) (hn : aN a ≤ 8) {x : Nat} (hx : x < aN a) (hk : aK a x ≤ 5) : f_X2_isOf J (nI x) 3 = some (bI (decide (aK a x = 3 ∨ aK a x = 4))) := by
  obtain ⟨hc, -, -, hd⟩ := hJ
  unfold f_X2_isOf
  rw [x2_in hc hn hx, Option.bind_some, if_neg (by decide), zIn_t (show x < 8 by omega) (by decide), if_pos rfl, nI_clamp (by omega), (hd x hx).1]
  revert hk
  generalize aK a x = k
  intro hk
  have h : k = 0 ∨ k = 1 ∨ k = 2 ∨ k = 3 ∨ k = 4 ∨ k = 5 := by omega
  rcases h with rfl | rfl | rfl | rfl | rfl | rfl <;> rfl
theorem x2_cost {J : VX2} {a : AJ} (hJ : JR J a) (hV : AV a) {x s act : Nat} (hx : x < aN a) (hsn : s < 2 ^ aN a) (ha : act < 256) (hsa : ∀ z, s.testBit z = true → act.testBit z = true) (hax : act.testBit x = true) :
    f_X2_favoursFor J (nI x) (nI s) (nI act) = some (oI (costC a x s act)) := by
  obtain ⟨hc, hsp, hb, hd⟩ := id hJ
  have hn := hV.2.1
  have hs : s < 256 := Nat.lt_of_lt_of_le hsn (Nat.pow_le_pow_right (show 2 > 0 by decide) hn)
  obtain ⟨dk, dk2, dP, dO, dO2, dL, -⟩ := hV.2.2 x hx
  obtain ⟨gK, gP, gO, gL, gF⟩ := hd x hx
  unfold f_X2_favoursFor
  rw [x2_in hc hn hx, Option.bind_some, if_neg (by decide), n_tstb (Nat.lt_of_lt_of_le ha (by decide)) (by omega), hax, if_neg (by decide), zIn_t (show x < 8 by omega) (by decide), if_pos rfl, nI_clamp (by omega), gK, x2_isLate hJ hn hx dk, Option.bind_some, n_cnt hs, Option.bind_some, if_pos rfl, gL]
  unfold costC
  by_cases c2 : aK a x = 2
  · rw [if_pos (show nI (aK a x) = 2 by rw [c2]; rfl), if_pos c2]; rfl
  rw [if_neg (show ¬ nI (aK a x) = 2 from fun h => c2 ((nI_eq (by omega) (by decide)).1 (show nI (aK a x) = nI 2 from h))), if_neg c2]
  obtain ⟨hp1, hp2, hp3⟩ := dP c2
  have key : f_X2_favoursFor_56 J (nI x) (nI s) (nI act) = some (oI (match keyC a x (aP a x) s act with
    | none => none
    | some c => if aK a x = 1 ∨ aK a x = 5 then (match keyC a x (aO a x) s act with | none => none | some d => some (c + d)) else some c)) := by
    unfold f_X2_favoursFor_56
    rw [zIn_t (show x < 8 by omega) (by decide), if_pos rfl, nI_clamp (by omega), gP, kI_lt (by omega), x2_key hJ hV hx hp1 hp2 hsn ha hsa, Option.bind_some, x2_isTwo hJ hn hx dk, Option.bind_some, if_pos rfl, gO]
    cases hk1 : keyC a x (aP a x) s act with
    | none => rfl
    | some v =>
      have := keyC_le (by omega) (by omega) hk1
      rw [oI_some, if_neg (nI_m9 (by omega))]
      by_cases ct : aK a x = 1 ∨ aK a x = 5
      · rw [decide_eq_true ct, if_neg (by decide)]
        obtain ⟨ho1, ho2⟩ := dO ct
        rw [kI_lt (by omega), x2_key hJ hV hx ho1 ho2 hsn ha hsa, Option.bind_some]
        show _ = some (oI (if aK a x = 1 ∨ aK a x = 5 then _ else _))
        rw [if_pos ct]
        cases hk2 : keyC a x (aO a x) s act with
        | none => rfl
        | some w =>
          have := keyC_le (by omega) (by omega) hk2
          rw [oI_some, if_neg (nI_m9 (by omega)), nI_add]; rfl
      · rw [decide_eq_false ct, if_pos (by decide)]
        show _ = some (oI (if aK a x = 1 ∨ aK a x = 5 then _ else _))
        rw [if_neg ct]; rfl
  rw [key]
  by_cases cl : aK a x = 3 ∨ aK a x = 4
  · rw [decide_eq_true cl, if_neg (by decide)]
    have hpc : pc s ≤ 8 := pc_le s
    by_cases c3 : pc s < aL a x
    · rw [if_neg (nI_ge c3 (by omega)), if_pos ⟨cl, c3⟩]; rfl
    · rw [if_pos (nI_le (by omega) (by omega)), if_neg (fun h => c3 h.2)]
  · rw [decide_eq_false cl, if_pos (by decide), if_neg (fun h => cl h.1)]
theorem x2_cost0 {J : VX2} {a : AJ} (hJ : JR J a) (hn : aN a ≤ 8) {x s act : Nat} (hx8 : x < 8) (ha : act < 2 ^ aN a) (h : act.testBit x = false) : f_X2_favoursFor J (nI x) (nI s) (nI act) = some (-9) := by
  obtain ⟨hc, hsp, hb, hd⟩ := id hJ
  unfold f_X2_favoursFor
  by_cases hx : x < aN a
  · rw [x2_in hc hn hx, Option.bind_some, if_neg (by decide), n_tstb (Nat.lt_of_lt_of_le ha (Nat.pow_le_pow_right (by decide) (by omega))) (by omega), h, if_pos (by decide)]
  · rw [x2_out hc (Or.inr (nI_le (by omega) (by omega))), Option.bind_some, if_pos rfl]
