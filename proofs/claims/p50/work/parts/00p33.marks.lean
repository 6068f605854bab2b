/-! THE STEPS: marks, quarrels -/
/-- how many keys y keeps, of the first cells -/
def kk (a : AJ) (y : Nat) : Nat → Nat
  | 0 => 0
  | k + 1 => kk a y k + ((decide (aP a k = y)).toNat + (decide (aO a k = y)).toNat)
theorem x2_keys {J : VX2} {a : AJ} (hJ : JR J a) (hV : AV a) {y : Nat} (hy : y < 8) : f_X2_keysKeptBy J (nI y) = some (nI (kk a y (aN a))) := by
  have hn := hV.2.1
  unfold f_X2_keysKeptBy
  refine loop_is (fun f v2 v3 => f_X2_keysKeptBy_4 f J (nI y) v2 v3) (fun k => nI (kk a y k)) 0 (aN a) _ (fun n => ?_) (fun n k _ hk => ?_) 4096 0 (Nat.le_refl _) (by omega) (by omega)
  · show f_X2_keysKeptBy_4 (n + 1) J (nI y) _ (nI (aN a)) = _
    rw [f_X2_keysKeptBy_4, hJ.1, if_pos (nI_le (Nat.le_refl _) (by omega))]
  · show f_X2_keysKeptBy_4 (n + 1) J (nI y) _ (nI k) = f_X2_keysKeptBy_4 n J (nI y) (nI (kk a y k + ((decide (aP a k = y)).toNat + (decide (aO a k = y)).toNat))) (nI (k + 1))
    obtain ⟨g1, g2, g3, -⟩ := hJ.2.2.2 k hk
    have e : ∀ t : Nat, f_X2_keysKeptBy_28 (f_X2_keysKeptBy_4 n) J (nI y) (nI k) (nI t) (nI (kk a y k)) = f_X2_keysKeptBy_4 n J (nI y) (nI (kk a y k + (t + (decide (aO a k = y)).toNat))) (nI (k + 1)) := fun t => by
      unfold f_X2_keysKeptBy_28
      rw [zIn_t (show k < 8 by omega) (by decide), if_pos rfl, nI_clamp (by omega), g3, nI_add, nI_1, nI_1, nI_a0]
      by_cases c : aO a k = y
      · rw [if_pos ((kI_eq (hV.o hk) hy).2 c), decide_eq_true c]; rfl
      · rw [if_neg (fun q => c ((kI_eq (hV.o hk) hy).1 q)), decide_eq_false c]; rfl
    rw [f_X2_keysKeptBy_4, hJ.1, if_neg (nI_ge hk (by omega)), zIn_t (show k < 8 by omega) (by decide), if_pos rfl, nI_clamp (by omega), g2]
    by_cases c : aP a k = y
    · rw [if_pos ((kI_eq (hV.p hk) hy).2 c), decide_eq_true c]; exact e 1
    · rw [if_neg (fun q => c ((kI_eq (hV.p hk) hy).1 q)), decide_eq_false c]; exact e 0
theorem m_keys {M : VX11} {a : AJ} (hM : MR M a) (hV : AV a) {y : Nat} (hy : y < 8) : f_X11_keysOf M (nI y) = some (nI (kk a y (aN a))) := by
  have hn := hV.2.1
  unfold f_X11_keysOf
  refine loop_is (fun f v2 v3 => f_X11_keysOf_4 f M (nI y) v2 v3) (fun k => nI (kk a y k)) 0 (aN a) _ (fun n => ?_) (fun n k _ hk => ?_) 4096 0 (Nat.le_refl _) (by omega) (by omega)
  · show f_X11_keysOf_4 (n + 1) M (nI y) _ (nI (aN a)) = _
    rw [f_X11_keysOf_4, hM.1, if_pos (nI_le (Nat.le_refl _) (by omega))]
  · show f_X11_keysOf_4 (n + 1) M (nI y) _ (nI k) = f_X11_keysOf_4 n M (nI y) (nI (kk a y k + ((decide (aP a k = y)).toNat + (decide (aO a k = y)).toNat))) (nI (k + 1))
    have e : ∀ t : Nat, f_X11_keysOf_27 (f_X11_keysOf_4 n) M (nI y) (nI k) (nI t) (nI (kk a y k)) = f_X11_keysOf_4 n M (nI y) (nI (kk a y k + (t + (decide (aO a k = y)).toNat))) (nI (k + 1)) := fun t => by
      unfold f_X11_keysOf_27
      rw [m_other hM hn hk, Option.bind_some, nI_1, nI_1, nI_a0, nI_add, nI_add]
      by_cases c : aO a k = y
      · rw [if_pos ((kI_eq (hV.o hk) hy).2 c), decide_eq_true c]; rfl
      · rw [if_neg (fun q => c ((kI_eq (hV.o hk) hy).1 q)), decide_eq_false c]; rfl
    rw [f_X11_keysOf_4, hM.1, if_neg (nI_ge hk (by omega)), m_keeper hM hn hk, Option.bind_some]
    by_cases c : aP a k = y
    · rw [if_pos ((kI_eq (hV.p hk) hy).2 c), decide_eq_true c]; exact e 1
    · rw [if_neg (fun q => c ((kI_eq (hV.p hk) hy).1 q)), decide_eq_false c]; exact e 0
section
variable {S : VX10} {M : VX11}
theorem st_mark (hR : RR S M) (v1 v2 : Int32) : ∃ r : Int32, ∃ S2 : VX10, ∃ M2 : VX11, f_X10_mark S v1 v2 = some (r, S2) ∧ f_X11_mark M v1 v2 = some (r, M2) ∧ RR S2 M2 := by
  obtain ⟨hT, hr6, ht, a, ⟨hV, hJ, hM⟩, hE, hZ⟩ := id hR
  have hn := hV.2.1
  unfold f_X10_mark f_X11_mark
  rcases ix2 v1 (n := aN a) (by omega) with h | ⟨x, hx, rfl⟩
  · exact ⟨-1, S, M, by rw [x2_out hJ.1 h] <;> rfl, by rw [m_cell0 hM.1 hn h] <;> rfl, hR⟩
  rw [x2_in hJ.1 hn hx, Option.bind_some, if_neg i10, m_cell hM.1 hn hx, Option.bind_some, if_neg i10]
  have hk := (hV.2.2 x hx).1
  rcases pk_ix v2 (n := 6) (by decide) with h | h | ⟨j, hj, rfl⟩
  · refine ⟨-1, S, M, ?_, ?_, hR⟩
    · rw [if_pos (show v2 ≤ (0 : Int32) from neg_le (n := 0) h (by decide))]
    · rw [show f_X11_in v2 1 5 = some 0 from m_inF (lo := 1) (hi := 5) (Or.inl (show v2 < nI 1 from Int32.lt_trans h (by decide))) (by decide)] <;> rfl
  · refine ⟨-1, S, M, ?_, ?_, hR⟩
    · by_cases c : v2 ≤ 0
      · rw [if_pos c]
      · rw [if_neg c, if_neg (show ¬ v2 ≤ (5 : Int32) from ge_nle (n := 5) h (by decide))]
    · rw [show f_X11_in v2 1 5 = some 0 from m_inF (lo := 1) (hi := 5) (Or.inr h) (by decide)] <;> rfl
  by_cases j0 : j = 0
  · subst j0
    exact ⟨-1, S, M, by rw [if_pos (by decide)], by rw [show f_X11_in (nI 0) 1 5 = some 0 from by decide +kernel] <;> rfl, hR⟩
  have m54 : f_X11_mark_54 M = some (-3, met M 3) := by
    unfold f_X11_mark_54
    rw [show f_X11_meets M 3 = _ from m_meets M (f := 3) (by decide)] <;> rfl
  have hm : (if nI (aK a x) = nI j then f_X11_mark_60 M (nI x) (nI j) else if nI j = 1 then (f_X11_isTwo M (nI x)).bind fun r28 => if r28 = 0 then f_X11_mark_41 M (nI x) (nI j) else f_X11_mark_60 M (nI x) (nI j) else f_X11_mark_41 M (nI x) (nI j)) = if ofB (aK a x) j = true then f_X11_mark_60 M (nI x) (nI j) else some (-3, met M 3) := by
    rw [m_two hM hn hx hk, Option.bind_some]
    unfold f_X11_mark_41
    rw [m_late hM hn hx hk, Option.bind_some, m54]
    revert hk
    generalize aK a x = k
    intro hk
    have h : k = 0 ∨ k = 1 ∨ k = 2 ∨ k = 3 ∨ k = 4 ∨ k = 5 := by omega
    have h2 : j = 1 ∨ j = 2 ∨ j = 3 ∨ j = 4 ∨ j = 5 := by omega
    rcases h with rfl | rfl | rfl | rfl | rfl | rfl <;> rcases h2 with rfl | rfl | rfl | rfl | rfl <;> rfl
  rw [if_neg (show ¬ nI j ≤ (0 : Int32) from nI_nle (by omega) (by omega)), if_pos (show nI j ≤ (5 : Int32) from nI_le (show j ≤ 5 by omega) (by decide)), show f_X11_in (nI j) 1 5 = some 1 from m_inT (lo := 1) (hi := 5) (by omega) (by omega) (by decide), Option.bind_some, if_neg i10, m_kind hM hn hx, Option.bind_some, x2_isOf hJ hV hx (show j ≤ 5 by omega), Option.bind_some, hm]
  cases c : ofB (aK a x) j with
  | false =>
    refine ⟨-3, _, _, ?_, ?_, hR.found (f := 3) (by decide) (by decide)⟩
    · rw [if_pos (by decide), show f_X9_found S.1 3 = _ from x9_found S.1 (f := 3) (by decide) (by decide)] <;> rfl
    · rw [if_neg (by decide)]
  | true =>
    rw [if_neg (by decide), if_pos rfl]
    suffices hs : ∃ r : Int32, f_X2_markOf S.2.2.2.2.1 (nI x) (nI j) = some r ∧ f_X11_mark_60 M (nI x) (nI j) = some (r, M) by
      obtain ⟨r, e1, e2⟩ := hs
      exact ⟨r, S, M, by rw [e1] <;> rfl, e2, hR⟩
    obtain ⟨g1, g2, g3, g4, g5⟩ := hJ.2.2.2 x hx
    obtain ⟨-, -, dP, dO, -⟩ := hV.2.2 x hx
    unfold f_X2_markOf f_X11_mark_60
    rw [x2_in hJ.1 hn hx, Option.bind_some, if_neg i10, zIn_t (show x < 8 by omega) (by decide), nI_clamp (by omega), g2, g3, g4, x2_keys hJ hV (show x < 8 by omega), m_keys hM hV (show x < 8 by omega), m_keeper hM hn hx, m_other hM hn hx, show (4 : Int32) * nI x = nI (4 * x) from pk_mul 4 x, show nI (4 * x) + 3 = nI (4 * x + 3) from nI_add _ 3, zIn_t (show 4 * x + 3 < 32 by omega) (by decide), nI_clamp (by omega), (hM.2 x hx).2.2.2.1]
    simp only [if_T, Option.bind_some]
    have h2 : j = 1 ∨ j = 2 ∨ j = 3 ∨ j = 4 ∨ j = 5 := by omega
    rcases h2 with rfl | rfl | rfl | rfl | rfl
    · have ck : aK a x = 1 ∨ aK a x = 5 := by
        unfold ofB at c
        simp at c
        exact c
      have c2 : aK a x ≠ 2 := by omega
      have p1 := (dP c2).1
      have o1 := (dO ck).1
      refine ⟨nI (min (aP a x) (aO a x)), ?_, ?_⟩
      · rw [if_pos (show nI 1 = 1 from rfl), kI_lt (show aO a x < 8 by omega), kI_lt (show aP a x < 8 by omega)]
        by_cases d : aO a x < aP a x
        · rw [if_pos (nI_lt d (by omega)), Nat.min_eq_right (by omega)]
        · rw [if_neg (nI_nlt (by omega) (by omega)), Nat.min_eq_left (by omega)]
      · rw [if_pos (show nI 1 = 1 from rfl), kI_lt (show aO a x < 8 by omega), kI_lt (show aP a x < 8 by omega), n_lesser _ _ (by omega) (by omega)]; rfl
    · exact ⟨nI (kk a x (aN a)), by rw [if_neg (show ¬ nI 2 = 1 by decide), if_pos (show nI 2 = 2 from rfl)], by rw [if_neg (show ¬ nI 2 = 1 by decide), if_pos (show nI 2 = 2 from rfl)]⟩
    · exact ⟨nI (aL a x), by rw [if_neg (show ¬ nI 3 = 1 by decide), if_neg (show ¬ nI 3 = 2 by decide), if_pos (show nI 3 = 3 from rfl)], by rw [if_neg (show ¬ nI 3 = 1 by decide), if_neg (show ¬ nI 3 = 2 by decide), if_pos (show nI 3 = 3 from rfl)]⟩
    · exact ⟨kI (aP a x), by rw [if_neg (show ¬ nI 4 = 1 by decide), if_neg (show ¬ nI 4 = 2 by decide), if_neg (show ¬ nI 4 = 3 by decide), if_pos (show nI 4 = 4 from rfl)], by rw [if_neg (show ¬ nI 4 = 1 by decide), if_neg (show ¬ nI 4 = 2 by decide), if_neg (show ¬ nI 4 = 3 by decide), if_pos (show nI 4 = 4 from rfl)]⟩
    · have ck : aK a x = 5 := by
        unfold ofB at c
        simp at c
        exact c
      have c2 : aK a x ≠ 2 := by omega
      have p1 := (dP c2).1
      have o1 := (dO (Or.inr ck)).1
      refine ⟨nI (max (aP a x) (aO a x) - min (aP a x) (aO a x)), ?_, ?_⟩
      · rw [if_neg (show ¬ nI 5 = 1 by decide), if_neg (show ¬ nI 5 = 2 by decide), if_neg (show ¬ nI 5 = 3 by decide), if_neg (show ¬ nI 5 = 4 by decide), kI_lt (show aO a x < 8 by omega), kI_lt (show aP a x < 8 by omega)]
        by_cases d : aO a x ≤ aP a x
        · rw [pk_sub d, if_pos (nI_pos' (by omega)), Nat.max_eq_left d, Nat.min_eq_right d]
        · have hneg : ¬ 0 ≤ nI (aP a x) - nI (aO a x) := neg_nge (pk_sneg (by omega) (by omega))
          rw [if_neg hneg, Nat.max_eq_right (by omega), Nat.min_eq_left (by omega), ← pk_sub (show aP a x ≤ aO a x by omega)]
          simp
      · rw [if_neg (show ¬ nI 5 = 1 by decide), if_neg (show ¬ nI 5 = 2 by decide), if_neg (show ¬ nI 5 = 3 by decide), if_neg (show ¬ nI 5 = 4 by decide), kI_lt (show aO a x < 8 by omega), kI_lt (show aP a x < 8 by omega), n_far _ _ (by omega) (by omega)]; rfl
/-! quarrels -/
def stb (s y : Nat) (b : Bool) : Nat := sd s (2 ^ y) ||| (if b = true then 2 ^ y else 0)
theorem stb_bit (s y : Nat) (b : Bool) (i : Nat) : (stb s y b).testBit i = if i = y then b else s.testBit i := by
  unfold stb
  rw [Nat.testBit_or, sd_bit, Nat.testBit_two_pow]
  by_cases e : i = y
  · subst e
    cases b <;> simp
  · have e' : ¬ y = i := fun q => e q.symm
    cases b <;> simp [e, e', Nat.testBit_two_pow]
theorem stb_lt {s y n : Nat} {b : Bool} (hs : s < 2 ^ n) (hy : y < n) : stb s y b < 2 ^ n := by
  refine Nat.or_lt_two_pow (sd_lt hs) ?_
  split
  · exact Nat.pow_lt_pow_right (by decide) hy
  · exact Nat.two_pow_pos _
theorem stb_same {s y : Nat} : stb s y (s.testBit y) = s := Nat.eq_of_testBit_eq fun i => by
  rw [stb_bit]
  by_cases e : i = y
  · rw [if_pos e, e]
  · rw [if_neg e]
theorem stb_flip {s y : Nat} {b : Bool} (h : s.testBit y ≠ b) : s ^^^ 2 ^ y = stb s y b := Nat.eq_of_testBit_eq fun i => by
  rw [stb_bit, Nat.testBit_xor, Nat.testBit_two_pow]
  by_cases e : i = y
  · subst e
    rw [if_pos rfl]
    cases hs : s.testBit i <;> cases b <;> simp_all
  · have e' : ¬ y = i := fun q => e q.symm
    simp [e, e']
def aQu (a : AJ) (x y : Nat) (b : Bool) : AJ := (aN a, aK a, aP a, aO a, aL a, fun z => if z = x then stb (aF a x) y b else if z = y then stb (aF a y) x b else aF a z)
theorem aQu_bit {a : AJ} {x y : Nat} {b : Bool} (hxy : y ≠ x) (z u : Nat) : (aF (aQu a x y b) z).testBit u = if (z = x ∧ u = y) ∨ (z = y ∧ u = x) then b else (aF a z).testBit u := by
  show (if z = x then stb (aF a x) y b else if z = y then stb (aF a y) x b else aF a z).testBit u = _
  by_cases c1 : z = x
  · subst c1
    rw [if_pos rfl, stb_bit]
    by_cases c2 : u = y
    · rw [if_pos c2, if_pos (Or.inl ⟨rfl, c2⟩)]
    · rw [if_neg c2, if_neg (by omega)]
  · rw [if_neg c1]
    by_cases c3 : z = y
    · subst c3
      rw [if_pos rfl, stb_bit]
      by_cases c2 : u = x
      · rw [if_pos c2, if_pos (Or.inr ⟨rfl, c2⟩)]
      · rw [if_neg c2, if_neg (by omega)]
    · rw [if_neg c3, if_neg (by omega)]
theorem AV.quarrel {a : AJ} (hV : AV a) {x y : Nat} {b : Bool} (hx : x < aN a) (hy : y < aN a) (hxy : y ≠ x) : AV (aQu a x y b) := by
  refine ⟨hV.1, hV.2.1, fun z hz => ?_⟩
  obtain ⟨h1, h2, h3, h4, h5, h6, h7, h8, h9⟩ := hV.2.2 z hz
  refine ⟨h1, h2, h3, h4, h5, h6, ?_, fun u hu => ?_, ?_⟩
  · show (if z = x then stb (aF a x) y b else if z = y then stb (aF a y) x b else aF a z) < 2 ^ aN a
    split
    · exact stb_lt (hV.2.2 x hx).2.2.2.2.2.2.1 hy
    · split
      · exact stb_lt (hV.2.2 y hy).2.2.2.2.2.2.1 hx
      · exact h7
  · rw [aQu_bit hxy, aQu_bit hxy, h8 u hu]
    by_cases c : (z = x ∧ u = y) ∨ (z = y ∧ u = x)
    · rw [if_pos c, if_pos (by omega)]
    · rw [if_neg c, if_neg (by omega)]
  · rw [aQu_bit hxy, if_neg (by omega)]; exact h9
theorem n_bsh (b : Bool) {y : Nat} (hy : y < 31) : bI b <<< (nI y &&& 31) = nI (if b = true then 2 ^ y else 0) := by
  cases b with
  | true => exact n_one hy
  | false => exact Int32.zero_shiftLeft
theorem yesB (v : Int32) : (∃ b : Bool, v = bI b) ∨ ((v < 0 ∨ nI 2 ≤ v) ∧ v ≠ 0 ∧ v ≠ 1) := by
  rcases ix2 v (n := 2) (by decide) with h | ⟨j, hj, rfl⟩
  · refine Or.inr ⟨h, ?_, ?_⟩
    · rintro rfl; revert h; decide
    · rintro rfl; revert h; decide
  · have : j = 0 ∨ j = 1 := by omega
    rcases this with rfl | rfl
    · exact Or.inl ⟨false, rfl⟩
    · exact Or.inl ⟨true, rfl⟩
theorem x10_yesT (b : Bool) : f_X10_isYesOrNo (bI b) = some 1 := by cases b <;> rfl
theorem x10_yesF {v : Int32} (h0 : v ≠ 0) (h1 : v ≠ 1) : f_X10_isYesOrNo v = some 0 := by
  unfold f_X10_isYesOrNo
  rw [if_neg h0, if_neg h1]
theorem m_yesT (b : Bool) : f_X11_in (bI b) 0 1 = some 1 := by cases b <;> decide +kernel
theorem m_yesF {v : Int32} (h : v < 0 ∨ nI 2 ≤ v) : f_X11_in v 0 1 = some 0 := m_inF (lo := 0) (hi := 1) h (by decide)
theorem bI_inj {b c : Bool} : bI b = bI c ↔ b = c := by cases b <;> cases c <;> decide
theorem st_quarrel (hR : RR S M) (v1 v2 v3 : Int32) : ∃ r : Int32, ∃ S2 : VX10, ∃ M2 : VX11, f_X10_quarrel S v1 v2 v3 = some (r, S2) ∧ f_X11_quarrel M v1 v2 v3 = some (r, M2) ∧ RR S2 M2 := by
  obtain ⟨hT, hr6, ht, a, ⟨hV, hJ, hM⟩, hE, hZ⟩ := id hR
  have hn := hV.2.1
  unfold f_X10_quarrel f_X11_quarrel
  rcases ix2 v1 (n := aN a) (by omega) with h | ⟨x, hx, rfl⟩
  · exact ⟨-1, S, M, by rw [x2_out hJ.1 h] <;> rfl, by rw [m_cell0 hM.1 hn h] <;> rfl, hR⟩
  rw [x2_in hJ.1 hn hx, Option.bind_some, if_neg i10, m_cell hM.1 hn hx, Option.bind_some, if_neg i10]
  rcases ix2 v2 (n := aN a) (by omega) with h | ⟨y, hy, rfl⟩
  · exact ⟨-1, S, M, by rw [x2_out hJ.1 h] <;> rfl, by rw [m_cell0 hM.1 hn h] <;> rfl, hR⟩
  rw [x2_in hJ.1 hn hy, Option.bind_some, if_neg i10, m_cell hM.1 hn hy, Option.bind_some, if_neg i10]
  by_cases c0 : y = x
  · exact ⟨-1, S, M, by rw [c0, if_pos rfl], by rw [c0, if_pos rfl], hR⟩
  have c0' : ¬ nI x = nI y := fun e => c0 ((nI_eq (by omega) (by omega)).1 e).symm
  rw [if_neg c0', if_neg c0']
  rcases yesB v3 with ⟨b, rfl⟩ | ⟨h, h0, h1⟩
  · rw [x10_yesT, Option.bind_some, if_neg i10, m_yesT, Option.bind_some, if_neg i10, x2_foes hJ hn hx, Option.bind_some, m_quarrel hM hV hx (show y < 31 by omega), Option.bind_some]
    have fx : aF a x < 2 ^ aN a := (hV.2.2 x hx).2.2.2.2.2.2.1
    have fy : aF a y < 2 ^ aN a := (hV.2.2 y hy).2.2.2.2.2.2.1
    have hN : 2 ^ aN a ≤ 256 := Nat.pow_le_pow_right (show 2 > 0 by decide) hn
    have hsym : (aF a x).testBit y = (aF a y).testBit x := (hV.2.2 x hx).2.2.2.2.2.2.2.1 y hy
    have e1 : f_X2_setQuarrel S.2.2.2.2.1 (nI x) (nI y) (bI b) = some ((S.2.2.2.2.1.1, S.2.2.2.2.1.2.1, S.2.2.2.2.1.2.2.1, S.2.2.2.2.1.2.2.2.1, upd (upd S.2.2.2.2.1.2.2.2.2.1 x (nI (stb (aF a x) y b))) y (nI (stb (aF a y) x b)), S.2.2.2.2.1.2.2.2.2.2.1, S.2.2.2.2.1.2.2.2.2.2.2.1, S.2.2.2.2.1.2.2.2.2.2.2.2)) := by
      unfold f_X2_setQuarrel
      rw [x2_in hJ.1 hn hx, Option.bind_some, if_neg i10, x2_in hJ.1 hn hy, Option.bind_some, if_neg i10, zIn_t (show x < 8 by omega) (by decide), zIn_t (show y < 8 by omega) (by decide), nI_clamp (show x < 2 ^ 31 by omega), nI_clamp (show y < 2 ^ 31 by omega), (hJ.2.2.2 x hx).2.2.2.2, upd_at, if_neg c0, (hJ.2.2.2 y hy).2.2.2.2, n_one (by omega), n_one (by omega), n_sd, n_sd, n_bsh b (by omega), n_bsh b (by omega), n_or, n_or]
      simp only [if_T]
      rfl
    have jr : JR ((S.2.2.2.2.1.1, S.2.2.2.2.1.2.1, S.2.2.2.2.1.2.2.1, S.2.2.2.2.1.2.2.2.1, upd (upd S.2.2.2.2.1.2.2.2.2.1 x (nI (stb (aF a x) y b))) y (nI (stb (aF a y) x b)), S.2.2.2.2.1.2.2.2.2.2.1, S.2.2.2.2.1.2.2.2.2.2.2.1, S.2.2.2.2.1.2.2.2.2.2.2.2)) (aQu a x y b) := by
      refine ⟨hJ.1, hJ.2.1, hJ.2.2.1, fun z hz => ?_⟩
      obtain ⟨g1, g2, g3, g4, g5⟩ := hJ.2.2.2 z hz
      refine ⟨g1, g2, g3, g4, ?_⟩
      show upd (upd S.2.2.2.2.1.2.2.2.2.1 x (nI (stb (aF a x) y b))) y (nI (stb (aF a y) x b)) z = nI (if z = x then stb (aF a x) y b else if z = y then stb (aF a y) x b else aF a z)
      rw [upd_at, upd_at]
      by_cases d1 : z = y
      · rw [if_pos d1, if_neg (by omega), if_pos d1]
      · rw [if_neg d1]
        by_cases d2 : z = x
        · rw [if_pos d2, if_pos d2]
        · rw [if_neg d2, if_neg d2, if_neg d1, g5]
    have e2 : (if bI ((aF a x).testBit y) = 0 then f_X11_quarrel_46 M (nI x) (nI y) (bI b) 0 else f_X11_quarrel_46 M (nI x) (nI y) (bI b) 1) = f_X11_quarrel_46 M (nI x) (nI y) (bI b) (bI ((aF a x).testBit y)) := by
      cases (aF a x).testBit y <;> rfl
    rw [e1, Option.bind_some, e2, n_tstb (show aF a x < 2 ^ 31 by omega) (by omega)]
    unfold f_X11_quarrel_46
    by_cases c : (aF a x).testBit y = b
    · refine ⟨_, _, M, rfl, by rw [if_pos (bI_inj.2 c)], hT, hr6, ht, aQu a x y b, ⟨hV.quarrel hx hy c0, jr, hM.1, fun z hz => ?_⟩, hE, hZ⟩
      obtain ⟨g1, g2, g3, g4, g5⟩ := hM.2 z hz
      refine ⟨g1, g2, g3, g4, ?_⟩
      show M.2.2.2.2.2.2.2.2.2.2.2.2.1 z = nI (if z = x then stb (aF a x) y b else if z = y then stb (aF a y) x b else aF a z)
      by_cases d2 : z = x
      · rw [if_pos d2, ← c, stb_same, g5, d2]
      · rw [if_neg d2]
        by_cases d1 : z = y
        · rw [if_pos d1, ← c, hsym, stb_same, g5, d1]
        · rw [if_neg d1, g5]
    · refine ⟨_, _, (M.1, M.2.1, M.2.2.1, M.2.2.2.1, M.2.2.2.2.1, M.2.2.2.2.2.1, M.2.2.2.2.2.2.1, M.2.2.2.2.2.2.2.1, M.2.2.2.2.2.2.2.2.1, M.2.2.2.2.2.2.2.2.2.1, M.2.2.2.2.2.2.2.2.2.2.1, M.2.2.2.2.2.2.2.2.2.2.2.1, upd (upd M.2.2.2.2.2.2.2.2.2.2.2.2.1 x (nI (stb (aF a x) y b))) y (nI (stb (aF a y) x b)), M.2.2.2.2.2.2.2.2.2.2.2.2.2.1, M.2.2.2.2.2.2.2.2.2.2.2.2.2.2.1, M.2.2.2.2.2.2.2.2.2.2.2.2.2.2.2.1, M.2.2.2.2.2.2.2.2.2.2.2.2.2.2.2.2.1, M.2.2.2.2.2.2.2.2.2.2.2.2.2.2.2.2.2.1, M.2.2.2.2.2.2.2.2.2.2.2.2.2.2.2.2.2.2.1, M.2.2.2.2.2.2.2.2.2.2.2.2.2.2.2.2.2.2.2.1, M.2.2.2.2.2.2.2.2.2.2.2.2.2.2.2.2.2.2.2.2.1, M.2.2.2.2.2.2.2.2.2.2.2.2.2.2.2.2.2.2.2.2.2.1, M.2.2.2.2.2.2.2.2.2.2.2.2.2.2.2.2.2.2.2.2.2.2.1, M.2.2.2.2.2.2.2.2.2.2.2.2.2.2.2.2.2.2.2.2.2.2.2.1, M.2.2.2.2.2.2.2.2.2.2.2.2.2.2.2.2.2.2.2.2.2.2.2.2.1, M.2.2.2.2.2.2.2.2.2.2.2.2.2.2.2.2.2.2.2.2.2.2.2.2.2.1, M.2.2.2.2.2.2.2.2.2.2.2.2.2.2.2.2.2.2.2.2.2.2.2.2.2.2.1, M.2.2.2.2.2.2.2.2.2.2.2.2.2.2.2.2.2.2.2.2.2.2.2.2.2.2.2.1, M.2.2.2.2.2.2.2.2.2.2.2.2.2.2.2.2.2.2.2.2.2.2.2.2.2.2.2.2.1, M.2.2.2.2.2.2.2.2.2.2.2.2.2.2.2.2.2.2.2.2.2.2.2.2.2.2.2.2.2.1, M.2.2.2.2.2.2.2.2.2.2.2.2.2.2.2.2.2.2.2.2.2.2.2.2.2.2.2.2.2.2), rfl, ?_, hT, hr6, ht, aQu a x y b, ⟨hV.quarrel hx hy c0, jr, hM.1, fun z hz => ?_⟩, hE, hZ⟩
      · rw [if_neg (fun q => c (bI_inj.1 q)), zIn_t (show x < 8 by omega) (by decide), zIn_t (show y < 8 by omega) (by decide), nI_clamp (show x < 2 ^ 31 by omega), nI_clamp (show y < 2 ^ 31 by omega), (hM.2 x hx).2.2.2.2, upd_at, if_neg c0, (hM.2 y hy).2.2.2.2, n_one (by omega), n_one (by omega), n_xor, n_xor, stb_flip c, stb_flip (fun q => c (hsym.trans q))]
        simp only [if_T]
      · obtain ⟨g1, g2, g3, g4, g5⟩ := hM.2 z hz
        refine ⟨g1, g2, g3, g4, ?_⟩
        show upd (upd M.2.2.2.2.2.2.2.2.2.2.2.2.1 x (nI (stb (aF a x) y b))) y (nI (stb (aF a y) x b)) z = nI (if z = x then stb (aF a x) y b else if z = y then stb (aF a y) x b else aF a z)
        rw [upd_at, upd_at]
        by_cases d1 : z = y
        · rw [if_pos d1, if_neg (by omega), if_pos d1]
        · rw [if_neg d1]
          by_cases d2 : z = x
          · rw [if_pos d2, if_pos d2]
          · rw [if_neg d2, if_neg d2, if_neg d1, g5]
  · exact ⟨-1, S, M, by rw [x10_yesF h0 h1] <;> rfl, by rw [m_yesF h] <;> rfl, hR⟩
end
