/-! THE LAW'S NIGHTS -/
theorem ct_lt1 {p q : Nat → Bool} {i : Nat} (hp : p i = false) (hq : q i = true) : ∀ {n : Nat}, (∀ j, j < n → p j = true → q j = true) → i < n → ct p n < ct q n
  | 0, _, h => by omega
  | n + 1, h, hi => by
    rw [ct, ct]
    by_cases e : i = n
    · subst e
      have := ct_mo (n := i) (fun j hj => h j (by omega))
      rw [hp, hq]
      show ct p i + 0 < ct q i + 1
      omega
    · have := ct_lt1 hp hq (n := n) (fun j hj => h j (by omega)) (by omega)
      cases hn : p n with
      | false => show ct p n + 0 < _; omega
      | true => rw [h n (by omega) hn]; omega
theorem fit_0 {R : Nat → Option Nat} (h0 : R 0 = some 0) (f : Nat) (cw : Nat → Nat) (cb : Nat → Bool) : fit R f 0 cw cb 0 = true := by
  unfold fit
  rw [h0]
  show (true && decide (0 ≤ f) && true) = true
  rw [decide_eq_true (Nat.zero_le f)]; rfl
theorem fit_1 (R : Nat → Option Nat) (f : Nat) (cw : Nat → Nat) (cb : Nat → Bool) (t : Nat) : fit R f 1 cw cb t = (fit R f 0 cw cb t && (t.testBit (cw 0) == cb 0)) := by
  unfold fit
  show ((R t).isSome && decide (nv (R t) ≤ f) && (true && (t.testBit (cw 0) == cb 0))) = ((R t).isSome && decide (nv (R t) ≤ f) && true && (t.testBit (cw 0) == cb 0))
  rw [Bool.true_and, Bool.and_true]
def LSy (S : VX10) (a : AJ) : Prop := JR S.2.2.2.2.1 a ∧ S.2.2.2.2.2.1.2.2.1 = nI 0 ∧ S.2.2.2.2.2.1.2.2.2 = nI 0 ∧ RK S
section
variable {SX : VSX} {S : VX10} {a : AJ} {R : Nat → Option Nat} {W : Nat → Nat}
theorem sn0 {Z : VX7} (n : Nat) (h : Z.2.2 = 0) : SN Z n 0 (fun _ => 0) (fun _ => false) := ⟨Nat.zero_le _, h, fun i hi => absurd hi (Nat.not_lt_zero i)⟩
/-- the sets of a night, by f favours -/
abbrev fF (R : Nat → Option Nat) (f : Nat) : Nat → Bool := fit R f 0 (fun _ => 0) (fun _ => false)
theorem ls_cul (h : LSt S a 0 0) (hT : TA a R W) {f : Nat} (hf : f < 100) : ∃ S1, f_X10_culprits S (nI f) = some (nI (un (fF R f) ((2 ^ aN a))), S1) ∧ LSt S1 a 0 0 ∧ f_X10_asked S1 = some 0 := by
  have hp0 := Nat.two_pow_pos (aN a)
  have h0 : fF R f 0 = true := fit_0 hT.r0 f _ _
  have hc : 0 < ct (fF R f) ((2 ^ aN a)) := ct_pos h0 hp0
  rcases e_culprits h.1 hT hf (sn0 (aN a) h.2.2.2.1) with ⟨q, -⟩ | ⟨-, Z, e⟩
  · have q : ct (fF R f) ((2 ^ aN a)) = 0 := q
    omega
  · have hI : isx (fF R f) ((2 ^ aN a - 1)) ((2 ^ aN a)) = 0 := Nat.eq_of_testBit_eq fun i => by
      rw [Nat.zero_testBit]
      cases hb : (isx (fF R f) ((2 ^ aN a - 1)) ((2 ^ aN a))).testBit i with
      | false => rfl
      | true =>
        have := (isx_bit.1 hb).2 0 hp0 h0
        rw [Nat.zero_testBit] at this
        cases this
    exact ⟨_, e, h, congrArg (fun v => some (nI v)) hI⟩
theorem l_257 (hy : LSy S a) (hT : TA a R W) {cw : Nat → Nat} {cb : Nat → Bool} (hs : SN S.2.2.2.2.2.2.2.2.2 (aN a) 1 cw cb) {f : Nat} (hf : f < 100) : ∃ S', f_L_nights_257 SX S (nI f) (nI (un (fF R f) ((2 ^ aN a)))) = some (1, S') ∧ LSt S' a 0 0 := by
  obtain ⟨r, S1, e1, r1, hy1, hs1⟩ : ∃ r S1, f_X10_culprits S 99 = some (r, S1) ∧ ¬ r < -9 ∧ LSy S1 a ∧ SN S1.2.2.2.2.2.2.2.2.2 (aN a) 1 cw cb := by
    have hu := un_lt (p := fit R 99 1 cw cb) (m := aN a) (2 ^ aN a) (Nat.le_refl _)
    have hN := hT.1.N
    rcases e_culprits hy.1 hT (f := 99) (by decide) hs with ⟨-, Z, e⟩ | ⟨-, Z, e⟩
    · exact ⟨_, _, e, by decide, hy, hs⟩
    · refine ⟨_, _, e, ?_, hy, hs⟩
      rw [Int32.lt_iff_toInt_lt, nI_toInt (by omega), show (-9 : Int32).toInt = -9 by decide]
      omega
  have e2 := e_forget hs1
  obtain ⟨S3, e3, h3, -⟩ := ls_cul (S := (S1.1, S1.2.1, S1.2.2.1, S1.2.2.2.1, S1.2.2.2.2.1, S1.2.2.2.2.2.1, S1.2.2.2.2.2.2.1, S1.2.2.2.2.2.2.2.1, S1.2.2.2.2.2.2.2.2.1, (S1.2.2.2.2.2.2.2.2.2.1, S1.2.2.2.2.2.2.2.2.2.2.1, 0))) ⟨hy1.1, hy1.2.1, hy1.2.2.1, rfl, hy1.2.2.2⟩ hT hf
  refine ⟨S3, ?_, h3⟩
  unfold f_L_nights_257
  rw [e1, Option.bind_some, if_neg (show ¬ ((r, S1) : Int32 × VX10).1 < -9 from r1), show f_X10_forget ((r, S1) : Int32 × VX10).2 0 = _ from e2, Option.bind_some, if_pos (show ((nI 1, (S1.1, S1.2.1, S1.2.2.1, S1.2.2.2.1, S1.2.2.2.2.1, S1.2.2.2.2.2.1, S1.2.2.2.2.2.2.1, S1.2.2.2.2.2.2.2.1, S1.2.2.2.2.2.2.2.2.1, (S1.2.2.2.2.2.2.2.2.2.1, S1.2.2.2.2.2.2.2.2.2.2.1, 0))) : Int32 × VX10).1 = 1 from rfl), show f_X10_culprits ((nI 1, (S1.1, S1.2.1, S1.2.2.1, S1.2.2.2.1, S1.2.2.2.2.1, S1.2.2.2.2.2.1, S1.2.2.2.2.2.2.1, S1.2.2.2.2.2.2.2.1, S1.2.2.2.2.2.2.2.2.1, (S1.2.2.2.2.2.2.2.2.2.1, S1.2.2.2.2.2.2.2.2.2.2.1, 0))) : Int32 × VX10).2 (nI f) = _ from e3, Option.bind_some, if_pos rfl]
theorem l_188 (hy : LSy S a) (hT : TA a R W) {cw : Nat → Nat} {cb : Nat → Bool} (hs : SN S.2.2.2.2.2.2.2.2.2 (aN a) 1 cw cb) {f x : Nat} {b : Bool} (hf : f < 100) (hx : x < aN a) (ex : cw 0 = x) (eb : cb 0 = b) (hc : 0 < ct (fit R f 1 cw cb) ((2 ^ aN a))) : ∃ S', f_L_nights_178 SX S (nI f) (nI (un (fF R f) ((2 ^ aN a)))) (nI x) (bI b) (nI (un (fit R f 1 cw cb) ((2 ^ aN a)))) (nI (isx (fit R f 1 cw cb) ((2 ^ aN a - 1)) ((2 ^ aN a)))) = some (1, S') ∧ LSt S' a 0 0 := by
  have hN := hT.1.N
  have hn := hT.1.2.1
  obtain ⟨S', e, h⟩ := l_257 (SX := SX) hy hT hs hf
  refine ⟨S', ?_, h⟩
  have f1 : ∀ t, fit R f 1 cw cb t = (fF R f t && (t.testBit x == b)) := fun t => by rw [fit_1, ex, eb]; rfl
  obtain ⟨t0, t1, t2⟩ := ct_ex hc
  have bt : ∀ t, fit R f 1 cw cb t = true → t.testBit x = b ∧ fF R f t = true := fun t ht => by
    rw [f1 t, Bool.and_eq_true] at ht
    exact ⟨eq_of_beq ht.2, ht.1⟩
  have hU : un (fit R f 1 cw cb) (2 ^ aN a) < 2 ^ aN a := un_lt _ (Nat.le_refl _)
  have hI : isx (fit R f 1 cw cb) (2 ^ aN a - 1) (2 ^ aN a) < 2 ^ aN a := isx_lt (fu_lt a) _
  have s1 : sd (un (fit R f 1 cw cb) ((2 ^ aN a))) (un (fF R f) ((2 ^ aN a))) = 0 := sd0.2 fun i hi => by
    obtain ⟨t, k1, k2, k3⟩ := un_bit.1 hi
    exact un_bit.2 ⟨t, k1, (bt t k2).2, k3⟩
  have s2 : sd (isx (fit R f 1 cw cb) ((2 ^ aN a - 1)) ((2 ^ aN a))) (un (fit R f 1 cw cb) ((2 ^ aN a))) = 0 := sd0.2 fun i hi => un_bit.2 ⟨t0, t1, t2, (isx_bit.1 hi).2 t0 t1 t2⟩
  have u1 : (un (fit R f 1 cw cb) ((2 ^ aN a))).testBit x = b := by
    cases b with
    | true => exact un_bit.2 ⟨t0, t1, t2, (bt t0 t2).1⟩
    | false =>
      cases hb : (un (fit R f 1 cw cb) ((2 ^ aN a))).testBit x with
      | false => rfl
      | true =>
        obtain ⟨t, k1, k2, k3⟩ := un_bit.1 hb
        rw [(bt t k2).1] at k3
        cases k3
  have u2 : (isx (fit R f 1 cw cb) ((2 ^ aN a - 1)) ((2 ^ aN a))).testBit x = b := by
    cases b with
    | true => exact isx_bit.2 ⟨by rw [all_bit]; exact decide_eq_true hx, fun t _ ht => (bt t ht).1⟩
    | false =>
      cases hb : (isx (fit R f 1 cw cb) ((2 ^ aN a - 1)) ((2 ^ aN a))).testBit x with
      | false => rfl
      | true =>
        have := (isx_bit.1 hb).2 t0 t1 t2
        rw [(bt t0 t2).1] at this
        cases this
  have e188 : f_L_nights_188 SX S (nI f) (nI (un (fF R f) ((2 ^ aN a)))) (nI x) (bI b) (nI (un (fit R f 1 cw cb) ((2 ^ aN a)))) (nI (isx (fit R f 1 cw cb) ((2 ^ aN a - 1)) ((2 ^ aN a)))) = some (1, S') := by
    unfold f_L_nights_188
    rw [if_neg (nI_pos (by omega)), n_sd, n_sd, s1, s2, if_pos (show nI 0 = 0 from rfl), if_pos (show nI 0 = 0 from rfl), l_in (show un (fit R f 1 cw cb) (2 ^ aN a) < 2 ^ 31 by omega) (by omega), Option.bind_some, u1]
    have e231 : f_L_nights_231 SX S (nI f) (nI (un (fF R f) ((2 ^ aN a)))) (nI x) (bI b) (nI (isx (fit R f 1 cw cb) ((2 ^ aN a - 1)) ((2 ^ aN a)))) (bI b) (bI b) = some (1, S') := by
      unfold f_L_nights_231
      rw [if_pos rfl, l_in (show isx (fit R f 1 cw cb) (2 ^ aN a - 1) (2 ^ aN a) < 2 ^ 31 by omega) (by omega), Option.bind_some, u2]
      have e252 : f_L_nights_252 SX S (nI f) (nI (un (fF R f) ((2 ^ aN a)))) (bI b) (bI b) = some (1, S') := by
        unfold f_L_nights_252
        rw [if_pos rfl, e]
      cases b with
      | true => rw [if_pos (show bI true = 1 from rfl)]; exact e252
      | false => rw [if_neg (show ¬ bI false = 1 by decide)]; exact e252
    cases b with
    | true => rw [if_pos (show bI true = 1 from rfl)]; exact e231
    | false => rw [if_neg (show ¬ bI false = 1 by decide)]; exact e231
  unfold f_L_nights_178
  rw [e188, if_neg (nI_pos (by omega))]
  cases b with
  | true => rw [if_neg (show ¬ bI true = 0 from i10)]
  | false => rw [if_pos (show bI false = 0 from rfl)]
theorem l_nights (hL : SX.1 ≤ 260) (hS : LSt S a 0 0) (hT : TA a R W) (h2 : 2 ≤ aN a) : ∃ S', f_L_nights SX S (nI (aN a)) (nI (un (rP R) ((2 ^ aN a)))) = some (1, S') ∧ LSt S' a 0 0 := by
  have hN := hT.1.N
  have hn := hT.1.2.1
  have hp0 := Nat.two_pow_pos (aN a)
  obtain ⟨c0, b0, e0⟩ := cell_ok hL (k := 0) (by decide)
  obtain ⟨c1, b1, e1⟩ := cell_ok hL (k := 1) (by decide)
  obtain ⟨c2, b2, e2⟩ := cell_ok hL (k := 2) (by decide)
  have rf : nI c0 - nI c0 / 20 * 20 = nI (c0 % 20) := pk_rem (d := 20) (by omega) (by decide) (by decide)
  have rx : nI c1 - nI c1 / nI (aN a) * nI (aN a) = nI (c1 % aN a) := pk_rem (by omega) (by omega) (by omega)
  have ri : nI c2 - nI c2 / 2 * 2 = bI (decide (c2 % 2 = 1)) := by
    rw [show nI c2 - nI c2 / 2 * 2 = nI (c2 % 2) from pk_rem (d := 2) (by omega) (by decide) (by decide)]
    rcases Nat.mod_two_eq_zero_or_one c2 with q | q
    · rw [q]; rfl
    · rw [q]; rfl
  have hx : c1 % aN a < aN a := Nat.mod_lt _ (by omega)
  have hf : c0 % 20 < 100 := by omega
  generalize c0 % 20 = f at rf hf
  generalize c1 % aN a = x at rx hx
  generalize decide (c2 % 2 = 1) = b at ri
  have F0 : fF R f 0 = true := fit_0 hT.r0 f _ _
  obtain ⟨S1, k1, k2, k3⟩ := ls_cul hS hT hf
  have hU : un (fF R f) (2 ^ aN a) < 2 ^ aN a := un_lt _ (Nat.le_refl _)
  have sU : sd (un (fF R f) ((2 ^ aN a))) (un (rP R) ((2 ^ aN a))) = 0 := sd0.2 fun i hi => by
    obtain ⟨t, q1, q2, q3⟩ := un_bit.1 hi
    have q2 : ((R t).isSome && decide (nv (R t) ≤ f) && true) = true := q2
    rw [Bool.and_true, Bool.and_eq_true] at q2
    exact un_bit.2 ⟨t, q1, q2.1, q3⟩
  have hB : 0 < ct (fF R f) ((2 ^ aN a)) := ct_pos F0 hp0
  have hAB : ct (fun t => fF R f t && t.testBit x) ((2 ^ aN a)) < ct (fF R f) ((2 ^ aN a)) := ct_lt1 (i := 0) (by show (fF R f 0 && (0 : Nat).testBit x) = false; rw [Nat.zero_testBit, Bool.and_false]) F0 (fun j _ h => (Bool.and_eq_true_iff.1 h).1) hp0
  have hBN := ct_le (fF R f) (2 ^ aN a)
  obtain ⟨S2, m1, m2, mu, ml⟩ : ∃ S2, f_X10_odds S1 (nI f) (nI x) = some (nI (ct (fun t => fF R f t && t.testBit x) ((2 ^ aN a))), S2) ∧ LSt S2 a 0 0 ∧ f_X10_upper S2 = some (lN (ct (fun t => fF R f t && t.testBit x) ((2 ^ aN a)) / Nat.gcd (ct (fun t => fF R f t && t.testBit x) ((2 ^ aN a))) (ct (fF R f) ((2 ^ aN a))))) ∧ f_X10_lower S2 = some (lN (ct (fF R f) ((2 ^ aN a)) / Nat.gcd (ct (fun t => fF R f t && t.testBit x) ((2 ^ aN a))) (ct (fF R f) ((2 ^ aN a))))) := by
    obtain ⟨Z, e⟩ := e_odds k2.1 hT hf hx (sn0 (aN a) k2.2.2.2.1) hB
    exact ⟨_, e, k2, rfl, rfl⟩
  have hbit : (un (fF R f) ((2 ^ aN a))).testBit x = decide (0 < ct (fun t => fF R f t && t.testBit x) ((2 ^ aN a))) := by
    by_cases c : 0 < ct (fun t => fF R f t && t.testBit x) ((2 ^ aN a))
    · obtain ⟨t, q1, q2⟩ := ct_ex c
      have q2 := Bool.and_eq_true_iff.1 q2
      rw [decide_eq_true c]
      exact un_bit.2 ⟨t, q1, q2.1, q2.2⟩
    · rw [decide_eq_false c]
      cases hb : (un (fF R f) ((2 ^ aN a))).testBit x with
      | false => rfl
      | true =>
        obtain ⟨t, q1, q2, q3⟩ := un_bit.1 hb
        exact absurd (ct_pos (p := fun t => fF R f t && t.testBit x) (i := t) (by show (fF R f t && t.testBit x) = true; rw [q2, q3]; rfl) q1) c
  have hA1 : b = true → ct (fit R f 1 (fun i => if i = 0 then x else 0) (fun i => if i = 0 then b else false)) ((2 ^ aN a)) = ct (fun t => fF R f t && t.testBit x) ((2 ^ aN a)) := fun e => ct_cg fun t _ => by
    rw [fit_1]
    show (fF R f t && (t.testBit x == b)) = _
    rw [e]
    cases t.testBit x <;> rfl
  have hA0 : b = false → 0 < ct (fit R f 1 (fun i => if i = 0 then x else 0) (fun i => if i = 0 then b else false)) ((2 ^ aN a)) := fun e => ct_pos (i := 0) (by
    rw [fit_1]
    show (fF R f 0 && ((0 : Nat).testBit x == b)) = true
    rw [F0, Nat.zero_testBit, e]; rfl) hp0
  generalize ct (fun t => fF R f t && t.testBit x) ((2 ^ aN a)) = A at *
  have hlt : A / Nat.gcd A (ct (fF R f) ((2 ^ aN a))) < ct (fF R f) ((2 ^ aN a)) / Nat.gcd A (ct (fF R f) ((2 ^ aN a))) := Nat.div_lt_of_lt_mul (by rw [Nat.mul_div_cancel' (Nat.gcd_dvd_right A (ct (fF R f) ((2 ^ aN a))))]; exact hAB)
  have hle : ct (fF R f) (2 ^ aN a) / Nat.gcd A (ct (fF R f) (2 ^ aN a)) ≤ ct (fF R f) (2 ^ aN a) := Nat.div_le_self _ _
  generalize hp : A / Nat.gcd A (ct (fF R f) ((2 ^ aN a))) = p at *
  generalize hq : ct (fF R f) ((2 ^ aN a)) / Nat.gcd A (ct (fF R f) ((2 ^ aN a))) = q at *
  have L1 : ¬ 0 < lg_cmp (lN p) (lN q) := fun h => by
    have := (lN_lt (show q < 2 ^ 31 by omega) (show p < 2 ^ 31 by omega)).1 ((lg_cmp_gt _ _).1 h)
    omega
  have L2 : ¬ lg_cmp (lN p) (lN q) = 0 := fun h => by
    have := (lN_eq (show p < 2 ^ 31 by omega) (show q < 2 ^ 31 by omega)).1 ((lg_cmp_eq _ _).1 h)
    omega
  obtain ⟨Y, n1, n2⟩ := e_saw (S := S2) m2.1 hT.1 hx b (m := 0) (by decide) (sn0 (aN a) m2.2.2.2.1)
  have n2 : SN Y (aN a) 1 (fun i => if i = 0 then x else 0) (fun i => if i = 0 then b else false) := n2
  have hy3 : LSy ((S2.1, S2.2.1, S2.2.2.1, S2.2.2.2.1, S2.2.2.2.2.1, S2.2.2.2.2.2.1, S2.2.2.2.2.2.2.1, S2.2.2.2.2.2.2.2.1, S2.2.2.2.2.2.2.2.2.1, Y)) a := ⟨m2.1, m2.2.1, m2.2.2.1, m2.2.2.2.2⟩
  have main : ∃ S', f_L_nights_88 SX S2 (nI f) (nI (un (fF R f) ((2 ^ aN a)))) (nI x) (bI b) (nI A) (bI (decide (0 < A))) = some (1, S') ∧ LSt S' a 0 0 := by
    have e88 : f_L_nights_88 SX S2 (nI f) (nI (un (fF R f) ((2 ^ aN a)))) (nI x) (bI b) (nI A) (bI (decide (0 < A))) = (f_X10_culprits ((S2.1, S2.2.1, S2.2.2.1, S2.2.2.2.1, S2.2.2.2.2.1, S2.2.2.2.2.2.1, S2.2.2.2.2.2.2.1, S2.2.2.2.2.2.2.2.1, S2.2.2.2.2.2.2.2.2.1, Y)) (nI f)).bind fun r23 => (f_X10_asked r23.2).bind fun r25 => if bI b = 1 then if r23.1 < 0 then f_L_nights_165 SX r23.2 (nI f) (nI (un (fF R f) ((2 ^ aN a)))) (nI x) (bI b) (nI A) r23.1 r25 0 else f_L_nights_165 SX r23.2 (nI f) (nI (un (fF R f) ((2 ^ aN a)))) (nI x) (bI b) (nI A) r23.1 r25 1 else f_L_nights_178 SX r23.2 (nI f) (nI (un (fF R f) ((2 ^ aN a)))) (nI x) (bI b) r23.1 r25 := by
      unfold f_L_nights_88
      rw [l_in (show un (fF R f) (2 ^ aN a) < 2 ^ 31 by omega) (by omega), Option.bind_some, hbit, if_pos rfl, mu, Option.bind_some, ml, Option.bind_some, if_neg L1, Option.bind_some, Option.bind_some, if_neg L2, n1, Option.bind_some, if_pos (show ((nI 0, (S2.1, S2.2.1, S2.2.2.1, S2.2.2.2.1, S2.2.2.2.2.1, S2.2.2.2.2.2.1, S2.2.2.2.2.2.2.1, S2.2.2.2.2.2.2.2.1, S2.2.2.2.2.2.2.2.2.1, Y)) : Int32 × VX10).1 = 0 from rfl)]
    rw [e88]
    rcases e_culprits hy3.1 hT hf n2 with ⟨q0, Z, e⟩ | ⟨q0, Z, e⟩
    · have bt : b = true := by
        cases b with
        | true => rfl
        | false => have := hA0 rfl; omega
      have hA := hA1 bt
      have hA : A = 0 := by omega
      subst bt
      obtain ⟨S', w1, w2⟩ := l_257 (SX := SX) (S := (S2.1, S2.2.1, S2.2.2.1, S2.2.2.2.1, S2.2.2.2.2.1, S2.2.2.2.2.2.1, Z, S2.2.2.2.2.2.2.2.1, S2.2.2.2.2.2.2.2.2.1, Y)) ⟨m2.1, m2.2.1, m2.2.2.1, m2.2.2.2.2⟩ hT n2 hf
      refine ⟨S', ?_, w2⟩
      rw [e, Option.bind_some, e_asked, Option.bind_some, if_pos (show bI true = 1 from rfl), if_pos (show ((-9 : Int32), (S2.1, S2.2.1, S2.2.2.1, S2.2.2.2.1, S2.2.2.2.2.1, S2.2.2.2.2.2.1, Z, S2.2.2.2.2.2.2.2.1, S2.2.2.2.2.2.2.2.2.1, Y)).1 < 0 from (by decide : (-9 : Int32) < 0))]
      unfold f_L_nights_165
      rw [if_pos (show nI A ≤ 0 from nI_le (show A ≤ 0 by omega) (by decide))]
      unfold f_L_nights_175
      rw [if_pos rfl]
      unfold f_L_nights_178
      rw [if_neg (show ¬ bI true = 0 from i10)]
      unfold f_L_nights_188
      rw [if_pos (show ((-9 : Int32), (S2.1, S2.2.1, S2.2.2.1, S2.2.2.2.1, S2.2.2.2.2.1, S2.2.2.2.2.2.1, Z, S2.2.2.2.2.2.2.2.1, S2.2.2.2.2.2.2.2.2.1, Y)).1 < 0 from (by decide : (-9 : Int32) < 0))]
      exact w1
    · obtain ⟨S', w1, w2⟩ := l_188 (SX := SX) (S := (tel S2.1 (nI (isx (fit R f 1 (fun i => if i = 0 then x else 0) (fun i => if i = 0 then b else false)) ((2 ^ aN a - 1)) ((2 ^ aN a)))), S2.2.1, S2.2.2.1, S2.2.2.2.1, S2.2.2.2.2.1, S2.2.2.2.2.2.1, Z, S2.2.2.2.2.2.2.2.1, S2.2.2.2.2.2.2.2.2.1, Y)) ⟨m2.1, m2.2.1, m2.2.2.1, m2.2.2.2.2⟩ hT n2 hf hx rfl rfl q0
      have hU1 : un (fit R f 1 (fun i => if i = 0 then x else 0) (fun i => if i = 0 then b else false)) (2 ^ aN a) < 2 ^ aN a := un_lt _ (Nat.le_refl _)
      refine ⟨S', ?_, w2⟩
      rw [e, Option.bind_some, e_asked, Option.bind_some]
      cases b with
      | false => rw [if_neg (show ¬ bI false = 1 by decide)]; exact w1
      | true =>
        have hA := hA1 rfl
        rw [if_pos (show bI true = 1 from rfl), if_neg (show ¬ nI (un (fit R f 1 (fun i => if i = 0 then x else 0) (fun i => if i = 0 then true else false)) ((2 ^ aN a))) < 0 from nI_pos (by omega))]
        unfold f_L_nights_165
        rw [if_neg (show ¬ nI A ≤ 0 from nI_ge (show 0 < A by omega) (by omega))]
        unfold f_L_nights_175
        rw [if_pos rfl]
        exact w1
  obtain ⟨S', w1, w2⟩ := main
  refine ⟨S', ?_, w2⟩
  unfold f_L_nights
  rw [show f_L_cell SX 0 = _ from e0, Option.bind_some, rf, k1, Option.bind_some, show f_X10_asked ((nI (un (fF R f) ((2 ^ aN a))), S1) : Int32 × VX10).2 = _ from k3, Option.bind_some, if_neg (show ¬ ((nI (un (fF R f) ((2 ^ aN a))), S1) : Int32 × VX10).1 < 0 from nI_pos (by omega)), if_pos rfl, n_sd, sU, if_pos (show nI 0 = 0 from rfl), show f_L_cell SX 1 = _ from e1, Option.bind_some, if_neg (nI_ne0 (show 0 < aN a by omega) (by omega)), show f_L_cell SX 2 = _ from e2, Option.bind_some, rx, ri, show f_X10_odds ((nI (un (fF R f) ((2 ^ aN a))), S1) : Int32 × VX10).2 (nI f) (nI x) = _ from m1, Option.bind_some, if_neg (show ¬ ((nI A, S2) : Int32 × VX10).1 < 0 from nI_pos (by omega))]
  by_cases c : 0 < A
  · rw [decide_eq_true c] at w1
    rw [if_neg (show ¬ ((nI A, S2) : Int32 × VX10).1 ≤ 0 from nI_ge c (by omega))]
    exact w1
  · rw [decide_eq_false c] at w1
    rw [if_pos (show ((nI A, S2) : Int32 × VX10).1 ≤ 0 from nI_le (show A ≤ 0 by omega) (by decide))]
    exact w1
end
