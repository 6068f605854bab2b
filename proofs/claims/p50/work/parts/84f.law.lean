/-! THE LAW HOLDS -/
theorem l_49 {SX : VSX} (hL : SX.1 ≤ 260) {S : VX10} {d : VA48} {a : AJ} (hS : LSt S a 0 0) (hV : AV a) (h2 : 2 ≤ aN a) (h6 : aN a ≤ 6) (hD : DR d a) : f_L_law_49 SX S d (fun _ => 0) (d 0) (((1 : Int32) <<< (d 0 &&& 31)) - 1) = some 1 := by
  obtain ⟨R, W, hT⟩ := TA.ex hV
  have hN : 2 ^ aN a ≤ 64 := Nat.le_trans (Nat.pow_le_pow_right (by decide) h6) (by decide)
  have hp0 := Nat.two_pow_pos (aN a)
  have hU : un (rP R) (2 ^ aN a) < 2 ^ aN a := un_lt _ (Nat.le_refl _)
  have hm : ((1 : Int32) <<< (nI (aN a) &&& 31)) - 1 = nI ((2 ^ aN a - 1)) := by
    rw [n_one (by omega)]
    exact pk_sub (a := 2 ^ aN a) (b := 1) (by omega)
  have eor : sd ((2 ^ aN a - 1)) (un (rP R) ((2 ^ aN a))) ||| un (rP R) ((2 ^ aN a)) = (2 ^ aN a - 1) := Nat.eq_of_testBit_eq fun i => by
    rw [Nat.testBit_or, sd_bit]
    cases hb : (un (rP R) ((2 ^ aN a))).testBit i with
    | true => rw [in_all hU hb]; rfl
    | false => rw [Bool.not_false, Bool.and_true, Bool.or_false]
  have eand : sd ((2 ^ aN a - 1)) (un (rP R) ((2 ^ aN a))) &&& un (rP R) ((2 ^ aN a)) = 0 := Nat.eq_of_testBit_eq fun i => by
    rw [Nat.testBit_and, sd_bit, Nat.zero_testBit]
    cases (un (rP R) ((2 ^ aN a))).testBit i with
    | true => rw [Bool.not_true, Bool.and_false, Bool.false_and]
    | false => rw [Bool.and_false]
  obtain ⟨S1, e1, h1, a1, -⟩ := ls_reached hS hT
  obtain ⟨S2, e3, h3, a3⟩ := ls_ever h1 hT
  have hm8 : mx R (2 ^ aN a) ≤ 8 := by rw [← gw_mx]; exact pc_le _
  have hg : gw R (2 ^ aN a) < 2 ^ aN a := gw_lt hp0 _ (Nat.le_refl _)
  have main := l_97 (SX := SX) (d := d) (P3 := fun _ => 0) h3 hT h6 (nI (ct (rP R) ((2 ^ aN a)))) (fun m S' P' hS' hP' => by
    obtain ⟨w, T1, q1, q2, q3, q4⟩ := ls_most hS' hT
    rcases ls_order q3 hT hg (q := 1) (by decide) with ⟨q, -⟩ | ⟨v, t, T2, q, -, -, f1, f2, -⟩
    · rw [q1] at q; cases q
    rw [q1] at q
    cases q
    obtain ⟨T3, b1, b2⟩ := l_bands f2 hT h6 hP'
    obtain ⟨T4, n1, n2⟩ := l_nights (SX := SX) hL b2 hT h2
    obtain ⟨T5, r1⟩ := l_friends (SX := SX) n2 hT h6 hD
    rw [f_L_law_97, if_pos (nI_lt (by omega) (by omega)), q2, Option.bind_some, if_pos rfl, l_bits (show gw R (2 ^ aN a) < 256 by omega), Option.bind_some, gw_mx, if_pos rfl, show f_X10_asked ((nI (gw R ((2 ^ aN a))), T1) : Int32 × VX10).2 = _ from q4, Option.bind_some, show f_X10_order ((nI (gw R ((2 ^ aN a))), T1) : Int32 × VX10).2 ((nI (gw R ((2 ^ aN a))), T1) : Int32 × VX10).1 1 = _ from f1, Option.bind_some, if_pos rfl, show f_L_bands ((nI w, T2) : Int32 × VX10).2 P' (nI (aN a)) (nI (ct (rP R) ((2 ^ aN a)))) = _ from b1, Option.bind_some, if_neg (show ¬ ((1 : Int32), T3).1 = 0 from i10), show f_L_nights SX ((1 : Int32), T3).2 (nI (aN a)) (nI (un (rP R) ((2 ^ aN a)))) = _ from n1, Option.bind_some, if_neg (show ¬ ((1 : Int32), T4).1 = 0 from i10), show f_L_friends SX ((1 : Int32), T4).2 d (nI (aN a)) (nI (ct (rP R) ((2 ^ aN a)))) = _ from r1, Option.bind_some, if_neg (show ¬ ((1 : Int32), T5).1 = 0 from i10)])
  rw [hD.1, hm]
  unfold f_L_law_49
  rw [e1, Option.bind_some, show f_X10_asked ((nI (ct (rP R) ((2 ^ aN a))), S1) : Int32 × VX10).2 = _ from a1, Option.bind_some, show f_X10_ever ((nI (ct (rP R) ((2 ^ aN a))), S1) : Int32 × VX10).2 = _ from e3, Option.bind_some, show f_X10_asked ((nI (un (rP R) ((2 ^ aN a))), S2) : Int32 × VX10).2 = _ from a3, Option.bind_some, n_or, if_pos (congrArg nI eor), Option.bind_some, n_and, if_pos (show nI (sd ((2 ^ aN a - 1)) (un (rP R) ((2 ^ aN a))) &&& un (rP R) ((2 ^ aN a))) = 0 by rw [eand]; rfl)]
  exact main
theorem law_ok {SX : VSX} (hL : SX.1 ≤ 260) : LawOK SX := by
  obtain ⟨d, e1, hV, hD, h2, h6, hl⟩ := numbers_ok hL
  obtain ⟨S1, e2, h0⟩ := jl_all (S := v0) hV h2 h6 hD (fun x hx => (hl x hx).2) ⟨_, rr0_of v_X1_ok⟩
  exact ⟨d, S1, e1, e2, by decide, l_49 hL h0.ls hV h2 h6 hD⟩
