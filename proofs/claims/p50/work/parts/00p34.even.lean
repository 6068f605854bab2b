/-! THE STEPS: evenings -/
theorem all_bit {n i : Nat} : (2 ^ n - 1).testBit i = decide (i < n) := Nat.testBit_two_pow_sub_one n i
theorem in_all {s n z : Nat} (hs : s < 2 ^ n) (h : s.testBit z = true) : (2 ^ n - 1).testBit z = true := by
  rw [all_bit]
  refine decide_eq_true (Classical.byContradiction fun c => ?_)
  rw [s_out hs (show n ≤ z by omega)] at h; cases h
theorem AV.N {a : AJ} (hV : AV a) : 2 ^ aN a ≤ 256 := Nat.pow_le_pow_right (show 2 > 0 by decide) hV.2.1
theorem x2_costA {J : VX2} {a : AJ} (hJ : JR J a) (hV : AV a) {x g : Nat} (hx : x < aN a) (hg : g < 2 ^ aN a) : f_X2_favoursFor J (nI x) (nI g) (nI (2 ^ aN a - 1)) = some (oI (costC a x g (2 ^ aN a - 1))) :=
  x2_cost hJ hV hx hg (by have := hV.N; omega) (fun z hz => in_all hg hz) (by rw [all_bit]; exact decide_eq_true hx)
theorem m_costA {M : VX11} {a : AJ} (hM : MR M a) (hV : AV a) {x g : Nat} (hx : x < aN a) (hg : g < 2 ^ aN a) : f_X11_costOf M (nI x) (nI g) (nI (2 ^ aN a - 1)) = some (nI (nv (costC a x g (2 ^ aN a - 1)))) :=
  m_cost hM hV hx hg (by have := hV.N; omega)
theorem or_lt {s x n : Nat} (hs : s < 2 ^ n) (hx : x < n) : s ||| 2 ^ x < 2 ^ n := Nat.or_lt_two_pow hs (Nat.pow_lt_pow_right (by decide) hx)
section
variable {S : VX10} {M : VX11}
theorem can_val (hR : RR S M) (v1 : Int32) : ∃ r : Int32, f_X10_can S v1 = some r ∧ f_X11_can M v1 = some r ∧ (r < 0 ∨ (∃ a, (AV a ∧ JR S.2.2.2.2.1 a ∧ MR M a) ∧ rr_even S.2.2.2.2.2.1 M (aN a) ∧ rr_seen S.2.2.2.2.2.2.2.2.2 M (aN a) ∧ ∃ x, x < aN a ∧ v1 = nI x)) := by
  obtain ⟨hT, hr6, ht, a, ⟨hV, hJ, hM⟩, hE, hZ⟩ := id hR
  have hn := hV.2.1
  have hN := hV.N
  obtain ⟨⟨g, hg, eg1, eg2⟩, -⟩ := id hE
  unfold f_X10_can f_X11_can
  rcases ix2 v1 (n := aN a) (by omega) with h | ⟨x, hx, rfl⟩
  · exact ⟨-1, by rw [x2_out hJ.1 h] <;> rfl, by rw [m_cell0 hM.1 hn h] <;> rfl, Or.inl (by decide)⟩
  rw [x2_in hJ.1 hn hx, Option.bind_some, if_neg i10, m_cell hM.1 hn hx, Option.bind_some, if_neg i10, eg2, n_has (show g < 2 ^ 31 by omega) (by omega), Option.bind_some, m_all hM.1 hn, Option.bind_some, m_costA hM hV hx hg, Option.bind_some]
  unfold f_X1_hasOut f_X1_whoIsOut
  rw [eg1, n_tstb (show g < 2 ^ 31 by omega) (by omega), Option.bind_some, x2_all hJ.1 hn, Option.bind_some, x2_costA hJ hV hx hg, Option.bind_some]
  cases g.testBit x with
  | true => exact ⟨-4, by rw [if_pos (by decide)] <;> rfl, by rw [if_neg (by decide)], Or.inl (by decide)⟩
  | false =>
    rw [if_neg (by decide), Option.bind_some, if_pos rfl, if_pos (by decide)]
    cases hc : costC a x g (2 ^ aN a - 1) with
    | none => exact ⟨-9, rfl, by rw [if_neg (by decide)], Or.inl (by decide)⟩
    | some c =>
      have := costC_le hV hx hc
      exact ⟨nI c, rfl, by rw [if_pos (show nI (nv (some c)) < (1000 : Int32) from nI_lt (show c < 1000 by omega) (by decide))] <;> rfl, Or.inr ⟨a, ⟨hV, hJ, hM⟩, hE, hZ, x, hx, rfl⟩⟩
theorem st_can (hR : RR S M) (v1 : Int32) : ∃ r : Int32, f_X10_can S v1 = some r ∧ f_X11_can M v1 = some r ∧ RR S M := by
  obtain ⟨r, e1, e2, -⟩ := can_val hR v1
  exact ⟨r, e1, e2, hR⟩
theorem st_let (hR : RR S M) (v1 : Int32) : ∃ r : Int32, ∃ S2 : VX10, ∃ M2 : VX11, f_X10_let S v1 = some (r, S2) ∧ f_X11_let M v1 = some (r, M2) ∧ RR S2 M2 := by
  obtain ⟨r, e1, e2, h⟩ := can_val hR v1
  unfold f_X10_let f_X11_let
  rw [e1, e2, Option.bind_some, Option.bind_some]
  by_cases c : r < 0
  · exact ⟨r, S, M, by rw [if_pos c], by rw [if_pos c], hR⟩
  obtain ⟨a, hA, ⟨⟨g, hg, eg1, eg2⟩, hf, hk⟩, hZ, x, hx, rfl⟩ := h.resolve_left c
  refine ⟨r, (S.1, S.2.1, S.2.2.1, S.2.2.2.1, S.2.2.2.2.1, ((S.2.2.2.2.2.1.1, S.2.2.2.2.2.1.2.1, nI (g ||| 2 ^ x), S.2.2.2.2.2.1.2.2.2 + r)), S.2.2.2.2.2.2.1, S.2.2.2.2.2.2.2.1, S.2.2.2.2.2.2.2.2.1, S.2.2.2.2.2.2.2.2.2), (M.1, M.2.1, M.2.2.1, M.2.2.2.1, M.2.2.2.2.1, M.2.2.2.2.2.1, M.2.2.2.2.2.2.1, M.2.2.2.2.2.2.2.1, M.2.2.2.2.2.2.2.2.1, M.2.2.2.2.2.2.2.2.2.1, M.2.2.2.2.2.2.2.2.2.2.1, M.2.2.2.2.2.2.2.2.2.2.2.1, M.2.2.2.2.2.2.2.2.2.2.2.2.1, M.2.2.2.2.2.2.2.2.2.2.2.2.2.1, M.2.2.2.2.2.2.2.2.2.2.2.2.2.2.1, M.2.2.2.2.2.2.2.2.2.2.2.2.2.2.2.1, M.2.2.2.2.2.2.2.2.2.2.2.2.2.2.2.2.1, M.2.2.2.2.2.2.2.2.2.2.2.2.2.2.2.2.2.1, nI (g ||| 2 ^ x), M.2.2.2.2.2.2.2.2.2.2.2.2.2.2.2.2.2.2.2.1 + r, M.2.2.2.2.2.2.2.2.2.2.2.2.2.2.2.2.2.2.2.2.1, M.2.2.2.2.2.2.2.2.2.2.2.2.2.2.2.2.2.2.2.2.2.1, M.2.2.2.2.2.2.2.2.2.2.2.2.2.2.2.2.2.2.2.2.2.2.1, M.2.2.2.2.2.2.2.2.2.2.2.2.2.2.2.2.2.2.2.2.2.2.2.1, M.2.2.2.2.2.2.2.2.2.2.2.2.2.2.2.2.2.2.2.2.2.2.2.2.1, M.2.2.2.2.2.2.2.2.2.2.2.2.2.2.2.2.2.2.2.2.2.2.2.2.2.1, M.2.2.2.2.2.2.2.2.2.2.2.2.2.2.2.2.2.2.2.2.2.2.2.2.2.2.1, M.2.2.2.2.2.2.2.2.2.2.2.2.2.2.2.2.2.2.2.2.2.2.2.2.2.2.2.1, M.2.2.2.2.2.2.2.2.2.2.2.2.2.2.2.2.2.2.2.2.2.2.2.2.2.2.2.2.1, M.2.2.2.2.2.2.2.2.2.2.2.2.2.2.2.2.2.2.2.2.2.2.2.2.2.2.2.2.2.1, M.2.2.2.2.2.2.2.2.2.2.2.2.2.2.2.2.2.2.2.2.2.2.2.2.2.2.2.2.2.2), ?_, ?_, hR.1, hR.2.1, hR.2.2.1, a, hA, ⟨⟨g ||| 2 ^ x, or_lt hg hx, rfl, rfl⟩, congrArg (· + r) hf, hk⟩, hZ⟩
  · have := hA.1.2.1
    rw [if_neg c]
    unfold f_X1_addOut
    rw [eg1, n_one (by omega), n_or] <;> rfl
  · have := hA.1.2.1
    rw [if_neg c, eg2, n_one (by omega), n_or]
theorem st_out (hR : RR S M) : ∃ r : Int32, ∃ S2 : VX10, ∃ M2 : VX11, f_X10_out S = some (r, S2) ∧ f_X11_out M = some (r, M2) ∧ RR S2 M2 := by
  obtain ⟨hT, hr6, ht, a, hA, ⟨⟨g, hg, eg1, eg2⟩, hf, hk⟩, hZ⟩ := id hR
  refine ⟨M.2.2.2.2.2.2.2.2.2.2.2.2.2.2.2.2.2.2.1, _, _, ?_, rfl, hR.tell M.2.2.2.2.2.2.2.2.2.2.2.2.2.2.2.2.2.2.2.1⟩
  unfold f_X10_out f_X1_favours f_X1_whoIsOut
  rw [hf, show S.2.2.2.2.2.1.2.2.1 = M.2.2.2.2.2.2.2.2.2.2.2.2.2.2.2.2.2.2.1 from eg1.trans eg2.symm] <;> rfl
theorem st_bell (hR : RR S M) : ∃ r : Int32, ∃ S2 : VX10, ∃ M2 : VX11, f_X10_bell S = some (r, S2) ∧ f_X11_bell M = some (r, M2) ∧ RR S2 M2 := by
  obtain ⟨hT, hr6, ht, a, hA, ⟨⟨g, hg, eg1, eg2⟩, hf, hk⟩, hZ⟩ := id hR
  have hN := hA.1.N
  refine ⟨nI (pc g), (S.1, S.2.1, S.2.2.1, S.2.2.2.1, S.2.2.2.2.1, ((S.2.2.2.2.2.1.1, S.2.2.2.2.2.1.2.1, 0, 0)), S.2.2.2.2.2.2.1, S.2.2.2.2.2.2.2.1, S.2.2.2.2.2.2.2.2.1, S.2.2.2.2.2.2.2.2.2), (M.1, M.2.1, M.2.2.1, M.2.2.2.1, M.2.2.2.2.1, M.2.2.2.2.2.1, M.2.2.2.2.2.2.1, M.2.2.2.2.2.2.2.1, M.2.2.2.2.2.2.2.2.1, M.2.2.2.2.2.2.2.2.2.1, M.2.2.2.2.2.2.2.2.2.2.1, M.2.2.2.2.2.2.2.2.2.2.2.1, M.2.2.2.2.2.2.2.2.2.2.2.2.1, M.2.2.2.2.2.2.2.2.2.2.2.2.2.1, M.2.2.2.2.2.2.2.2.2.2.2.2.2.2.1, M.2.2.2.2.2.2.2.2.2.2.2.2.2.2.2.1, M.2.2.2.2.2.2.2.2.2.2.2.2.2.2.2.2.1, M.2.2.2.2.2.2.2.2.2.2.2.2.2.2.2.2.2.1, 0, 0, M.2.2.2.2.2.2.2.2.2.2.2.2.2.2.2.2.2.2.2.2.1, M.2.2.2.2.2.2.2.2.2.2.2.2.2.2.2.2.2.2.2.2.2.1, M.2.2.2.2.2.2.2.2.2.2.2.2.2.2.2.2.2.2.2.2.2.2.1, M.2.2.2.2.2.2.2.2.2.2.2.2.2.2.2.2.2.2.2.2.2.2.2.1, M.2.2.2.2.2.2.2.2.2.2.2.2.2.2.2.2.2.2.2.2.2.2.2.2.1, M.2.2.2.2.2.2.2.2.2.2.2.2.2.2.2.2.2.2.2.2.2.2.2.2.2.1, M.2.2.2.2.2.2.2.2.2.2.2.2.2.2.2.2.2.2.2.2.2.2.2.2.2.2.1, M.2.2.2.2.2.2.2.2.2.2.2.2.2.2.2.2.2.2.2.2.2.2.2.2.2.2.2.1, M.2.2.2.2.2.2.2.2.2.2.2.2.2.2.2.2.2.2.2.2.2.2.2.2.2.2.2.2.1, M.2.2.2.2.2.2.2.2.2.2.2.2.2.2.2.2.2.2.2.2.2.2.2.2.2.2.2.2.2.1, M.2.2.2.2.2.2.2.2.2.2.2.2.2.2.2.2.2.2.2.2.2.2.2.2.2.2.2.2.2.2), ?_, ?_, hT, hr6, ht, a, hA, ⟨⟨0, Nat.two_pow_pos _, rfl, rfl⟩, rfl, hk⟩, hZ⟩
  · unfold f_X10_bell f_X1_howManyOut
    rw [eg1, n_cnt (show g < 256 by omega)] <;> rfl
  · unfold f_X11_bell
    rw [eg2, n_bits (show g < 256 by omega)] <;> rfl
theorem x1_numT {E : VX1} {k : Nat} (h : k < 3) : f_X1_isNumber E (nI k) = some 1 := by
  unfold f_X1_isNumber
  rw [if_neg (nI_pos (by omega)), if_neg (show ¬ (3 : Int32) ≤ nI k from nI_ge h (by decide))]
theorem x1_numF {E : VX1} {x : Int32} (h : x < 0 ∨ nI 3 ≤ x) : f_X1_isNumber E x = some 0 := by
  unfold f_X1_isNumber
  by_cases h0 : x < 0
  · rw [if_pos h0]
  · rw [if_neg h0, if_pos (show (3 : Int32) ≤ x from h.resolve_left h0)]
theorem st_keep (hR : RR S M) (v1 : Int32) : ∃ r : Int32, ∃ S2 : VX10, ∃ M2 : VX11, f_X10_keep S v1 = some (r, S2) ∧ f_X11_keep M v1 = some (r, M2) ∧ RR S2 M2 := by
  obtain ⟨hT, hr6, ht, a, hA, ⟨⟨g, hg, eg1, eg2⟩, hf, hk⟩, hZ⟩ := id hR
  have hN := hA.1.N
  unfold f_X10_keep f_X11_keep
  rcases ix2 v1 (n := 3) (by decide) with h | ⟨k, hk3, rfl⟩
  · exact ⟨-1, S, M, by rw [x1_numF h] <;> rfl, by rw [show f_X11_in v1 0 2 = some 0 from m_inF (lo := 0) (hi := 2) h (by decide)] <;> rfl, hR⟩
  refine ⟨nI (pc g), (S.1, S.2.1, S.2.2.1, S.2.2.2.1, S.2.2.2.2.1, ((upd S.2.2.2.2.2.1.1 k S.2.2.2.2.2.1.2.2.1, upd S.2.2.2.2.2.1.2.1 k S.2.2.2.2.2.1.2.2.2, S.2.2.2.2.2.1.2.2.1, S.2.2.2.2.2.1.2.2.2)), S.2.2.2.2.2.2.1, S.2.2.2.2.2.2.2.1, S.2.2.2.2.2.2.2.2.1, S.2.2.2.2.2.2.2.2.2), (M.1, M.2.1, M.2.2.1, M.2.2.2.1, M.2.2.2.2.1, M.2.2.2.2.2.1, M.2.2.2.2.2.2.1, M.2.2.2.2.2.2.2.1, M.2.2.2.2.2.2.2.2.1, M.2.2.2.2.2.2.2.2.2.1, M.2.2.2.2.2.2.2.2.2.2.1, M.2.2.2.2.2.2.2.2.2.2.2.1, M.2.2.2.2.2.2.2.2.2.2.2.2.1, M.2.2.2.2.2.2.2.2.2.2.2.2.2.1, M.2.2.2.2.2.2.2.2.2.2.2.2.2.2.1, M.2.2.2.2.2.2.2.2.2.2.2.2.2.2.2.1, M.2.2.2.2.2.2.2.2.2.2.2.2.2.2.2.2.1, M.2.2.2.2.2.2.2.2.2.2.2.2.2.2.2.2.2.1, M.2.2.2.2.2.2.2.2.2.2.2.2.2.2.2.2.2.2.1, M.2.2.2.2.2.2.2.2.2.2.2.2.2.2.2.2.2.2.2.1, upd M.2.2.2.2.2.2.2.2.2.2.2.2.2.2.2.2.2.2.2.2.1 k M.2.2.2.2.2.2.2.2.2.2.2.2.2.2.2.2.2.2.1, upd M.2.2.2.2.2.2.2.2.2.2.2.2.2.2.2.2.2.2.2.2.2.1 k M.2.2.2.2.2.2.2.2.2.2.2.2.2.2.2.2.2.2.2.1, M.2.2.2.2.2.2.2.2.2.2.2.2.2.2.2.2.2.2.2.2.2.2.1, M.2.2.2.2.2.2.2.2.2.2.2.2.2.2.2.2.2.2.2.2.2.2.2.1, M.2.2.2.2.2.2.2.2.2.2.2.2.2.2.2.2.2.2.2.2.2.2.2.2.1, M.2.2.2.2.2.2.2.2.2.2.2.2.2.2.2.2.2.2.2.2.2.2.2.2.2.1, M.2.2.2.2.2.2.2.2.2.2.2.2.2.2.2.2.2.2.2.2.2.2.2.2.2.2.1, M.2.2.2.2.2.2.2.2.2.2.2.2.2.2.2.2.2.2.2.2.2.2.2.2.2.2.2.1, M.2.2.2.2.2.2.2.2.2.2.2.2.2.2.2.2.2.2.2.2.2.2.2.2.2.2.2.2.1, M.2.2.2.2.2.2.2.2.2.2.2.2.2.2.2.2.2.2.2.2.2.2.2.2.2.2.2.2.2.1, M.2.2.2.2.2.2.2.2.2.2.2.2.2.2.2.2.2.2.2.2.2.2.2.2.2.2.2.2.2.2), ?_, ?_, hT, hr6, ht, a, hA, ⟨⟨g, hg, eg1, eg2⟩, hf, fun j hj => ?_⟩, hZ⟩
  · rw [x1_numT hk3, Option.bind_some, if_neg i10]
    unfold f_X1_store
    rw [x1_numT hk3, Option.bind_some, if_neg i10, zIn_t hk3 (by decide), if_pos rfl, if_pos rfl, nI_clamp (by omega), Option.bind_some]
    unfold f_X1_howManyOut
    rw [show f_J6_bitCount_0f7a4 S.2.2.2.2.2.1.2.2.1 = some (nI (pc g)) from by rw [eg1]; exact n_cnt (show g < 256 by omega)] <;> rfl
  · rw [show f_X11_in (nI k) 0 2 = some 1 from m_inT (lo := 0) (hi := 2) (Nat.zero_le _) (by omega) (by decide), Option.bind_some, if_neg i10, zIn_t hk3 (by decide), if_pos rfl, if_pos rfl, nI_clamp (by omega), show f_X11_bits M.2.2.2.2.2.2.2.2.2.2.2.2.2.2.2.2.2.2.1 = some (nI (pc g)) from by rw [eg2]; exact n_bits (show g < 256 by omega)] <;> rfl
  · show upd S.2.2.2.2.2.1.1 k S.2.2.2.2.2.1.2.2.1 j = upd M.2.2.2.2.2.2.2.2.2.2.2.2.2.2.2.2.2.2.2.2.1 k M.2.2.2.2.2.2.2.2.2.2.2.2.2.2.2.2.2.2.1 j ∧ (upd M.2.2.2.2.2.2.2.2.2.2.2.2.2.2.2.2.2.2.2.2.1 k M.2.2.2.2.2.2.2.2.2.2.2.2.2.2.2.2.2.2.1 j = -1 ∨ ((∃ g, g < 2 ^ aN a ∧ upd M.2.2.2.2.2.2.2.2.2.2.2.2.2.2.2.2.2.2.2.2.1 k M.2.2.2.2.2.2.2.2.2.2.2.2.2.2.2.2.2.2.1 j = nI g) ∧ upd S.2.2.2.2.2.1.2.1 k S.2.2.2.2.2.1.2.2.2 j = upd M.2.2.2.2.2.2.2.2.2.2.2.2.2.2.2.2.2.2.2.2.2.1 k M.2.2.2.2.2.2.2.2.2.2.2.2.2.2.2.2.2.2.2.1 j))
    rw [upd_at, upd_at, upd_at, upd_at]
    by_cases c : j = k
    · rw [if_pos c, if_pos c, if_pos c, if_pos c, eg1, eg2]
      exact ⟨rfl, Or.inr ⟨⟨g, hg, rfl⟩, hf⟩⟩
    · rw [if_neg c, if_neg c, if_neg c, if_neg c]
      exact hk j hj
theorem st_on (hR : RR S M) (v1 : Int32) : ∃ r : Int32, ∃ S2 : VX10, ∃ M2 : VX11, f_X10_on S v1 = some (r, S2) ∧ f_X11_on M v1 = some (r, M2) ∧ RR S2 M2 := by
  obtain ⟨hT, hr6, ht, a, hA, ⟨⟨g, hg, eg1, eg2⟩, hf, hk⟩, hZ⟩ := id hR
  have hN := hA.1.N
  unfold f_X10_on f_X11_on
  rcases ix2 v1 (n := 3) (by decide) with h | ⟨k, hk3, rfl⟩
  · exact ⟨-1, S, M, by rw [x1_numF h] <;> rfl, by rw [show f_X11_in v1 0 2 = some 0 from m_inF (lo := 0) (hi := 2) h (by decide)] <;> rfl, hR⟩
  rw [x1_numT hk3, Option.bind_some, if_neg i10, show f_X11_in (nI k) 0 2 = some 1 from m_inT (lo := 0) (hi := 2) (Nat.zero_le _) (by omega) (by decide), Option.bind_some, if_neg i10, zIn_t hk3 (by decide), nI_clamp (by omega)]
  obtain ⟨q1, q2⟩ := hk k hk3
  have kept : f_X1_isKept S.2.2.2.2.2.1 (nI k) = if S.2.2.2.2.2.1.1 k = -1 then some 0 else some 1 := by
    unfold f_X1_isKept
    rw [x1_numT hk3, Option.bind_some, if_neg i10, zIn_t hk3 (by decide), if_pos rfl, nI_clamp (by omega)]
  rcases q2 with q2 | ⟨⟨g', hg', q2⟩, q3⟩
  · refine ⟨-3, _, _, ?_, ?_, hR.found (f := 1) (by decide) (by decide)⟩
    · rw [kept, q1, q2, if_pos rfl, Option.bind_some, if_pos rfl, show f_X9_found S.1 1 = _ from x9_found S.1 (f := 1) (by decide) (by decide)] <;> rfl
    · rw [q2, if_pos rfl, if_neg m_neg, show f_X11_meets M 1 = _ from m_meets M (f := 1) (by decide)] <;> rfl
  · refine ⟨nI (pc g'), (S.1, S.2.1, S.2.2.1, S.2.2.2.1, S.2.2.2.2.1, ((S.2.2.2.2.2.1.1, S.2.2.2.2.2.1.2.1, S.2.2.2.2.2.1.1 k, S.2.2.2.2.2.1.2.1 k)), S.2.2.2.2.2.2.1, S.2.2.2.2.2.2.2.1, S.2.2.2.2.2.2.2.2.1, S.2.2.2.2.2.2.2.2.2), (M.1, M.2.1, M.2.2.1, M.2.2.2.1, M.2.2.2.2.1, M.2.2.2.2.2.1, M.2.2.2.2.2.2.1, M.2.2.2.2.2.2.2.1, M.2.2.2.2.2.2.2.2.1, M.2.2.2.2.2.2.2.2.2.1, M.2.2.2.2.2.2.2.2.2.2.1, M.2.2.2.2.2.2.2.2.2.2.2.1, M.2.2.2.2.2.2.2.2.2.2.2.2.1, M.2.2.2.2.2.2.2.2.2.2.2.2.2.1, M.2.2.2.2.2.2.2.2.2.2.2.2.2.2.1, M.2.2.2.2.2.2.2.2.2.2.2.2.2.2.2.1, M.2.2.2.2.2.2.2.2.2.2.2.2.2.2.2.2.1, M.2.2.2.2.2.2.2.2.2.2.2.2.2.2.2.2.2.1, M.2.2.2.2.2.2.2.2.2.2.2.2.2.2.2.2.2.2.2.2.1 k, M.2.2.2.2.2.2.2.2.2.2.2.2.2.2.2.2.2.2.2.2.2.1 k, M.2.2.2.2.2.2.2.2.2.2.2.2.2.2.2.2.2.2.2.2.1, M.2.2.2.2.2.2.2.2.2.2.2.2.2.2.2.2.2.2.2.2.2.1, M.2.2.2.2.2.2.2.2.2.2.2.2.2.2.2.2.2.2.2.2.2.2.1, M.2.2.2.2.2.2.2.2.2.2.2.2.2.2.2.2.2.2.2.2.2.2.2.1, M.2.2.2.2.2.2.2.2.2.2.2.2.2.2.2.2.2.2.2.2.2.2.2.2.1, M.2.2.2.2.2.2.2.2.2.2.2.2.2.2.2.2.2.2.2.2.2.2.2.2.2.1, M.2.2.2.2.2.2.2.2.2.2.2.2.2.2.2.2.2.2.2.2.2.2.2.2.2.2.1, M.2.2.2.2.2.2.2.2.2.2.2.2.2.2.2.2.2.2.2.2.2.2.2.2.2.2.2.1, M.2.2.2.2.2.2.2.2.2.2.2.2.2.2.2.2.2.2.2.2.2.2.2.2.2.2.2.2.1, M.2.2.2.2.2.2.2.2.2.2.2.2.2.2.2.2.2.2.2.2.2.2.2.2.2.2.2.2.2.1, M.2.2.2.2.2.2.2.2.2.2.2.2.2.2.2.2.2.2.2.2.2.2.2.2.2.2.2.2.2.2), ?_, ?_, hT, hr6, ht, a, hA, ⟨⟨g', hg', q1.trans q2, q2⟩, q3, hk⟩, hZ⟩
    · have kept2 : f_X1_isKept S.2.2.2.2.2.1 (nI k) = some 1 := by rw [kept, q1, q2, if_neg (nI_m1 (by omega))]
      unfold f_X1_restore
      rw [kept2, Option.bind_some, if_neg i10, Option.bind_some, if_neg i10, zIn_t hk3 (by decide), if_pos rfl, if_pos rfl, nI_clamp (by omega), Option.bind_some]
      unfold f_X1_howManyOut
      rw [show f_J6_bitCount_0f7a4 ((S.2.2.2.2.2.1.1, S.2.2.2.2.2.1.2.1, S.2.2.2.2.2.1.1 k, S.2.2.2.2.2.1.2.1 k)).2.2.1 = some (nI (pc g')) from by show f_J6_bitCount_0f7a4 (S.2.2.2.2.2.1.1 k) = _; rw [q1, q2]; exact n_cnt (show g' < 256 by omega)] <;> rfl
    · rw [if_pos rfl, if_pos (show 0 ≤ M.2.2.2.2.2.2.2.2.2.2.2.2.2.2.2.2.2.2.2.2.1 k by rw [q2]; exact nI_pos' (by omega)), if_pos rfl, if_pos rfl, show f_X11_bits (M.2.2.2.2.2.2.2.2.2.2.2.2.2.2.2.2.2.2.2.2.1 k) = some (nI (pc g')) from by rw [q2]; exact n_bits (show g' < 256 by omega)] <;> rfl
theorem st_saw (hR : RR S M) (v1 v2 : Int32) : ∃ r : Int32, ∃ S2 : VX10, ∃ M2 : VX11, f_X10_saw S v1 v2 = some (r, S2) ∧ f_X11_saw M v1 v2 = some (r, M2) ∧ RR S2 M2 := by
  obtain ⟨hT, hr6, ht, a, ⟨hV, hJ, hM⟩, hE, ⟨m, cw, cb, hm, s1, s2, hs⟩⟩ := id hR
  have hn := hV.2.1
  unfold f_X10_saw f_X11_saw
  rcases ix2 v1 (n := aN a) (by omega) with h | ⟨x, hx, rfl⟩
  · exact ⟨-1, S, M, by rw [x2_out hJ.1 h] <;> rfl, by rw [m_cell0 hM.1 hn h] <;> rfl, hR⟩
  rw [x2_in hJ.1 hn hx, Option.bind_some, if_neg i10, m_cell hM.1 hn hx, Option.bind_some, if_neg i10]
  rcases yesB v2 with ⟨b, rfl⟩ | ⟨h, h0, h1⟩
  · rw [x10_yesT, Option.bind_some, if_neg i10, m_yesT, Option.bind_some, if_neg i10]
    unfold f_X7_isFull
    rw [s1, s2]
    by_cases c : m = 8
    · subst c
      exact ⟨-2, S, M, by rw [if_neg (by decide)] <;> rfl, by rw [if_pos (by decide)], hR⟩
    · rw [if_pos (show nI m < (8 : Int32) from nI_lt (show m < 8 by omega) (by decide)), Option.bind_some, if_pos rfl, if_neg (fun e : nI m = 8 => c ((nI_eq (by omega) (by decide)).1 e))]
      unfold f_X7_add f_X7_isFull
      rw [s1, if_pos (show nI m < (8 : Int32) from nI_lt (show m < 8 by omega) (by decide)), Option.bind_some, if_pos rfl, if_pos (nI_pos' (by omega)), zIn_t (show m < 8 by omega) (by decide), nI_clamp (by omega), nI_1, show nI (m + 1) - 1 = nI m from nI_pred m]
      simp only [if_T]
      refine ⟨nI m, (S.1, S.2.1, S.2.2.1, S.2.2.2.1, S.2.2.2.2.1, S.2.2.2.2.2.1, S.2.2.2.2.2.2.1, S.2.2.2.2.2.2.2.1, S.2.2.2.2.2.2.2.2.1, (upd S.2.2.2.2.2.2.2.2.2.1 m (nI x), upd S.2.2.2.2.2.2.2.2.2.2.1 m (bI b), nI (m + 1))), (M.1, M.2.1, M.2.2.1, M.2.2.2.1, M.2.2.2.2.1, M.2.2.2.2.2.1, M.2.2.2.2.2.2.1, M.2.2.2.2.2.2.2.1, M.2.2.2.2.2.2.2.2.1, M.2.2.2.2.2.2.2.2.2.1, M.2.2.2.2.2.2.2.2.2.2.1, M.2.2.2.2.2.2.2.2.2.2.2.1, M.2.2.2.2.2.2.2.2.2.2.2.2.1, M.2.2.2.2.2.2.2.2.2.2.2.2.2.1, M.2.2.2.2.2.2.2.2.2.2.2.2.2.2.1, M.2.2.2.2.2.2.2.2.2.2.2.2.2.2.2.1, M.2.2.2.2.2.2.2.2.2.2.2.2.2.2.2.2.1, M.2.2.2.2.2.2.2.2.2.2.2.2.2.2.2.2.2.1, M.2.2.2.2.2.2.2.2.2.2.2.2.2.2.2.2.2.2.1, M.2.2.2.2.2.2.2.2.2.2.2.2.2.2.2.2.2.2.2.1, M.2.2.2.2.2.2.2.2.2.2.2.2.2.2.2.2.2.2.2.2.1, M.2.2.2.2.2.2.2.2.2.2.2.2.2.2.2.2.2.2.2.2.2.1, M.2.2.2.2.2.2.2.2.2.2.2.2.2.2.2.2.2.2.2.2.2.2.1, M.2.2.2.2.2.2.2.2.2.2.2.2.2.2.2.2.2.2.2.2.2.2.2.1, M.2.2.2.2.2.2.2.2.2.2.2.2.2.2.2.2.2.2.2.2.2.2.2.2.1, M.2.2.2.2.2.2.2.2.2.2.2.2.2.2.2.2.2.2.2.2.2.2.2.2.2.1, M.2.2.2.2.2.2.2.2.2.2.2.2.2.2.2.2.2.2.2.2.2.2.2.2.2.2.1, nI (m + 1), upd M.2.2.2.2.2.2.2.2.2.2.2.2.2.2.2.2.2.2.2.2.2.2.2.2.2.2.2.2.1 m (nI x), upd M.2.2.2.2.2.2.2.2.2.2.2.2.2.2.2.2.2.2.2.2.2.2.2.2.2.2.2.2.2.1 m (bI b), M.2.2.2.2.2.2.2.2.2.2.2.2.2.2.2.2.2.2.2.2.2.2.2.2.2.2.2.2.2.2), rfl, rfl, hT, hr6, ht, a, ⟨hV, hJ, hM⟩, hE, m + 1, fun i => if i = m then x else cw i, fun i => if i = m then b else cb i, by omega, rfl, rfl, fun i hi => ?_⟩
      show (if i = m then x else cw i) < aN a ∧ upd S.2.2.2.2.2.2.2.2.2.1 m (nI x) i = nI (if i = m then x else cw i) ∧ upd M.2.2.2.2.2.2.2.2.2.2.2.2.2.2.2.2.2.2.2.2.2.2.2.2.2.2.2.2.1 m (nI x) i = nI (if i = m then x else cw i) ∧ upd S.2.2.2.2.2.2.2.2.2.2.1 m (bI b) i = bI (if i = m then b else cb i) ∧ upd M.2.2.2.2.2.2.2.2.2.2.2.2.2.2.2.2.2.2.2.2.2.2.2.2.2.2.2.2.2.1 m (bI b) i = bI (if i = m then b else cb i)
      rw [upd_at, upd_at, upd_at, upd_at]
      by_cases d : i = m
      · rw [if_pos d, if_pos d, if_pos d, if_pos d, if_pos d, if_pos d]
        exact ⟨hx, rfl, rfl, rfl, rfl⟩
      · rw [if_neg d, if_neg d, if_neg d, if_neg d, if_neg d, if_neg d]
        exact hs i (by omega)
  · exact ⟨-1, S, M, by rw [x10_yesF h0 h1] <;> rfl, by rw [m_yesF h] <;> rfl, hR⟩
theorem st_forget (hR : RR S M) (v1 : Int32) : ∃ r : Int32, ∃ S2 : VX10, ∃ M2 : VX11, f_X10_forget S v1 = some (r, S2) ∧ f_X11_forget M v1 = some (r, M2) ∧ RR S2 M2 := by
  obtain ⟨hT, hr6, ht, a, hA, hE, ⟨m, cw, cb, hm, s1, s2, hs⟩⟩ := id hR
  unfold f_X10_forget f_X11_forget f_X7_size
  rw [s1, s2]
  rcases ix2 v1 (n := m + 1) (by omega) with h | ⟨k, hk, rfl⟩
  · refine ⟨-1, S, M, ?_, ?_, hR⟩
    · by_cases h0 : v1 < 0
      · rw [if_pos h0]
      · rw [if_neg h0, Option.bind_some, if_neg (ge_nle (h.resolve_left h0) (by omega))]
    · rw [show f_X11_in v1 0 (nI m) = some 0 from m_inF (lo := 0) h (by omega)] <;> rfl
  · refine ⟨nI (m - k), (S.1, S.2.1, S.2.2.1, S.2.2.2.1, S.2.2.2.2.1, S.2.2.2.2.2.1, S.2.2.2.2.2.2.1, S.2.2.2.2.2.2.2.1, S.2.2.2.2.2.2.2.2.1, (S.2.2.2.2.2.2.2.2.2.1, S.2.2.2.2.2.2.2.2.2.2.1, nI k)), (M.1, M.2.1, M.2.2.1, M.2.2.2.1, M.2.2.2.2.1, M.2.2.2.2.2.1, M.2.2.2.2.2.2.1, M.2.2.2.2.2.2.2.1, M.2.2.2.2.2.2.2.2.1, M.2.2.2.2.2.2.2.2.2.1, M.2.2.2.2.2.2.2.2.2.2.1, M.2.2.2.2.2.2.2.2.2.2.2.1, M.2.2.2.2.2.2.2.2.2.2.2.2.1, M.2.2.2.2.2.2.2.2.2.2.2.2.2.1, M.2.2.2.2.2.2.2.2.2.2.2.2.2.2.1, M.2.2.2.2.2.2.2.2.2.2.2.2.2.2.2.1, M.2.2.2.2.2.2.2.2.2.2.2.2.2.2.2.2.1, M.2.2.2.2.2.2.2.2.2.2.2.2.2.2.2.2.2.1, M.2.2.2.2.2.2.2.2.2.2.2.2.2.2.2.2.2.2.1, M.2.2.2.2.2.2.2.2.2.2.2.2.2.2.2.2.2.2.2.1, M.2.2.2.2.2.2.2.2.2.2.2.2.2.2.2.2.2.2.2.2.1, M.2.2.2.2.2.2.2.2.2.2.2.2.2.2.2.2.2.2.2.2.2.1, M.2.2.2.2.2.2.2.2.2.2.2.2.2.2.2.2.2.2.2.2.2.2.1, M.2.2.2.2.2.2.2.2.2.2.2.2.2.2.2.2.2.2.2.2.2.2.2.1, M.2.2.2.2.2.2.2.2.2.2.2.2.2.2.2.2.2.2.2.2.2.2.2.2.1, M.2.2.2.2.2.2.2.2.2.2.2.2.2.2.2.2.2.2.2.2.2.2.2.2.2.1, M.2.2.2.2.2.2.2.2.2.2.2.2.2.2.2.2.2.2.2.2.2.2.2.2.2.2.1, nI k, M.2.2.2.2.2.2.2.2.2.2.2.2.2.2.2.2.2.2.2.2.2.2.2.2.2.2.2.2.1, M.2.2.2.2.2.2.2.2.2.2.2.2.2.2.2.2.2.2.2.2.2.2.2.2.2.2.2.2.2.1, M.2.2.2.2.2.2.2.2.2.2.2.2.2.2.2.2.2.2.2.2.2.2.2.2.2.2.2.2.2.2), ?_, ?_, hT, hr6, ht, a, hA, hE, k, cw, cb, by omega, rfl, rfl, fun i hi => hs i (by omega)⟩
    · rw [if_neg (nI_pos (by omega)), Option.bind_some, if_pos (nI_le (by omega) (by omega))]
      unfold f_X7_dropFrom
      rw [if_neg (nI_pos (by omega)), s1, pk_sub (show k ≤ m by omega), if_pos (nI_pos' (by omega))] <;> rfl
    · rw [show f_X11_in (nI k) 0 (nI m) = some 1 from m_inT (lo := 0) (Nat.zero_le _) (by omega) (by omega), Option.bind_some, if_neg i10, pk_sub (show k ≤ m by omega)]
end
