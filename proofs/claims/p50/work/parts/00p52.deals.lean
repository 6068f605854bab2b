/-! deals: the next one is the next -/
section
variable {M : VX11} {a : AJ} {D l o : Nat → Int32}
/-- m above, y at j, the least below -/
def NN (a : AJ) (m j y : Nat) : Nat := (m / aN a ^ (j + 1) * aN a + y) * aN a ^ j + lo a j
theorem NN_f (hV : AV a) {m j y : Nat} (hj : j < aN a) (hy : y < aN a) : NN a m j y / aN a ^ j = m / aN a ^ (j + 1) * aN a + y ∧ NN a m j y % aN a ^ j = lo a j ∧ NN a m j y / aN a ^ (j + 1) = m / aN a ^ (j + 1) :=
  NNf (by omega) hy (lo_lt hV (by omega) j (by omega))
theorem NN_dg (hV : AV a) {m j y : Nat} (hj : j < aN a) (hy : y < aN a) : dg (aN a) (NN a m j y) (aN a - 1 - j) = y := by
  rw [dgj hj, (NN_f hV hj hy).1, Nat.mul_comm, Nat.mul_add_mod, Nat.mod_eq_of_lt hy]
theorem NN_same (hV : AV a) {m j y y' : Nat} (hj : j < aN a) (hy : y < aN a) (hy' : y' < aN a) {x : Nat} (hx : x < aN a) (hxj : x ≠ aN a - 1 - j) : dg (aN a) (NN a m j y) x = dg (aN a) (NN a m j y') x :=
  dg_same (j := j) (by omega) ((NN_f hV hj hy).2.2.trans (NN_f hV hj hy').2.2.symm) ((NN_f hV hj hy).2.1.trans (NN_f hV hj hy').2.1.symm) hx (by omega)
theorem NN_val (hV : AV a) {m j y y' : Nat} (hj : j < aN a) (hy : y < aN a) (hy' : y' < aN a) (h : Val a (NN a m j y)) (hok : okB a (aN a - 1 - j) y' = true) : Val a (NN a m j y') := fun x hx => by
  by_cases c : x = aN a - 1 - j
  · rw [c, NN_dg hV hj hy']; exact hok
  · rw [NN_same hV hj hy' hy hx c]; exact h x hx
theorem NN_key (hV : AV a) {m j y y' : Nat} (hj : j < aN a) (hy : y < aN a) (hy' : y' < aN a) (hM : MR (mT M D l o) (dealA a (NN a m j y))) (hk : aK a (aN a - 1 - j) ≠ 2) : MR (mT M (upd D (4 * (aN a - 1 - j) + 1) (nI y')) l o) (dealA a (NN a m j y')) := by
  have h8 := hV.2.1
  refine (MR.keyT hM (x := aN a - 1 - j) (y := y') (by omega)).cg ⟨rfl, rfl, rfl, rfl, rfl⟩ fun x hx => ?_
  have hx : x < aN a := hx
  show (if aK a x = 2 then 99 else dg (aN a) (NN a m j y') x) = if x = aN a - 1 - j then y' else if aK a x = 2 then 99 else dg (aN a) (NN a m j y) x
  by_cases c : x = aN a - 1 - j
  · rw [if_pos c, c, if_neg hk, NN_dg hV hj hy']
  · rw [if_neg c, NN_same hV hj hy' hy hx c]
theorem NN_in (hV : AV a) {m j y y' : Nat} (hj : j < aN a) (hy : y < aN a) (hy' : y' < aN a) (hM : MR (mT M D l o) (dealA a (NN a m j y))) (hk : aK a (aN a - 1 - j) = 2) : MR (mT M D l o) (dealA a (NN a m j y')) := by
  refine hM.cg ⟨rfl, rfl, rfl, rfl, rfl⟩ fun x hx => ?_
  have hx : x < aN a := hx
  show (if aK a x = 2 then 99 else dg (aN a) (NN a m j y') x) = if aK a x = 2 then 99 else dg (aN a) (NN a m j y) x
  by_cases c : x = aN a - 1 - j
  · rw [c, if_pos hk, if_pos hk]
  · rw [NN_same hV hj hy' hy hx c]
theorem m_next (hV : AV a) (h2 : 2 ≤ aN a) (h5 : aN a ≤ 5) {m : Nat} (hval : Val a m) (hm : m < aN a ^ aN a) (hM : MR (mT M D l o) (dealA a m)) :
    ∃ (b : Bool) (D' : Nat → Int32), f_X11_nextDeal (mT M D l o) = some (bI b, mT M D' l o) ∧ (∃ a', AV a' ∧ SameJ a a' ∧ MR (mT M D' l o) a') ∧ (b = true → ∃ m', m < m' ∧ m' < aN a ^ aN a ∧ Val a m' ∧ (∀ k, m < k → k < m' → ¬ Val a k) ∧ MR (mT M D' l o) (dealA a m')) ∧ (b = false → ∀ k, m < k → k < aN a ^ aN a → ¬ Val a k) := by
  have h0 : 0 < aN a := by omega
  have hn1 : M.2.2.2.2.2.2.2.2.2.2.1 = nI (aN a) := hM.1
  unfold f_X11_nextDeal
  rw [show (mT M D l o).2.2.2.2.2.2.2.2.2.2.1 - 1 = ixd (aN a) from by show M.2.2.2.2.2.2.2.2.2.2.1 - 1 = _; rw [hn1, ixd_sub]]
  refine loop_dn1 (fun f (D : Nat → Int32) v1 => f_X11_nextDeal_7 f (mT M D l o) v1) (fun i D => Val a (m / aN a ^ (aN a - i) * aN a ^ (aN a - i) + lo a (aN a - i)) ∧ MR (mT M D l o) (dealA a (m / aN a ^ (aN a - i) * aN a ^ (aN a - i) + lo a (aN a - i))) ∧ ∀ k, k / aN a ^ (aN a - i) = m / aN a ^ (aN a - i) → m < k → ¬ Val a k)
    (fun p => ∃ (b : Bool) (D' : Nat → Int32), p = some (bI b, mT M D' l o) ∧ (∃ a', AV a' ∧ SameJ a a' ∧ MR (mT M D' l o) a') ∧ (b = true → ∃ m', m < m' ∧ m' < aN a ^ aN a ∧ Val a m' ∧ (∀ k, m < k → k < m' → ¬ Val a k) ∧ MR (mT M D' l o) (dealA a m')) ∧ (b = false → ∀ k, m < k → k < aN a ^ aN a → ¬ Val a k)) ?_ (aN a) ?_ (aN a) 4096 D (Nat.le_refl _) ?_ (by omega)
  · rintro f D ⟨v1, v2, v3⟩
    rw [Nat.sub_zero] at v1 v2 v3
    refine ⟨false, D, ?_, ⟨_, v1.V hV h0, ⟨rfl, rfl, rfl, rfl, rfl⟩, v2⟩, (fun e => by cases e), fun _ k h1 h2 => v3 k ?_ h1⟩
    · show f_X11_nextDeal_7 (f + 1) (mT M D l o) (-1) = _
      rw [f_X11_nextDeal_7, if_pos (by decide)]; rfl
    · rw [Nat.div_eq_of_lt h2, Nat.div_eq_of_lt hm]
  · rintro f D i hi ⟨v1, v2, v3⟩
    obtain ⟨j, hj, e1, e2, ei⟩ : ∃ j, j < aN a ∧ aN a - (i + 1) = j ∧ aN a - i = j + 1 ∧ i = aN a - 1 - j := ⟨aN a - (i + 1), by omega, rfl, by omega, by omega⟩
    rw [e1] at v1 v2 v3
    rw [e2]
    have hp : 0 < aN a ^ j := Nat.pow_pos h0
    have hdl : dg (aN a) m i < aN a := dg_lt h0
    have edg : dg (aN a) m i = m / aN a ^ j % aN a := by rw [ei, dgj hj]
    have eA : m / aN a ^ j = m / aN a ^ (j + 1) * aN a + dg (aN a) m i := by
      rw [edg, Nat.pow_succ, ← Nat.div_div_eq_div_mul, Nat.mul_comm (m / aN a ^ j / aN a)]
      exact (Nat.div_add_mod _ _).symm
    have emm : m / aN a ^ j * aN a ^ j + lo a j = NN a m j (dg (aN a) m i) := by unfold NN; rw [← eA]
    have emm2 : m / aN a ^ (j + 1) * aN a ^ (j + 1) + lo a (j + 1) = NN a m j (lk a i) := by
      unfold NN
      rw [lo, ← ei, Nat.add_mul, Nat.pow_succ, Nat.mul_comm (aN a ^ j) (aN a), Nat.mul_assoc, Nat.add_assoc]
    rw [emm] at v1 v2
    rw [emm2]
    obtain ⟨lk1, lk2, lk3⟩ := lk_ok hV hi
    have hV1 := v1.V hV h0
    have n8 := hV.2.1
    /- what val k has at i -/
    have kdg : ∀ k, k / aN a ^ (j + 1) = m / aN a ^ (j + 1) → k / aN a ^ j = m / aN a ^ (j + 1) * aN a + dg (aN a) k i := fun k hk => by
      rw [← hk, ei, dgj hj, Nat.pow_succ, ← Nat.div_div_eq_div_mul, Nat.mul_comm (k / aN a ^ j / aN a)]
      exact (Nat.div_add_mod _ _).symm
    have vl : Val a (NN a m j (lk a i)) := NN_val hV hj hdl lk2 v1 (by rw [← ei]; exact lk1)
    show (∃ (b : Bool) (D' : Nat → Int32), f_X11_nextDeal_7 (f + 1) (mT M D l o) (nI i) = some (bI b, mT M D' l o) ∧ _) ∨ ∃ D' : Nat → Int32, _ ∧ f_X11_nextDeal_7 (f + 1) (mT M D l o) (nI i) = f_X11_nextDeal_7 f (mT M D' l o) (nI i + -1)
    have eK : f_X11_nextDeal_7 (f + 1) (mT M D l o) (nI i) = if aK a i = 2 then f_X11_nextDeal_7 f (mT M D l o) (nI i + -1) else f_X11_nextDeal_28 (f_X11_nextDeal_7 f) 4096 (mT M D l o) (nI i) (kI (aP (dealA a (NN a m j (dg (aN a) m i))) i) + 1) := by
      have hk5 := (hV.2.2 i hi).1
      rw [f_X11_nextDeal_7, if_neg (nI_pos (by omega)), m_kind v2 n8 hi, Option.bind_some, m_keeper v2 n8 hi, Option.bind_some]
      by_cases c : aK a i = 2
      · rw [if_pos c]; exact if_pos (show nI (aK a i) = 2 by rw [c]; rfl)
      · rw [if_neg c]; exact if_neg (show ¬ nI (aK a i) = 2 from fun e => c ((nI_eq (by omega) (by decide)).1 (show nI (aK a i) = nI 2 from e)))
    rw [eK]
    by_cases hk : aK a i = 2
    · right
      refine ⟨D, ⟨vl, NN_in hV hj hdl lk2 v2 (by rw [← ei]; exact hk), fun k h1 h2 hv => ?_⟩, by rw [if_pos hk]⟩
      have ok1 := hv i hi
      have ok2 := hval i hi
      unfold okB at ok1 ok2
      rw [if_pos hk] at ok1 ok2
      have z1 := of_decide_eq_true ok1
      have z2 := of_decide_eq_true ok2
      refine v3 k ?_ h2 hv
      rw [kdg k h1, eA, z1, z2]
    · rw [if_neg hk, show aP (dealA a (NN a m j (dg (aN a) m i))) i = dg (aN a) m i from by
        show (if aK a i = 2 then 99 else dg (aN a) (NN a m j (dg (aN a) m i)) i) = _
        rw [if_neg hk]
        exact (congrArg (dg (aN a) (NN a m j (dg (aN a) m i))) ei).trans (NN_dg hV hj hdl), kI_lt (show dg (aN a) m i < 8 by omega), nI_1]
      have hb : (4 : Int32) * nI i = nI (4 * i) := pk_mul 4 i
      rcases m_nd28 (a := a) (M := M) (D := D) (l := l) (o := o) v2 hV1 ⟨rfl, rfl, rfl, rfl, rfl⟩ n8 hi hdl hk (f_X11_nextDeal_7 f) with ⟨y, y1, y2, y3, y4, y5⟩ | ⟨y4, y5⟩
      · left
        have vy : Val a (NN a m j y) := NN_val hV hj hdl y2 v1 (by rw [← ei]; exact y3)
        have eN := NN_f hV (m := m) hj y2
        have my := NN_key hV hj hdl y2 v2 (by rw [← ei]; exact hk)
        rw [← ei] at my
        refine ⟨true, upd D (4 * i + 1) (nI y), ?_, ⟨_, vy.V hV h0, ⟨rfl, rfl, rfl, rfl, rfl⟩, my⟩, fun _ => ⟨NN a m j y, ?_, ?_, vy, fun k h1 h2 hv => ?_, my⟩, fun e => by cases e⟩
        · rw [y5]
          unfold f_X11_nextDeal_51
          rw [if_neg (show ¬ (mT M D l o).2.2.2.2.2.2.2.2.2.2.1 ≤ nI y from by show ¬ M.2.2.2.2.2.2.2.2.2.2.1 ≤ _; rw [hn1]; exact nI_ge y2 (by omega)), hb, nI_1, zIn_t (show 4 * i + 1 < 32 by omega) (by decide), if_pos rfl, nI_clamp (by omega)]
          exact congrArg (fun Z : VX11 => some ((1 : Int32), Z)) (mT_set1 M D l o (4 * i + 1) (nI y))
        · refine Classical.byContradiction fun c => ?_
          have := Nat.div_le_div_right (c := aN a ^ j) (show NN a m j y ≤ m by omega)
          rw [eN.1, eA] at this
          omega
        · refine Classical.byContradiction fun c => ?_
          have g1 : aN a ^ aN a / aN a ^ (j + 1) ≤ NN a m j y / aN a ^ (j + 1) := Nat.div_le_div_right (by omega)
          rw [eN.2.2] at g1
          have g2 : aN a ^ aN a = aN a ^ (j + 1) * aN a ^ i := by rw [← Nat.pow_add, show j + 1 + i = aN a by omega]
          have g3 : aN a ^ aN a / aN a ^ (j + 1) = aN a ^ i := by rw [g2, Nat.mul_div_cancel_left _ (Nat.pow_pos h0)]
          have g4 : m / aN a ^ (j + 1) < aN a ^ i := Nat.div_lt_of_lt_mul (by rw [← g2]; exact hm)
          omega
        · have b1 : m / aN a ^ j ≤ k / aN a ^ j := Nat.div_le_div_right (by omega)
          have b2 : k / aN a ^ j ≤ NN a m j y / aN a ^ j := Nat.div_le_div_right (by omega)
          rw [eN.1] at b2
          rw [eA] at b1
          have b3 : k / aN a ^ (j + 1) = m / aN a ^ (j + 1) := by
            rw [Nat.pow_succ, ← Nat.div_div_eq_div_mul]
            have c1 : m / aN a ^ (j + 1) ≤ k / aN a ^ j / aN a := (Nat.le_div_iff_mul_le h0).2 (by omega)
            have c2 : k / aN a ^ j / aN a < m / aN a ^ (j + 1) + 1 := (Nat.div_lt_iff_lt_mul h0).2 (by rw [Nat.succ_mul]; omega)
            rw [Nat.pow_succ] at c1 c2
            omega
          have b4 := kdg k b3
          by_cases q1 : dg (aN a) k i = dg (aN a) m i
          · exact v3 k (by rw [b4, eA, q1]) h1 hv
          · by_cases q2 : dg (aN a) k i = y
            · have w1 := lo_le hV h0 hv j (by omega)
              have w2 := Nat.div_add_mod k (aN a ^ j)
              have w3 := Nat.div_add_mod (NN a m j y) (aN a ^ j)
              rw [eN.1, eN.2.1] at w3
              rw [b4, q2] at w2
              omega
            · have := y4 (dg (aN a) k i) (by omega) (by omega)
              rw [hv i hi] at this; cases this
      · right
        have ml := NN_key hV hj hdl lk2 v2 (by rw [← ei]; exact hk)
        rw [← ei] at ml
        refine ⟨upd D (4 * i + 1) (nI (lk a i)), ⟨vl, ml, fun k h1 h2 hv => ?_⟩, ?_⟩
        · have b4 := kdg k h1
          have b1 : m / aN a ^ j ≤ k / aN a ^ j := Nat.div_le_div_right (by omega)
          rw [eA, b4] at b1
          by_cases q1 : dg (aN a) k i = dg (aN a) m i
          · exact v3 k (by rw [b4, eA, q1]) h2 hv
          · have := y4 (dg (aN a) k i) (by omega) (dg_lt h0)
            rw [hv i hi] at this; cases this
        · rw [y5]
          unfold f_X11_nextDeal_51
          rw [if_pos (show (mT M D l o).2.2.2.2.2.2.2.2.2.2.1 ≤ nI (aN a) from by show M.2.2.2.2.2.2.2.2.2.2.1 ≤ _; rw [hn1]; exact nI_le (Nat.le_refl _) (by omega)), m_least (a := a) v2 hV1 hV ⟨rfl, rfl, rfl, rfl, rfl⟩ hi hk, Option.bind_some, hb, nI_1, zIn_t (show 4 * i + 1 < 32 by omega) (by decide), if_pos rfl, nI_clamp (by omega)]
          exact congrArg (fun Z : VX11 => f_X11_nextDeal_7 f Z (nI i + -1)) (mT_set1 M D l o (4 * i + 1) (nI (lk a i)))
  · rw [Nat.sub_self, Nat.pow_zero, Nat.div_one, Nat.mul_one, show lo a 0 = 0 from rfl, Nat.add_zero]
    exact ⟨hval, hM, fun k h1 h2 => by rw [Nat.div_one] at h1; omega⟩
end
