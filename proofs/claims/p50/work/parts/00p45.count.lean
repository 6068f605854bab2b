/-! THE STEPS: count -/
theorem x2_doorsOf {J : VX2} {a : AJ} (hJ : JR J a) (hV : AV a) {j : Nat} (hj : j ≤ 5) : f_X2_doorsOf J (nI j) = some (nI (ct (fun x => ofB (aK a x) j) (aN a))) := by
  have hn := hV.2.1
  unfold f_X2_doorsOf
  refine loop_is (fun f v2 v3 => f_X2_doorsOf_4 f J (nI j) v2 v3) (fun k => nI (ct (fun x => ofB (aK a x) j) k)) 0 (aN a) _ (fun n => ?_) (fun n k _ hk => ?_) 4096 0 (Nat.le_refl _) (by omega) (by omega)
  · show f_X2_doorsOf_4 (n + 1) J (nI j) _ (nI (aN a)) = _
    rw [f_X2_doorsOf_4, hJ.1, if_pos (nI_le (Nat.le_refl _) (by omega))]
  · show f_X2_doorsOf_4 (n + 1) J (nI j) (nI (ct (fun x => ofB (aK a x) j) k)) (nI k) = f_X2_doorsOf_4 n J (nI j) (nI (ct (fun x => ofB (aK a x) j) k + (ofB (aK a k) j).toNat)) (nI (k + 1))
    rw [f_X2_doorsOf_4, hJ.1, if_neg (nI_ge hk (by omega)), x2_isOf hJ hV hk hj, Option.bind_some, nI_a0, nI_1, nI_1]
    cases ofB (aK a k) j with
    | true => rw [if_neg (show ¬ bI true = 0 from i10)]; rfl
    | false => rw [if_pos (show bI false = 0 from rfl)]; rfl
theorem x2_quarrels {J : VX2} {a : AJ} (hJ : JR J a) (hV : AV a) : f_X2_quarrels J = some (nI (sumB (fun x => pc (aF a x)) (aN a)) / 2) := by
  have hn := hV.2.1
  have hN := hV.N
  unfold f_X2_quarrels
  refine loop_is (fun f v1 v2 => f_X2_quarrels_4 f J v1 v2) (fun k => nI (sumB (fun x => pc (aF a x)) k)) 0 (aN a) _ (fun n => ?_) (fun n k _ hk => ?_) 4096 0 (Nat.le_refl _) (by omega) (by omega)
  · show f_X2_quarrels_4 (n + 1) J _ (nI (aN a)) = _
    rw [f_X2_quarrels_4, hJ.1, if_pos (nI_le (Nat.le_refl _) (by omega))]
  · have hf := (hV.2.2 k hk).2.2.2.2.2.2.1
    show f_X2_quarrels_4 (n + 1) J (nI (sumB (fun x => pc (aF a x)) k)) (nI k) = f_X2_quarrels_4 n J (nI (sumB (fun x => pc (aF a x)) k + pc (aF a k))) (nI (k + 1))
    rw [f_X2_quarrels_4, hJ.1, if_neg (nI_ge hk (by omega)), zIn_t (show k < 8 by omega) (by decide), if_pos rfl, nI_clamp (by omega), (hJ.2.2.2 k hk).2.2.2.2, n_cnt (show aF a k < 256 by omega), Option.bind_some, nI_add, nI_1]
/-- whether a row, a text is there -/
def rp (f : Nat → Int32) (r : Nat) : Bool := decide (¬ f r < 0)
theorem rp_m1 {f : Nat → Int32} {r : Nat} (h : f r = -1) : rp f r = false := by
  unfold rp
  rw [h]
  decide
theorem rp_nI {f : Nat → Int32} {r k : Nat} (h : f r = nI k) (hk : k < 2 ^ 31) : rp f r = true := by
  unfold rp
  rw [h]
  exact decide_eq_true (nI_pos hk)
theorem x6_many {Z : VX6} {M : VX11} (h : rr_rows Z M) : f_X6_howMany Z = some (nI (ct (rp M.2.2.2.2.2.1) 6)) := by
  unfold f_X6_howMany
  refine loop_is (fun f v1 v2 => f_X6_howMany_4 f Z v1 v2) (fun k => nI (ct (rp M.2.2.2.2.2.1) k)) 0 6 _ (fun n => ?_) (fun n r _ hr => ?_) 4096 0 (Nat.le_refl _) (by omega) (by omega)
  · show f_X6_howMany_4 (n + 1) Z _ (nI 6) = _
    rw [f_X6_howMany_4, if_pos (by decide)]
  · show f_X6_howMany_4 (n + 1) Z (nI (ct (rp M.2.2.2.2.2.1) r)) (nI r) = f_X6_howMany_4 n Z (nI (ct (rp M.2.2.2.2.2.1) r + (rp M.2.2.2.2.2.1 r).toNat)) (nI (r + 1))
    rw [f_X6_howMany_4, if_neg (show ¬ (6 : Int32) ≤ nI r from nI_ge hr (by decide)), nI_a0, nI_1, nI_1]
    obtain ⟨e, h1 | ⟨k, hk, e1, e2⟩⟩ := h r hr
    · rw [x6_thereF hr (e.trans h1), Option.bind_some, if_pos rfl, rp_m1 h1]; rfl
    · rw [x6_thereT hr hk (e.trans e1), Option.bind_some, if_neg i10, rp_nI e1 (by omega)]; rfl
theorem x8_many {Z : VX8} {M : VX11} (h : rr_texts Z M) : f_X8_howMany Z = some (nI (ct (rp M.2.2.2.2.2.2.2.2.1) 4)) := by
  unfold f_X8_howMany
  refine loop_is (fun f v1 v2 => f_X8_howMany_4 f Z v1 v2) (fun k => nI (ct (rp M.2.2.2.2.2.2.2.2.1) k)) 0 4 _ (fun n => ?_) (fun n r _ hr => ?_) 4096 0 (Nat.le_refl _) (by omega) (by omega)
  · show f_X8_howMany_4 (n + 1) Z _ (nI 4) = _
    rw [f_X8_howMany_4, if_pos (by decide)]
  · show f_X8_howMany_4 (n + 1) Z (nI (ct (rp M.2.2.2.2.2.2.2.2.1) r)) (nI r) = f_X8_howMany_4 n Z (nI (ct (rp M.2.2.2.2.2.2.2.2.1) r + (rp M.2.2.2.2.2.2.2.2.1 r).toNat)) (nI (r + 1))
    rw [f_X8_howMany_4, if_neg (show ¬ (4 : Int32) ≤ nI r from nI_ge hr (by decide)), nI_a0, nI_1, nI_1]
    obtain ⟨e, h1 | ⟨k, hk, e1, e2⟩⟩ := h r hr
    · rw [x8_thereF hr (e.trans h1), Option.bind_some, if_pos rfl, rp_m1 h1]; rfl
    · rw [x8_thereT hr hk (e.trans e1), Option.bind_some, if_neg i10, rp_nI e1 (by omega)]; rfl
/-! the model's count -/
def q4 (a : AJ) (w x : Nat) : Nat := if w = 2 then (ofB (aK a x) 1).toNat else if w = 3 then (ofB (aK a x) 3).toNat else if w = 4 then pc (aF a x) else 0
theorem nI_w {w k : Nat} (hw : w < 8) (hk : k < 8) : (nI w = nI k) = (w = k) := propext (nI_eq (by omega) (by omega))
theorem two_of {k : Nat} (hk : k ≤ 5) : decide (k = 1 ∨ k = 5) = ofB k 1 := by
  have h : k = 0 ∨ k = 1 ∨ k = 2 ∨ k = 3 ∨ k = 4 ∨ k = 5 := by omega
  rcases h with rfl | rfl | rfl | rfl | rfl | rfl <;> rfl
theorem late_of {k : Nat} (hk : k ≤ 5) : decide (k = 3 ∨ k = 4) = ofB k 3 := by
  have h : k = 0 ∨ k = 1 ∨ k = 2 ∨ k = 3 ∨ k = 4 ∨ k = 5 := by omega
  rcases h with rfl | rfl | rfl | rfl | rfl | rfl <;> rfl
theorem m_c4 {M : VX11} {a : AJ} (hM : MR M a) (hV : AV a) {w : Nat} (hw : w < 8) : f_X11_counted_4 4096 M (nI w) 0 0 = f_X11_counted_75 4096 M (nI w) (nI (sumB (q4 a w) (aN a))) 0 := by
  have hn := hV.2.1
  have hN := hV.N
  have w2 : (nI w = (2 : Int32)) = (w = 2) := nI_w hw (k := 2) (by decide)
  have w3 : (nI w = (3 : Int32)) = (w = 3) := nI_w hw (k := 3) (by decide)
  have w4 : (nI w = (4 : Int32)) = (w = 4) := nI_w hw (k := 4) (by decide)
  refine loop_is (fun f v2 v3 => f_X11_counted_4 f M (nI w) v2 v3) (fun k => nI (sumB (q4 a w) k)) 0 (aN a) _ (fun n => ?_) (fun n x _ hx => ?_) 4096 0 (Nat.le_refl _) (by omega) (by omega)
  · show f_X11_counted_4 (n + 1) M (nI w) _ (nI (aN a)) = _
    rw [f_X11_counted_4, hM.1, if_pos (nI_le (Nat.le_refl _) (by omega))]
  · show f_X11_counted_4 (n + 1) M (nI w) (nI (sumB (q4 a w) x)) (nI x) = f_X11_counted_4 n M (nI w) (nI (sumB (q4 a w) x + q4 a w x)) (nI (x + 1))
    have hk := (hV.2.2 x hx).1
    have hf := (hV.2.2 x hx).2.2.2.2.2.2.1
    generalize sumB (q4 a w) x = s
    have e44 : ∀ t : Nat, w ≠ 4 → f_X11_counted_44 (f_X11_counted_4 n) M (nI w) (nI x) (nI t) (nI s) = f_X11_counted_4 n M (nI w) (nI (s + t)) (nI (x + 1)) := fun t h4 => by
      unfold f_X11_counted_44
      simp only [w4]
      rw [if_neg h4, nI_add, nI_a0, nI_1]; rfl
    have e0 := e44 0
    have e1 := e44 1
    have c0 : f_X11_counted_44 (f_X11_counted_4 n) M (nI w) (nI x) 0 (nI s) = f_X11_counted_44 (f_X11_counted_4 n) M (nI w) (nI x) (nI 0) (nI s) := rfl
    have c1 : f_X11_counted_44 (f_X11_counted_4 n) M (nI w) (nI x) 1 (nI s) = f_X11_counted_44 (f_X11_counted_4 n) M (nI w) (nI x) (nI 1) (nI s) := rfl
    rw [f_X11_counted_4, hM.1, if_neg (nI_ge hx (by omega)), m_two hM hn hx hk, Option.bind_some, two_of hk]
    simp only [w2]
    unfold f_X11_counted_26
    simp only [w3]
    rw [m_late hM hn hx hk, Option.bind_some, late_of hk, c0, c1]
    unfold q4
    by_cases h2 : w = 2
    · rw [if_pos h2, if_neg (show ¬ w = 3 by omega), if_pos h2, e0 (by omega), e1 (by omega)]
      cases ofB (aK a x) 1 with
      | true => rw [if_neg (show ¬ bI true = 0 from i10)]; rfl
      | false => rw [if_pos (show bI false = 0 from rfl)]; rfl
    · rw [if_neg h2, if_neg h2]
      by_cases h3 : w = 3
      · rw [if_pos h3, if_pos h3, e0 (by omega), e1 (by omega)]
        cases ofB (aK a x) 3 with
        | true => rw [if_neg (show ¬ bI true = 0 from i10)]; rfl
        | false => rw [if_pos (show bI false = 0 from rfl)]; rfl
      · rw [if_neg h3, if_neg h3]
        by_cases h4 : w = 4
        · unfold f_X11_counted_44
          simp only [w4]
          rw [if_pos h4, if_pos h4, zIn_t (show x < 8 by omega) (by decide), if_pos rfl, nI_clamp (by omega), (hM.2 x hx).2.2.2.2, n_bits (show aF a x < 256 by omega), Option.bind_some, nI_add, nI_add, nI_1]; rfl
        · rw [if_neg h4, e0 h4]
theorem m_c75 {M : VX11} {w : Nat} (hw : w < 8) (c : Nat) : f_X11_counted_75 4096 M (nI w) (nI c) 0 = f_X11_counted_112 4096 M (nI w) (nI (c + (if w = 6 then ct (rp M.2.2.2.2.2.1) 6 else 0))) 0 := by
  have w6 : (nI w = (6 : Int32)) = (w = 6) := nI_w hw (k := 6) (by decide)
  have e0 : nI c = nI (c + (if w = 6 then ct (rp M.2.2.2.2.2.1) 0 else 0)) := by rw [show ct (rp M.2.2.2.2.2.1) 0 = 0 from rfl, ite_self, Nat.add_zero c]
  rw [e0]
  refine loop_is (fun f v2 v3 => f_X11_counted_75 f M (nI w) v2 v3) (fun k => nI (c + (if w = 6 then ct (rp M.2.2.2.2.2.1) k else 0))) 0 6 _ (fun n => ?_) (fun n r _ hr => ?_) 4096 0 (Nat.le_refl _) (by omega) (by omega)
  · show f_X11_counted_75 (n + 1) M (nI w) _ (nI 6) = _
    rw [f_X11_counted_75, if_pos (by decide)]
  · show f_X11_counted_75 (n + 1) M (nI w) (nI (c + (if w = 6 then ct (rp M.2.2.2.2.2.1) r else 0))) (nI r) = f_X11_counted_75 n M (nI w) (nI (c + (if w = 6 then ct (rp M.2.2.2.2.2.1) r + (rp M.2.2.2.2.2.1 r).toNat else 0))) (nI (r + 1))
    rw [f_X11_counted_75, if_neg (show ¬ (6 : Int32) ≤ nI r from nI_ge hr (by decide)), nI_a0, nI_1, nI_1]
    simp only [w6]
    by_cases h6 : w = 6
    · rw [if_pos h6, if_pos h6, if_pos h6, zIn_t hr (by decide), if_pos rfl, nI_clamp (by omega)]
      unfold rp
      by_cases c : M.2.2.2.2.2.1 r < 0
      · rw [if_pos c, decide_eq_false (fun q => q c)]; rfl
      · rw [if_neg c, decide_eq_true c]; rfl
    · rw [if_neg h6, if_neg h6, if_neg h6] <;> rfl
theorem m_c112 {M : VX11} {w : Nat} (hw : w < 8) (c : Nat) : f_X11_counted_112 4096 M (nI w) (nI c) 0 = if w = 0 then some M.2.2.2.2.2.2.2.2.2.2.1 else if w = 1 then f_X11_bits M.2.2.2.2.2.2.2.2.2.2.2.2.2.2.2.2.2.2.1 else if w = 4 then some (nI (c + (if w = 7 then ct (rp M.2.2.2.2.2.2.2.2.1) 4 else 0)) / 2) else if w = 5 then some M.2.2.2.2.2.2.2.2.2.2.2.2.2.2.2.2.2.2.2.2.2.2.2.2.2.2.2.1 else some (nI (c + (if w = 7 then ct (rp M.2.2.2.2.2.2.2.2.1) 4 else 0))) := by
  have w0 : (nI w = (0 : Int32)) = (w = 0) := nI_w hw (k := 0) (by decide)
  have w1 : (nI w = (1 : Int32)) = (w = 1) := nI_w hw (k := 1) (by decide)
  have w4 : (nI w = (4 : Int32)) = (w = 4) := nI_w hw (k := 4) (by decide)
  have w5 : (nI w = (5 : Int32)) = (w = 5) := nI_w hw (k := 5) (by decide)
  have w7 : (nI w = (7 : Int32)) = (w = 7) := nI_w hw (k := 7) (by decide)
  have e0 : nI c = nI (c + (if w = 7 then ct (rp M.2.2.2.2.2.2.2.2.1) 0 else 0)) := by rw [show ct (rp M.2.2.2.2.2.2.2.2.1) 0 = 0 from rfl, ite_self, Nat.add_zero c]
  rw [e0]
  refine loop_is (fun f v2 v3 => f_X11_counted_112 f M (nI w) v2 v3) (fun k => nI (c + (if w = 7 then ct (rp M.2.2.2.2.2.2.2.2.1) k else 0))) 0 4 _ (fun n => ?_) (fun n r _ hr => ?_) 4096 0 (Nat.le_refl _) (by omega) (by omega)
  · show f_X11_counted_112 (n + 1) M (nI w) _ (nI 4) = _
    rw [f_X11_counted_112, if_pos (by decide)]
    simp only [w0, w1, w4, w5]
    by_cases h0 : w = 0
    · rw [if_pos h0, if_pos h0]
    rw [if_neg h0, if_neg h0]
    by_cases h1 : w = 1
    · rw [if_pos h1, if_pos h1]
      cases f_X11_bits M.2.2.2.2.2.2.2.2.2.2.2.2.2.2.2.2.2.2.1 <;> rfl
    rw [if_neg h1, if_neg h1]
  · show f_X11_counted_112 (n + 1) M (nI w) (nI (c + (if w = 7 then ct (rp M.2.2.2.2.2.2.2.2.1) r else 0))) (nI r) = f_X11_counted_112 n M (nI w) (nI (c + (if w = 7 then ct (rp M.2.2.2.2.2.2.2.2.1) r + (rp M.2.2.2.2.2.2.2.2.1 r).toNat else 0))) (nI (r + 1))
    rw [f_X11_counted_112, if_neg (show ¬ (4 : Int32) ≤ nI r from nI_ge hr (by decide)), nI_a0, nI_1, nI_1]
    simp only [w7]
    by_cases h7 : w = 7
    · rw [if_pos h7, if_pos h7, if_pos h7, zIn_t hr (by decide), if_pos rfl, nI_clamp (by omega)]
      unfold rp
      by_cases c : M.2.2.2.2.2.2.2.2.1 r < 0
      · rw [if_pos c, decide_eq_false (fun q => q c)]; rfl
      · rw [if_neg c, decide_eq_true c]; rfl
    · rw [if_neg h7, if_neg h7, if_neg h7] <;> rfl
section
variable {S : VX10} {M : VX11}
theorem cnt_both (hR : RR S M) {w : Nat} (hw : w < 8) : ∃ c, f_X10_count S (nI w) = some c ∧ f_X11_counted M (nI w) = some c := by
  obtain ⟨hT, hr6, ht, a, ⟨hV, hJ, hM⟩, ⟨⟨g, hg, eg1, eg2⟩, hf, hk⟩, ⟨m, cw, cb, hm, s1, s2, hs⟩⟩ := id hR
  have hn := hV.2.1
  have hN := hV.N
  have eM : f_X11_counted M (nI w) = _ := (m_c4 hM hV hw).trans ((m_c75 hw _).trans (m_c112 hw _))
  rw [eM]
  unfold f_X10_count
  have z : ∀ n : Nat, sumB (fun _ => 0) n = 0 := fun n => by
    induction n with
    | zero => rfl
    | succ n ih => rw [sumB, ih]
  have h : w = 0 ∨ w = 1 ∨ w = 2 ∨ w = 3 ∨ w = 4 ∨ w = 5 ∨ w = 6 ∨ w = 7 := by omega
  rcases h with rfl | rfl | rfl | rfl | rfl | rfl | rfl | rfl
  · exact ⟨M.2.2.2.2.2.2.2.2.2.2.1, congrArg some (hJ.1.trans hM.1.symm), rfl⟩
  · refine ⟨nI (pc g), ?_, ?_⟩
    · rw [if_neg (by decide), if_pos (by decide)]
      unfold f_X1_howManyOut
      rw [eg1, n_cnt (show g < 256 by omega)]; rfl
    · show f_X11_bits M.2.2.2.2.2.2.2.2.2.2.2.2.2.2.2.2.2.2.1 = _
      rw [eg2, n_bits (show g < 256 by omega)]
  · refine ⟨nI (ct (fun x => ofB (aK a x) 1) (aN a)), ?_, ?_⟩
    · rw [if_neg (by decide), if_neg (by decide), if_pos (by decide), show f_X2_doorsOf S.2.2.2.2.1 1 = _ from x2_doorsOf hJ hV (j := 1) (by decide)]; rfl
    · show some (nI (sumB (q4 a 2) (aN a) + 0 + 0)) = _
      have e : ∀ n, sumB (q4 a 2) n = ct (fun x => ofB (aK a x) 1) n := fun n => by
        induction n with
        | zero => rfl
        | succ n ih => rw [sumB, ct, ih]; rfl
      rw [e]; rfl
  · refine ⟨nI (ct (fun x => ofB (aK a x) 3) (aN a)), ?_, ?_⟩
    · rw [if_neg (by decide), if_neg (by decide), if_neg (by decide), if_pos (by decide), show f_X2_doorsOf S.2.2.2.2.1 3 = _ from x2_doorsOf hJ hV (j := 3) (by decide)]; rfl
    · show some (nI (sumB (q4 a 3) (aN a) + 0 + 0)) = _
      have e : ∀ n, sumB (q4 a 3) n = ct (fun x => ofB (aK a x) 3) n := fun n => by
        induction n with
        | zero => rfl
        | succ n ih => rw [sumB, ct, ih]; rfl
      rw [e]; rfl
  · refine ⟨nI (sumB (fun x => pc (aF a x)) (aN a)) / 2, ?_, ?_⟩
    · rw [if_neg (by decide), if_neg (by decide), if_neg (by decide), if_neg (by decide), if_pos (by decide), x2_quarrels hJ hV]; rfl
    · show some (nI (sumB (q4 a 4) (aN a) + 0 + 0) / 2) = _
      have e : sumB (q4 a 4) (aN a) = sumB (fun x => pc (aF a x)) (aN a) := sumB_congr _ fun x _ => rfl
      rw [e]; rfl
  · exact ⟨M.2.2.2.2.2.2.2.2.2.2.2.2.2.2.2.2.2.2.2.2.2.2.2.2.2.2.2.1, congrArg some (s1.trans s2.symm), rfl⟩
  · refine ⟨nI (ct (rp M.2.2.2.2.2.1) 6), ?_, ?_⟩
    · rw [if_neg (by decide), if_neg (by decide), if_neg (by decide), if_neg (by decide), if_neg (by decide), if_neg (by decide), if_pos (by decide), x6_many hr6]; rfl
    · show some (nI (sumB (q4 a 6) (aN a) + ct (rp M.2.2.2.2.2.1) 6 + 0)) = _
      have e : sumB (q4 a 6) (aN a) = 0 := z (aN a)
      rw [e, Nat.zero_add]; rfl
  · refine ⟨nI (ct (rp M.2.2.2.2.2.2.2.2.1) 4), ?_, ?_⟩
    · rw [if_neg (by decide), if_neg (by decide), if_neg (by decide), if_neg (by decide), if_neg (by decide), if_neg (by decide), if_neg (by decide), if_pos (by decide), x8_many ht]; rfl
    · show some (nI (sumB (q4 a 7) (aN a) + 0 + ct (rp M.2.2.2.2.2.2.2.2.1) 4)) = _
      have e : sumB (q4 a 7) (aN a) = 0 := z (aN a)
      rw [e, Nat.add_zero 0, Nat.zero_add]
theorem st_count (hR : RR S M) (v1 : Int32) : ∃ r : Int32, f_X10_count S v1 = some r ∧ f_X11_count M v1 = some r ∧ RR S M := by
  unfold f_X11_count
  rcases ix2 v1 (n := 8) (by decide) with h | ⟨w, hw, rfl⟩
  · refine ⟨-1, ?_, by rw [show f_X11_in v1 0 7 = some 0 from m_inF (lo := 0) (hi := 7) h (by decide)] <;> rfl, hR⟩
    have ne : ∀ k : Nat, k < 8 → v1 ≠ nI k := fun k hk e => by
      rw [e] at h
      exact h.elim (nI_pos (by omega)) (nI_ge hk (by decide))
    unfold f_X10_count
    rw [if_neg (show ¬ v1 = 0 from ne 0 (by decide)), if_neg (show ¬ v1 = 1 from ne 1 (by decide)), if_neg (show ¬ v1 = 2 from ne 2 (by decide)), if_neg (show ¬ v1 = 3 from ne 3 (by decide)), if_neg (show ¬ v1 = 4 from ne 4 (by decide)), if_neg (show ¬ v1 = 5 from ne 5 (by decide)), if_neg (show ¬ v1 = 6 from ne 6 (by decide)), if_neg (show ¬ v1 = 7 from ne 7 (by decide))]
  · obtain ⟨c, e1, e2⟩ := cnt_both hR hw
    refine ⟨c, e1, ?_, hR⟩
    rw [show f_X11_in (nI w) 0 7 = some 1 from m_inT (lo := 0) (hi := 7) (Nat.zero_le _) (by omega) (by decide), Option.bind_some, if_neg i10, e2]; rfl
end
