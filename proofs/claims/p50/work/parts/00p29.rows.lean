/-! THE STEPS: what is told, rows -/
section
variable {S : VX10} {M : VX11}
theorem st_asked (hR : RR S M) : ∃ r : Int32, f_X10_asked S = some r ∧ f_X11_asked M = some r ∧ RR S M := ⟨M.2.2.1, congrArg some hR.1.2.1, rfl, hR⟩
theorem st_upper (hR : RR S M) : ∃ r : Int64, f_X10_upper S = some r ∧ f_X11_upper M = some r ∧ RR S M := ⟨M.2.2.2.1, congrArg some hR.1.2.2.1, rfl, hR⟩
theorem st_lower (hR : RR S M) : ∃ r : Int64, f_X10_lower S = some r ∧ f_X11_lower M = some r ∧ RR S M := ⟨M.2.2.2.2.1, congrArg some hR.1.2.2.2.1, rfl, hR⟩
theorem st_finding (hR : RR S M) : ∃ r : Int32, f_X10_finding S = some r ∧ f_X11_finding M = some r ∧ RR S M := ⟨M.1, congrArg some hR.1.2.2.2.2, rfl, hR⟩
theorem st_findings (hR : RR S M) (v1 : Int32) : ∃ r : Int32, f_X10_findings S v1 = some r ∧ f_X11_findings M v1 = some r ∧ RR S M := by
  rcases ix2 v1 (n := 6) (by decide) with h | ⟨f, hf, rfl⟩
  · refine ⟨-1, ?_, ?_, hR⟩
    · unfold f_X10_findings
      rcases h with h | h
      · rw [if_pos (show v1 < (1 : Int32) from Int32.lt_trans h (by decide))]
      · by_cases c : v1 < 1
        · rw [if_pos c]
        · rw [if_neg c, if_neg (show ¬ v1 ≤ (5 : Int32) from ge_nle (n := 5) h (by decide))]
    · unfold f_X11_findings
      rw [show f_X11_in v1 1 5 = some 0 from m_inF (lo := 1) (hi := 5) (h.imp (fun q => show v1 < nI 1 from Int32.lt_trans q (by decide)) id) (by decide)]; rfl
  · by_cases c : f = 0
    · subst c
      exact ⟨-1, rfl, rfl, hR⟩
    · refine ⟨M.2.1 f, ?_, ?_, hR⟩
      · unfold f_X10_findings
        rw [if_neg (show ¬ nI f < (1 : Int32) from nI_nlt (show 1 ≤ f by omega) (by omega)), if_pos (show nI f ≤ (5 : Int32) from nI_le (show f ≤ 5 by omega) (by decide))]
        unfold f_X9_howOften
        rw [if_neg (show ¬ nI f < (1 : Int32) from nI_nlt (show 1 ≤ f by omega) (by omega)), if_neg (show ¬ (5 : Int32) < nI f from nI_nlt (show f ≤ 5 by omega) (by decide)), zIn_t hf (by decide), if_pos rfl, nI_clamp (by omega), hR.1.1 f (by omega) (by omega)]; rfl
      · unfold f_X11_findings
        rw [show f_X11_in (nI f) 1 5 = some 1 from m_inT (lo := 1) (hi := 5) (by omega) (by omega) (by decide), Option.bind_some, if_neg i10, zIn_t hf (by decide), if_pos rfl, nI_clamp (by omega)]
/-! rows -/
theorem x10_rowF {v : Int32} (h : v < 0 ∨ nI 6 ≤ v) : f_X10_rowRefusal S v = some (-1, S) := by
  unfold f_X10_rowRefusal
  rw [x6_numF h, Option.bind_some, if_pos rfl]
theorem x10_rowN {r : Nat} (hr : r < 6) (e : S.2.1.2 r = -1) : f_X10_rowRefusal S (nI r) = some (-3, (fnd S.1 1, S.2.1, S.2.2.1, S.2.2.2.1, S.2.2.2.2.1, S.2.2.2.2.2.1, S.2.2.2.2.2.2.1, S.2.2.2.2.2.2.2.1, S.2.2.2.2.2.2.2.2.1, S.2.2.2.2.2.2.2.2.2)) := by
  unfold f_X10_rowRefusal
  rw [x6_numT hr, Option.bind_some, if_neg i10, x6_thereF hr e, Option.bind_some, if_pos rfl, show f_X9_found S.1 1 = _ from x9_found S.1 (f := 1) (by decide) (by decide)]; rfl
theorem x10_rowT {r k : Nat} (hr : r < 6) (hk : k ≤ 60) (e : S.2.1.2 r = nI k) : f_X10_rowRefusal S (nI r) = some (0, S) := by
  unfold f_X10_rowRefusal
  rw [x6_numT hr, Option.bind_some, if_neg i10, x6_thereT hr hk e, Option.bind_some, if_neg i10]
theorem x10_placeT {r k i : Nat} (hr : r < 6) (hk : k ≤ 60) (e : S.2.1.2 r = nI k) (hi : i < k) : f_X10_placeRefusal S (nI r) (nI i) = some (0, S) := by
  unfold f_X10_placeRefusal
  rw [x10_rowT hr hk e, Option.bind_some, if_pos rfl, show f_X6_isPlace ((0 : Int32), S).2.2.1 (nI r) (nI i) = some 1 from x6_placeT hr hk e hi, Option.bind_some, if_neg i10]
theorem x10_placeF {r k : Nat} {v : Int32} (hr : r < 6) (hk : k ≤ 60) (e : S.2.1.2 r = nI k) (hv : v < 0 ∨ nI k ≤ v) : f_X10_placeRefusal S (nI r) v = some (-3, (fnd S.1 2, S.2.1, S.2.2.1, S.2.2.2.1, S.2.2.2.2.1, S.2.2.2.2.2.1, S.2.2.2.2.2.2.1, S.2.2.2.2.2.2.2.1, S.2.2.2.2.2.2.2.2.1, S.2.2.2.2.2.2.2.2.2)) := by
  unfold f_X10_placeRefusal
  rw [x10_rowT hr hk e, Option.bind_some, if_pos rfl, show f_X6_isPlace ((0 : Int32), S).2.2.1 (nI r) v = some 0 from x6_placeF hr e hv, Option.bind_some, if_pos rfl, show f_X9_found ((0 : Int32), S).2.1 2 = _ from x9_found S.1 (f := 2) (by decide) (by decide)]; rfl
theorem m_neg : ¬ (0 : Int32) ≤ -1 := by decide
theorem st_tear (hR : RR S M) (v1 : Int32) : ∃ r : Int32, ∃ S2 : VX10, ∃ M2 : VX11, f_X10_tear S v1 = some (r, S2) ∧ f_X11_tear M v1 = some (r, M2) ∧ RR S2 M2 := by
  unfold f_X10_tear f_X11_tear
  rcases rr_rowC hR v1 with h | ⟨r, hr, rfl, e1, e2⟩ | ⟨r, k, hr, rfl, hk, e1, e2, e3⟩
  · exact ⟨-1, S, M, by rw [x10_rowF h] <;> rfl, by rw [m_rowF h] <;> rfl, hR⟩
  · refine ⟨-3, _, _, by rw [x10_rowN hr e1] <;> rfl, ?_, hR.found (f := 1) (by decide) (by decide)⟩
    rw [m_rowT hr, Option.bind_some, if_neg i10, zIn_t hr (by decide), if_pos rfl, nI_clamp (by omega), e2, if_neg m_neg, show f_X11_meets M 1 = _ from m_meets M (f := 1) (by decide)] <;> rfl
  · refine ⟨1, (S.1, (S.2.1.1, upd S.2.1.2 r (-1)), S.2.2.1, S.2.2.2.1, S.2.2.2.2.1, S.2.2.2.2.2.1, S.2.2.2.2.2.2.1, S.2.2.2.2.2.2.2.1, S.2.2.2.2.2.2.2.2.1, S.2.2.2.2.2.2.2.2.2), (M.1, M.2.1, M.2.2.1, M.2.2.2.1, M.2.2.2.2.1, upd M.2.2.2.2.2.1 r (-1), M.2.2.2.2.2.2.1, M.2.2.2.2.2.2.2.1, M.2.2.2.2.2.2.2.2.1, M.2.2.2.2.2.2.2.2.2.1, M.2.2.2.2.2.2.2.2.2.2.1, M.2.2.2.2.2.2.2.2.2.2.2.1, M.2.2.2.2.2.2.2.2.2.2.2.2.1, M.2.2.2.2.2.2.2.2.2.2.2.2.2.1, M.2.2.2.2.2.2.2.2.2.2.2.2.2.2.1, M.2.2.2.2.2.2.2.2.2.2.2.2.2.2.2.1, M.2.2.2.2.2.2.2.2.2.2.2.2.2.2.2.2.1, M.2.2.2.2.2.2.2.2.2.2.2.2.2.2.2.2.2.1, M.2.2.2.2.2.2.2.2.2.2.2.2.2.2.2.2.2.2.1, M.2.2.2.2.2.2.2.2.2.2.2.2.2.2.2.2.2.2.2.1, M.2.2.2.2.2.2.2.2.2.2.2.2.2.2.2.2.2.2.2.2.1, M.2.2.2.2.2.2.2.2.2.2.2.2.2.2.2.2.2.2.2.2.2.1, M.2.2.2.2.2.2.2.2.2.2.2.2.2.2.2.2.2.2.2.2.2.2.1, M.2.2.2.2.2.2.2.2.2.2.2.2.2.2.2.2.2.2.2.2.2.2.2.1, M.2.2.2.2.2.2.2.2.2.2.2.2.2.2.2.2.2.2.2.2.2.2.2.2.1, M.2.2.2.2.2.2.2.2.2.2.2.2.2.2.2.2.2.2.2.2.2.2.2.2.2.1, M.2.2.2.2.2.2.2.2.2.2.2.2.2.2.2.2.2.2.2.2.2.2.2.2.2.2.1, M.2.2.2.2.2.2.2.2.2.2.2.2.2.2.2.2.2.2.2.2.2.2.2.2.2.2.2.1, M.2.2.2.2.2.2.2.2.2.2.2.2.2.2.2.2.2.2.2.2.2.2.2.2.2.2.2.2.1, M.2.2.2.2.2.2.2.2.2.2.2.2.2.2.2.2.2.2.2.2.2.2.2.2.2.2.2.2.2.1, M.2.2.2.2.2.2.2.2.2.2.2.2.2.2.2.2.2.2.2.2.2.2.2.2.2.2.2.2.2.2), ?_, ?_, ?_⟩
    · rw [x10_rowT hr hk e1, Option.bind_some, if_pos rfl]
      unfold f_X6_remove
      rw [x6_numT hr, Option.bind_some, if_neg i10, zIn_t hr (by decide), if_pos rfl, nI_clamp (by omega)] <;> rfl
    · rw [m_rowT hr, Option.bind_some, if_neg i10, zIn_t hr (by decide), if_pos rfl, nI_clamp (by omega), e2, if_pos (nI_pos' (by omega)), if_pos rfl] <;> rfl
    · obtain ⟨hT, hr6, ht, a, hJ, hE, hZ⟩ := hR
      refine ⟨hT, fun j hj => ?_, ht, a, hJ, hE, hZ⟩
      show upd S.2.1.2 r (-1) j = upd M.2.2.2.2.2.1 r (-1) j ∧ (upd M.2.2.2.2.2.1 r (-1) j = -1 ∨ ∃ k', k' ≤ 60 ∧ upd M.2.2.2.2.2.1 r (-1) j = nI k' ∧ ∀ i, i < k' → S.2.1.1 j i = M.2.2.2.2.2.2.1 (60 * j + i))
      rw [upd_at, upd_at]
      by_cases c : j = r
      · rw [if_pos c, if_pos c]; exact ⟨rfl, Or.inl rfl⟩
      · rw [if_neg c, if_neg c]; exact hr6 j hj
theorem st_at (hR : RR S M) (v1 v2 : Int32) : ∃ r : Int32, ∃ S2 : VX10, ∃ M2 : VX11, f_X10_at S v1 v2 = some (r, S2) ∧ f_X11_at M v1 v2 = some (r, M2) ∧ RR S2 M2 := by
  unfold f_X10_at f_X11_at
  rcases rr_rowC hR v1 with h | ⟨r, hr, rfl, e1, e2⟩ | ⟨r, k, hr, rfl, hk, e1, e2, e3⟩
  · exact ⟨-1, S, M, by unfold f_X10_placeRefusal; rw [x10_rowF h] <;> rfl, by rw [m_rowF h] <;> rfl, hR⟩
  · refine ⟨-3, _, _, by unfold f_X10_placeRefusal; rw [x10_rowN hr e1] <;> rfl, ?_, hR.found (f := 1) (by decide) (by decide)⟩
    rw [m_rowT hr, Option.bind_some, if_neg i10, zIn_t hr (by decide), if_pos rfl, nI_clamp (by omega), e2, if_neg m_neg, show f_X11_meets M 1 = _ from m_meets M (f := 1) (by decide)] <;> rfl
  · rcases ix2 v2 (n := k) (by omega) with h | ⟨i, hi, rfl⟩
    · refine ⟨-3, _, _, by rw [x10_placeF hr hk e1 h] <;> rfl, ?_, hR.found (f := 2) (by decide) (by decide)⟩
      rw [m_rowT hr, Option.bind_some, if_neg i10, zIn_t hr (by decide), if_pos rfl, nI_clamp (by omega), e2, if_pos (nI_pos' (by omega)), if_pos rfl, m_inPF h (by omega), Option.bind_some, if_pos rfl, show f_X11_meets M 2 = _ from m_meets M (f := 2) (by decide)] <;> rfl
    · refine ⟨1, _, _, ?_, ?_, hR.tell (M.2.2.2.2.2.2.1 (60 * r + i))⟩
      · rw [x10_placeT hr hk e1 hi, Option.bind_some, if_pos rfl, show f_X6_get ((0 : Int32), S).2.2.1 (nI r) (nI i) = some (S.2.1.1 r i) from x6_get hr hk e1 hi, e3 i hi] <;> rfl
      · rw [m_rowT hr, Option.bind_some, if_neg i10, zIn_t hr (by decide), if_pos rfl, nI_clamp (by omega), e2, if_pos (nI_pos' (by omega)), if_pos rfl, m_inP hi (by omega), Option.bind_some, if_neg i10, m_at hr (by omega)] <;> rfl
theorem st_lay (hR : RR S M) (v1 v2 v3 : Int32) : ∃ r : Int32, ∃ S2 : VX10, ∃ M2 : VX11, f_X10_lay S v1 v2 v3 = some (r, S2) ∧ f_X11_lay M v1 v2 v3 = some (r, M2) ∧ RR S2 M2 := by
  unfold f_X10_lay f_X11_lay
  rcases rr_rowC hR v1 with h | ⟨r, hr, rfl, e1, e2⟩ | ⟨r, k, hr, rfl, hk, e1, e2, e3⟩
  · exact ⟨-1, S, M, by unfold f_X10_placeRefusal; rw [x10_rowF h] <;> rfl, by rw [m_rowF h] <;> rfl, hR⟩
  · refine ⟨-3, _, _, by unfold f_X10_placeRefusal; rw [x10_rowN hr e1] <;> rfl, ?_, hR.found (f := 1) (by decide) (by decide)⟩
    rw [m_rowT hr, Option.bind_some, if_neg i10, zIn_t hr (by decide), if_pos rfl, nI_clamp (by omega), e2, if_neg m_neg, show f_X11_meets M 1 = _ from m_meets M (f := 1) (by decide)] <;> rfl
  · rcases ix2 v2 (n := k) (by omega) with h | ⟨i, hi, rfl⟩
    · refine ⟨-3, _, _, by rw [x10_placeF hr hk e1 h] <;> rfl, ?_, hR.found (f := 2) (by decide) (by decide)⟩
      rw [m_rowT hr, Option.bind_some, if_neg i10, zIn_t hr (by decide), if_pos rfl, nI_clamp (by omega), e2, if_pos (nI_pos' (by omega)), if_pos rfl, m_inPF h (by omega), Option.bind_some, if_pos rfl, show f_X11_meets M 2 = _ from m_meets M (f := 2) (by decide)] <;> rfl
    · have hR2 := hR.tell (M.2.2.2.2.2.2.1 (60 * r + i))
      obtain ⟨hT, hr6, ht, a, hJ, hE, hZ⟩ := hR2
      refine ⟨1, (tel S.1 (M.2.2.2.2.2.2.1 (60 * r + i)), (zg S.2.1.1 r (upd (S.2.1.1 r) i v3), S.2.1.2), S.2.2.1, S.2.2.2.1, S.2.2.2.2.1, S.2.2.2.2.2.1, S.2.2.2.2.2.2.1, S.2.2.2.2.2.2.2.1, S.2.2.2.2.2.2.2.2.1, S.2.2.2.2.2.2.2.2.2), (M.1, M.2.1, M.2.2.2.2.2.2.1 (60 * r + i), M.2.2.2.1, M.2.2.2.2.1, M.2.2.2.2.2.1, upd M.2.2.2.2.2.2.1 (60 * r + i) v3, M.2.2.2.2.2.2.2.1, M.2.2.2.2.2.2.2.2.1, M.2.2.2.2.2.2.2.2.2.1, M.2.2.2.2.2.2.2.2.2.2.1, M.2.2.2.2.2.2.2.2.2.2.2.1, M.2.2.2.2.2.2.2.2.2.2.2.2.1, M.2.2.2.2.2.2.2.2.2.2.2.2.2.1, M.2.2.2.2.2.2.2.2.2.2.2.2.2.2.1, M.2.2.2.2.2.2.2.2.2.2.2.2.2.2.2.1, M.2.2.2.2.2.2.2.2.2.2.2.2.2.2.2.2.1, M.2.2.2.2.2.2.2.2.2.2.2.2.2.2.2.2.2.1, M.2.2.2.2.2.2.2.2.2.2.2.2.2.2.2.2.2.2.1, M.2.2.2.2.2.2.2.2.2.2.2.2.2.2.2.2.2.2.2.1, M.2.2.2.2.2.2.2.2.2.2.2.2.2.2.2.2.2.2.2.2.1, M.2.2.2.2.2.2.2.2.2.2.2.2.2.2.2.2.2.2.2.2.2.1, M.2.2.2.2.2.2.2.2.2.2.2.2.2.2.2.2.2.2.2.2.2.2.1, M.2.2.2.2.2.2.2.2.2.2.2.2.2.2.2.2.2.2.2.2.2.2.2.1, M.2.2.2.2.2.2.2.2.2.2.2.2.2.2.2.2.2.2.2.2.2.2.2.2.1, M.2.2.2.2.2.2.2.2.2.2.2.2.2.2.2.2.2.2.2.2.2.2.2.2.2.1, M.2.2.2.2.2.2.2.2.2.2.2.2.2.2.2.2.2.2.2.2.2.2.2.2.2.2.1, M.2.2.2.2.2.2.2.2.2.2.2.2.2.2.2.2.2.2.2.2.2.2.2.2.2.2.2.1, M.2.2.2.2.2.2.2.2.2.2.2.2.2.2.2.2.2.2.2.2.2.2.2.2.2.2.2.2.1, M.2.2.2.2.2.2.2.2.2.2.2.2.2.2.2.2.2.2.2.2.2.2.2.2.2.2.2.2.2.1, M.2.2.2.2.2.2.2.2.2.2.2.2.2.2.2.2.2.2.2.2.2.2.2.2.2.2.2.2.2.2), ?_, ?_, hT, ?_, ht, a, hJ, hE, hZ⟩
      · rw [x10_placeT hr hk e1 hi, Option.bind_some, if_pos rfl, show f_X6_get ((0 : Int32), S).2.2.1 (nI r) (nI i) = some (S.2.1.1 r i) from x6_get hr hk e1 hi, e3 i hi, Option.bind_some,
          show f_X6_set ((0 : Int32), S).2.2.1 (nI r) (nI i) v3 = _ from x6_set hr hk e1 hi v3] <;> rfl
      · rw [m_rowT hr, Option.bind_some, if_neg i10, zIn_t hr (by decide), if_pos rfl, nI_clamp (by omega), e2, if_pos (nI_pos' (by omega)), if_pos rfl, m_inP hi (by omega), Option.bind_some, if_neg i10, m_at hr (by omega), Option.bind_some, show (60 : Int32) * nI r = nI (60 * r) from pk_mul 60 r, nI_add, zIn_t (show 60 * r + i < 360 by omega) (by decide), if_pos rfl, nI_clamp (by omega)] <;> rfl
      · refine rr_rows.same (M := M) hR.2.1 hr hk e2 (fun j hj => by rw [zg_at, if_neg hj]) (fun j hj => by rw [upd_at, if_neg (by omega)]) (fun j hj => ?_)
        rw [zg_at, if_pos rfl, upd_at, upd_at]
        by_cases c : j = i
        · rw [if_pos c, if_pos (by omega)]
        · rw [if_neg c, if_neg (by omega)]; exact e3 j hj
theorem st_row (hR : RR S M) (v1 v2 : Int32) : ∃ r : Int32, ∃ S2 : VX10, ∃ M2 : VX11, f_X10_row S v1 v2 = some (r, S2) ∧ f_X11_row M v1 v2 = some (r, M2) ∧ RR S2 M2 := by
  unfold f_X10_row f_X11_row
  rcases ix2 v1 (n := 6) (by decide) with h | ⟨r, hr, rfl⟩
  · exact ⟨-1, S, M, by rw [x6_numF h] <;> rfl, by rw [m_rowF h] <;> rfl, hR⟩
  rw [x6_numT hr, Option.bind_some, if_neg i10, m_rowT hr, Option.bind_some, if_neg i10]
  rcases pk_ix v2 (n := 61) (by decide) with h | h | ⟨k, hk, rfl⟩
  · refine ⟨-3, _, _, ?_, ?_, hR.found (f := 5) (by decide) (by decide)⟩
    · rw [if_pos (show v2 ≤ (60 : Int32) from neg_le (n := 60) h (by decide)), if_neg (neg_nge h), show f_X9_found S.1 5 = _ from x9_found S.1 (f := 5) (by decide) (by decide)] <;> rfl
    · rw [if_pos (show v2 ≤ (60 : Int32) from neg_le (n := 60) h (by decide)), if_neg (neg_nge h), show f_X11_meets M 5 = _ from m_meets M (f := 5) (by decide)] <;> rfl
  · exact ⟨-1, S, M, by rw [if_neg (show ¬ v2 ≤ (60 : Int32) from ge_nle (n := 60) h (by decide))], by rw [if_neg (show ¬ v2 ≤ (60 : Int32) from ge_nle (n := 60) h (by decide))], hR⟩
  · obtain ⟨P, p1, p2, p3⟩ := x6_make (S := S.2.1) hr (show k ≤ 60 by omega)
    obtain ⟨Q, q1, q2, q3⟩ := m_clear (fun f M v3 => f_X11_row_34 f M (nI r) (nI k) v3) r (fun M => some (nI k, M)) (fun n M => by
        show f_X11_row_34 (n + 1) M (nI r) (nI k) (nI 60) = _
        rw [f_X11_row_34, if_pos (by decide)]) (fun n M i hi => by
        show f_X11_row_34 (n + 1) M (nI r) (nI k) (nI i) = _
        rw [f_X11_row_34, if_neg (show ¬ (60 : Int32) ≤ nI i from nI_ge hi (by decide)), show (60 : Int32) * nI r = nI (60 * r) from pk_mul 60 r, nI_add, zIn_t (show 60 * r + i < 360 by omega) (by decide), if_pos rfl, nI_clamp (by omega), nI_1]) ((M.1, M.2.1, M.2.2.1, M.2.2.2.1, M.2.2.2.2.1, upd M.2.2.2.2.2.1 r (nI k), M.2.2.2.2.2.2.1, M.2.2.2.2.2.2.2.1, M.2.2.2.2.2.2.2.2.1, M.2.2.2.2.2.2.2.2.2.1, M.2.2.2.2.2.2.2.2.2.2.1, M.2.2.2.2.2.2.2.2.2.2.2.1, M.2.2.2.2.2.2.2.2.2.2.2.2.1, M.2.2.2.2.2.2.2.2.2.2.2.2.2.1, M.2.2.2.2.2.2.2.2.2.2.2.2.2.2.1, M.2.2.2.2.2.2.2.2.2.2.2.2.2.2.2.1, M.2.2.2.2.2.2.2.2.2.2.2.2.2.2.2.2.1, M.2.2.2.2.2.2.2.2.2.2.2.2.2.2.2.2.2.1, M.2.2.2.2.2.2.2.2.2.2.2.2.2.2.2.2.2.2.1, M.2.2.2.2.2.2.2.2.2.2.2.2.2.2.2.2.2.2.2.1, M.2.2.2.2.2.2.2.2.2.2.2.2.2.2.2.2.2.2.2.2.1, M.2.2.2.2.2.2.2.2.2.2.2.2.2.2.2.2.2.2.2.2.2.1, M.2.2.2.2.2.2.2.2.2.2.2.2.2.2.2.2.2.2.2.2.2.2.1, M.2.2.2.2.2.2.2.2.2.2.2.2.2.2.2.2.2.2.2.2.2.2.2.1, M.2.2.2.2.2.2.2.2.2.2.2.2.2.2.2.2.2.2.2.2.2.2.2.2.1, M.2.2.2.2.2.2.2.2.2.2.2.2.2.2.2.2.2.2.2.2.2.2.2.2.2.1, M.2.2.2.2.2.2.2.2.2.2.2.2.2.2.2.2.2.2.2.2.2.2.2.2.2.2.1, M.2.2.2.2.2.2.2.2.2.2.2.2.2.2.2.2.2.2.2.2.2.2.2.2.2.2.2.1, M.2.2.2.2.2.2.2.2.2.2.2.2.2.2.2.2.2.2.2.2.2.2.2.2.2.2.2.2.1, M.2.2.2.2.2.2.2.2.2.2.2.2.2.2.2.2.2.2.2.2.2.2.2.2.2.2.2.2.2.1, M.2.2.2.2.2.2.2.2.2.2.2.2.2.2.2.2.2.2.2.2.2.2.2.2.2.2.2.2.2.2))
    obtain ⟨hT, hr6, ht, a, hJ, hE, hZ⟩ := id hR
    refine ⟨nI k, (S.1, (P, upd S.2.1.2 r (nI k)), S.2.2.1, S.2.2.2.1, S.2.2.2.2.1, S.2.2.2.2.2.1, S.2.2.2.2.2.2.1, S.2.2.2.2.2.2.2.1, S.2.2.2.2.2.2.2.2.1, S.2.2.2.2.2.2.2.2.2), (M.1, M.2.1, M.2.2.1, M.2.2.2.1, M.2.2.2.2.1, upd M.2.2.2.2.2.1 r (nI k), Q, M.2.2.2.2.2.2.2.1, M.2.2.2.2.2.2.2.2.1, M.2.2.2.2.2.2.2.2.2.1, M.2.2.2.2.2.2.2.2.2.2.1, M.2.2.2.2.2.2.2.2.2.2.2.1, M.2.2.2.2.2.2.2.2.2.2.2.2.1, M.2.2.2.2.2.2.2.2.2.2.2.2.2.1, M.2.2.2.2.2.2.2.2.2.2.2.2.2.2.1, M.2.2.2.2.2.2.2.2.2.2.2.2.2.2.2.1, M.2.2.2.2.2.2.2.2.2.2.2.2.2.2.2.2.1, M.2.2.2.2.2.2.2.2.2.2.2.2.2.2.2.2.2.1, M.2.2.2.2.2.2.2.2.2.2.2.2.2.2.2.2.2.2.1, M.2.2.2.2.2.2.2.2.2.2.2.2.2.2.2.2.2.2.2.1, M.2.2.2.2.2.2.2.2.2.2.2.2.2.2.2.2.2.2.2.2.1, M.2.2.2.2.2.2.2.2.2.2.2.2.2.2.2.2.2.2.2.2.2.1, M.2.2.2.2.2.2.2.2.2.2.2.2.2.2.2.2.2.2.2.2.2.2.1, M.2.2.2.2.2.2.2.2.2.2.2.2.2.2.2.2.2.2.2.2.2.2.2.1, M.2.2.2.2.2.2.2.2.2.2.2.2.2.2.2.2.2.2.2.2.2.2.2.2.1, M.2.2.2.2.2.2.2.2.2.2.2.2.2.2.2.2.2.2.2.2.2.2.2.2.2.1, M.2.2.2.2.2.2.2.2.2.2.2.2.2.2.2.2.2.2.2.2.2.2.2.2.2.2.1, M.2.2.2.2.2.2.2.2.2.2.2.2.2.2.2.2.2.2.2.2.2.2.2.2.2.2.2.1, M.2.2.2.2.2.2.2.2.2.2.2.2.2.2.2.2.2.2.2.2.2.2.2.2.2.2.2.2.1, M.2.2.2.2.2.2.2.2.2.2.2.2.2.2.2.2.2.2.2.2.2.2.2.2.2.2.2.2.2.1, M.2.2.2.2.2.2.2.2.2.2.2.2.2.2.2.2.2.2.2.2.2.2.2.2.2.2.2.2.2.2), ?_, ?_, hT, ?_, ht, a, hJ, hE, hZ⟩
    · rw [if_pos (show nI k ≤ (60 : Int32) from nI_le (show k ≤ 60 by omega) (by decide)), if_pos (nI_pos' (by omega)), p1] <;> rfl
    · rw [if_pos (show nI k ≤ (60 : Int32) from nI_le (show k ≤ 60 by omega) (by decide)), if_pos (nI_pos' (by omega)), zIn_t hr (by decide), if_pos rfl, nI_clamp (by omega)]
      exact q1
    · exact rr_rows.anew hr6 hr (by omega) p3 q3 (fun i hi => by rw [p2 i hi, q2 i (by omega)])
theorem x6_hasT {Z : VX6} {r k i n : Nat} (hr : r < 6) (hk : k ≤ 60) (e : Z.2 r = nI k) (h : i + n ≤ k) : f_X6_hasPlaces Z (nI r) (nI i) (nI n) = some 1 := by
  unfold f_X6_hasPlaces
  rw [x6_size hr, Option.bind_some, e, if_neg (nI_pos (by omega)), if_neg (nI_nlt (by omega) (by omega)), if_neg (nI_pos (by omega)), pk_sub (show i ≤ k by omega), if_neg (nI_nlt (by omega) (by omega))]
end
