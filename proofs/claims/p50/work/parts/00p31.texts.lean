/-! THE STEPS: texts -/
section
variable {Z : VX8}
theorem x8_numT {r : Nat} (h : r < 4) : f_X8_isNumber Z (nI r) = some 1 := by
  unfold f_X8_isNumber
  rw [if_neg (nI_pos (by omega)), if_neg (show ¬ (4 : Int32) ≤ nI r from nI_ge h (by decide))]
theorem x8_numF {x : Int32} (h : x < 0 ∨ nI 4 ≤ x) : f_X8_isNumber Z x = some 0 := by
  unfold f_X8_isNumber
  by_cases h0 : x < 0
  · rw [if_pos h0]
  · rw [if_neg h0, if_pos (show (4 : Int32) ≤ x from h.resolve_left h0)]
theorem x8_size {r : Nat} (h : r < 4) : f_X8_sizeOf Z (nI r) = some (Z.2 r) := by
  unfold f_X8_sizeOf
  rw [x8_numT h, Option.bind_some, if_neg i10, zIn_t h (by decide), if_pos rfl, nI_clamp (by omega)]
theorem x8_thereF {r : Nat} (h : r < 4) (e : Z.2 r = -1) : f_X8_isThere Z (nI r) = some 0 := by
  unfold f_X8_isThere
  rw [x8_size h, Option.bind_some, e, if_pos rfl]
theorem x8_thereT {r k : Nat} (h : r < 4) (hk : k ≤ 100) (e : Z.2 r = nI k) : f_X8_isThere Z (nI r) = some 1 := by
  unfold f_X8_isThere
  rw [x8_size h, Option.bind_some, e, if_neg (nI_m1 (by omega))]
theorem x8_placeT {r k i : Nat} (h : r < 4) (hk : k ≤ 100) (e : Z.2 r = nI k) (hi : i < k) : f_X8_isPlace Z (nI r) (nI i) = some 1 := by
  unfold f_X8_isPlace
  rw [if_neg (nI_pos (by omega)), x8_size h, Option.bind_some, e, if_neg (nI_ge hi (by omega))]
theorem x8_placeF {r k : Nat} {x : Int32} (h : r < 4) (e : Z.2 r = nI k) (hx : x < 0 ∨ nI k ≤ x) : f_X8_isPlace Z (nI r) x = some 0 := by
  unfold f_X8_isPlace
  by_cases h0 : x < 0
  · rw [if_pos h0]
  · rw [if_neg h0, x8_size h, Option.bind_some, e, if_pos (hx.resolve_left h0)]
theorem x8_get {r k i : Nat} (h : r < 4) (hk : k ≤ 100) (e : Z.2 r = nI k) (hi : i < k) : f_X8_get Z (nI r) (nI i) = some (Z.1 r i) := by
  unfold f_X8_get
  rw [x8_placeT h hk e hi, Option.bind_some, if_neg i10, zIn_t h (by decide), if_pos rfl, zIn_t (show i < 100 by omega) (by decide), if_pos rfl, nI_clamp (by omega), nI_clamp (by omega)]
theorem x8_set {r k i : Nat} (h : r < 4) (hk : k ≤ 100) (e : Z.2 r = nI k) (hi : i < k) (v : Int32) : f_X8_set Z (nI r) (nI i) v = some (zg Z.1 r (upd (Z.1 r) i v.toInt8.toInt32), Z.2) := by
  unfold f_X8_set
  rw [x8_placeT h hk e hi, Option.bind_some, if_neg i10, zIn_t h (by decide), if_pos rfl, zIn_t (show i < 100 by omega) (by decide), if_pos rfl, nI_clamp (by omega), nI_clamp (by omega)]
theorem x8_make {r k : Nat} (h : r < 4) (hk : k ≤ 100) : ∃ P, f_X8_make Z (nI r) (nI k) = some (P, upd Z.2 r (nI k)) ∧ (∀ i, i < k → P r i = (32 : Int32).toInt8.toInt32) ∧ ∀ j, j ≠ r → P j = Z.1 j := by
  unfold f_X8_make
  rw [x8_numT h, Option.bind_some, if_neg i10, if_neg (nI_pos (by omega)), if_pos (show nI k ≤ (100 : Int32) from nI_le hk (by decide)), zIn_t h (by decide), if_pos rfl, nI_clamp (by omega)]
  refine loop_up (fun f P v3 => f_X8_make_28 f (P, upd Z.2 r (nI k)) (nI r) (nI k) v3) k (fun j P => (∀ i, i < j → P r i = (32 : Int32).toInt8.toInt32) ∧ ∀ j, j ≠ r → P j = Z.1 j) (fun o => ∃ P, o = some (P, upd Z.2 r (nI k)) ∧ (∀ i, i < k → P r i = (32 : Int32).toInt8.toInt32) ∧ ∀ j, j ≠ r → P j = Z.1 j) ?_ ?_ 4096 0 Z.1 (Nat.zero_le _) ⟨fun i hi => by omega, fun _ _ => rfl⟩ (by omega)
  · rintro n P ⟨h1, h2⟩
    refine ⟨P, ?_, h1, h2⟩
    show f_X8_make_28 (n + 1) (P, upd Z.2 r (nI k)) (nI r) (nI k) (nI k) = _
    rw [f_X8_make_28, if_pos (nI_le (Nat.le_refl _) (by omega))]
  · rintro n P j hj ⟨h1, h2⟩
    right
    refine ⟨zg P r (upd (P r) j ((32 : Int32).toInt8.toInt32)), ⟨fun i hi => ?_, fun i hi => ?_⟩, ?_⟩
    · rw [zg_at, if_pos rfl, upd_at]
      by_cases e : i = j
      · rw [if_pos e]
      · rw [if_neg e, h1 i (by omega)]
    · rw [zg_at, if_neg hi, h2 i hi]
    · show f_X8_make_28 (n + 1) (P, upd Z.2 r (nI k)) (nI r) (nI k) (nI j) = f_X8_make_28 n (zg P r (upd (P r) j ((32 : Int32).toInt8.toInt32)), upd Z.2 r (nI k)) (nI r) (nI k) (nI (j + 1))
      rw [f_X8_make_28, if_neg (nI_ge hj (by omega)), zIn_t h (by decide), if_pos rfl, zIn_t (show j < 100 by omega) (by decide), if_pos rfl, nI_clamp (by omega), nI_clamp (by omega), nI_1]
end
section
variable {S : VX10} {M : VX11}
theorem rr_textC (h : RR S M) (v : Int32) : (v < 0 ∨ nI 4 ≤ v) ∨ (∃ r, r < 4 ∧ v = nI r ∧ S.2.2.1.2 r = -1 ∧ M.2.2.2.2.2.2.2.2.1 r = -1) ∨ ∃ r k, r < 4 ∧ v = nI r ∧ k ≤ 100 ∧ S.2.2.1.2 r = nI k ∧ M.2.2.2.2.2.2.2.2.1 r = nI k ∧ ∀ i, i < k → S.2.2.1.1 r i = M.2.2.2.2.2.2.2.2.2.1 (100 * r + i) := by
  rcases ix2 v (n := 4) (by decide) with h0 | ⟨r, hr, rfl⟩
  · exact Or.inl h0
  · obtain ⟨e, h1 | ⟨k, hk, e1, e2⟩⟩ := h.2.2.1 r hr
    · exact Or.inr (Or.inl ⟨r, hr, rfl, e.trans h1, h1⟩)
    · exact Or.inr (Or.inr ⟨r, k, hr, rfl, hk, e.trans e1, e1, e2⟩)
theorem x10_textF {v : Int32} (h : v < 0 ∨ nI 4 ≤ v) : f_X10_textRefusal S v = some (-1, S) := by
  unfold f_X10_textRefusal
  rw [x8_numF h, Option.bind_some, if_pos rfl]
theorem x10_textN {r : Nat} (hr : r < 4) (e : S.2.2.1.2 r = -1) : f_X10_textRefusal S (nI r) = some (-3, (fnd S.1 1, S.2.1, S.2.2.1, S.2.2.2.1, S.2.2.2.2.1, S.2.2.2.2.2.1, S.2.2.2.2.2.2.1, S.2.2.2.2.2.2.2.1, S.2.2.2.2.2.2.2.2.1, S.2.2.2.2.2.2.2.2.2)) := by
  unfold f_X10_textRefusal
  rw [x8_numT hr, Option.bind_some, if_neg i10, x8_thereF hr e, Option.bind_some, if_pos rfl, show f_X9_found S.1 1 = _ from x9_found S.1 (f := 1) (by decide) (by decide)] <;> rfl
theorem x10_textT {r k : Nat} (hr : r < 4) (hk : k ≤ 100) (e : S.2.2.1.2 r = nI k) : f_X10_textRefusal S (nI r) = some (0, S) := by
  unfold f_X10_textRefusal
  rw [x8_numT hr, Option.bind_some, if_neg i10, x8_thereT hr hk e, Option.bind_some, if_neg i10]
theorem st_put (hR : RR S M) (v1 v2 v3 : Int32) : ∃ r : Int32, ∃ S2 : VX10, ∃ M2 : VX11, f_X10_put S v1 v2 v3 = some (r, S2) ∧ f_X11_put M v1 v2 v3 = some (r, M2) ∧ RR S2 M2 := by
  unfold f_X10_put f_X11_put
  rcases rr_textC hR v1 with h | ⟨r, hr, rfl, e1, e2⟩ | ⟨r, k, hr, rfl, hk, e1, e2, e3⟩
  · exact ⟨-1, S, M, by rw [x10_textF h] <;> rfl, by rw [m_textF h] <;> rfl, hR⟩
  · refine ⟨-3, _, _, by rw [x10_textN hr e1] <;> rfl, ?_, hR.found (f := 1) (by decide) (by decide)⟩
    rw [m_textT hr, Option.bind_some, if_neg i10, zIn_t hr (by decide), if_pos rfl, nI_clamp (by omega), e2, if_neg m_neg, show f_X11_meets M 1 = _ from m_meets M (f := 1) (by decide)] <;> rfl
  rw [x10_textT hr hk e1, Option.bind_some, if_pos rfl, m_textT hr, Option.bind_some, if_neg i10, zIn_t hr (by decide), if_pos rfl, nI_clamp (by omega), e2, if_pos (nI_pos' (by omega)), if_pos rfl]
  rcases ix2 v2 (n := k) (by omega) with h | ⟨i, hi, rfl⟩
  · refine ⟨-3, _, _, ?_, ?_, hR.found (f := 2) (by decide) (by decide)⟩
    · rw [show f_X8_isPlace ((0 : Int32), S).2.2.2.1 (nI r) v2 = some 0 from x8_placeF hr e1 h, Option.bind_some, if_pos rfl, show f_X9_found ((0 : Int32), S).2.1 2 = _ from x9_found S.1 (f := 2) (by decide) (by decide)] <;> rfl
    · rw [m_inPF h (by omega), Option.bind_some, if_pos rfl, show f_X11_meets M 2 = _ from m_meets M (f := 2) (by decide)] <;> rfl
  · obtain ⟨hT, hr6, ht, a, hJ, hE, hZ⟩ := id hR
    refine ⟨M.2.2.2.2.2.2.2.2.2.1 (100 * r + i) + 1000, (S.1, S.2.1, (zg S.2.2.1.1 r (upd (S.2.2.1.1 r) i v3.toInt8.toInt32.toInt8.toInt32), S.2.2.1.2), S.2.2.2.1, S.2.2.2.2.1, S.2.2.2.2.2.1, S.2.2.2.2.2.2.1, S.2.2.2.2.2.2.2.1, S.2.2.2.2.2.2.2.2.1, S.2.2.2.2.2.2.2.2.2), (M.1, M.2.1, M.2.2.1, M.2.2.2.1, M.2.2.2.2.1, M.2.2.2.2.2.1, M.2.2.2.2.2.2.1, M.2.2.2.2.2.2.2.1, M.2.2.2.2.2.2.2.2.1, upd M.2.2.2.2.2.2.2.2.2.1 (100 * r + i) v3.toInt8.toInt32.toInt8.toInt32, M.2.2.2.2.2.2.2.2.2.2.1, M.2.2.2.2.2.2.2.2.2.2.2.1, M.2.2.2.2.2.2.2.2.2.2.2.2.1, M.2.2.2.2.2.2.2.2.2.2.2.2.2.1, M.2.2.2.2.2.2.2.2.2.2.2.2.2.2.1, M.2.2.2.2.2.2.2.2.2.2.2.2.2.2.2.1, M.2.2.2.2.2.2.2.2.2.2.2.2.2.2.2.2.1, M.2.2.2.2.2.2.2.2.2.2.2.2.2.2.2.2.2.1, M.2.2.2.2.2.2.2.2.2.2.2.2.2.2.2.2.2.2.1, M.2.2.2.2.2.2.2.2.2.2.2.2.2.2.2.2.2.2.2.1, M.2.2.2.2.2.2.2.2.2.2.2.2.2.2.2.2.2.2.2.2.1, M.2.2.2.2.2.2.2.2.2.2.2.2.2.2.2.2.2.2.2.2.2.1, M.2.2.2.2.2.2.2.2.2.2.2.2.2.2.2.2.2.2.2.2.2.2.1, M.2.2.2.2.2.2.2.2.2.2.2.2.2.2.2.2.2.2.2.2.2.2.2.1, M.2.2.2.2.2.2.2.2.2.2.2.2.2.2.2.2.2.2.2.2.2.2.2.2.1, M.2.2.2.2.2.2.2.2.2.2.2.2.2.2.2.2.2.2.2.2.2.2.2.2.2.1, M.2.2.2.2.2.2.2.2.2.2.2.2.2.2.2.2.2.2.2.2.2.2.2.2.2.2.1, M.2.2.2.2.2.2.2.2.2.2.2.2.2.2.2.2.2.2.2.2.2.2.2.2.2.2.2.1, M.2.2.2.2.2.2.2.2.2.2.2.2.2.2.2.2.2.2.2.2.2.2.2.2.2.2.2.2.1, M.2.2.2.2.2.2.2.2.2.2.2.2.2.2.2.2.2.2.2.2.2.2.2.2.2.2.2.2.2.1, M.2.2.2.2.2.2.2.2.2.2.2.2.2.2.2.2.2.2.2.2.2.2.2.2.2.2.2.2.2.2), ?_, ?_, hT, hr6, ?_, a, hJ, hE, hZ⟩
    · rw [show f_X8_isPlace ((0 : Int32), S).2.2.2.1 (nI r) (nI i) = some 1 from x8_placeT hr hk e1 hi, Option.bind_some, if_neg i10, show f_X8_get ((0 : Int32), S).2.2.2.1 (nI r) (nI i) = some (S.2.2.1.1 r i) from x8_get hr hk e1 hi, e3 i hi, Option.bind_some, show f_X8_set ((0 : Int32), S).2.2.2.1 (nI r) (nI i) v3.toInt8.toInt32 = _ from x8_set hr hk e1 hi v3.toInt8.toInt32] <;> rfl
    · rw [m_inP hi (by omega), Option.bind_some, if_neg i10, show (100 : Int32) * nI r = nI (100 * r) from pk_mul 100 r, nI_add, zIn_t (show 100 * r + i < 400 by omega) (by decide), if_pos rfl, if_pos rfl, nI_clamp (by omega), Int32.add_comm]
    · intro j hj
      show S.2.2.1.2 j = M.2.2.2.2.2.2.2.2.1 j ∧ (M.2.2.2.2.2.2.2.2.1 j = -1 ∨ ∃ k', k' ≤ 100 ∧ M.2.2.2.2.2.2.2.2.1 j = nI k' ∧ ∀ i', i' < k' → zg S.2.2.1.1 r (upd (S.2.2.1.1 r) i v3.toInt8.toInt32.toInt8.toInt32) j i' = upd M.2.2.2.2.2.2.2.2.2.1 (100 * r + i) v3.toInt8.toInt32.toInt8.toInt32 (100 * j + i'))
      obtain ⟨g1, g2⟩ := ht j hj
      refine ⟨g1, g2.imp id (fun ⟨k', h1, h2, h3⟩ => ⟨k', h1, h2, fun i' hi' => ?_⟩)⟩
      rw [zg_at, upd_at]
      by_cases c : j = r
      · subst c
        rw [if_pos rfl, upd_at]
        by_cases d : i' = i
        · rw [if_pos d, if_pos (by omega)]
        · rw [if_neg d, if_neg (by omega)]; exact h3 i' hi'
      · rw [if_neg c, if_neg (by omega)]; exact h3 i' hi'
theorem st_text (hR : RR S M) (v1 v2 : Int32) : ∃ r : Int32, ∃ S2 : VX10, ∃ M2 : VX11, f_X10_text S v1 v2 = some (r, S2) ∧ f_X11_text M v1 v2 = some (r, M2) ∧ RR S2 M2 := by
  unfold f_X10_text f_X11_text
  rcases ix2 v1 (n := 4) (by decide) with h | ⟨r, hr, rfl⟩
  · exact ⟨-1, S, M, by rw [x8_numF h] <;> rfl, by rw [m_textF h] <;> rfl, hR⟩
  rw [x8_numT hr, Option.bind_some, if_neg i10, m_textT hr, Option.bind_some, if_neg i10]
  rcases pk_ix v2 (n := 101) (by decide) with h | h | ⟨k, hk, rfl⟩
  · refine ⟨-3, _, _, ?_, ?_, hR.found (f := 5) (by decide) (by decide)⟩
    · rw [if_pos (show v2 ≤ (100 : Int32) from neg_le (n := 100) h (by decide)), if_neg (neg_nge h), show f_X9_found S.1 5 = _ from x9_found S.1 (f := 5) (by decide) (by decide)] <;> rfl
    · rw [if_pos (show v2 ≤ (100 : Int32) from neg_le (n := 100) h (by decide)), if_neg (neg_nge h), show f_X11_meets M 5 = _ from m_meets M (f := 5) (by decide)] <;> rfl
  · exact ⟨-1, S, M, by rw [if_neg (show ¬ v2 ≤ (100 : Int32) from ge_nle (n := 100) h (by decide))], by rw [if_neg (show ¬ v2 ≤ (100 : Int32) from ge_nle (n := 100) h (by decide))], hR⟩
  · obtain ⟨P, p1, p2, p3⟩ := x8_make (Z := S.2.2.1) hr (show k ≤ 100 by omega)
    rw [if_pos (show nI k ≤ (100 : Int32) from nI_le (show k ≤ 100 by omega) (by decide)), if_pos (nI_pos' (by omega)), p1, if_pos (show nI k ≤ (100 : Int32) from nI_le (show k ≤ 100 by omega) (by decide)), if_pos (nI_pos' (by omega)), zIn_t hr (by decide), if_pos rfl, nI_clamp (by omega)]
    have main : ∃ Q, f_X11_text_34 4096 ((M.1, M.2.1, M.2.2.1, M.2.2.2.1, M.2.2.2.2.1, M.2.2.2.2.2.1, M.2.2.2.2.2.2.1, M.2.2.2.2.2.2.2.1, upd M.2.2.2.2.2.2.2.2.1 r (nI k), M.2.2.2.2.2.2.2.2.2.1, M.2.2.2.2.2.2.2.2.2.2.1, M.2.2.2.2.2.2.2.2.2.2.2.1, M.2.2.2.2.2.2.2.2.2.2.2.2.1, M.2.2.2.2.2.2.2.2.2.2.2.2.2.1, M.2.2.2.2.2.2.2.2.2.2.2.2.2.2.1, M.2.2.2.2.2.2.2.2.2.2.2.2.2.2.2.1, M.2.2.2.2.2.2.2.2.2.2.2.2.2.2.2.2.1, M.2.2.2.2.2.2.2.2.2.2.2.2.2.2.2.2.2.1, M.2.2.2.2.2.2.2.2.2.2.2.2.2.2.2.2.2.2.1, M.2.2.2.2.2.2.2.2.2.2.2.2.2.2.2.2.2.2.2.1, M.2.2.2.2.2.2.2.2.2.2.2.2.2.2.2.2.2.2.2.2.1, M.2.2.2.2.2.2.2.2.2.2.2.2.2.2.2.2.2.2.2.2.2.1, M.2.2.2.2.2.2.2.2.2.2.2.2.2.2.2.2.2.2.2.2.2.2.1, M.2.2.2.2.2.2.2.2.2.2.2.2.2.2.2.2.2.2.2.2.2.2.2.1, M.2.2.2.2.2.2.2.2.2.2.2.2.2.2.2.2.2.2.2.2.2.2.2.2.1, M.2.2.2.2.2.2.2.2.2.2.2.2.2.2.2.2.2.2.2.2.2.2.2.2.2.1, M.2.2.2.2.2.2.2.2.2.2.2.2.2.2.2.2.2.2.2.2.2.2.2.2.2.2.1, M.2.2.2.2.2.2.2.2.2.2.2.2.2.2.2.2.2.2.2.2.2.2.2.2.2.2.2.1, M.2.2.2.2.2.2.2.2.2.2.2.2.2.2.2.2.2.2.2.2.2.2.2.2.2.2.2.2.1, M.2.2.2.2.2.2.2.2.2.2.2.2.2.2.2.2.2.2.2.2.2.2.2.2.2.2.2.2.2.1, M.2.2.2.2.2.2.2.2.2.2.2.2.2.2.2.2.2.2.2.2.2.2.2.2.2.2.2.2.2.2)) (nI r) (nI k) 0 = some (nI k, (M.1, M.2.1, M.2.2.1, M.2.2.2.1, M.2.2.2.2.1, M.2.2.2.2.2.1, M.2.2.2.2.2.2.1, M.2.2.2.2.2.2.2.1, upd M.2.2.2.2.2.2.2.2.1 r (nI k), Q, M.2.2.2.2.2.2.2.2.2.2.1, M.2.2.2.2.2.2.2.2.2.2.2.1, M.2.2.2.2.2.2.2.2.2.2.2.2.1, M.2.2.2.2.2.2.2.2.2.2.2.2.2.1, M.2.2.2.2.2.2.2.2.2.2.2.2.2.2.1, M.2.2.2.2.2.2.2.2.2.2.2.2.2.2.2.1, M.2.2.2.2.2.2.2.2.2.2.2.2.2.2.2.2.1, M.2.2.2.2.2.2.2.2.2.2.2.2.2.2.2.2.2.1, M.2.2.2.2.2.2.2.2.2.2.2.2.2.2.2.2.2.2.1, M.2.2.2.2.2.2.2.2.2.2.2.2.2.2.2.2.2.2.2.1, M.2.2.2.2.2.2.2.2.2.2.2.2.2.2.2.2.2.2.2.2.1, M.2.2.2.2.2.2.2.2.2.2.2.2.2.2.2.2.2.2.2.2.2.1, M.2.2.2.2.2.2.2.2.2.2.2.2.2.2.2.2.2.2.2.2.2.2.1, M.2.2.2.2.2.2.2.2.2.2.2.2.2.2.2.2.2.2.2.2.2.2.2.1, M.2.2.2.2.2.2.2.2.2.2.2.2.2.2.2.2.2.2.2.2.2.2.2.2.1, M.2.2.2.2.2.2.2.2.2.2.2.2.2.2.2.2.2.2.2.2.2.2.2.2.2.1, M.2.2.2.2.2.2.2.2.2.2.2.2.2.2.2.2.2.2.2.2.2.2.2.2.2.2.1, M.2.2.2.2.2.2.2.2.2.2.2.2.2.2.2.2.2.2.2.2.2.2.2.2.2.2.2.1, M.2.2.2.2.2.2.2.2.2.2.2.2.2.2.2.2.2.2.2.2.2.2.2.2.2.2.2.2.1, M.2.2.2.2.2.2.2.2.2.2.2.2.2.2.2.2.2.2.2.2.2.2.2.2.2.2.2.2.2.1, M.2.2.2.2.2.2.2.2.2.2.2.2.2.2.2.2.2.2.2.2.2.2.2.2.2.2.2.2.2.2)) ∧ (∀ i, i < 100 → Q (100 * r + i) = (32 : Int32).toInt8.toInt32) ∧ ∀ j, (j < 100 * r ∨ 100 * r + 100 ≤ j) → Q j = M.2.2.2.2.2.2.2.2.2.1 j := by
      refine loop_up (fun f Q v3 => f_X11_text_34 f ((M.1, M.2.1, M.2.2.1, M.2.2.2.1, M.2.2.2.2.1, M.2.2.2.2.2.1, M.2.2.2.2.2.2.1, M.2.2.2.2.2.2.2.1, upd M.2.2.2.2.2.2.2.2.1 r (nI k), Q, M.2.2.2.2.2.2.2.2.2.2.1, M.2.2.2.2.2.2.2.2.2.2.2.1, M.2.2.2.2.2.2.2.2.2.2.2.2.1, M.2.2.2.2.2.2.2.2.2.2.2.2.2.1, M.2.2.2.2.2.2.2.2.2.2.2.2.2.2.1, M.2.2.2.2.2.2.2.2.2.2.2.2.2.2.2.1, M.2.2.2.2.2.2.2.2.2.2.2.2.2.2.2.2.1, M.2.2.2.2.2.2.2.2.2.2.2.2.2.2.2.2.2.1, M.2.2.2.2.2.2.2.2.2.2.2.2.2.2.2.2.2.2.1, M.2.2.2.2.2.2.2.2.2.2.2.2.2.2.2.2.2.2.2.1, M.2.2.2.2.2.2.2.2.2.2.2.2.2.2.2.2.2.2.2.2.1, M.2.2.2.2.2.2.2.2.2.2.2.2.2.2.2.2.2.2.2.2.2.1, M.2.2.2.2.2.2.2.2.2.2.2.2.2.2.2.2.2.2.2.2.2.2.1, M.2.2.2.2.2.2.2.2.2.2.2.2.2.2.2.2.2.2.2.2.2.2.2.1, M.2.2.2.2.2.2.2.2.2.2.2.2.2.2.2.2.2.2.2.2.2.2.2.2.1, M.2.2.2.2.2.2.2.2.2.2.2.2.2.2.2.2.2.2.2.2.2.2.2.2.2.1, M.2.2.2.2.2.2.2.2.2.2.2.2.2.2.2.2.2.2.2.2.2.2.2.2.2.2.1, M.2.2.2.2.2.2.2.2.2.2.2.2.2.2.2.2.2.2.2.2.2.2.2.2.2.2.2.1, M.2.2.2.2.2.2.2.2.2.2.2.2.2.2.2.2.2.2.2.2.2.2.2.2.2.2.2.2.1, M.2.2.2.2.2.2.2.2.2.2.2.2.2.2.2.2.2.2.2.2.2.2.2.2.2.2.2.2.2.1, M.2.2.2.2.2.2.2.2.2.2.2.2.2.2.2.2.2.2.2.2.2.2.2.2.2.2.2.2.2.2)) (nI r) (nI k) v3) 100 (fun k Q => (∀ i, i < k → Q (100 * r + i) = (32 : Int32).toInt8.toInt32) ∧ ∀ j, (j < 100 * r ∨ 100 * r + 100 ≤ j) → Q j = M.2.2.2.2.2.2.2.2.2.1 j) (fun o => ∃ Q, o = some (nI k, (M.1, M.2.1, M.2.2.1, M.2.2.2.1, M.2.2.2.2.1, M.2.2.2.2.2.1, M.2.2.2.2.2.2.1, M.2.2.2.2.2.2.2.1, upd M.2.2.2.2.2.2.2.2.1 r (nI k), Q, M.2.2.2.2.2.2.2.2.2.2.1, M.2.2.2.2.2.2.2.2.2.2.2.1, M.2.2.2.2.2.2.2.2.2.2.2.2.1, M.2.2.2.2.2.2.2.2.2.2.2.2.2.1, M.2.2.2.2.2.2.2.2.2.2.2.2.2.2.1, M.2.2.2.2.2.2.2.2.2.2.2.2.2.2.2.1, M.2.2.2.2.2.2.2.2.2.2.2.2.2.2.2.2.1, M.2.2.2.2.2.2.2.2.2.2.2.2.2.2.2.2.2.1, M.2.2.2.2.2.2.2.2.2.2.2.2.2.2.2.2.2.2.1, M.2.2.2.2.2.2.2.2.2.2.2.2.2.2.2.2.2.2.2.1, M.2.2.2.2.2.2.2.2.2.2.2.2.2.2.2.2.2.2.2.2.1, M.2.2.2.2.2.2.2.2.2.2.2.2.2.2.2.2.2.2.2.2.2.1, M.2.2.2.2.2.2.2.2.2.2.2.2.2.2.2.2.2.2.2.2.2.2.1, M.2.2.2.2.2.2.2.2.2.2.2.2.2.2.2.2.2.2.2.2.2.2.2.1, M.2.2.2.2.2.2.2.2.2.2.2.2.2.2.2.2.2.2.2.2.2.2.2.2.1, M.2.2.2.2.2.2.2.2.2.2.2.2.2.2.2.2.2.2.2.2.2.2.2.2.2.1, M.2.2.2.2.2.2.2.2.2.2.2.2.2.2.2.2.2.2.2.2.2.2.2.2.2.2.1, M.2.2.2.2.2.2.2.2.2.2.2.2.2.2.2.2.2.2.2.2.2.2.2.2.2.2.2.1, M.2.2.2.2.2.2.2.2.2.2.2.2.2.2.2.2.2.2.2.2.2.2.2.2.2.2.2.2.1, M.2.2.2.2.2.2.2.2.2.2.2.2.2.2.2.2.2.2.2.2.2.2.2.2.2.2.2.2.2.1, M.2.2.2.2.2.2.2.2.2.2.2.2.2.2.2.2.2.2.2.2.2.2.2.2.2.2.2.2.2.2)) ∧ (∀ i, i < 100 → Q (100 * r + i) = (32 : Int32).toInt8.toInt32) ∧ ∀ j, (j < 100 * r ∨ 100 * r + 100 ≤ j) → Q j = M.2.2.2.2.2.2.2.2.2.1 j) ?_ ?_ 4096 0 M.2.2.2.2.2.2.2.2.2.1 (Nat.zero_le _) ⟨fun i hi => by omega, fun _ _ => rfl⟩ (by omega)
      · rintro n Q ⟨h1, h2⟩
        refine ⟨Q, ?_, h1, h2⟩
        show f_X11_text_34 (n + 1) ((M.1, M.2.1, M.2.2.1, M.2.2.2.1, M.2.2.2.2.1, M.2.2.2.2.2.1, M.2.2.2.2.2.2.1, M.2.2.2.2.2.2.2.1, upd M.2.2.2.2.2.2.2.2.1 r (nI k), Q, M.2.2.2.2.2.2.2.2.2.2.1, M.2.2.2.2.2.2.2.2.2.2.2.1, M.2.2.2.2.2.2.2.2.2.2.2.2.1, M.2.2.2.2.2.2.2.2.2.2.2.2.2.1, M.2.2.2.2.2.2.2.2.2.2.2.2.2.2.1, M.2.2.2.2.2.2.2.2.2.2.2.2.2.2.2.1, M.2.2.2.2.2.2.2.2.2.2.2.2.2.2.2.2.1, M.2.2.2.2.2.2.2.2.2.2.2.2.2.2.2.2.2.1, M.2.2.2.2.2.2.2.2.2.2.2.2.2.2.2.2.2.2.1, M.2.2.2.2.2.2.2.2.2.2.2.2.2.2.2.2.2.2.2.1, M.2.2.2.2.2.2.2.2.2.2.2.2.2.2.2.2.2.2.2.2.1, M.2.2.2.2.2.2.2.2.2.2.2.2.2.2.2.2.2.2.2.2.2.1, M.2.2.2.2.2.2.2.2.2.2.2.2.2.2.2.2.2.2.2.2.2.2.1, M.2.2.2.2.2.2.2.2.2.2.2.2.2.2.2.2.2.2.2.2.2.2.2.1, M.2.2.2.2.2.2.2.2.2.2.2.2.2.2.2.2.2.2.2.2.2.2.2.2.1, M.2.2.2.2.2.2.2.2.2.2.2.2.2.2.2.2.2.2.2.2.2.2.2.2.2.1, M.2.2.2.2.2.2.2.2.2.2.2.2.2.2.2.2.2.2.2.2.2.2.2.2.2.2.1, M.2.2.2.2.2.2.2.2.2.2.2.2.2.2.2.2.2.2.2.2.2.2.2.2.2.2.2.1, M.2.2.2.2.2.2.2.2.2.2.2.2.2.2.2.2.2.2.2.2.2.2.2.2.2.2.2.2.1, M.2.2.2.2.2.2.2.2.2.2.2.2.2.2.2.2.2.2.2.2.2.2.2.2.2.2.2.2.2.1, M.2.2.2.2.2.2.2.2.2.2.2.2.2.2.2.2.2.2.2.2.2.2.2.2.2.2.2.2.2.2)) (nI r) (nI k) (nI 100) = _
        rw [f_X11_text_34, if_pos (by decide)]
      · rintro n Q j hj ⟨h1, h2⟩
        right
        refine ⟨upd Q (100 * r + j) ((32 : Int32).toInt8.toInt32), ⟨fun i hi => ?_, fun i hi => ?_⟩, ?_⟩
        · rw [upd_at]
          by_cases e : i = j
          · rw [if_pos (by omega)]
          · rw [if_neg (by omega), h1 i (by omega)]
        · rw [upd_at, if_neg (by omega), h2 i hi]
        · show f_X11_text_34 (n + 1) ((M.1, M.2.1, M.2.2.1, M.2.2.2.1, M.2.2.2.2.1, M.2.2.2.2.2.1, M.2.2.2.2.2.2.1, M.2.2.2.2.2.2.2.1, upd M.2.2.2.2.2.2.2.2.1 r (nI k), Q, M.2.2.2.2.2.2.2.2.2.2.1, M.2.2.2.2.2.2.2.2.2.2.2.1, M.2.2.2.2.2.2.2.2.2.2.2.2.1, M.2.2.2.2.2.2.2.2.2.2.2.2.2.1, M.2.2.2.2.2.2.2.2.2.2.2.2.2.2.1, M.2.2.2.2.2.2.2.2.2.2.2.2.2.2.2.1, M.2.2.2.2.2.2.2.2.2.2.2.2.2.2.2.2.1, M.2.2.2.2.2.2.2.2.2.2.2.2.2.2.2.2.2.1, M.2.2.2.2.2.2.2.2.2.2.2.2.2.2.2.2.2.2.1, M.2.2.2.2.2.2.2.2.2.2.2.2.2.2.2.2.2.2.2.1, M.2.2.2.2.2.2.2.2.2.2.2.2.2.2.2.2.2.2.2.2.1, M.2.2.2.2.2.2.2.2.2.2.2.2.2.2.2.2.2.2.2.2.2.1, M.2.2.2.2.2.2.2.2.2.2.2.2.2.2.2.2.2.2.2.2.2.2.1, M.2.2.2.2.2.2.2.2.2.2.2.2.2.2.2.2.2.2.2.2.2.2.2.1, M.2.2.2.2.2.2.2.2.2.2.2.2.2.2.2.2.2.2.2.2.2.2.2.2.1, M.2.2.2.2.2.2.2.2.2.2.2.2.2.2.2.2.2.2.2.2.2.2.2.2.2.1, M.2.2.2.2.2.2.2.2.2.2.2.2.2.2.2.2.2.2.2.2.2.2.2.2.2.2.1, M.2.2.2.2.2.2.2.2.2.2.2.2.2.2.2.2.2.2.2.2.2.2.2.2.2.2.2.1, M.2.2.2.2.2.2.2.2.2.2.2.2.2.2.2.2.2.2.2.2.2.2.2.2.2.2.2.2.1, M.2.2.2.2.2.2.2.2.2.2.2.2.2.2.2.2.2.2.2.2.2.2.2.2.2.2.2.2.2.1, M.2.2.2.2.2.2.2.2.2.2.2.2.2.2.2.2.2.2.2.2.2.2.2.2.2.2.2.2.2.2)) (nI r) (nI k) (nI j) = f_X11_text_34 n ((M.1, M.2.1, M.2.2.1, M.2.2.2.1, M.2.2.2.2.1, M.2.2.2.2.2.1, M.2.2.2.2.2.2.1, M.2.2.2.2.2.2.2.1, upd M.2.2.2.2.2.2.2.2.1 r (nI k), upd Q (100 * r + j) ((32 : Int32).toInt8.toInt32), M.2.2.2.2.2.2.2.2.2.2.1, M.2.2.2.2.2.2.2.2.2.2.2.1, M.2.2.2.2.2.2.2.2.2.2.2.2.1, M.2.2.2.2.2.2.2.2.2.2.2.2.2.1, M.2.2.2.2.2.2.2.2.2.2.2.2.2.2.1, M.2.2.2.2.2.2.2.2.2.2.2.2.2.2.2.1, M.2.2.2.2.2.2.2.2.2.2.2.2.2.2.2.2.1, M.2.2.2.2.2.2.2.2.2.2.2.2.2.2.2.2.2.1, M.2.2.2.2.2.2.2.2.2.2.2.2.2.2.2.2.2.2.1, M.2.2.2.2.2.2.2.2.2.2.2.2.2.2.2.2.2.2.2.1, M.2.2.2.2.2.2.2.2.2.2.2.2.2.2.2.2.2.2.2.2.1, M.2.2.2.2.2.2.2.2.2.2.2.2.2.2.2.2.2.2.2.2.2.1, M.2.2.2.2.2.2.2.2.2.2.2.2.2.2.2.2.2.2.2.2.2.2.1, M.2.2.2.2.2.2.2.2.2.2.2.2.2.2.2.2.2.2.2.2.2.2.2.1, M.2.2.2.2.2.2.2.2.2.2.2.2.2.2.2.2.2.2.2.2.2.2.2.2.1, M.2.2.2.2.2.2.2.2.2.2.2.2.2.2.2.2.2.2.2.2.2.2.2.2.2.1, M.2.2.2.2.2.2.2.2.2.2.2.2.2.2.2.2.2.2.2.2.2.2.2.2.2.2.1, M.2.2.2.2.2.2.2.2.2.2.2.2.2.2.2.2.2.2.2.2.2.2.2.2.2.2.2.1, M.2.2.2.2.2.2.2.2.2.2.2.2.2.2.2.2.2.2.2.2.2.2.2.2.2.2.2.2.1, M.2.2.2.2.2.2.2.2.2.2.2.2.2.2.2.2.2.2.2.2.2.2.2.2.2.2.2.2.2.1, M.2.2.2.2.2.2.2.2.2.2.2.2.2.2.2.2.2.2.2.2.2.2.2.2.2.2.2.2.2.2)) (nI r) (nI k) (nI (j + 1))
          rw [f_X11_text_34, if_neg (show ¬ (100 : Int32) ≤ nI j from nI_ge hj (by decide)), show (100 : Int32) * nI r = nI (100 * r) from pk_mul 100 r, nI_add, zIn_t (show 100 * r + j < 400 by omega) (by decide), if_pos rfl, nI_clamp (by omega), nI_1]
    obtain ⟨Q, q1, q2, q3⟩ := main
    obtain ⟨hT, hr6, ht, a, hJ, hE, hZ⟩ := id hR
    refine ⟨nI k, (S.1, S.2.1, (P, upd S.2.2.1.2 r (nI k)), S.2.2.2.1, S.2.2.2.2.1, S.2.2.2.2.2.1, S.2.2.2.2.2.2.1, S.2.2.2.2.2.2.2.1, S.2.2.2.2.2.2.2.2.1, S.2.2.2.2.2.2.2.2.2), (M.1, M.2.1, M.2.2.1, M.2.2.2.1, M.2.2.2.2.1, M.2.2.2.2.2.1, M.2.2.2.2.2.2.1, M.2.2.2.2.2.2.2.1, upd M.2.2.2.2.2.2.2.2.1 r (nI k), Q, M.2.2.2.2.2.2.2.2.2.2.1, M.2.2.2.2.2.2.2.2.2.2.2.1, M.2.2.2.2.2.2.2.2.2.2.2.2.1, M.2.2.2.2.2.2.2.2.2.2.2.2.2.1, M.2.2.2.2.2.2.2.2.2.2.2.2.2.2.1, M.2.2.2.2.2.2.2.2.2.2.2.2.2.2.2.1, M.2.2.2.2.2.2.2.2.2.2.2.2.2.2.2.2.1, M.2.2.2.2.2.2.2.2.2.2.2.2.2.2.2.2.2.1, M.2.2.2.2.2.2.2.2.2.2.2.2.2.2.2.2.2.2.1, M.2.2.2.2.2.2.2.2.2.2.2.2.2.2.2.2.2.2.2.1, M.2.2.2.2.2.2.2.2.2.2.2.2.2.2.2.2.2.2.2.2.1, M.2.2.2.2.2.2.2.2.2.2.2.2.2.2.2.2.2.2.2.2.2.1, M.2.2.2.2.2.2.2.2.2.2.2.2.2.2.2.2.2.2.2.2.2.2.1, M.2.2.2.2.2.2.2.2.2.2.2.2.2.2.2.2.2.2.2.2.2.2.2.1, M.2.2.2.2.2.2.2.2.2.2.2.2.2.2.2.2.2.2.2.2.2.2.2.2.1, M.2.2.2.2.2.2.2.2.2.2.2.2.2.2.2.2.2.2.2.2.2.2.2.2.2.1, M.2.2.2.2.2.2.2.2.2.2.2.2.2.2.2.2.2.2.2.2.2.2.2.2.2.2.1, M.2.2.2.2.2.2.2.2.2.2.2.2.2.2.2.2.2.2.2.2.2.2.2.2.2.2.2.1, M.2.2.2.2.2.2.2.2.2.2.2.2.2.2.2.2.2.2.2.2.2.2.2.2.2.2.2.2.1, M.2.2.2.2.2.2.2.2.2.2.2.2.2.2.2.2.2.2.2.2.2.2.2.2.2.2.2.2.2.1, M.2.2.2.2.2.2.2.2.2.2.2.2.2.2.2.2.2.2.2.2.2.2.2.2.2.2.2.2.2.2), rfl, q1, hT, hr6, ?_, a, hJ, hE, hZ⟩
    intro j hj
    show upd S.2.2.1.2 r (nI k) j = upd M.2.2.2.2.2.2.2.2.1 r (nI k) j ∧ (upd M.2.2.2.2.2.2.2.2.1 r (nI k) j = -1 ∨ ∃ k', k' ≤ 100 ∧ upd M.2.2.2.2.2.2.2.2.1 r (nI k) j = nI k' ∧ ∀ i, i < k' → P j i = Q (100 * j + i))
    rw [upd_at, upd_at]
    by_cases c : j = r
    · subst c
      rw [if_pos rfl, if_pos rfl]
      exact ⟨rfl, Or.inr ⟨k, by omega, rfl, fun i hi => by rw [p2 i hi, q2 i (by omega)]⟩⟩
    · rw [if_neg c, if_neg c]
      obtain ⟨g1, g2⟩ := ht j hj
      refine ⟨g1, g2.imp id (fun ⟨k', h1, h2, h3⟩ => ⟨k', h1, h2, fun i hi => ?_⟩)⟩
      rw [p3 j c, q3 (100 * j + i) (by omega)]; exact h3 i hi
end
