/-! THE RELATION between the class' state and the model's -/
def rr_told (T : VX9) (M : VX11) : Prop := (∀ f, 1 ≤ f → f ≤ 5 → T.1 f = M.2.1 f) ∧ T.2.1 = M.2.2.1 ∧ T.2.2.1 = M.2.2.2.1 ∧ T.2.2.2.1 = M.2.2.2.2.1 ∧ T.2.2.2.2 = M.1
def rr_rows (S : VX6) (M : VX11) : Prop := ∀ r, r < 6 → S.2 r = M.2.2.2.2.2.1 r ∧ (M.2.2.2.2.2.1 r = -1 ∨ ∃ k, k ≤ 60 ∧ M.2.2.2.2.2.1 r = nI k ∧ ∀ i, i < k → S.1 r i = M.2.2.2.2.2.2.1 (60 * r + i))
def rr_texts (S : VX8) (M : VX11) : Prop := ∀ t, t < 4 → S.2 t = M.2.2.2.2.2.2.2.2.1 t ∧ (M.2.2.2.2.2.2.2.2.1 t = -1 ∨ ∃ k, k ≤ 100 ∧ M.2.2.2.2.2.2.2.2.1 t = nI k ∧ ∀ i, i < k → S.1 t i = M.2.2.2.2.2.2.2.2.2.1 (100 * t + i))
def rr_even (E : VX1) (M : VX11) (n : Nat) : Prop := (∃ g, g < 2 ^ n ∧ E.2.2.1 = nI g ∧ M.2.2.2.2.2.2.2.2.2.2.2.2.2.2.2.2.2.2.1 = nI g) ∧ E.2.2.2 = M.2.2.2.2.2.2.2.2.2.2.2.2.2.2.2.2.2.2.2.1 ∧ ∀ k, k < 3 → E.1 k = M.2.2.2.2.2.2.2.2.2.2.2.2.2.2.2.2.2.2.2.2.1 k ∧ (M.2.2.2.2.2.2.2.2.2.2.2.2.2.2.2.2.2.2.2.2.1 k = -1 ∨ ((∃ g, g < 2 ^ n ∧ M.2.2.2.2.2.2.2.2.2.2.2.2.2.2.2.2.2.2.2.2.1 k = nI g) ∧ E.2.1 k = M.2.2.2.2.2.2.2.2.2.2.2.2.2.2.2.2.2.2.2.2.2.1 k))
def rr_seen (Z : VX7) (M : VX11) (n : Nat) : Prop := ∃ (m : Nat) (cw : Nat → Nat) (cb : Nat → Bool), m ≤ 8 ∧ Z.2.2 = nI m ∧ M.2.2.2.2.2.2.2.2.2.2.2.2.2.2.2.2.2.2.2.2.2.2.2.2.2.2.2.1 = nI m ∧ ∀ i, i < m → cw i < n ∧ Z.1 i = nI (cw i) ∧ M.2.2.2.2.2.2.2.2.2.2.2.2.2.2.2.2.2.2.2.2.2.2.2.2.2.2.2.2.1 i = nI (cw i) ∧ Z.2.1 i = bI (cb i) ∧ M.2.2.2.2.2.2.2.2.2.2.2.2.2.2.2.2.2.2.2.2.2.2.2.2.2.2.2.2.2.1 i = bI (cb i)
def RR (S : VX10) (M : VX11) : Prop := rr_told S.1 M ∧ rr_rows S.2.1 M ∧ rr_texts S.2.2.1 M ∧ ∃ a, (AV a ∧ JR S.2.2.2.2.1 a ∧ MR M a) ∧ rr_even S.2.2.2.2.2.1 M (aN a) ∧ rr_seen S.2.2.2.2.2.2.2.2.2 M (aN a)
theorem i10 : ¬ (1 : Int32) = 0 := by decide
/-! where a number lies -/
theorem ix2 (x : Int32) {n : Nat} (hn : n < 2 ^ 31) : (x < 0 ∨ nI n ≤ x) ∨ ∃ j : Nat, j < n ∧ x = nI j := by
  rcases pk_ix x hn with h | h | h
  · exact Or.inl (Or.inl h)
  · exact Or.inl (Or.inr h)
  · exact Or.inr h
theorem neg_le {x : Int32} {n : Nat} (h : x < 0) (hn : n < 2 ^ 31) : x ≤ nI n := by
  rw [Int32.le_iff_toInt_le, nI_toInt hn]
  rw [Int32.lt_iff_toInt_lt] at h
  have : (0 : Int32).toInt = 0 := by decide
  omega
theorem neg_nge {x : Int32} (h : x < 0) : ¬ 0 ≤ x := by
  rw [Int32.le_iff_toInt_le]
  rw [Int32.lt_iff_toInt_lt] at h
  omega
theorem ge_nle {x : Int32} {n : Nat} (h : nI (n + 1) ≤ x) (hn : n + 1 < 2 ^ 31) : ¬ x ≤ nI n := by
  rw [Int32.le_iff_toInt_le, nI_toInt (by omega)]
  rw [Int32.le_iff_toInt_le, nI_toInt hn] at h
  omega
theorem ge_nlt {x : Int32} {n : Nat} (h : nI n ≤ x) : ¬ x < nI n := by
  rw [Int32.lt_iff_toInt_lt]
  rw [Int32.le_iff_toInt_le] at h
  omega
theorem ge_lt {x : Int32} {n : Nat} (h : nI (n + 1) ≤ x) (hn : n + 1 < 2 ^ 31) : nI n < x := by
  rw [Int32.lt_iff_toInt_lt, nI_toInt (by omega)]
  rw [Int32.le_iff_toInt_le, nI_toInt hn] at h
  omega
theorem ge_pos {x : Int32} {n : Nat} (h : nI n ≤ x) (hn : n < 2 ^ 31) : 0 ≤ x := by
  rw [Int32.le_iff_toInt_le]
  rw [Int32.le_iff_toInt_le, nI_toInt hn] at h
  have : (0 : Int32).toInt = 0 := by decide
  omega
theorem ge_nneg {x : Int32} {n : Nat} (h : nI n ≤ x) (hn : n < 2 ^ 31) : ¬ x < 0 := by
  rw [Int32.lt_iff_toInt_lt]
  rw [Int32.le_iff_toInt_le, nI_toInt hn] at h
  have : (0 : Int32).toInt = 0 := by decide
  omega
theorem m_inT {x lo hi : Nat} (h1 : lo ≤ x) (h2 : x ≤ hi) (hh : hi < 2 ^ 31) : f_X11_in (nI x) (nI lo) (nI hi) = some 1 := by
  unfold f_X11_in
  rw [if_neg (nI_nlt h1 (by omega)), if_neg (nI_nlt h2 (by omega))]
theorem m_inF {x : Int32} {lo hi : Nat} (h : x < nI lo ∨ nI (hi + 1) ≤ x) (hh : hi + 1 < 2 ^ 31) : f_X11_in x (nI lo) (nI hi) = some 0 := by
  unfold f_X11_in
  by_cases h0 : x < nI lo
  · rw [if_pos h0]
  · rw [if_neg h0, if_pos (ge_lt (h.resolve_left h0) hh)]
/-- a place of k -/
theorem m_inP {i k : Nat} (h : i < k) (hk : k < 2 ^ 31) : f_X11_in (nI i) 0 (nI k - 1) = some 1 := by
  rw [show nI k - 1 = nI (k - 1) from pk_sub (show 1 ≤ k by omega)]
  exact m_inT (lo := 0) (Nat.zero_le _) (by omega) (by omega)
theorem m_inPF {x : Int32} {k : Nat} (h : x < 0 ∨ nI k ≤ x) (hk : k < 2 ^ 30) : f_X11_in x 0 (nI k - 1) = some 0 := by
  unfold f_X11_in
  by_cases h0 : x < 0
  · rw [if_pos h0]
  rw [if_neg h0, if_pos]
  have h := h.resolve_left h0
  rw [Int32.lt_iff_toInt_lt, show (1 : Int32) = nI 1 from rfl, pk_sub_toInt hk (by decide)]
  rw [Int32.le_iff_toInt_le, nI_toInt (by omega)] at h
  omega
theorem m_rowT {r : Nat} (h : r < 6) : f_X11_isRow (nI r) = some 1 := by
  unfold f_X11_isRow
  rw [show f_X11_in (nI r) 0 5 = some 1 from m_inT (lo := 0) (hi := 5) (Nat.zero_le _) (by omega) (by decide)]; rfl
theorem m_rowF {x : Int32} (h : x < 0 ∨ nI 6 ≤ x) : f_X11_isRow x = some 0 := by
  unfold f_X11_isRow
  rw [show f_X11_in x 0 5 = some 0 from m_inF (lo := 0) (hi := 5) h (by decide)]; rfl
theorem m_textT {r : Nat} (h : r < 4) : f_X11_isText (nI r) = some 1 := by
  unfold f_X11_isText
  rw [show f_X11_in (nI r) 0 3 = some 1 from m_inT (lo := 0) (hi := 3) (Nat.zero_le _) (by omega) (by decide)]; rfl
theorem m_textF {x : Int32} (h : x < 0 ∨ nI 4 ≤ x) : f_X11_isText x = some 0 := by
  unfold f_X11_isText
  rw [show f_X11_in x 0 3 = some 0 from m_inF (lo := 0) (hi := 3) h (by decide)]; rfl
/-! what is told -/
def fnd (T : VX9) (f : Nat) : VX9 := (upd T.1 f (T.1 f + 1), T.2.1, T.2.2.1, T.2.2.2.1, nI f)
def met (M : VX11) (f : Nat) : VX11 := (nI f, upd M.2.1 f (M.2.1 f + 1), M.2.2.1, M.2.2.2.1, M.2.2.2.2.1, M.2.2.2.2.2.1, M.2.2.2.2.2.2.1, M.2.2.2.2.2.2.2.1, M.2.2.2.2.2.2.2.2.1, M.2.2.2.2.2.2.2.2.2.1, M.2.2.2.2.2.2.2.2.2.2.1, M.2.2.2.2.2.2.2.2.2.2.2.1, M.2.2.2.2.2.2.2.2.2.2.2.2.1, M.2.2.2.2.2.2.2.2.2.2.2.2.2.1, M.2.2.2.2.2.2.2.2.2.2.2.2.2.2.1, M.2.2.2.2.2.2.2.2.2.2.2.2.2.2.2.1, M.2.2.2.2.2.2.2.2.2.2.2.2.2.2.2.2.1, M.2.2.2.2.2.2.2.2.2.2.2.2.2.2.2.2.2.1, M.2.2.2.2.2.2.2.2.2.2.2.2.2.2.2.2.2.2.1, M.2.2.2.2.2.2.2.2.2.2.2.2.2.2.2.2.2.2.2.1, M.2.2.2.2.2.2.2.2.2.2.2.2.2.2.2.2.2.2.2.2.1, M.2.2.2.2.2.2.2.2.2.2.2.2.2.2.2.2.2.2.2.2.2.1, M.2.2.2.2.2.2.2.2.2.2.2.2.2.2.2.2.2.2.2.2.2.2.1, M.2.2.2.2.2.2.2.2.2.2.2.2.2.2.2.2.2.2.2.2.2.2.2.1, M.2.2.2.2.2.2.2.2.2.2.2.2.2.2.2.2.2.2.2.2.2.2.2.2.1, M.2.2.2.2.2.2.2.2.2.2.2.2.2.2.2.2.2.2.2.2.2.2.2.2.2.1, M.2.2.2.2.2.2.2.2.2.2.2.2.2.2.2.2.2.2.2.2.2.2.2.2.2.2.1, M.2.2.2.2.2.2.2.2.2.2.2.2.2.2.2.2.2.2.2.2.2.2.2.2.2.2.2.1, M.2.2.2.2.2.2.2.2.2.2.2.2.2.2.2.2.2.2.2.2.2.2.2.2.2.2.2.2.1, M.2.2.2.2.2.2.2.2.2.2.2.2.2.2.2.2.2.2.2.2.2.2.2.2.2.2.2.2.2.1, M.2.2.2.2.2.2.2.2.2.2.2.2.2.2.2.2.2.2.2.2.2.2.2.2.2.2.2.2.2.2)
def tel (T : VX9) (v : Int32) : VX9 := (T.1, v, T.2.2.1, T.2.2.2.1, T.2.2.2.2)
theorem x9_found (T : VX9) {f : Nat} (h1 : 1 ≤ f) (h5 : f ≤ 5) : f_X9_found T (nI f) = some (-3, fnd T f) := by
  unfold f_X9_found
  rw [if_neg (show ¬ nI f < (1 : Int32) from nI_nlt h1 (by omega)), if_neg (show ¬ (5 : Int32) < nI f from nI_nlt h5 (by decide)), zIn_t (show f < 6 by omega) (by decide)]
  simp only [if_T]
  rw [nI_clamp (by omega)]; rfl
theorem m_meets (M : VX11) {f : Nat} (h5 : f ≤ 5) : f_X11_meets M (nI f) = some (-3, met M f) := by
  unfold f_X11_meets
  rw [zIn_t (show f < 6 by omega) (by decide)]
  simp only [if_T]
  rw [nI_clamp (by omega)]; rfl
section
variable {S : VX10} {M : VX11}
theorem RR.found (h : RR S M) {f : Nat} (h1 : 1 ≤ f) (h5 : f ≤ 5) : RR ((fnd S.1 f, S.2.1, S.2.2.1, S.2.2.2.1, S.2.2.2.2.1, S.2.2.2.2.2.1, S.2.2.2.2.2.2.1, S.2.2.2.2.2.2.2.1, S.2.2.2.2.2.2.2.2.1, S.2.2.2.2.2.2.2.2.2)) (met M f) := by
  obtain ⟨hT, hr, ht, a, hJ, hE, hZ⟩ := h
  refine ⟨⟨fun g g1 g5 => ?_, hT.2.1, hT.2.2.1, hT.2.2.2.1, rfl⟩, hr, ht, a, hJ, hE, hZ⟩
  show upd S.1.1 f (S.1.1 f + 1) g = upd M.2.1 f (M.2.1 f + 1) g
  rw [upd_at, upd_at, hT.1 f h1 h5, hT.1 g g1 g5]
theorem RR.tell (h : RR S M) (v : Int32) : RR ((tel S.1 v, S.2.1, S.2.2.1, S.2.2.2.1, S.2.2.2.2.1, S.2.2.2.2.2.1, S.2.2.2.2.2.2.1, S.2.2.2.2.2.2.2.1, S.2.2.2.2.2.2.2.2.1, S.2.2.2.2.2.2.2.2.2)) ((M.1, M.2.1, v, M.2.2.2.1, M.2.2.2.2.1, M.2.2.2.2.2.1, M.2.2.2.2.2.2.1, M.2.2.2.2.2.2.2.1, M.2.2.2.2.2.2.2.2.1, M.2.2.2.2.2.2.2.2.2.1, M.2.2.2.2.2.2.2.2.2.2.1, M.2.2.2.2.2.2.2.2.2.2.2.1, M.2.2.2.2.2.2.2.2.2.2.2.2.1, M.2.2.2.2.2.2.2.2.2.2.2.2.2.1, M.2.2.2.2.2.2.2.2.2.2.2.2.2.2.1, M.2.2.2.2.2.2.2.2.2.2.2.2.2.2.2.1, M.2.2.2.2.2.2.2.2.2.2.2.2.2.2.2.2.1, M.2.2.2.2.2.2.2.2.2.2.2.2.2.2.2.2.2.1, M.2.2.2.2.2.2.2.2.2.2.2.2.2.2.2.2.2.2.1, M.2.2.2.2.2.2.2.2.2.2.2.2.2.2.2.2.2.2.2.1, M.2.2.2.2.2.2.2.2.2.2.2.2.2.2.2.2.2.2.2.2.1, M.2.2.2.2.2.2.2.2.2.2.2.2.2.2.2.2.2.2.2.2.2.1, M.2.2.2.2.2.2.2.2.2.2.2.2.2.2.2.2.2.2.2.2.2.2.1, M.2.2.2.2.2.2.2.2.2.2.2.2.2.2.2.2.2.2.2.2.2.2.2.1, M.2.2.2.2.2.2.2.2.2.2.2.2.2.2.2.2.2.2.2.2.2.2.2.2.1, M.2.2.2.2.2.2.2.2.2.2.2.2.2.2.2.2.2.2.2.2.2.2.2.2.2.1, M.2.2.2.2.2.2.2.2.2.2.2.2.2.2.2.2.2.2.2.2.2.2.2.2.2.2.1, M.2.2.2.2.2.2.2.2.2.2.2.2.2.2.2.2.2.2.2.2.2.2.2.2.2.2.2.1, M.2.2.2.2.2.2.2.2.2.2.2.2.2.2.2.2.2.2.2.2.2.2.2.2.2.2.2.2.1, M.2.2.2.2.2.2.2.2.2.2.2.2.2.2.2.2.2.2.2.2.2.2.2.2.2.2.2.2.2.1, M.2.2.2.2.2.2.2.2.2.2.2.2.2.2.2.2.2.2.2.2.2.2.2.2.2.2.2.2.2.2)) := by
  obtain ⟨hT, hr, ht, a, hJ, hE, hZ⟩ := h
  exact ⟨⟨hT.1, rfl, hT.2.2.1, hT.2.2.2.1, hT.2.2.2.2⟩, hr, ht, a, hJ, hE, hZ⟩
/-! rows -/
theorem rr_rowC (h : RR S M) (v : Int32) : (v < 0 ∨ nI 6 ≤ v) ∨ (∃ r, r < 6 ∧ v = nI r ∧ S.2.1.2 r = -1 ∧ M.2.2.2.2.2.1 r = -1) ∨ ∃ r k, r < 6 ∧ v = nI r ∧ k ≤ 60 ∧ S.2.1.2 r = nI k ∧ M.2.2.2.2.2.1 r = nI k ∧ ∀ i, i < k → S.2.1.1 r i = M.2.2.2.2.2.2.1 (60 * r + i) := by
  rcases ix2 v (n := 6) (by decide) with h0 | ⟨r, hr, rfl⟩
  · exact Or.inl h0
  · obtain ⟨e, h1 | ⟨k, hk, e1, e2⟩⟩ := h.2.1 r hr
    · exact Or.inr (Or.inl ⟨r, hr, rfl, e.trans h1, h1⟩)
    · exact Or.inr (Or.inr ⟨r, k, hr, rfl, hk, e.trans e1, e1, e2⟩)
end
section
variable {S : VX6}
theorem x6_numT {r : Nat} (h : r < 6) : f_X6_isNumber S (nI r) = some 1 := by
  unfold f_X6_isNumber
  rw [if_neg (nI_pos (by omega)), if_neg (show ¬ (6 : Int32) ≤ nI r from nI_ge h (by decide))]
theorem x6_numF {x : Int32} (h : x < 0 ∨ nI 6 ≤ x) : f_X6_isNumber S x = some 0 := by
  unfold f_X6_isNumber
  by_cases h0 : x < 0
  · rw [if_pos h0]
  · rw [if_neg h0, if_pos (show (6 : Int32) ≤ x from h.resolve_left h0)]
theorem x6_size {r : Nat} (h : r < 6) : f_X6_sizeOf S (nI r) = some (S.2 r) := by
  unfold f_X6_sizeOf
  rw [x6_numT h, Option.bind_some, if_neg (by decide), zIn_t h (by decide), if_pos rfl, nI_clamp (by omega)]
theorem nI_m1 {c : Nat} (h : c < 2 ^ 31) : ¬ nI c = -1 := by
  intro e
  have := congrArg Int32.toInt e
  rw [nI_toInt h] at this
  have h2 : (-1 : Int32).toInt = -1 := by decide
  rw [h2] at this
  omega
theorem x6_thereF {r : Nat} (h : r < 6) (e : S.2 r = -1) : f_X6_isThere S (nI r) = some 0 := by
  unfold f_X6_isThere
  rw [x6_size h, Option.bind_some, e, if_pos rfl]
theorem x6_thereT {r k : Nat} (h : r < 6) (hk : k ≤ 60) (e : S.2 r = nI k) : f_X6_isThere S (nI r) = some 1 := by
  unfold f_X6_isThere
  rw [x6_size h, Option.bind_some, e, if_neg (nI_m1 (by omega))]
theorem x6_placeT {r k i : Nat} (h : r < 6) (hk : k ≤ 60) (e : S.2 r = nI k) (hi : i < k) : f_X6_isPlace S (nI r) (nI i) = some 1 := by
  unfold f_X6_isPlace
  rw [if_neg (nI_pos (by omega)), x6_size h, Option.bind_some, e, if_neg (nI_ge hi (by omega))]
theorem x6_placeF {r k : Nat} {x : Int32} (h : r < 6) (e : S.2 r = nI k) (hx : x < 0 ∨ nI k ≤ x) : f_X6_isPlace S (nI r) x = some 0 := by
  unfold f_X6_isPlace
  by_cases h0 : x < 0
  · rw [if_pos h0]
  · rw [if_neg h0, x6_size h, Option.bind_some, e, if_pos (hx.resolve_left h0)]
theorem x6_get {r k i : Nat} (h : r < 6) (hk : k ≤ 60) (e : S.2 r = nI k) (hi : i < k) : f_X6_get S (nI r) (nI i) = some (S.1 r i) := by
  unfold f_X6_get
  rw [x6_placeT h hk e hi, Option.bind_some, if_neg (by decide), zIn_t h (by decide), if_pos rfl, zIn_t (show i < 60 by omega) (by decide), if_pos rfl, nI_clamp (by omega), nI_clamp (by omega)]
theorem zg_at (P : Nat → Nat → Int32) (r : Nat) (f : Nat → Int32) (j : Nat) : zg P r f j = if j = r then f else P j := rfl
theorem x6_set {r k i : Nat} (h : r < 6) (hk : k ≤ 60) (e : S.2 r = nI k) (hi : i < k) (v : Int32) : f_X6_set S (nI r) (nI i) v = some (zg S.1 r (upd (S.1 r) i v), S.2) := by
  unfold f_X6_set
  rw [x6_placeT h hk e hi, Option.bind_some, if_neg (by decide), zIn_t h (by decide), if_pos rfl, zIn_t (show i < 60 by omega) (by decide), if_pos rfl, nI_clamp (by omega), nI_clamp (by omega)]
theorem x6_make {r k : Nat} (h : r < 6) (hk : k ≤ 60) : ∃ P, f_X6_make S (nI r) (nI k) = some (P, upd S.2 r (nI k)) ∧ (∀ i, i < k → P r i = 0) ∧ ∀ j, j ≠ r → P j = S.1 j := by
  unfold f_X6_make
  rw [x6_numT h, Option.bind_some, if_neg (by decide), if_neg (nI_pos (by omega)), if_pos (show nI k ≤ (60 : Int32) from nI_le hk (by decide)), zIn_t h (by decide), if_pos rfl, nI_clamp (by omega)]
  refine loop_up (fun f P v3 => f_X6_make_28 f (P, upd S.2 r (nI k)) (nI r) (nI k) v3) k (fun j P => (∀ i, i < j → P r i = 0) ∧ ∀ j, j ≠ r → P j = S.1 j) (fun o => ∃ P, o = some (P, upd S.2 r (nI k)) ∧ (∀ i, i < k → P r i = 0) ∧ ∀ j, j ≠ r → P j = S.1 j) ?_ ?_ 4096 0 S.1 (Nat.zero_le _) ⟨fun i hi => by omega, fun _ _ => rfl⟩ (by omega)
  · rintro n P ⟨h1, h2⟩
    refine ⟨P, ?_, h1, h2⟩
    show f_X6_make_28 (n + 1) (P, upd S.2 r (nI k)) (nI r) (nI k) (nI k) = _
    rw [f_X6_make_28, if_pos (nI_le (Nat.le_refl _) (by omega))]
  · rintro n P j hj ⟨h1, h2⟩
    right
    refine ⟨zg P r (upd (P r) j 0), ⟨fun i hi => ?_, fun i hi => ?_⟩, ?_⟩
    · rw [zg_at, if_pos rfl, upd_at]
      by_cases e : i = j
      · rw [if_pos e]
      · rw [if_neg e, h1 i (by omega)]
    · rw [zg_at, if_neg hi, h2 i hi]
    · show f_X6_make_28 (n + 1) (P, upd S.2 r (nI k)) (nI r) (nI k) (nI j) = f_X6_make_28 n (zg P r (upd (P r) j 0), upd S.2 r (nI k)) (nI r) (nI k) (nI (j + 1))
      rw [f_X6_make_28, if_neg (nI_ge hj (by omega)), zIn_t h (by decide), if_pos rfl, zIn_t (show j < 60 by omega) (by decide), if_pos rfl, nI_clamp (by omega), nI_clamp (by omega), nI_1]
end
theorem m_at {M : VX11} {r i : Nat} (h : r < 6) (hi : i < 60) : f_X11_rowAt M (nI r) (nI i) = some (M.2.2.2.2.2.2.1 (60 * r + i)) := by
  unfold f_X11_rowAt
  rw [show (60 : Int32) * nI r = nI (60 * r) from pk_mul 60 r, nI_add, zIn_t (by omega) (by decide), if_pos rfl, nI_clamp (by omega)]
/-- the model's row cleared -/
theorem m_clear {α : Type} (F : Nat → VX11 → Int32 → Option α) (r : Nat) (K : VX11 → Option α) (hend : ∀ n M, F (n + 1) M (nI 60) = K M) (hstep : ∀ n (M : VX11) i, i < 60 → F (n + 1) M (nI i) = F n ((M.1, M.2.1, M.2.2.1, M.2.2.2.1, M.2.2.2.2.1, M.2.2.2.2.2.1, upd M.2.2.2.2.2.2.1 (60 * r + i) 0, M.2.2.2.2.2.2.2.1, M.2.2.2.2.2.2.2.2.1, M.2.2.2.2.2.2.2.2.2.1, M.2.2.2.2.2.2.2.2.2.2.1, M.2.2.2.2.2.2.2.2.2.2.2.1, M.2.2.2.2.2.2.2.2.2.2.2.2.1, M.2.2.2.2.2.2.2.2.2.2.2.2.2.1, M.2.2.2.2.2.2.2.2.2.2.2.2.2.2.1, M.2.2.2.2.2.2.2.2.2.2.2.2.2.2.2.1, M.2.2.2.2.2.2.2.2.2.2.2.2.2.2.2.2.1, M.2.2.2.2.2.2.2.2.2.2.2.2.2.2.2.2.2.1, M.2.2.2.2.2.2.2.2.2.2.2.2.2.2.2.2.2.2.1, M.2.2.2.2.2.2.2.2.2.2.2.2.2.2.2.2.2.2.2.1, M.2.2.2.2.2.2.2.2.2.2.2.2.2.2.2.2.2.2.2.2.1, M.2.2.2.2.2.2.2.2.2.2.2.2.2.2.2.2.2.2.2.2.2.1, M.2.2.2.2.2.2.2.2.2.2.2.2.2.2.2.2.2.2.2.2.2.2.1, M.2.2.2.2.2.2.2.2.2.2.2.2.2.2.2.2.2.2.2.2.2.2.2.1, M.2.2.2.2.2.2.2.2.2.2.2.2.2.2.2.2.2.2.2.2.2.2.2.2.1, M.2.2.2.2.2.2.2.2.2.2.2.2.2.2.2.2.2.2.2.2.2.2.2.2.2.1, M.2.2.2.2.2.2.2.2.2.2.2.2.2.2.2.2.2.2.2.2.2.2.2.2.2.2.1, M.2.2.2.2.2.2.2.2.2.2.2.2.2.2.2.2.2.2.2.2.2.2.2.2.2.2.2.1, M.2.2.2.2.2.2.2.2.2.2.2.2.2.2.2.2.2.2.2.2.2.2.2.2.2.2.2.2.1, M.2.2.2.2.2.2.2.2.2.2.2.2.2.2.2.2.2.2.2.2.2.2.2.2.2.2.2.2.2.1, M.2.2.2.2.2.2.2.2.2.2.2.2.2.2.2.2.2.2.2.2.2.2.2.2.2.2.2.2.2.2)) (nI (i + 1))) (M : VX11) :
    ∃ Q, F 4096 M (nI 0) = K ((M.1, M.2.1, M.2.2.1, M.2.2.2.1, M.2.2.2.2.1, M.2.2.2.2.2.1, Q, M.2.2.2.2.2.2.2.1, M.2.2.2.2.2.2.2.2.1, M.2.2.2.2.2.2.2.2.2.1, M.2.2.2.2.2.2.2.2.2.2.1, M.2.2.2.2.2.2.2.2.2.2.2.1, M.2.2.2.2.2.2.2.2.2.2.2.2.1, M.2.2.2.2.2.2.2.2.2.2.2.2.2.1, M.2.2.2.2.2.2.2.2.2.2.2.2.2.2.1, M.2.2.2.2.2.2.2.2.2.2.2.2.2.2.2.1, M.2.2.2.2.2.2.2.2.2.2.2.2.2.2.2.2.1, M.2.2.2.2.2.2.2.2.2.2.2.2.2.2.2.2.2.1, M.2.2.2.2.2.2.2.2.2.2.2.2.2.2.2.2.2.2.1, M.2.2.2.2.2.2.2.2.2.2.2.2.2.2.2.2.2.2.2.1, M.2.2.2.2.2.2.2.2.2.2.2.2.2.2.2.2.2.2.2.2.1, M.2.2.2.2.2.2.2.2.2.2.2.2.2.2.2.2.2.2.2.2.2.1, M.2.2.2.2.2.2.2.2.2.2.2.2.2.2.2.2.2.2.2.2.2.2.1, M.2.2.2.2.2.2.2.2.2.2.2.2.2.2.2.2.2.2.2.2.2.2.2.1, M.2.2.2.2.2.2.2.2.2.2.2.2.2.2.2.2.2.2.2.2.2.2.2.2.1, M.2.2.2.2.2.2.2.2.2.2.2.2.2.2.2.2.2.2.2.2.2.2.2.2.2.1, M.2.2.2.2.2.2.2.2.2.2.2.2.2.2.2.2.2.2.2.2.2.2.2.2.2.2.1, M.2.2.2.2.2.2.2.2.2.2.2.2.2.2.2.2.2.2.2.2.2.2.2.2.2.2.2.1, M.2.2.2.2.2.2.2.2.2.2.2.2.2.2.2.2.2.2.2.2.2.2.2.2.2.2.2.2.1, M.2.2.2.2.2.2.2.2.2.2.2.2.2.2.2.2.2.2.2.2.2.2.2.2.2.2.2.2.2.1, M.2.2.2.2.2.2.2.2.2.2.2.2.2.2.2.2.2.2.2.2.2.2.2.2.2.2.2.2.2.2)) ∧ (∀ i, i < 60 → Q (60 * r + i) = 0) ∧ ∀ j, (j < 60 * r ∨ 60 * r + 60 ≤ j) → Q j = M.2.2.2.2.2.2.1 j := by
  refine loop_up (fun f Q v3 => F f ((M.1, M.2.1, M.2.2.1, M.2.2.2.1, M.2.2.2.2.1, M.2.2.2.2.2.1, Q, M.2.2.2.2.2.2.2.1, M.2.2.2.2.2.2.2.2.1, M.2.2.2.2.2.2.2.2.2.1, M.2.2.2.2.2.2.2.2.2.2.1, M.2.2.2.2.2.2.2.2.2.2.2.1, M.2.2.2.2.2.2.2.2.2.2.2.2.1, M.2.2.2.2.2.2.2.2.2.2.2.2.2.1, M.2.2.2.2.2.2.2.2.2.2.2.2.2.2.1, M.2.2.2.2.2.2.2.2.2.2.2.2.2.2.2.1, M.2.2.2.2.2.2.2.2.2.2.2.2.2.2.2.2.1, M.2.2.2.2.2.2.2.2.2.2.2.2.2.2.2.2.2.1, M.2.2.2.2.2.2.2.2.2.2.2.2.2.2.2.2.2.2.1, M.2.2.2.2.2.2.2.2.2.2.2.2.2.2.2.2.2.2.2.1, M.2.2.2.2.2.2.2.2.2.2.2.2.2.2.2.2.2.2.2.2.1, M.2.2.2.2.2.2.2.2.2.2.2.2.2.2.2.2.2.2.2.2.2.1, M.2.2.2.2.2.2.2.2.2.2.2.2.2.2.2.2.2.2.2.2.2.2.1, M.2.2.2.2.2.2.2.2.2.2.2.2.2.2.2.2.2.2.2.2.2.2.2.1, M.2.2.2.2.2.2.2.2.2.2.2.2.2.2.2.2.2.2.2.2.2.2.2.2.1, M.2.2.2.2.2.2.2.2.2.2.2.2.2.2.2.2.2.2.2.2.2.2.2.2.2.1, M.2.2.2.2.2.2.2.2.2.2.2.2.2.2.2.2.2.2.2.2.2.2.2.2.2.2.1, M.2.2.2.2.2.2.2.2.2.2.2.2.2.2.2.2.2.2.2.2.2.2.2.2.2.2.2.1, M.2.2.2.2.2.2.2.2.2.2.2.2.2.2.2.2.2.2.2.2.2.2.2.2.2.2.2.2.1, M.2.2.2.2.2.2.2.2.2.2.2.2.2.2.2.2.2.2.2.2.2.2.2.2.2.2.2.2.2.1, M.2.2.2.2.2.2.2.2.2.2.2.2.2.2.2.2.2.2.2.2.2.2.2.2.2.2.2.2.2.2)) v3) 60 (fun k Q => (∀ i, i < k → Q (60 * r + i) = 0) ∧ ∀ j, (j < 60 * r ∨ 60 * r + 60 ≤ j) → Q j = M.2.2.2.2.2.2.1 j) (fun o => ∃ Q, o = K ((M.1, M.2.1, M.2.2.1, M.2.2.2.1, M.2.2.2.2.1, M.2.2.2.2.2.1, Q, M.2.2.2.2.2.2.2.1, M.2.2.2.2.2.2.2.2.1, M.2.2.2.2.2.2.2.2.2.1, M.2.2.2.2.2.2.2.2.2.2.1, M.2.2.2.2.2.2.2.2.2.2.2.1, M.2.2.2.2.2.2.2.2.2.2.2.2.1, M.2.2.2.2.2.2.2.2.2.2.2.2.2.1, M.2.2.2.2.2.2.2.2.2.2.2.2.2.2.1, M.2.2.2.2.2.2.2.2.2.2.2.2.2.2.2.1, M.2.2.2.2.2.2.2.2.2.2.2.2.2.2.2.2.1, M.2.2.2.2.2.2.2.2.2.2.2.2.2.2.2.2.2.1, M.2.2.2.2.2.2.2.2.2.2.2.2.2.2.2.2.2.2.1, M.2.2.2.2.2.2.2.2.2.2.2.2.2.2.2.2.2.2.2.1, M.2.2.2.2.2.2.2.2.2.2.2.2.2.2.2.2.2.2.2.2.1, M.2.2.2.2.2.2.2.2.2.2.2.2.2.2.2.2.2.2.2.2.2.1, M.2.2.2.2.2.2.2.2.2.2.2.2.2.2.2.2.2.2.2.2.2.2.1, M.2.2.2.2.2.2.2.2.2.2.2.2.2.2.2.2.2.2.2.2.2.2.2.1, M.2.2.2.2.2.2.2.2.2.2.2.2.2.2.2.2.2.2.2.2.2.2.2.2.1, M.2.2.2.2.2.2.2.2.2.2.2.2.2.2.2.2.2.2.2.2.2.2.2.2.2.1, M.2.2.2.2.2.2.2.2.2.2.2.2.2.2.2.2.2.2.2.2.2.2.2.2.2.2.1, M.2.2.2.2.2.2.2.2.2.2.2.2.2.2.2.2.2.2.2.2.2.2.2.2.2.2.2.1, M.2.2.2.2.2.2.2.2.2.2.2.2.2.2.2.2.2.2.2.2.2.2.2.2.2.2.2.2.1, M.2.2.2.2.2.2.2.2.2.2.2.2.2.2.2.2.2.2.2.2.2.2.2.2.2.2.2.2.2.1, M.2.2.2.2.2.2.2.2.2.2.2.2.2.2.2.2.2.2.2.2.2.2.2.2.2.2.2.2.2.2)) ∧ (∀ i, i < 60 → Q (60 * r + i) = 0) ∧ ∀ j, (j < 60 * r ∨ 60 * r + 60 ≤ j) → Q j = M.2.2.2.2.2.2.1 j) ?_ ?_ 4096 0 M.2.2.2.2.2.2.1 (Nat.zero_le _) ⟨fun i hi => by omega, fun _ _ => rfl⟩ (by omega)
  · rintro n Q ⟨h1, h2⟩
    exact ⟨Q, hend n _, h1, h2⟩
  · rintro n Q k hk ⟨h1, h2⟩
    right
    refine ⟨upd Q (60 * r + k) 0, ⟨fun i hi => ?_, fun j hj => ?_⟩, hstep n ((M.1, M.2.1, M.2.2.1, M.2.2.2.1, M.2.2.2.2.1, M.2.2.2.2.2.1, Q, M.2.2.2.2.2.2.2.1, M.2.2.2.2.2.2.2.2.1, M.2.2.2.2.2.2.2.2.2.1, M.2.2.2.2.2.2.2.2.2.2.1, M.2.2.2.2.2.2.2.2.2.2.2.1, M.2.2.2.2.2.2.2.2.2.2.2.2.1, M.2.2.2.2.2.2.2.2.2.2.2.2.2.1, M.2.2.2.2.2.2.2.2.2.2.2.2.2.2.1, M.2.2.2.2.2.2.2.2.2.2.2.2.2.2.2.1, M.2.2.2.2.2.2.2.2.2.2.2.2.2.2.2.2.1, M.2.2.2.2.2.2.2.2.2.2.2.2.2.2.2.2.2.1, M.2.2.2.2.2.2.2.2.2.2.2.2.2.2.2.2.2.2.1, M.2.2.2.2.2.2.2.2.2.2.2.2.2.2.2.2.2.2.2.1, M.2.2.2.2.2.2.2.2.2.2.2.2.2.2.2.2.2.2.2.2.1, M.2.2.2.2.2.2.2.2.2.2.2.2.2.2.2.2.2.2.2.2.2.1, M.2.2.2.2.2.2.2.2.2.2.2.2.2.2.2.2.2.2.2.2.2.2.1, M.2.2.2.2.2.2.2.2.2.2.2.2.2.2.2.2.2.2.2.2.2.2.2.1, M.2.2.2.2.2.2.2.2.2.2.2.2.2.2.2.2.2.2.2.2.2.2.2.2.1, M.2.2.2.2.2.2.2.2.2.2.2.2.2.2.2.2.2.2.2.2.2.2.2.2.2.1, M.2.2.2.2.2.2.2.2.2.2.2.2.2.2.2.2.2.2.2.2.2.2.2.2.2.2.1, M.2.2.2.2.2.2.2.2.2.2.2.2.2.2.2.2.2.2.2.2.2.2.2.2.2.2.2.1, M.2.2.2.2.2.2.2.2.2.2.2.2.2.2.2.2.2.2.2.2.2.2.2.2.2.2.2.2.1, M.2.2.2.2.2.2.2.2.2.2.2.2.2.2.2.2.2.2.2.2.2.2.2.2.2.2.2.2.2.1, M.2.2.2.2.2.2.2.2.2.2.2.2.2.2.2.2.2.2.2.2.2.2.2.2.2.2.2.2.2.2)) k hk⟩
    · rw [upd_at]
      by_cases e : i = k
      · rw [if_pos (by omega)]
      · rw [if_neg (by omega), h1 i (by omega)]
    · rw [upd_at, if_neg (by omega), h2 j hj]
section
variable {S : VX6} {M : VX11}
/-- row r anew, of size k -/
theorem rr_rows.anew (h : rr_rows S M) {r k : Nat} (hr : r < 6) (hk : k ≤ 60) {P : Nat → Nat → Int32} {Q : Nat → Int32} (hP : ∀ j, j ≠ r → P j = S.1 j) (hQ : ∀ j, (j < 60 * r ∨ 60 * r + 60 ≤ j) → Q j = M.2.2.2.2.2.2.1 j) (e : ∀ i, i < k → P r i = Q (60 * r + i)) : rr_rows (P, upd S.2 r (nI k)) ((M.1, M.2.1, M.2.2.1, M.2.2.2.1, M.2.2.2.2.1, upd M.2.2.2.2.2.1 r (nI k), Q, M.2.2.2.2.2.2.2.1, M.2.2.2.2.2.2.2.2.1, M.2.2.2.2.2.2.2.2.2.1, M.2.2.2.2.2.2.2.2.2.2.1, M.2.2.2.2.2.2.2.2.2.2.2.1, M.2.2.2.2.2.2.2.2.2.2.2.2.1, M.2.2.2.2.2.2.2.2.2.2.2.2.2.1, M.2.2.2.2.2.2.2.2.2.2.2.2.2.2.1, M.2.2.2.2.2.2.2.2.2.2.2.2.2.2.2.1, M.2.2.2.2.2.2.2.2.2.2.2.2.2.2.2.2.1, M.2.2.2.2.2.2.2.2.2.2.2.2.2.2.2.2.2.1, M.2.2.2.2.2.2.2.2.2.2.2.2.2.2.2.2.2.2.1, M.2.2.2.2.2.2.2.2.2.2.2.2.2.2.2.2.2.2.2.1, M.2.2.2.2.2.2.2.2.2.2.2.2.2.2.2.2.2.2.2.2.1, M.2.2.2.2.2.2.2.2.2.2.2.2.2.2.2.2.2.2.2.2.2.1, M.2.2.2.2.2.2.2.2.2.2.2.2.2.2.2.2.2.2.2.2.2.2.1, M.2.2.2.2.2.2.2.2.2.2.2.2.2.2.2.2.2.2.2.2.2.2.2.1, M.2.2.2.2.2.2.2.2.2.2.2.2.2.2.2.2.2.2.2.2.2.2.2.2.1, M.2.2.2.2.2.2.2.2.2.2.2.2.2.2.2.2.2.2.2.2.2.2.2.2.2.1, M.2.2.2.2.2.2.2.2.2.2.2.2.2.2.2.2.2.2.2.2.2.2.2.2.2.2.1, M.2.2.2.2.2.2.2.2.2.2.2.2.2.2.2.2.2.2.2.2.2.2.2.2.2.2.2.1, M.2.2.2.2.2.2.2.2.2.2.2.2.2.2.2.2.2.2.2.2.2.2.2.2.2.2.2.2.1, M.2.2.2.2.2.2.2.2.2.2.2.2.2.2.2.2.2.2.2.2.2.2.2.2.2.2.2.2.2.1, M.2.2.2.2.2.2.2.2.2.2.2.2.2.2.2.2.2.2.2.2.2.2.2.2.2.2.2.2.2.2)) := by
  intro j hj
  show upd S.2 r (nI k) j = upd M.2.2.2.2.2.1 r (nI k) j ∧ (upd M.2.2.2.2.2.1 r (nI k) j = -1 ∨ ∃ k', k' ≤ 60 ∧ upd M.2.2.2.2.2.1 r (nI k) j = nI k' ∧ ∀ i, i < k' → P j i = Q (60 * j + i))
  rw [upd_at, upd_at]
  by_cases c : j = r
  · subst c
    rw [if_pos rfl, if_pos rfl]
    exact ⟨rfl, Or.inr ⟨k, hk, rfl, e⟩⟩
  · rw [if_neg c, if_neg c]
    obtain ⟨e1, e2⟩ := h j hj
    refine ⟨e1, e2.imp id (fun ⟨k', h1, h2, h3⟩ => ⟨k', h1, h2, fun i hi => ?_⟩)⟩
    rw [hP j c, hQ (60 * j + i) (by omega)]; exact h3 i hi
/-- row r, some places anew -/
theorem rr_rows.same (h : rr_rows S M) {r k : Nat} (hr : r < 6) (hk : k ≤ 60) (hs : M.2.2.2.2.2.1 r = nI k) {P : Nat → Nat → Int32} {Q : Nat → Int32} (hP : ∀ j, j ≠ r → P j = S.1 j) (hQ : ∀ j, (j < 60 * r ∨ 60 * r + 60 ≤ j) → Q j = M.2.2.2.2.2.2.1 j) (e : ∀ i, i < k → P r i = Q (60 * r + i)) : rr_rows (P, S.2) ((M.1, M.2.1, M.2.2.1, M.2.2.2.1, M.2.2.2.2.1, M.2.2.2.2.2.1, Q, M.2.2.2.2.2.2.2.1, M.2.2.2.2.2.2.2.2.1, M.2.2.2.2.2.2.2.2.2.1, M.2.2.2.2.2.2.2.2.2.2.1, M.2.2.2.2.2.2.2.2.2.2.2.1, M.2.2.2.2.2.2.2.2.2.2.2.2.1, M.2.2.2.2.2.2.2.2.2.2.2.2.2.1, M.2.2.2.2.2.2.2.2.2.2.2.2.2.2.1, M.2.2.2.2.2.2.2.2.2.2.2.2.2.2.2.1, M.2.2.2.2.2.2.2.2.2.2.2.2.2.2.2.2.1, M.2.2.2.2.2.2.2.2.2.2.2.2.2.2.2.2.2.1, M.2.2.2.2.2.2.2.2.2.2.2.2.2.2.2.2.2.2.1, M.2.2.2.2.2.2.2.2.2.2.2.2.2.2.2.2.2.2.2.1, M.2.2.2.2.2.2.2.2.2.2.2.2.2.2.2.2.2.2.2.2.1, M.2.2.2.2.2.2.2.2.2.2.2.2.2.2.2.2.2.2.2.2.2.1, M.2.2.2.2.2.2.2.2.2.2.2.2.2.2.2.2.2.2.2.2.2.2.1, M.2.2.2.2.2.2.2.2.2.2.2.2.2.2.2.2.2.2.2.2.2.2.2.1, M.2.2.2.2.2.2.2.2.2.2.2.2.2.2.2.2.2.2.2.2.2.2.2.2.1, M.2.2.2.2.2.2.2.2.2.2.2.2.2.2.2.2.2.2.2.2.2.2.2.2.2.1, M.2.2.2.2.2.2.2.2.2.2.2.2.2.2.2.2.2.2.2.2.2.2.2.2.2.2.1, M.2.2.2.2.2.2.2.2.2.2.2.2.2.2.2.2.2.2.2.2.2.2.2.2.2.2.2.1, M.2.2.2.2.2.2.2.2.2.2.2.2.2.2.2.2.2.2.2.2.2.2.2.2.2.2.2.2.1, M.2.2.2.2.2.2.2.2.2.2.2.2.2.2.2.2.2.2.2.2.2.2.2.2.2.2.2.2.2.1, M.2.2.2.2.2.2.2.2.2.2.2.2.2.2.2.2.2.2.2.2.2.2.2.2.2.2.2.2.2.2)) := by
  intro j hj
  show S.2 j = M.2.2.2.2.2.1 j ∧ (M.2.2.2.2.2.1 j = -1 ∨ ∃ k', k' ≤ 60 ∧ M.2.2.2.2.2.1 j = nI k' ∧ ∀ i, i < k' → P j i = Q (60 * j + i))
  by_cases c : j = r
  · subst c
    exact ⟨(h j hj).1, Or.inr ⟨k, hk, hs, e⟩⟩
  · obtain ⟨e1, e2⟩ := h j hj
    refine ⟨e1, e2.imp id (fun ⟨k', h1, h2, h3⟩ => ⟨k', h1, h2, fun i hi => ?_⟩)⟩
    rw [hP j c, hQ (60 * j + i) (by omega)]; exact h3 i hi
end
