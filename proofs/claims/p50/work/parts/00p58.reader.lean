/-! the reader: one sign, on both sides -/
def mP (M : VX11) (at' num cells : Int32) (D Q : Nat → Int32) : VX11 := (M.1, M.2.1, M.2.2.1, M.2.2.2.1, M.2.2.2.2.1, M.2.2.2.2.2.1, M.2.2.2.2.2.2.1, M.2.2.2.2.2.2.2.1, M.2.2.2.2.2.2.2.2.1, M.2.2.2.2.2.2.2.2.2.1, M.2.2.2.2.2.2.2.2.2.2.1, M.2.2.2.2.2.2.2.2.2.2.2.1, M.2.2.2.2.2.2.2.2.2.2.2.2.1, at', num, cells, D, Q, M.2.2.2.2.2.2.2.2.2.2.2.2.2.2.2.2.2.2.1, M.2.2.2.2.2.2.2.2.2.2.2.2.2.2.2.2.2.2.2.1, M.2.2.2.2.2.2.2.2.2.2.2.2.2.2.2.2.2.2.2.2.1, M.2.2.2.2.2.2.2.2.2.2.2.2.2.2.2.2.2.2.2.2.2.1, M.2.2.2.2.2.2.2.2.2.2.2.2.2.2.2.2.2.2.2.2.2.2.1, M.2.2.2.2.2.2.2.2.2.2.2.2.2.2.2.2.2.2.2.2.2.2.2.1, M.2.2.2.2.2.2.2.2.2.2.2.2.2.2.2.2.2.2.2.2.2.2.2.2.1, M.2.2.2.2.2.2.2.2.2.2.2.2.2.2.2.2.2.2.2.2.2.2.2.2.2.1, M.2.2.2.2.2.2.2.2.2.2.2.2.2.2.2.2.2.2.2.2.2.2.2.2.2.2.1, M.2.2.2.2.2.2.2.2.2.2.2.2.2.2.2.2.2.2.2.2.2.2.2.2.2.2.2.1, M.2.2.2.2.2.2.2.2.2.2.2.2.2.2.2.2.2.2.2.2.2.2.2.2.2.2.2.2.1, M.2.2.2.2.2.2.2.2.2.2.2.2.2.2.2.2.2.2.2.2.2.2.2.2.2.2.2.2.2.1, M.2.2.2.2.2.2.2.2.2.2.2.2.2.2.2.2.2.2.2.2.2.2.2.2.2.2.2.2.2.2)
def TX (P : VX8) (M : VX11) (r k : Nat) : Prop := r < 4 ∧ k ≤ 100 ∧ P.2 r = nI k ∧ M.2.2.2.2.2.2.2.2.1 r = nI k ∧ ∀ i, i < k → P.1 r i = M.2.2.2.2.2.2.2.2.2.1 (100 * r + i)
def bAt (M : VX11) (r k p : Nat) : Int32 := if p < k then M.2.2.2.2.2.2.2.2.2.1 (100 * r + p) else 0
section
variable {P : VX8} {M : VX11} {r k : Nat}
theorem m_bAt (h : TX P M r k) {p : Nat} (hp : p ≤ k) (num c : Int32) (D Q : Nat → Int32) : f_X11_byteAt (mP M (nI p) num c D Q) (nI r) (nI p) = some (bAt M r k p) := by
  obtain ⟨hr, hk, -, e, -⟩ := h
  by_cases c1 : p < k
  · rw [show bAt M r k p = M.2.2.2.2.2.2.2.2.2.1 (100 * r + p) from if_pos c1]
    exact m_byte (M := mP M (nI p) num c D Q) hr hk e c1
  · rw [show bAt M r k p = 0 from if_neg c1]
    unfold f_X11_byteAt
    rw [zIn_t hr (by decide), if_pos rfl, nI_clamp (by omega), show (mP M (nI p) num c D Q).2.2.2.2.2.2.2.2.1 r = nI k from e, if_pos (nI_le (by omega) (by omega))]
theorem x_bAt (h : TX P M r k) {p : Nat} (hp : p < k) : f_X8_get P (nI r) (nI p) = some (bAt M r k p) := by
  obtain ⟨hr, hk, e, -, hb⟩ := h
  rw [x8_get hr hk e hp, hb p hp, show bAt M r k p = M.2.2.2.2.2.2.2.2.2.1 (100 * r + p) from if_pos hp]
theorem m_figT (h : TX P M r k) {p lo hi d : Nat} (hp : p ≤ k) (h1 : lo ≤ d) (h2 : d ≤ hi) (hh : hi < 2 ^ 30) (e : bAt M r k p - 48 = nI d) (num c : Int32) (D Q : Nat → Int32) : f_X11_figure (mP M (nI p) num c D Q) (nI r) (nI lo) (nI hi) = some (1, mP M (nI (p + 1)) (nI d) c D Q) := by
  unfold f_X11_figure
  rw [show f_X11_byteAt (mP M (nI p) num c D Q) (nI r) (mP M (nI p) num c D Q).2.2.2.2.2.2.2.2.2.2.2.2.2.1 = _ from m_bAt h hp num c D Q, Option.bind_some, e, m_inT h1 h2 (by omega), Option.bind_some, if_neg i10, if_pos (Or.inr rfl), show (mP M (nI p) num c D Q).2.2.2.2.2.2.2.2.2.2.2.2.2.1 + (1 : Int32) = nI (p + 1) from nI_1 p]
  rfl
theorem m_figF (h : TX P M r k) {p lo hi : Nat} (hp : p ≤ k) (hh : hi + 1 < 2 ^ 30) (e : bAt M r k p - 48 < nI lo ∨ nI (hi + 1) ≤ bAt M r k p - 48) (num c : Int32) (D Q : Nat → Int32) : f_X11_figure (mP M (nI p) num c D Q) (nI r) (nI lo) (nI hi) = some (0, mP M (nI p) (bAt M r k p - 48) c D Q) := by
  unfold f_X11_figure
  rw [show f_X11_byteAt (mP M (nI p) num c D Q) (nI r) (mP M (nI p) num c D Q).2.2.2.2.2.2.2.2.2.2.2.2.2.1 = _ from m_bAt h hp num c D Q, Option.bind_some, m_inF e (by omega), Option.bind_some, if_pos rfl, if_pos (Or.inl rfl), show (mP M (nI p) num c D Q).2.2.2.2.2.2.2.2.2.2.2.2.2.1 + (0 : Int32) = nI p from Int32.add_zero _]
  rfl
theorem m_letT (h : TX P M r k) {p d n : Nat} (hp : p ≤ k) (hn : n ≤ 8) (h1 : d < n) (e : bAt M r k p - 65 = nI d) (num : Int32) (D Q : Nat → Int32) (v2 v3 : Int32) (e2 : nI d ≠ v2) (e3 : nI d ≠ v3) : f_X11_letter (mP M (nI p) num (nI n) D Q) (nI r) v2 v3 = some (1, mP M (nI (p + 1)) (nI d) (nI n) D Q) := by
  unfold f_X11_letter
  rw [show f_X11_byteAt (mP M (nI p) num (nI n) D Q) (nI r) (mP M (nI p) num (nI n) D Q).2.2.2.2.2.2.2.2.2.2.2.2.2.1 = _ from m_bAt h hp num (nI n) D Q, Option.bind_some, e, show f_X11_in (nI d) 0 ((mP M (nI p) num (nI n) D Q).2.2.2.2.2.2.2.2.2.2.2.2.2.2.2.1 - (1 : Int32)) = some 1 from m_inP h1 (by omega), Option.bind_some, if_neg i10, if_neg e2, if_neg e3]
  unfold f_X11_letter_54
  rw [if_neg i10, if_pos (Or.inr rfl)]
  show some ((1 : Int32), mP M (nI p + 1) (nI d) (nI n) D Q) = _
  rw [nI_1]
theorem m_letF (h : TX P M r k) {p n : Nat} (hp : p ≤ k) (hn : n ≤ 8) (num : Int32) (D Q : Nat → Int32) (v2 v3 : Int32) (e : (bAt M r k p - 65 < 0 ∨ nI n ≤ bAt M r k p - 65) ∨ ∃ d, d < n ∧ bAt M r k p - 65 = nI d ∧ (nI d = v2 ∨ nI d = v3)) : f_X11_letter (mP M (nI p) num (nI n) D Q) (nI r) v2 v3 = some (0, mP M (nI p) (bAt M r k p - 65) (nI n) D Q) := by
  have z : f_X11_letter_54 (mP M (nI p) (bAt M r k p - 65) (nI n) D Q) 0 = some (0, mP M (nI p) (bAt M r k p - 65) (nI n) D Q) := by
    unfold f_X11_letter_54
    rw [if_pos rfl, if_pos (Or.inl rfl)]
    show some ((0 : Int32), mP M (nI p + 0) (bAt M r k p - 65) (nI n) D Q) = _
    rw [Int32.add_zero]
  unfold f_X11_letter
  rw [show f_X11_byteAt (mP M (nI p) num (nI n) D Q) (nI r) (mP M (nI p) num (nI n) D Q).2.2.2.2.2.2.2.2.2.2.2.2.2.1 = _ from m_bAt h hp num (nI n) D Q, Option.bind_some]
  rcases e with e | ⟨d, hd, e, e2⟩
  · rw [show f_X11_in (bAt M r k p - 65) 0 ((mP M (nI p) num (nI n) D Q).2.2.2.2.2.2.2.2.2.2.2.2.2.2.2.1 - (1 : Int32)) = some 0 from m_inPF e (by omega), Option.bind_some, if_pos rfl]
    exact z
  · rw [show f_X11_in (bAt M r k p - 65) 0 ((mP M (nI p) num (nI n) D Q).2.2.2.2.2.2.2.2.2.2.2.2.2.2.2.1 - (1 : Int32)) = some 1 from by rw [e]; exact m_inP hd (by omega), Option.bind_some, if_neg i10]
    by_cases c : bAt M r k p - 65 = v2
    · rw [if_pos c]; exact z
    · rw [if_neg c, if_pos (e.trans (e2.resolve_left fun q => c (e.trans q)))]
      exact z
/-! the class' signs -/
def RC (P : VX8) (r k f : Nat) (S : VX5) (p : Nat) : Option (Int32 × VX5) := f_X5_read_24 f S P (nI r) (nI k) (nI p)
theorem rc_bad (h : TX P M r k) {p f : Nat} (hp : p ≤ k) (hf : k - p < f) {S : VX5} (hi : S.2.2.1 ≠ 0) (e : p < k → f_X5_continues S (bAt M r k p) = some (0, S)) : RC P r k f S p = some (nI p, S) := by
  have hk := h.2.1
  obtain ⟨f, rfl⟩ : ∃ f', f = f' + 1 := ⟨f - 1, by omega⟩
  unfold RC
  rw [f_X5_read_24]
  by_cases c : p < k
  · rw [if_neg (nI_ge c (by omega)), x_bAt h c, Option.bind_some, if_neg hi, e c, Option.bind_some]
    unfold f_X5_read_61
    rw [if_pos rfl]
  · rw [if_pos (nI_le (by omega) (by omega)), if_neg hi, show p = k by omega]
theorem rc_go (h : TX P M r k) {p f : Nat} (hp : p < k) (hf : k - p < f) {S S' : VX5} (hi : S.2.2.1 ≠ 0) (e : f_X5_continues S (bAt M r k p) = some (1, S')) : RC P r k f S p = RC P r k (f - 1) S' (p + 1) := by
  have hk := h.2.1
  obtain ⟨f, rfl⟩ : ∃ f', f = f' + 1 := ⟨f - 1, by omega⟩
  unfold RC
  rw [f_X5_read_24, if_neg (nI_ge hp (by omega)), x_bAt h hp, Option.bind_some, if_neg hi, e, Option.bind_some]
  unfold f_X5_read_61
  rw [if_neg i10, nI_1]; rfl
theorem rc_obad (h : TX P M r k) {p f : Nat} (hp : p < k) (hf : k - p < f) {S : VX5} (hi : S.2.2.1 = 0) (e : f_X5_opens S (bAt M r k p) = some (0, S)) : RC P r k f S p = some (nI p, S) := by
  have hk := h.2.1
  obtain ⟨f, rfl⟩ : ∃ f', f = f' + 1 := ⟨f - 1, by omega⟩
  unfold RC
  rw [f_X5_read_24, if_neg (nI_ge hp (by omega)), x_bAt h hp, Option.bind_some, if_pos hi, e, Option.bind_some]
  unfold f_X5_read_61
  rw [if_pos rfl]
theorem rc_open (h : TX P M r k) {p f : Nat} (hp : p < k) (hf : k - p < f) {S S' : VX5} (hi : S.2.2.1 = 0) (e : f_X5_opens S (bAt M r k p) = some (1, S')) : RC P r k f S p = RC P r k (f - 1) S' (p + 1) := by
  have hk := h.2.1
  obtain ⟨f, rfl⟩ : ∃ f', f = f' + 1 := ⟨f - 1, by omega⟩
  unfold RC
  rw [f_X5_read_24, if_neg (nI_ge hp (by omega)), x_bAt h hp, Option.bind_some, if_pos hi, e, Option.bind_some]
  unfold f_X5_read_61
  rw [if_neg i10, nI_1]; rfl
end
def s5 (S : VX5) (pt : Nat → Int32) (it : Int32) (t : Nat) : VX5 := (S.1, pt, it, nI t, S.2.2.2.2)
section
variable {S : VX5} {pt : Nat → Int32} {it : Int32} {t F : Nat} {c v : Int32}
theorem x5_cbad (hF : f_X5_formOf it = some F) (hF5 : F < 5) (ht : t < zL F) (h3 : zL F ≤ 3) (hc : zB F t = c) (e : f_X5_partOf (s5 S pt it t) c v = some (-9)) : f_X5_continues (s5 S pt it t) v = some (0, s5 S pt it t) := by
  unfold f_X5_continues
  rw [show f_X5_formOf (s5 S pt it t).2.2.1 = some F from hF, Option.bind_some, show f_J0_length_8abf5 F = some (nI (zL F)) from if_pos (by omega), Option.bind_some, show (s5 S pt it t).2.2.2.1 = nI t from rfl, if_neg (nI_ge ht (by omega)), if_pos (show nI t < (3 : Int32) from nI_lt (show t < 3 by omega) (by decide)), show f_J0_charAt_5068e F (nI t) = some c from by
    unfold f_J0_charAt_5068e
    rw [if_pos (by omega), zIn_t ht (by omega), if_pos rfl, nI_clamp (by omega), hc], Option.bind_some, e, Option.bind_some, if_pos rfl]
theorem x5_cok (hF : f_X5_formOf it = some F) (hF5 : F < 5) (ht : t < zL F) (h3 : zL F ≤ 3) (hc : zB F t = c) {d : Nat} (hd : d < 10) (e : f_X5_partOf (s5 S pt it t) c v = some (nI d)) : f_X5_continues (s5 S pt it t) v = if t + 1 = zL F then (f_X5_close (s5 S (upd pt t (nI d)) it (t + 1))).bind fun r12 => some (1, r12) else some (1, s5 S (upd pt t (nI d)) it (t + 1)) := by
  have el : f_J0_length_8abf5 F = some (nI (zL F)) := if_pos (by omega)
  unfold f_X5_continues
  rw [show f_X5_formOf (s5 S pt it t).2.2.1 = some F from hF, Option.bind_some, el, Option.bind_some, show (s5 S pt it t).2.2.2.1 = nI t from rfl, if_neg (nI_ge ht (by omega)), if_pos (show nI t < (3 : Int32) from nI_lt (show t < 3 by omega) (by decide)), show f_J0_charAt_5068e F (nI t) = some c from by
    unfold f_J0_charAt_5068e
    rw [if_pos (by omega), zIn_t ht (by omega), if_pos rfl, nI_clamp (by omega), hc], Option.bind_some, e, Option.bind_some, if_neg (nI_m9 (by omega)), zIn_t (show t < 3 by omega) (by decide), if_pos rfl, nI_1, nI_clamp (by omega), Option.bind_some]
  by_cases q : t + 1 = zL F
  · rw [if_pos q, if_pos (by rw [q])]; rfl
  · rw [if_neg q, if_neg (fun e => q ((nI_eq (by omega) (by omega)).1 e))]; rfl
theorem x5_new0 (hS : S.2.2.2.1 = nI 0) (v : Int32) : f_X5_isNew S v = some 1 := by
  unfold f_X5_isNew
  show f_X5_isNew_2 (4095 + 1) S v 0 = _
  rw [f_X5_isNew_2, hS, if_pos (show nI 0 ≤ 0 by decide)]
theorem x5_new1 (hS : S.2.2.2.1 = nI 1) (v : Int32) : f_X5_isNew S v = some (if S.2.1 0 = v then 0 else 1) := by
  have c0 : (0 : Int32).toNatClampNeg = 0 := rfl
  unfold f_X5_isNew
  show f_X5_isNew_2 (4094 + 1 + 1) S v 0 = _
  rw [f_X5_isNew_2, hS, if_neg (show ¬ nI 1 ≤ 0 by decide), if_neg (show ¬ (3 : Int32) ≤ 0 by decide), if_pos (show zIn 0 3 = true by decide), c0]
  by_cases c : S.2.1 0 = v
  · rw [if_pos c, if_pos c]
  · rw [if_neg c, if_neg c, f_X5_isNew_2, hS, if_pos (show nI 1 ≤ 0 + 1 by decide)]
theorem x5_new2 (hS : S.2.2.2.1 = nI 2) (v : Int32) : f_X5_isNew S v = some (if S.2.1 0 = v then 0 else if S.2.1 1 = v then 0 else 1) := by
  have c0 : (0 : Int32).toNatClampNeg = 0 := rfl
  have c1 : (0 + 1 : Int32).toNatClampNeg = 1 := by decide
  unfold f_X5_isNew
  show f_X5_isNew_2 (4093 + 1 + 1 + 1) S v 0 = _
  rw [f_X5_isNew_2, hS, if_neg (show ¬ nI 2 ≤ 0 by decide), if_neg (show ¬ (3 : Int32) ≤ 0 by decide), if_pos (show zIn 0 3 = true by decide), c0]
  by_cases c : S.2.1 0 = v
  · rw [if_pos c, if_pos c]
  · rw [if_neg c, if_neg c, f_X5_isNew_2, hS, if_neg (show ¬ nI 2 ≤ 0 + 1 by decide), if_neg (show ¬ (3 : Int32) ≤ 0 + 1 by decide), if_pos (show zIn (0 + 1) 3 = true by decide), c1]
    by_cases d : S.2.1 1 = v
    · rw [if_pos d, if_pos d]
    · rw [if_neg d, if_neg d, f_X5_isNew_2, hS, if_pos (show nI 2 ≤ 0 + 1 + 1 by decide)]
theorem x5_figT {lo hi d : Nat} (h1 : lo ≤ d) (h2 : d ≤ hi) (hc : (c = 99 ∧ lo = 2 ∧ hi = 8) ∨ (c = 102 ∧ lo = 0 ∧ hi = 9)) (e : v - 48 = nI d) : f_X5_partOf S c v = some (nI d) := by
  unfold f_X5_partOf
  rcases hc with ⟨rfl, rfl, rfl⟩ | ⟨rfl, rfl, rfl⟩
  · rw [if_pos rfl, e, if_neg (show ¬ nI d < (2 : Int32) from nI_nlt h1 (by omega)), if_neg (show ¬ (8 : Int32) < nI d from nI_nlt h2 (by decide))]
  · rw [if_neg (by decide), if_pos rfl, e, if_neg (nI_pos (by omega)), if_neg (show ¬ (9 : Int32) < nI d from nI_nlt h2 (by decide))]
theorem x5_figF {lo hi : Nat} (hc : (c = 99 ∧ lo = 2 ∧ hi = 8) ∨ (c = 102 ∧ lo = 0 ∧ hi = 9)) (e : v - 48 < nI lo ∨ nI (hi + 1) ≤ v - 48) : f_X5_partOf S c v = some (-9) := by
  unfold f_X5_partOf
  rcases hc with ⟨rfl, rfl, rfl⟩ | ⟨rfl, rfl, rfl⟩
  · rw [if_pos rfl]
    by_cases q : v - 48 < 2
    · rw [if_pos q]
    · rw [if_neg q, if_pos (show (8 : Int32) < v - 48 from ge_lt (n := 8) (e.resolve_left q) (by decide))]
  · rw [if_neg (by decide), if_pos rfl]
    by_cases q : v - 48 < 0
    · rw [if_pos q]
    · rw [if_neg q, if_pos (show (9 : Int32) < v - 48 from ge_lt (n := 9) (e.resolve_left q) (by decide))]
theorem x5_let {n d : Nat} (hS : S.1.2.2.2.2.2.1 = nI n) (hn : n ≤ 8) (hd : d < n) (e : v - 65 = nI d) {b : Int32} (hb : f_X5_isNew S (nI d) = some b) : f_X5_partOf S 120 v = some (if b = 0 then -9 else nI d) := by
  unfold f_X5_partOf
  rw [if_neg (by decide), if_neg (by decide), e, x2_in hS hn hd, Option.bind_some, if_neg i10, hb, Option.bind_some]
  by_cases q : b = 0
  · rw [if_pos q, if_pos q]
  · rw [if_neg q, if_neg q]
theorem x5_letF {n : Nat} (hS : S.1.2.2.2.2.2.1 = nI n) (e : v - 65 < 0 ∨ nI n ≤ v - 65) : f_X5_partOf S 120 v = some (-9) := by
  unfold f_X5_partOf
  rw [if_neg (by decide), if_neg (by decide), x2_out hS e, Option.bind_some, if_pos rfl]
end
