/-! the reader: what an item tells -/
def RD (D Q : Nat → Int32) (a : AJ) : Prop := ∀ x, x < aN a → D (4 * x) = nI (aK a x) ∧ D (4 * x + 1) = kI (aP a x) ∧ D (4 * x + 2) = kI (aO a x) ∧ D (4 * x + 3) = nI (aL a x) ∧ Q x = nI (aF a x)
def dn (D : Nat → Int32) (x : Nat) (k p o l : Int32) : Nat → Int32 := upd (upd (upd (upd D (4 * x) k) (4 * x + 1) p) (4 * x + 2) o) (4 * x + 3) l
theorem dn_at (D : Nat → Int32) (x : Nat) (k p o l : Int32) : dn D x k p o l (4 * x) = k ∧ dn D x k p o l (4 * x + 1) = p ∧ dn D x k p o l (4 * x + 2) = o ∧ dn D x k p o l (4 * x + 3) = l := by
  unfold dn
  refine ⟨?_, ?_, ?_, ?_⟩
  · rw [upd_at, if_neg (by omega), upd_at, if_neg (by omega), upd_at, if_neg (by omega), upd_at, if_pos rfl]
  · rw [upd_at, if_neg (by omega), upd_at, if_neg (by omega), upd_at, if_pos rfl]
  · rw [upd_at, if_neg (by omega), upd_at, if_pos rfl]
  · rw [upd_at, if_pos rfl]
theorem dn_ne (D : Nat → Int32) {x i : Nat} (k p o l : Int32) (h : i < 4 * x ∨ 4 * x + 4 ≤ i) : dn D x k p o l i = D i := by
  unfold dn
  rw [upd_at, if_neg (by omega), upd_at, if_neg (by omega), upd_at, if_neg (by omega), upd_at, if_neg (by omega)]
theorem m_new (M : VX11) (a1 a2 a3 : Int32) (D Q : Nat → Int32) {x : Nat} (hx : x < 8) (k p o l : Int32) : f_X11_readsNew (mP M a1 a2 a3 D Q) (nI x) k p o l = some (mP M a1 a2 a3 (dn D x k p o l) Q) := by
  unfold f_X11_readsNew
  rw [show (4 : Int32) * nI x = nI (4 * x) from pk_mul 4 x, nI_1, show nI (4 * x) + 2 = nI (4 * x + 2) from nI_add _ 2, show nI (4 * x) + 3 = nI (4 * x + 3) from nI_add _ 3, zIn_t (show 4 * x < 32 by omega) (by decide), zIn_t (show 4 * x + 1 < 32 by omega) (by decide), zIn_t (show 4 * x + 2 < 32 by omega) (by decide), zIn_t (show 4 * x + 3 < 32 by omega) (by decide), if_pos rfl, if_pos rfl, if_pos rfl, if_pos rfl, nI_clamp (by omega), nI_clamp (by omega), nI_clamp (by omega), nI_clamp (by omega)]
  rfl
theorem RD.set {D Q : Nat → Int32} {a : AJ} (h : RD D Q a) (x k p o l : Nat) : RD (dn D x (nI k) (kI p) (kI o) (nI l)) Q (aSt a x k p o l) := fun z hz => by
  obtain ⟨g1, g2, g3, g4, g5⟩ := h z hz
  show _ = nI (if z = x then k else aK a z) ∧ _ = kI (if z = x then p else aP a z) ∧ _ = kI (if z = x then o else aO a z) ∧ _ = nI (if z = x then l else aL a z) ∧ Q z = nI (aF a z)
  by_cases c : z = x
  · subst c
    obtain ⟨d1, d2, d3, d4⟩ := dn_at D z (nI k) (kI p) (kI o) (nI l)
    rw [if_pos rfl, if_pos rfl, if_pos rfl, if_pos rfl]
    exact ⟨d1, d2, d3, d4, g5⟩
  · rw [if_neg c, if_neg c, if_neg c, if_neg c, dn_ne _ _ _ _ _ (by omega), dn_ne _ _ _ _ _ (by omega), dn_ne _ _ _ _ _ (by omega), dn_ne _ _ _ _ _ (by omega)]
    exact ⟨g1, g2, g3, g4, g5⟩
theorem AV.set {a : AJ} (hV : AV a) {x k p o l : Nat} (hk : k ≤ 5) (h1 : k = 2 → p = 99) (h2 : k ≠ 2 → p < aN a ∧ p ≠ x ∧ o ≠ p) (h3 : (k = 1 ∨ k = 5) → o < aN a ∧ o ≠ x) (h4 : ¬ (k = 1 ∨ k = 5) → o = 99) (hl : l ≤ 9) : AV (aSt a x k p o l) := by
  refine ⟨hV.1, hV.2.1, fun z hz => ?_⟩
  obtain ⟨g1, g2, g3, g4, g5, g6, g7, g8, g9⟩ := hV.2.2 z hz
  by_cases c : z = x
  · have eK : aK (aSt a x k p o l) z = k := if_pos c
    have eP : aP (aSt a x k p o l) z = p := if_pos c
    have eO : aO (aSt a x k p o l) z = o := if_pos c
    have eL : aL (aSt a x k p o l) z = l := if_pos c
    unfold AVd
    rw [eK, eP, eO, eL, c]
    rw [c] at g7 g8 g9
    exact ⟨hk, h1, h2, h3, h4, hl, g7, g8, g9⟩
  · have eK : aK (aSt a x k p o l) z = aK a z := if_neg c
    have eP : aP (aSt a x k p o l) z = aP a z := if_neg c
    have eO : aO (aSt a x k p o l) z = aO a z := if_neg c
    have eL : aL (aSt a x k p o l) z = aL a z := if_neg c
    unfold AVd
    rw [eK, eP, eO, eL]
    exact ⟨g1, g2, g3, g4, g5, g6, g7, g8, g9⟩
theorem stb_or (s y : Nat) : s ||| 2 ^ y = stb s y true := Nat.eq_of_testBit_eq fun i => by
  rw [stb_bit, Nat.testBit_or, Nat.testBit_two_pow]
  by_cases c : i = y
  · rw [if_pos c, c]; simp
  · rw [if_neg c, decide_eq_false (fun e => c e.symm), Bool.or_false]
theorem x2_setQ {J : VX2} {a : AJ} (hJ : JR J a) (hn : aN a ≤ 8) {x y : Nat} (hx : x < aN a) (hy : y < aN a) (hxy : y ≠ x) : ∃ J', f_X2_setQuarrel J (nI x) (nI y) 1 = some J' ∧ JR J' (aQu a x y true) := by
  have ex := (hJ.2.2.2 x hx).2.2.2.2
  have ey := (hJ.2.2.2 y hy).2.2.2.2
  have e1 : f_X2_setQuarrel J (nI x) (nI y) (bI true) = some ((J.1, J.2.1, J.2.2.1, J.2.2.2.1, upd (upd J.2.2.2.2.1 x (nI (stb (aF a x) y true))) y (nI (stb (aF a y) x true)), J.2.2.2.2.2.1, J.2.2.2.2.2.2.1, J.2.2.2.2.2.2.2)) := by
    unfold f_X2_setQuarrel
    rw [x2_in hJ.1 hn hx, Option.bind_some, if_neg i10, x2_in hJ.1 hn hy, Option.bind_some, if_neg i10, zIn_t (show x < 8 by omega) (by decide), zIn_t (show y < 8 by omega) (by decide)]
    simp only [if_T]
    rw [nI_clamp (by omega), nI_clamp (by omega), n_one (by omega), n_one (by omega), ex, n_sd, n_bsh true (by omega), n_or, n_bsh true (by omega), upd_at, if_neg hxy, ey, n_sd, n_or]
    rfl
  refine ⟨_, e1, hJ.1, hJ.2.1, hJ.2.2.1, fun z hz => ?_⟩
  obtain ⟨g1, g2, g3, g4, g5⟩ := hJ.2.2.2 z hz
  refine ⟨g1, g2, g3, g4, ?_⟩
  show upd (upd J.2.2.2.2.1 x (nI (stb (aF a x) y true))) y (nI (stb (aF a y) x true)) z = nI (if z = x then stb (aF a x) y true else if z = y then stb (aF a y) x true else aF a z)
  rw [upd_at, upd_at]
  by_cases c1 : z = x
  · rw [if_neg (fun e => hxy (e.symm.trans c1)), if_pos c1, if_pos c1]
  · by_cases c2 : z = y
    · rw [if_pos c2, if_neg c1, if_pos c2]
    · rw [if_neg c2, if_neg c1, if_neg c1, if_neg c2, g5]
theorem RD.qu {D Q : Nat → Int32} {a : AJ} (h : RD D Q a) {x y : Nat} (hx : x < aN a) (hy : y < aN a) (hxy : y ≠ x) : RD D (upd (upd Q x (Q x ||| nI (2 ^ y))) y ((upd Q x (Q x ||| nI (2 ^ y))) y ||| nI (2 ^ x))) (aQu a x y true) := fun z hz => by
  obtain ⟨g1, g2, g3, g4, g5⟩ := h z hz
  refine ⟨g1, g2, g3, g4, ?_⟩
  show _ = nI (if z = x then stb (aF a x) y true else if z = y then stb (aF a y) x true else aF a z)
  rw [upd_at, upd_at, upd_at, if_neg hxy, (h x hx).2.2.2.2, (h y hy).2.2.2.2, n_or, n_or, stb_or, stb_or]
  by_cases c1 : z = x
  · rw [if_neg (fun e => hxy (e.symm.trans c1)), if_pos c1, if_pos c1]
  · by_cases c2 : z = y
    · rw [if_pos c2, if_neg c1, if_pos c2]
    · rw [if_neg c2, if_neg c1, if_neg c1, if_neg c2, g5]
/-! between two items -/
def Bd (S : VX5) (a : AJ) (D Q : Nat → Int32) : Prop := S.2.2.1 = 0 ∧ S.2.2.2.2 = 1 ∧ AV a ∧ 2 ≤ aN a ∧ JR S.1 a ∧ RD D Q a
def Out (P : VX8) (M : VX11) (r k f : Nat) (S : VX5) (p : Nat) (q : Option (Int32 × VX11)) : Prop :=
  (∃ (p' : Nat) (num cells : Int32) (D Q : Nat → Int32) (S' : VX5), p' ≤ k ∧ RC P r k f S p = some (nI p', S') ∧ q = some (0, mP M (nI p') num cells D Q)) ∨
  (∃ (p' : Nat) (num : Int32) (S' : VX5) (f' : Nat) (a : AJ) (D Q : Nat → Int32), p < p' ∧ p' ≤ k ∧ k - p' < f' ∧ Bd S' a D Q ∧ RC P r k f S p = RC P r k f' S' p' ∧ q = some (1, mP M (nI p') num (nI (aN a)) D Q))
/-- what a letter tells -/
theorem letC (v : Int32) {n : Nat} (hn : n ≤ 8) : (v - 65 < 0 ∨ nI n ≤ v - 65) ∨ ∃ d, d < n ∧ v - 65 = nI d := ix2 (v - 65) (n := n) (by omega)
theorem figC (v : Int32) {lo hi : Nat} (hl : lo < 100) (hh : hi < 100) : (v - 48 < nI lo ∨ nI (hi + 1) ≤ v - 48) ∨ ∃ d, lo ≤ d ∧ d ≤ hi ∧ v - 48 = nI d := by
  rcases ix2 (v - 48) (n := hi + 1) (by omega) with (h | h) | ⟨d, hd, e⟩
  · refine Or.inl (Or.inl ?_)
    rw [Int32.lt_iff_toInt_lt, nI_toInt (by omega)]
    rw [Int32.lt_iff_toInt_lt] at h
    have : (0 : Int32).toInt = 0 := by decide
    omega
  · exact Or.inl (Or.inr h)
  · by_cases c : lo ≤ d
    · exact Or.inr ⟨d, c, by omega, e⟩
    · refine Or.inl (Or.inl ?_)
      rw [e]; exact nI_lt (by omega) (by omega)
theorem bAt_let {M : VX11} {r k q d : Nat} (hd : d < 100) (e : bAt M r k q - 65 = nI d) : q < k := Classical.byContradiction fun c => by
  rw [show bAt M r k q = 0 from if_neg c] at e
  have := congrArg Int32.toInt e
  rw [nI_toInt (by omega), show ((0 : Int32) - 65).toInt = -65 by decide] at this
  omega
theorem bAt_fig {M : VX11} {r k q d : Nat} (hd : d < 100) (e : bAt M r k q - 48 = nI d) : q < k := Classical.byContradiction fun c => by
  rw [show bAt M r k q = 0 from if_neg c] at e
  have := congrArg Int32.toInt e
  rw [nI_toInt (by omega), show ((0 : Int32) - 48).toInt = -48 by decide] at this
  omega
def s0 (S : VX5) (J : VX2) (pt : Nat → Int32) (t : Nat) : VX5 := (J, pt, 0, nI t, S.2.2.2.2)
theorem cl_98 {S : VX5} {pt : Nat → Int32} {t : Nat} {J : VX2} (e : f_X2_setDoor S.1 (pt 0) 5 (pt 1) (pt 2) 0 = some J) : f_X5_close (s5 S pt 98 t) = some (s0 S J pt t) := by
  unfold f_X5_close
  rw [if_pos (show zIn 0 3 = true by decide), if_pos (show zIn 1 3 = true by decide), if_pos (show zIn 2 3 = true by decide), if_pos (show (s5 S pt 98 t).2.2.1 = 98 from rfl), show f_X2_setDoor (s5 S pt 98 t).1 ((s5 S pt 98 t).2.1 (0 : Int32).toNatClampNeg) 5 ((s5 S pt 98 t).2.1 (1 : Int32).toNatClampNeg) ((s5 S pt 98 t).2.1 (2 : Int32).toNatClampNeg) 0 = some J from e, Option.bind_some]
  rfl
theorem cl_105 {S : VX5} {pt : Nat → Int32} {t : Nat} {J : VX2} (e : f_X2_setDoor S.1 (pt 0) 2 (-9) (-9) 0 = some J) : f_X5_close (s5 S pt 105 t) = some (s0 S J pt t) := by
  unfold f_X5_close
  rw [if_pos (show zIn 0 3 = true by decide), if_pos (show zIn 1 3 = true by decide), if_pos (show zIn 2 3 = true by decide), if_neg (show ¬ (s5 S pt 105 t).2.2.1 = 98 from (by decide : ¬ (105 : Int32) = 98)), if_pos (show (s5 S pt 105 t).2.2.1 = 105 from rfl), show f_X2_setDoor (s5 S pt 105 t).1 ((s5 S pt 105 t).2.1 (0 : Int32).toNatClampNeg) 2 (-9) (-9) 0 = some J from e, Option.bind_some]
  rfl
theorem cl_107 {S : VX5} {pt : Nat → Int32} {t : Nat} {J : VX2} (e : f_X2_setDoor S.1 (pt 0) 0 (pt 1) (-9) 0 = some J) : f_X5_close (s5 S pt 107 t) = some (s0 S J pt t) := by
  unfold f_X5_close
  rw [if_pos (show zIn 0 3 = true by decide), if_pos (show zIn 1 3 = true by decide), if_pos (show zIn 2 3 = true by decide), if_neg (show ¬ (s5 S pt 107 t).2.2.1 = 98 from (by decide : ¬ (107 : Int32) = 98)), if_neg (show ¬ (s5 S pt 107 t).2.2.1 = 105 from (by decide : ¬ (107 : Int32) = 105)), if_pos (show (s5 S pt 107 t).2.2.1 = 107 from rfl), show f_X2_setDoor (s5 S pt 107 t).1 ((s5 S pt 107 t).2.1 (0 : Int32).toNatClampNeg) 0 ((s5 S pt 107 t).2.1 (1 : Int32).toNatClampNeg) (-9) 0 = some J from e, Option.bind_some]
  rfl
theorem cl_108 {S : VX5} {pt : Nat → Int32} {t : Nat} {J : VX2} (e : f_X2_setDoor S.1 (pt 0) 3 (pt 1) (-9) (pt 2) = some J) : f_X5_close (s5 S pt 108 t) = some (s0 S J pt t) := by
  unfold f_X5_close
  rw [if_pos (show zIn 0 3 = true by decide), if_pos (show zIn 1 3 = true by decide), if_pos (show zIn 2 3 = true by decide), if_neg (show ¬ (s5 S pt 108 t).2.2.1 = 98 from (by decide : ¬ (108 : Int32) = 98)), if_neg (show ¬ (s5 S pt 108 t).2.2.1 = 105 from (by decide : ¬ (108 : Int32) = 105)), if_neg (show ¬ (s5 S pt 108 t).2.2.1 = 107 from (by decide : ¬ (108 : Int32) = 107)), if_pos (show (s5 S pt 108 t).2.2.1 = 108 from rfl), show f_X2_setDoor (s5 S pt 108 t).1 ((s5 S pt 108 t).2.1 (0 : Int32).toNatClampNeg) 3 ((s5 S pt 108 t).2.1 (1 : Int32).toNatClampNeg) (-9) ((s5 S pt 108 t).2.1 (2 : Int32).toNatClampNeg) = some J from e, Option.bind_some]
  rfl
theorem cl_110 {S : VX5} {pt : Nat → Int32} {t : Nat} {J : VX2} (e : f_X2_build S.1 (pt 0) = some J) : f_X5_close (s5 S pt 110 t) = some (((s0 S J pt t).1, (s0 S J pt t).2.1, (s0 S J pt t).2.2.1, (s0 S J pt t).2.2.2.1, 1)) := by
  unfold f_X5_close
  rw [if_pos (show zIn 0 3 = true by decide), if_pos (show zIn 1 3 = true by decide), if_pos (show zIn 2 3 = true by decide), if_neg (show ¬ (s5 S pt 110 t).2.2.1 = 98 from (by decide : ¬ (110 : Int32) = 98)), if_neg (show ¬ (s5 S pt 110 t).2.2.1 = 105 from (by decide : ¬ (110 : Int32) = 105)), if_neg (show ¬ (s5 S pt 110 t).2.2.1 = 107 from (by decide : ¬ (110 : Int32) = 107)), if_neg (show ¬ (s5 S pt 110 t).2.2.1 = 108 from (by decide : ¬ (110 : Int32) = 108)), if_pos (show (s5 S pt 110 t).2.2.1 = 110 from rfl), show f_X2_build (s5 S pt 110 t).1 ((s5 S pt 110 t).2.1 (0 : Int32).toNatClampNeg) = some J from e, Option.bind_some]
  rfl
theorem cl_115 {S : VX5} {pt : Nat → Int32} {t : Nat} {J : VX2} (e : f_X2_setDoor S.1 (pt 0) 4 (pt 1) (-9) (pt 2) = some J) : f_X5_close (s5 S pt 115 t) = some (s0 S J pt t) := by
  unfold f_X5_close
  rw [if_pos (show zIn 0 3 = true by decide), if_pos (show zIn 1 3 = true by decide), if_pos (show zIn 2 3 = true by decide), if_neg (show ¬ (s5 S pt 115 t).2.2.1 = 98 from (by decide : ¬ (115 : Int32) = 98)), if_neg (show ¬ (s5 S pt 115 t).2.2.1 = 105 from (by decide : ¬ (115 : Int32) = 105)), if_neg (show ¬ (s5 S pt 115 t).2.2.1 = 107 from (by decide : ¬ (115 : Int32) = 107)), if_neg (show ¬ (s5 S pt 115 t).2.2.1 = 108 from (by decide : ¬ (115 : Int32) = 108)), if_neg (show ¬ (s5 S pt 115 t).2.2.1 = 110 from (by decide : ¬ (115 : Int32) = 110)), if_pos (show (s5 S pt 115 t).2.2.1 = 115 from rfl), show f_X2_setDoor (s5 S pt 115 t).1 ((s5 S pt 115 t).2.1 (0 : Int32).toNatClampNeg) 4 ((s5 S pt 115 t).2.1 (1 : Int32).toNatClampNeg) (-9) ((s5 S pt 115 t).2.1 (2 : Int32).toNatClampNeg) = some J from e, Option.bind_some]
  rfl
theorem cl_116 {S : VX5} {pt : Nat → Int32} {t : Nat} {J : VX2} (e : f_X2_setDoor S.1 (pt 0) 1 (pt 1) (pt 2) 0 = some J) : f_X5_close (s5 S pt 116 t) = some (s0 S J pt t) := by
  unfold f_X5_close
  rw [if_pos (show zIn 0 3 = true by decide), if_pos (show zIn 1 3 = true by decide), if_pos (show zIn 2 3 = true by decide), if_neg (show ¬ (s5 S pt 116 t).2.2.1 = 98 from (by decide : ¬ (116 : Int32) = 98)), if_neg (show ¬ (s5 S pt 116 t).2.2.1 = 105 from (by decide : ¬ (116 : Int32) = 105)), if_neg (show ¬ (s5 S pt 116 t).2.2.1 = 107 from (by decide : ¬ (116 : Int32) = 107)), if_neg (show ¬ (s5 S pt 116 t).2.2.1 = 108 from (by decide : ¬ (116 : Int32) = 108)), if_neg (show ¬ (s5 S pt 116 t).2.2.1 = 110 from (by decide : ¬ (116 : Int32) = 110)), if_neg (show ¬ (s5 S pt 116 t).2.2.1 = 115 from (by decide : ¬ (116 : Int32) = 115)), if_pos (show (s5 S pt 116 t).2.2.1 = 116 from rfl), show f_X2_setDoor (s5 S pt 116 t).1 ((s5 S pt 116 t).2.1 (0 : Int32).toNatClampNeg) 1 ((s5 S pt 116 t).2.1 (1 : Int32).toNatClampNeg) ((s5 S pt 116 t).2.1 (2 : Int32).toNatClampNeg) 0 = some J from e, Option.bind_some]
  rfl
theorem cl_113 {S : VX5} {pt : Nat → Int32} {t : Nat} {J : VX2} (e : f_X2_setQuarrel S.1 (pt 0) (pt 1) 1 = some J) : f_X5_close (s5 S pt 113 t) = some (s0 S J pt t) := by
  unfold f_X5_close
  rw [if_pos (show zIn 0 3 = true by decide), if_pos (show zIn 1 3 = true by decide), if_pos (show zIn 2 3 = true by decide), if_neg (show ¬ (s5 S pt 113 t).2.2.1 = 98 from (by decide : ¬ (113 : Int32) = 98)), if_neg (show ¬ (s5 S pt 113 t).2.2.1 = 105 from (by decide : ¬ (113 : Int32) = 105)), if_neg (show ¬ (s5 S pt 113 t).2.2.1 = 107 from (by decide : ¬ (113 : Int32) = 107)), if_neg (show ¬ (s5 S pt 113 t).2.2.1 = 108 from (by decide : ¬ (113 : Int32) = 108)), if_neg (show ¬ (s5 S pt 113 t).2.2.1 = 110 from (by decide : ¬ (113 : Int32) = 110)), if_neg (show ¬ (s5 S pt 113 t).2.2.1 = 115 from (by decide : ¬ (113 : Int32) = 115)), if_neg (show ¬ (s5 S pt 113 t).2.2.1 = 116 from (by decide : ¬ (113 : Int32) = 116)), show f_X2_setQuarrel (s5 S pt 113 t).1 ((s5 S pt 113 t).2.1 (0 : Int32).toNatClampNeg) ((s5 S pt 113 t).2.1 (1 : Int32).toNatClampNeg) 1 = some J from e, Option.bind_some]
  rfl
