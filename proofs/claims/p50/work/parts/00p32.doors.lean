/-! THE STEPS: doors, quarrels -/
theorem kI_eq {p y : Nat} (hp : p < 8 ∨ p = 99) (hy : y < 8) : kI p = nI y ↔ p = y := by
  rcases hp with hp | hp
  · rw [kI_lt hp, nI_eq (by omega) (by omega)]
  · subst hp
    rw [kI_99]
    exact ⟨fun e => absurd e (m9_nI (by omega)), fun e => by omega⟩
theorem kI_m9 {p : Nat} (hp : p < 8 ∨ p = 99) : kI p = -9 ↔ p = 99 := by
  rcases hp with hp | hp
  · rw [kI_lt hp]
    exact ⟨fun e => absurd e (nI_m9 (by omega)), fun e => by omega⟩
  · subst hp
    exact ⟨fun _ => rfl, fun _ => kI_99⟩
theorem AV.o {a : AJ} (hV : AV a) {x : Nat} (hx : x < aN a) : aO a x < 8 ∨ aO a x = 99 := by
  obtain ⟨-, -, -, h4, h5, -⟩ := hV.2.2 x hx
  have := hV.2.1
  by_cases c : aK a x = 1 ∨ aK a x = 5
  · exact Or.inl (by have := (h4 c).1; omega)
  · exact Or.inr (h5 c)
theorem AV.p {a : AJ} (hV : AV a) {x : Nat} (hx : x < aN a) : aP a x < 8 ∨ aP a x = 99 := by
  obtain ⟨-, h2, h3, -⟩ := hV.2.2 x hx
  have := hV.2.1
  by_cases c : aK a x = 2
  · exact Or.inr (h2 c)
  · exact Or.inl (by have := (h3 c).1; omega)
/-- what a door tells -/
def dI (a : AJ) (x j : Nat) : Int32 := if j = 0 then nI (aK a x) else if j = 1 then kI (aP a x) else if j = 2 then kI (aO a x) else nI (aL a x)
theorem x2_door {J : VX2} {a : AJ} (hJ : JR J a) (hn : aN a ≤ 8) {x j : Nat} (hx : x < aN a) (hj : j < 4) : f_X2_doorAnswer J (nI x) (nI j) = some (dI a x j) := by
  obtain ⟨g1, g2, g3, g4, g5⟩ := hJ.2.2.2 x hx
  unfold f_X2_doorAnswer
  rw [x2_in hJ.1 hn hx, Option.bind_some, if_neg i10, zIn_t (show x < 8 by omega) (by decide), nI_clamp (by omega), g1, g2, g3, g4]
  simp only [if_T]
  have h : j = 0 ∨ j = 1 ∨ j = 2 ∨ j = 3 := by omega
  rcases h with rfl | rfl | rfl | rfl
  · rw [if_pos (by decide)]; rfl
  · rw [if_neg (by decide), if_pos (by decide)]; rfl
  · rw [if_neg (by decide), if_neg (by decide), if_pos (by decide)]; rfl
  · rw [if_neg (by decide), if_neg (by decide), if_neg (by decide)]; rfl
theorem m_door {M : VX11} {a : AJ} (hM : MR M a) {x j : Nat} (hx : x < aN a) (hj : j < 4) : M.2.2.2.2.2.2.2.2.2.2.2.1 (4 * x + j) = dI a x j := by
  obtain ⟨g1, g2, g3, g4, g5⟩ := hM.2 x hx
  have h : j = 0 ∨ j = 1 ∨ j = 2 ∨ j = 3 := by omega
  rcases h with rfl | rfl | rfl | rfl
  · exact g1
  · exact g2
  · exact g3
  · exact g4
/-- whether a door of kind k is of kind j -/
def ofB (k j : Nat) : Bool := k == j || (j == 1 && k == 5) || (j == 3 && k == 4)
theorem x2_isOf {J : VX2} {a : AJ} (hJ : JR J a) (hV : AV a) {x j : Nat} (hx : x < aN a) (hj : j ≤ 5) : f_X2_isOf J (nI x) (nI j) = some (bI (ofB (aK a x) j)) := by
  have hn := hV.2.1
  have hk := (hV.2.2 x hx).1
  unfold f_X2_isOf
  rw [x2_in hJ.1 hn hx, Option.bind_some, if_neg i10, zIn_t (show x < 8 by omega) (by decide), if_pos rfl, nI_clamp (by omega), (hJ.2.2.2 x hx).1]
  revert hk
  generalize aK a x = k
  intro hk
  have h : k = 0 ∨ k = 1 ∨ k = 2 ∨ k = 3 ∨ k = 4 ∨ k = 5 := by omega
  have h2 : j = 0 ∨ j = 1 ∨ j = 2 ∨ j = 3 ∨ j = 4 ∨ j = 5 := by omega
  rcases h with rfl | rfl | rfl | rfl | rfl | rfl <;> rcases h2 with rfl | rfl | rfl | rfl | rfl | rfl <;> rfl
theorem x2_may {J : VX2} {a : AJ} (hJ : JR J a) (hV : AV a) {x y : Nat} (hx : x < aN a) (hy : y < aN a) : f_X2_mayKeep J (nI x) (nI y) = some (bI (decide (y ≠ x ∧ aK a x ≠ 2 ∧ aO a x ≠ y))) := by
  have hn := hV.2.1
  obtain ⟨g1, g2, g3, g4, g5⟩ := hJ.2.2.2 x hx
  have hk := (hV.2.2 x hx).1
  unfold f_X2_mayKeep
  rw [x2_in hJ.1 hn hx, Option.bind_some, if_neg i10, x2_in hJ.1 hn hy, Option.bind_some, if_neg i10, zIn_t (show x < 8 by omega) (by decide), nI_clamp (by omega), g1, g3]
  simp only [if_T]
  by_cases c1 : y = x
  · rw [if_pos (by rw [c1]), decide_eq_false (fun q => q.1 c1)]; rfl
  rw [if_neg (fun e => c1 ((nI_eq (by omega) (by omega)).1 e).symm)]
  by_cases c2 : aK a x = 2
  · rw [if_pos (by rw [c2]; rfl), decide_eq_false (fun q => q.2.1 c2)]; rfl
  rw [if_neg (fun e : nI (aK a x) = 2 => c2 ((nI_eq (by omega) (by decide)).1 e))]
  by_cases c3 : aO a x = y
  · rw [if_pos ((kI_eq (hV.o hx) (by omega)).2 c3), decide_eq_false (fun q => q.2.2 c3)]; rfl
  · rw [if_neg (fun e => c3 ((kI_eq (hV.o hx) (by omega)).1 e)), decide_eq_true ⟨c1, c2, c3⟩]; rfl
theorem x2_mayF {J : VX2} {a : AJ} (hJ : JR J a) (hn : aN a ≤ 8) {x : Nat} (hx : x < aN a) {v : Int32} (hv : v < 0 ∨ nI (aN a) ≤ v) : f_X2_mayKeep J (nI x) v = some 0 := by
  unfold f_X2_mayKeep
  rw [x2_in hJ.1 hn hx, Option.bind_some, if_neg i10, x2_out hJ.1 hv, Option.bind_some, if_pos rfl]
theorem m_may {M : VX11} {a : AJ} (hM : MR M a) (hV : AV a) {x y : Nat} (hx : x < aN a) (hy : y < 8) : f_X11_mayKeep M (nI x) (nI y) = some (bI (decide (y ≠ x ∧ aO a x ≠ y))) := by
  have hn := hV.2.1
  unfold f_X11_mayKeep
  rw [m_other hM hn hx, Option.bind_some]
  by_cases c1 : y = x
  · rw [if_pos (by rw [c1]), decide_eq_false (fun q => q.1 c1)]; rfl
  rw [if_neg (fun e => c1 ((nI_eq (by omega) (by omega)).1 e))]
  by_cases c3 : aO a x = y
  · rw [if_pos ((kI_eq (hV.o hx) hy).2 c3).symm, decide_eq_false (fun q => q.2 c3)]; rfl
  · rw [if_neg (fun e => c3 ((kI_eq (hV.o hx) hy).1 e.symm)), decide_eq_true ⟨c1, c3⟩]; rfl
/-! a first key to another keeper -/
def aKy (a : AJ) (x y : Nat) : AJ := (aN a, aK a, fun z => if z = x then y else aP a z, aO a, aL a, aF a)
theorem AV.key {a : AJ} (hV : AV a) {x y : Nat} (hk : aK a x ≠ 2) (hy : y < aN a) (hyx : y ≠ x) (ho : aO a x ≠ y) : AV (aKy a x y) := by
  refine ⟨hV.1, hV.2.1, fun z hz => ?_⟩
  obtain ⟨h1, h2, h3, h4⟩ := hV.2.2 z hz
  show aK a z ≤ 5 ∧ (aK a z = 2 → (if z = x then y else aP a z) = 99) ∧ (aK a z ≠ 2 → (if z = x then y else aP a z) < aN a ∧ (if z = x then y else aP a z) ≠ z ∧ aO a z ≠ (if z = x then y else aP a z)) ∧ _
  by_cases c : z = x
  · subst c
    rw [if_pos rfl]
    exact ⟨h1, fun e => absurd e hk, fun _ => ⟨hy, hyx, ho⟩, h4⟩
  · rw [if_neg c]
    exact ⟨h1, h2, h3, h4⟩
theorem JR.key {J : VX2} {a : AJ} (hJ : JR J a) {x y : Nat} (hy : y < 8) : JR ((J.1, upd J.2.1 x (nI y), J.2.2.1, J.2.2.2.1, J.2.2.2.2.1, J.2.2.2.2.2.1, J.2.2.2.2.2.2.1, J.2.2.2.2.2.2.2)) (aKy a x y) := by
  refine ⟨hJ.1, hJ.2.1, hJ.2.2.1, fun z hz => ?_⟩
  obtain ⟨g1, g2, g3⟩ := hJ.2.2.2 z hz
  refine ⟨g1, ?_, g3⟩
  show upd J.2.1 x (nI y) z = kI (if z = x then y else aP a z)
  rw [upd_at]
  by_cases c : z = x
  · rw [if_pos c, if_pos c, kI_lt hy]
  · rw [if_neg c, if_neg c, g2]
theorem MR.key {M : VX11} {a : AJ} (hM : MR M a) {x y : Nat} (hy : y < 8) : MR ((M.1, M.2.1, M.2.2.1, M.2.2.2.1, M.2.2.2.2.1, M.2.2.2.2.2.1, M.2.2.2.2.2.2.1, M.2.2.2.2.2.2.2.1, M.2.2.2.2.2.2.2.2.1, M.2.2.2.2.2.2.2.2.2.1, M.2.2.2.2.2.2.2.2.2.2.1, upd M.2.2.2.2.2.2.2.2.2.2.2.1 (4 * x + 1) (nI y), M.2.2.2.2.2.2.2.2.2.2.2.2.1, M.2.2.2.2.2.2.2.2.2.2.2.2.2.1, M.2.2.2.2.2.2.2.2.2.2.2.2.2.2.1, M.2.2.2.2.2.2.2.2.2.2.2.2.2.2.2.1, M.2.2.2.2.2.2.2.2.2.2.2.2.2.2.2.2.1, M.2.2.2.2.2.2.2.2.2.2.2.2.2.2.2.2.2.1, M.2.2.2.2.2.2.2.2.2.2.2.2.2.2.2.2.2.2.1, M.2.2.2.2.2.2.2.2.2.2.2.2.2.2.2.2.2.2.2.1, M.2.2.2.2.2.2.2.2.2.2.2.2.2.2.2.2.2.2.2.2.1, M.2.2.2.2.2.2.2.2.2.2.2.2.2.2.2.2.2.2.2.2.2.1, M.2.2.2.2.2.2.2.2.2.2.2.2.2.2.2.2.2.2.2.2.2.2.1, M.2.2.2.2.2.2.2.2.2.2.2.2.2.2.2.2.2.2.2.2.2.2.2.1, M.2.2.2.2.2.2.2.2.2.2.2.2.2.2.2.2.2.2.2.2.2.2.2.2.1, M.2.2.2.2.2.2.2.2.2.2.2.2.2.2.2.2.2.2.2.2.2.2.2.2.2.1, M.2.2.2.2.2.2.2.2.2.2.2.2.2.2.2.2.2.2.2.2.2.2.2.2.2.2.1, M.2.2.2.2.2.2.2.2.2.2.2.2.2.2.2.2.2.2.2.2.2.2.2.2.2.2.2.1, M.2.2.2.2.2.2.2.2.2.2.2.2.2.2.2.2.2.2.2.2.2.2.2.2.2.2.2.2.1, M.2.2.2.2.2.2.2.2.2.2.2.2.2.2.2.2.2.2.2.2.2.2.2.2.2.2.2.2.2.1, M.2.2.2.2.2.2.2.2.2.2.2.2.2.2.2.2.2.2.2.2.2.2.2.2.2.2.2.2.2.2)) (aKy a x y) := by
  refine ⟨hM.1, fun z hz => ?_⟩
  obtain ⟨g1, g2, g3, g4, g5⟩ := hM.2 z hz
  show upd M.2.2.2.2.2.2.2.2.2.2.2.1 (4 * x + 1) (nI y) (4 * z) = _ ∧ upd M.2.2.2.2.2.2.2.2.2.2.2.1 (4 * x + 1) (nI y) (4 * z + 1) = kI (if z = x then y else aP a z) ∧ upd M.2.2.2.2.2.2.2.2.2.2.2.1 (4 * x + 1) (nI y) (4 * z + 2) = _ ∧ upd M.2.2.2.2.2.2.2.2.2.2.2.1 (4 * x + 1) (nI y) (4 * z + 3) = _ ∧ _
  rw [upd_at, upd_at, upd_at, upd_at, if_neg (by omega), if_neg (show ¬ 4 * z + 2 = 4 * x + 1 by omega), if_neg (show ¬ 4 * z + 3 = 4 * x + 1 by omega)]
  refine ⟨g1, ?_, g3, g4, g5⟩
  by_cases c : z = x
  · rw [if_pos (by omega), if_pos c, kI_lt hy]
  · rw [if_neg (by omega), if_neg c, g2]
theorem x2_setKeeper {J : VX2} {n x : Nat} (hJ : J.2.2.2.2.2.1 = nI n) (hn : n ≤ 8) (hx : x < n) (v : Int32) : f_X2_setKeeper J (nI x) v = some ((J.1, upd J.2.1 x v, J.2.2.1, J.2.2.2.1, J.2.2.2.2.1, J.2.2.2.2.2.1, J.2.2.2.2.2.2.1, J.2.2.2.2.2.2.2)) := by
  unfold f_X2_setKeeper
  rw [x2_in hJ hn hx, Option.bind_some, if_neg i10, zIn_t (show x < 8 by omega) (by decide), if_pos rfl, nI_clamp (by omega)]
theorem x2_keeper {J : VX2} {a : AJ} (hJ : JR J a) (hn : aN a ≤ 8) {x : Nat} (hx : x < aN a) : f_X2_keeperOf J (nI x) = some (kI (aP a x)) := by
  unfold f_X2_keeperOf
  rw [x2_in hJ.1 hn hx, Option.bind_some, if_neg i10, zIn_t (show x < 8 by omega) (by decide), if_pos rfl, nI_clamp (by omega), (hJ.2.2.2 x hx).2.1]
theorem x2_foes {J : VX2} {a : AJ} (hJ : JR J a) (hn : aN a ≤ 8) {x : Nat} (hx : x < aN a) : f_X2_foesOf J (nI x) = some (nI (aF a x)) := by
  unfold f_X2_foesOf
  rw [x2_in hJ.1 hn hx, Option.bind_some, if_neg i10, zIn_t (show x < 8 by omega) (by decide), if_pos rfl, nI_clamp (by omega), (hJ.2.2.2 x hx).2.2.2.2]
section
variable {S : VX10} {M : VX11}
theorem st_foes (hR : RR S M) (v1 : Int32) : ∃ r : Int32, f_X10_foes S v1 = some r ∧ f_X11_foes M v1 = some r ∧ RR S M := by
  obtain ⟨hT, hr6, ht, a, ⟨hV, hJ, hM⟩, hE, hZ⟩ := id hR
  have hn := hV.2.1
  unfold f_X10_foes f_X11_foes
  rcases ix2 v1 (n := aN a) (by omega) with h | ⟨x, hx, rfl⟩
  · exact ⟨-1, by rw [x2_out hJ.1 h] <;> rfl, by rw [m_cell0 hM.1 hn h] <;> rfl, hR⟩
  · refine ⟨nI (aF a x), ?_, ?_, hR⟩
    · rw [x2_in hJ.1 hn hx, Option.bind_some, if_neg i10, x2_foes hJ hn hx] <;> rfl
    · rw [m_cell hM.1 hn hx, Option.bind_some, if_neg i10, zIn_t (show x < 8 by omega) (by decide), if_pos rfl, nI_clamp (by omega), (hM.2 x hx).2.2.2.2]
theorem st_door (hR : RR S M) (v1 v2 : Int32) : ∃ r : Int32, ∃ S2 : VX10, ∃ M2 : VX11, f_X10_door S v1 v2 = some (r, S2) ∧ f_X11_door M v1 v2 = some (r, M2) ∧ RR S2 M2 := by
  obtain ⟨hT, hr6, ht, a, ⟨hV, hJ, hM⟩, hE, hZ⟩ := id hR
  have hn := hV.2.1
  unfold f_X10_door f_X11_door
  rcases ix2 v1 (n := aN a) (by omega) with h | ⟨x, hx, rfl⟩
  · exact ⟨-1, S, M, by rw [x2_out hJ.1 h] <;> rfl, by rw [m_cell0 hM.1 hn h] <;> rfl, hR⟩
  rw [x2_in hJ.1 hn hx, Option.bind_some, if_neg i10, m_cell hM.1 hn hx, Option.bind_some, if_neg i10]
  rcases ix2 v2 (n := 4) (by decide) with h | ⟨j, hj, rfl⟩
  · refine ⟨-1, S, M, ?_, ?_, hR⟩
    · by_cases h0 : v2 < 0
      · rw [if_pos h0]
      · rw [if_neg h0, if_neg (show ¬ v2 < (4 : Int32) from ge_nlt (n := 4) (h.resolve_left h0))]
    · rw [show f_X11_in v2 0 3 = some 0 from m_inF (lo := 0) (hi := 3) h (by decide)] <;> rfl
  · refine ⟨1, _, _, ?_, ?_, hR.tell (dI a x j)⟩
    · rw [if_neg (nI_pos (by omega)), if_pos (show nI j < (4 : Int32) from nI_lt hj (by decide)), x2_door hJ hn hx hj] <;> rfl
    · rw [show f_X11_in (nI j) 0 3 = some 1 from m_inT (lo := 0) (hi := 3) (Nat.zero_le _) (by omega) (by decide), Option.bind_some, if_neg i10, show (4 : Int32) * nI x = nI (4 * x) from pk_mul 4 x, nI_add, zIn_t (show 4 * x + j < 32 by omega) (by decide), if_pos rfl, nI_clamp (by omega), m_door hM hx hj] <;> rfl
theorem st_key (hR : RR S M) (v1 v2 : Int32) : ∃ r : Int32, ∃ S2 : VX10, ∃ M2 : VX11, f_X10_key S v1 v2 = some (r, S2) ∧ f_X11_key M v1 v2 = some (r, M2) ∧ RR S2 M2 := by
  obtain ⟨hT, hr6, ht, a, ⟨hV, hJ, hM⟩, hE, hZ⟩ := id hR
  have hn := hV.2.1
  unfold f_X10_key f_X11_key
  rcases ix2 v1 (n := aN a) (by omega) with h | ⟨x, hx, rfl⟩
  · exact ⟨-1, S, M, by rw [x2_out hJ.1 h] <;> rfl, by rw [m_cell0 hM.1 hn h] <;> rfl, hR⟩
  rw [x2_in hJ.1 hn hx, Option.bind_some, if_neg i10, m_cell hM.1 hn hx, Option.bind_some, if_neg i10]
  rcases ix2 v2 (n := aN a) (by omega) with h | ⟨y, hy, rfl⟩
  · exact ⟨-1, S, M, by rw [x2_out hJ.1 h] <;> rfl, by rw [m_cell0 hM.1 hn h] <;> rfl, hR⟩
  rw [x2_in hJ.1 hn hy, Option.bind_some, if_neg i10, m_cell hM.1 hn hy, Option.bind_some, if_neg i10]
  by_cases c0 : y = x
  · exact ⟨-1, S, M, by rw [c0, if_pos rfl], by rw [c0, if_pos rfl], hR⟩
  have c0' : ¬ nI x = nI y := fun e => c0 ((nI_eq (by omega) (by omega)).1 e).symm
  have k41 : f_X11_key_41 M = some (-3, met M 3) := by
    unfold f_X11_key_41
    rw [show f_X11_meets M 3 = _ from m_meets M (f := 3) (by decide)] <;> rfl
  have hk := (hV.2.2 x hx).1
  rw [if_neg c0', if_neg c0', x2_may hJ hV hx hy, Option.bind_some, m_kind hM hn hx, Option.bind_some, m_other hM hn hx, Option.bind_some, m_keeper hM hn hx, Option.bind_some, k41, x2_keeper hJ hn hx, Option.bind_some, x2_setKeeper hJ.1 hn hx, Option.bind_some]
  by_cases c2 : aK a x = 2
  · refine ⟨-3, _, _, ?_, ?_, hR.found (f := 3) (by decide) (by decide)⟩
    · rw [decide_eq_false (fun q => q.2.1 c2), if_pos (by decide), show f_X9_found S.1 3 = _ from x9_found S.1 (f := 3) (by decide) (by decide)] <;> rfl
    · rw [if_pos (by rw [c2]; rfl)]
  have c2' : ¬ nI (aK a x) = 2 := fun e : nI (aK a x) = 2 => c2 ((nI_eq (by omega) (by decide)).1 e)
  by_cases c3 : aO a x = y
  · refine ⟨-3, _, _, ?_, ?_, hR.found (f := 3) (by decide) (by decide)⟩
    · rw [decide_eq_false (fun q => q.2.2 c3), if_pos (by decide), show f_X9_found S.1 3 = _ from x9_found S.1 (f := 3) (by decide) (by decide)] <;> rfl
    · rw [if_neg c2', if_pos ((kI_eq (hV.o hx) (by omega)).2 c3)]
  refine ⟨kI (aP a x), (S.1, S.2.1, S.2.2.1, S.2.2.2.1, ((S.2.2.2.2.1.1, upd S.2.2.2.2.1.2.1 x (nI y), S.2.2.2.2.1.2.2.1, S.2.2.2.2.1.2.2.2.1, S.2.2.2.2.1.2.2.2.2.1, S.2.2.2.2.1.2.2.2.2.2.1, S.2.2.2.2.1.2.2.2.2.2.2.1, S.2.2.2.2.1.2.2.2.2.2.2.2)), S.2.2.2.2.2.1, S.2.2.2.2.2.2.1, S.2.2.2.2.2.2.2.1, S.2.2.2.2.2.2.2.2.1, S.2.2.2.2.2.2.2.2.2), (M.1, M.2.1, M.2.2.1, M.2.2.2.1, M.2.2.2.2.1, M.2.2.2.2.2.1, M.2.2.2.2.2.2.1, M.2.2.2.2.2.2.2.1, M.2.2.2.2.2.2.2.2.1, M.2.2.2.2.2.2.2.2.2.1, M.2.2.2.2.2.2.2.2.2.2.1, upd M.2.2.2.2.2.2.2.2.2.2.2.1 (4 * x + 1) (nI y), M.2.2.2.2.2.2.2.2.2.2.2.2.1, M.2.2.2.2.2.2.2.2.2.2.2.2.2.1, M.2.2.2.2.2.2.2.2.2.2.2.2.2.2.1, M.2.2.2.2.2.2.2.2.2.2.2.2.2.2.2.1, M.2.2.2.2.2.2.2.2.2.2.2.2.2.2.2.2.1, M.2.2.2.2.2.2.2.2.2.2.2.2.2.2.2.2.2.1, M.2.2.2.2.2.2.2.2.2.2.2.2.2.2.2.2.2.2.1, M.2.2.2.2.2.2.2.2.2.2.2.2.2.2.2.2.2.2.2.1, M.2.2.2.2.2.2.2.2.2.2.2.2.2.2.2.2.2.2.2.2.1, M.2.2.2.2.2.2.2.2.2.2.2.2.2.2.2.2.2.2.2.2.2.1, M.2.2.2.2.2.2.2.2.2.2.2.2.2.2.2.2.2.2.2.2.2.2.1, M.2.2.2.2.2.2.2.2.2.2.2.2.2.2.2.2.2.2.2.2.2.2.2.1, M.2.2.2.2.2.2.2.2.2.2.2.2.2.2.2.2.2.2.2.2.2.2.2.2.1, M.2.2.2.2.2.2.2.2.2.2.2.2.2.2.2.2.2.2.2.2.2.2.2.2.2.1, M.2.2.2.2.2.2.2.2.2.2.2.2.2.2.2.2.2.2.2.2.2.2.2.2.2.2.1, M.2.2.2.2.2.2.2.2.2.2.2.2.2.2.2.2.2.2.2.2.2.2.2.2.2.2.2.1, M.2.2.2.2.2.2.2.2.2.2.2.2.2.2.2.2.2.2.2.2.2.2.2.2.2.2.2.2.1, M.2.2.2.2.2.2.2.2.2.2.2.2.2.2.2.2.2.2.2.2.2.2.2.2.2.2.2.2.2.1, M.2.2.2.2.2.2.2.2.2.2.2.2.2.2.2.2.2.2.2.2.2.2.2.2.2.2.2.2.2.2), ?_, ?_, hT, hr6, ht, aKy a x y, ⟨hV.key c2 hy c0 c3, hJ.key (by omega), hM.key (by omega)⟩, hE, hZ⟩
  · rw [decide_eq_true ⟨c0, c2, c3⟩, if_neg (by decide)]
  · rw [if_neg c2', if_neg (fun e => c3 ((kI_eq (hV.o hx) (by omega)).1 e)), show (4 : Int32) * nI x = nI (4 * x) from pk_mul 4 x, nI_1, zIn_t (show 4 * x + 1 < 32 by omega) (by decide), if_pos rfl, nI_clamp (by omega)]
end
