/-! THE STEPS: ways, dealt -/
theorem sumB_pad {f : Nat → Nat} {n : Nat} : ∀ k, n ≤ k → (∀ x, n ≤ x → f x = 0) → sumB f k = sumB f n
  | 0, h, _ => by rw [show n = 0 by omega]
  | k + 1, h, hf => by
    by_cases e : n = k + 1
    · rw [e]
    · rw [sumB, sumB_pad k (by omega) hf, hf k (by omega), Nat.add_zero]
theorem sd_eq {t x : Nat} : sd t (2 ^ x) = t ↔ t.testBit x = false := by
  constructor
  · intro e
    rw [← e, sd_bit, Nat.testBit_two_pow_self, Bool.not_true, Bool.and_false]
  · intro h
    refine Nat.eq_of_testBit_eq fun i => ?_
    rw [sd_bit, Nat.testBit_two_pow]
    by_cases e : x = i
    · subst e; rw [h]; rfl
    · rw [decide_eq_false e, Bool.not_false, Bool.and_true]
theorem sd_all {t n : Nat} (h : t < 2 ^ n) : sd t (2 ^ n - 1) = 0 := sd0.2 fun i hi => in_all h hi
theorem bit_lt {t n x : Nat} (h : t < 2 ^ n) (hb : t.testBit x = true) : x < n := Classical.byContradiction fun c => by
  rw [s_out h (show n ≤ x by omega)] at hb; cases hb
/-- the class: in how many orders, sets within one -/
theorem x3_to {J : VX2} {a : AJ} (hJ : JR J a) (hV : AV a) {S : VX3} {set t : Nat} {W : Nat → Nat} (ht0 : 0 < t) (htn : t < 2 ^ aN a) (hts : sd t set = 0) (hW : IsW a (2 ^ aN a - 1) (2 ^ aN a) W) (hS : ∀ u, u < t → S.1 u = nI (if sd u set = 0 then W u else 0)) :
    f_X3_numberTo S J (nI t) = some (nI (W t)) := by
  have hn := hV.2.1
  have hN := hV.N
  have e : W t = sumB (fun x => if x < aN a then wayC a (2 ^ aN a - 1) W t x else 0) 8 := by
    rw [hW.2 t ht0 htn, if_pos (sd_all htn), sumB_pad 8 hn (fun x hx => if_neg (by omega))]
    exact sumB_congr _ fun x hx => (if_pos hx).symm
  rw [e]
  unfold f_X3_numberTo
  refine loop_is (fun f v3 v4 => f_X3_numberTo_5 f S J (nI t) v3 v4) (fun k => nI (sumB (fun x => if x < aN a then wayC a (2 ^ aN a - 1) W t x else 0) k)) 0 8 _ (fun n => ?_) (fun n x _ hx => ?_) 4096 0 (Nat.le_refl _) (by omega) (by omega)
  · show f_X3_numberTo_5 (n + 1) S J (nI t) _ (nI 8) = _
    rw [f_X3_numberTo_5, if_pos (by decide)]
  · show f_X3_numberTo_5 (n + 1) S J (nI t) (nI (sumB (fun x => if x < aN a then wayC a (2 ^ aN a - 1) W t x else 0) x)) (nI x) = f_X3_numberTo_5 n S J (nI t) (nI (sumB (fun x => if x < aN a then wayC a (2 ^ aN a - 1) W t x else 0) x + (if x < aN a then wayC a (2 ^ aN a - 1) W t x else 0))) (nI (x + 1))
    generalize sumB (fun x => if x < aN a then wayC a (2 ^ aN a - 1) W t x else 0) x = s0
    rw [f_X3_numberTo_5, if_neg (show ¬ (8 : Int32) ≤ nI x from nI_ge hx (by decide)), n_one (by omega), n_sd, nI_1]
    by_cases hb : t.testBit x = true
    · have hxn := bit_lt htn hb
      have hless := sd_less hb
      have hsub : sd (sd t (2 ^ x)) set = 0 := sd0.2 fun i hi => sd0.1 hts i (by rw [sd_bit] at hi; exact (Bool.and_eq_true_iff.1 hi).1)
      rw [if_neg (fun q => by have := sd_eq.1 ((nI_eq (show sd t (2 ^ x) < 2 ^ 31 by omega) (show t < 2 ^ 31 by omega)).1 q); rw [hb] at this; cases this), x2_all hJ.1 hn, Option.bind_some, x2_costA hJ hV hxn (show sd t (2 ^ x) < 2 ^ aN a by omega), Option.bind_some, if_pos hxn]
      unfold wayC
      cases hc : costC a x (sd t (2 ^ x)) (2 ^ aN a - 1) with
      | none => rw [oI_none, if_pos rfl, if_neg (fun q => q.2 rfl), Nat.add_zero s0]
      | some c =>
        have := costC_le hV hxn hc
        rw [oI_some, if_neg (nI_m9 (by omega)), zIn_t (show sd t (2 ^ x) < 256 by omega) (by decide), if_pos rfl, nI_clamp (by omega), hS _ hless, if_pos hsub, nI_add, if_pos ⟨hb, by simp⟩]
    · have hb0 : t.testBit x = false := by simpa using hb
      rw [if_pos (by rw [sd_eq.2 hb0])]
      have e0 : (if x < aN a then wayC a (2 ^ aN a - 1) W t x else 0) = 0 := by
        by_cases d : x < aN a
        · rw [if_pos d]; unfold wayC; exact if_neg (fun q => hb q.1)
        · exact if_neg d
      rw [e0, Nat.add_zero s0]
theorem x3_many {J : VX2} {a : AJ} (hJ : JR J a) (hV : AV a) (S : VX3) {set : Nat} {W : Nat → Nat} (hs : set < 2 ^ aN a) (hW : IsW a (2 ^ aN a - 1) (2 ^ aN a) W) :
    ∃ S', f_X3_howMany S J (nI set) = some (nI (W set), S') := by
  have hn := hV.2.1
  have hN := hV.N
  unfold f_X3_howMany
  rw [if_neg (nI_pos (by omega)), if_pos (show nI set < (256 : Int32) from nI_lt (show set < 256 by omega) (by decide)), if_pos (by decide)]
  refine loop_up (fun f (S : VX3) v3 => f_X3_howMany_22 f S J (nI set) v3) (set + 1) (fun k S => 0 < k ∧ ∀ u, u < k → S.1 u = nI (if sd u set = 0 then W u else 0)) (fun o => ∃ S', o = some (nI (W set), S')) ?_ ?_ 4096 1 ((upd S.1 0 1, S.2.1, S.2.2.1, S.2.2.2)) (by omega) ⟨by decide, fun u hu => ?_⟩ (by omega)
  · rintro n S ⟨-, h⟩
    refine ⟨S, ?_⟩
    show f_X3_howMany_22 (n + 1) S J (nI set) (nI (set + 1)) = _
    rw [f_X3_howMany_22, if_pos (nI_lt (by omega) (by omega)), zIn_t (show set < 256 by omega) (by decide), if_pos rfl, nI_clamp (by omega), h set (by omega), if_pos (sd0.2 fun i hi => hi)]
  · rintro n S t ht ⟨h0, h⟩
    right
    show ∃ S' : VX3, (0 < t + 1 ∧ ∀ u, u < t + 1 → S'.1 u = nI (if sd u set = 0 then W u else 0)) ∧ f_X3_howMany_22 (n + 1) S J (nI set) (nI t) = f_X3_howMany_22 n S' J (nI set) (nI (t + 1))
    rw [f_X3_howMany_22, if_neg (nI_nlt (by omega) (by omega)), n_sd, zIn_t (show t < 256 by omega) (by decide), nI_clamp (by omega), nI_1]
    have ext : ∀ v : Int32, v = nI (if sd t set = 0 then W t else 0) → ∀ u, u < t + 1 → upd S.1 t v u = nI (if sd u set = 0 then W u else 0) := fun v hv u hu => by
      rw [upd_at]
      by_cases e : u = t
      · rw [if_pos e, hv, e]
      · rw [if_neg e]; exact h u (by omega)
    by_cases c : sd t set = 0
    · rw [if_pos (by rw [c]; rfl), x3_to hJ hV h0 (by omega) c hW h, Option.bind_some, if_pos rfl]
      exact ⟨(upd S.1 t (nI (W t)), S.2.1, S.2.2.1, S.2.2.2), ⟨by omega, ext _ (by rw [if_pos c])⟩, rfl⟩
    · rw [if_neg (fun e => c ((nI0_eq (Nat.lt_of_lt_of_le (sd_lt (show t < 2 ^ aN a by omega)) (by omega))).1 e)), if_pos rfl]
      exact ⟨(upd S.1 t 0, S.2.1, S.2.2.1, S.2.2.2), ⟨by omega, ext _ (by rw [if_neg c]; rfl)⟩, rfl⟩
  · have : u = 0 := by omega
    subst this
    show upd S.1 0 1 0 = _
    rw [upd_at, if_pos rfl, if_pos (by unfold sd; rw [Nat.zero_and, Nat.xor_zero]), hW.1]; rfl
section
variable {S : VX10} {M : VX11}
theorem st_ways (hR : RR S M) (v1 : Int32) : ∃ r : Int32, ∃ S2 : VX10, ∃ M2 : VX11, f_X10_ways S v1 = some (r, S2) ∧ f_X11_ways M v1 = some (r, M2) ∧ RR S2 M2 := by
  obtain ⟨hT, hr6, ht, a, hA, hE, hZ⟩ := id hR
  obtain ⟨hV, hJ, hM⟩ := id hA
  have hn := hV.2.1
  have hN := hV.N
  unfold f_X10_ways f_X11_ways
  rcases ix2 v1 (n := 2 ^ aN a) (by omega) with h | ⟨t, ht2, rfl⟩
  · exact ⟨-1, S, M, by rw [x2_setF hJ.1 hn h] <;> rfl, by rw [m_setF hM.1 hn h] <;> rfl, hR⟩
  obtain ⟨Z, l, o, R, W, e1, e2, e3, h⟩ := RR.all hA
  obtain ⟨S', f1⟩ := x3_many hJ hV S.2.2.2.2.2.2.2.1 ht2 h.2.2.2.1
  refine ⟨nI (W t), (S.1, S.2.1, S.2.2.1, S.2.2.2.1, S.2.2.2.2.1, S.2.2.2.2.2.1, S.2.2.2.2.2.2.1, S', S.2.2.2.2.2.2.2.2.1, S.2.2.2.2.2.2.2.2.2), mLO M l o, ?_, ?_, hT, hr6, ht, a, hA, hE, hZ⟩
  · rw [x2_setT hJ.1 hn ht2, Option.bind_some, if_neg i10, f1] <;> rfl
  · rw [m_setT hM.1 hn ht2, Option.bind_some, if_neg i10, e2, Option.bind_some, e3, Option.bind_some, zIn_t (show t < 256 by omega) (by decide), if_pos rfl, nI_clamp (by omega), (h.2.1 t ht2).2]
def mD (M : VX11) (D : Nat → Int32) : VX11 := (M.1, M.2.1, M.2.2.1, M.2.2.2.1, M.2.2.2.2.1, M.2.2.2.2.2.1, M.2.2.2.2.2.2.1, M.2.2.2.2.2.2.2.1, M.2.2.2.2.2.2.2.2.1, M.2.2.2.2.2.2.2.2.2.1, M.2.2.2.2.2.2.2.2.2.2.1, D, M.2.2.2.2.2.2.2.2.2.2.2.2.1, M.2.2.2.2.2.2.2.2.2.2.2.2.2.1, M.2.2.2.2.2.2.2.2.2.2.2.2.2.2.1, M.2.2.2.2.2.2.2.2.2.2.2.2.2.2.2.1, M.2.2.2.2.2.2.2.2.2.2.2.2.2.2.2.2.1, M.2.2.2.2.2.2.2.2.2.2.2.2.2.2.2.2.2.1, M.2.2.2.2.2.2.2.2.2.2.2.2.2.2.2.2.2.2.1, M.2.2.2.2.2.2.2.2.2.2.2.2.2.2.2.2.2.2.2.1, M.2.2.2.2.2.2.2.2.2.2.2.2.2.2.2.2.2.2.2.2.1, M.2.2.2.2.2.2.2.2.2.2.2.2.2.2.2.2.2.2.2.2.2.1, M.2.2.2.2.2.2.2.2.2.2.2.2.2.2.2.2.2.2.2.2.2.2.1, M.2.2.2.2.2.2.2.2.2.2.2.2.2.2.2.2.2.2.2.2.2.2.2.1, M.2.2.2.2.2.2.2.2.2.2.2.2.2.2.2.2.2.2.2.2.2.2.2.2.1, M.2.2.2.2.2.2.2.2.2.2.2.2.2.2.2.2.2.2.2.2.2.2.2.2.2.1, M.2.2.2.2.2.2.2.2.2.2.2.2.2.2.2.2.2.2.2.2.2.2.2.2.2.2.1, M.2.2.2.2.2.2.2.2.2.2.2.2.2.2.2.2.2.2.2.2.2.2.2.2.2.2.2.1, M.2.2.2.2.2.2.2.2.2.2.2.2.2.2.2.2.2.2.2.2.2.2.2.2.2.2.2.2.1, M.2.2.2.2.2.2.2.2.2.2.2.2.2.2.2.2.2.2.2.2.2.2.2.2.2.2.2.2.2.1, M.2.2.2.2.2.2.2.2.2.2.2.2.2.2.2.2.2.2.2.2.2.2.2.2.2.2.2.2.2.2)
theorem mD_id (M : VX11) : M = mD M M.2.2.2.2.2.2.2.2.2.2.2.1 := rfl
theorem MR.keyD {M : VX11} {D : Nat → Int32} {a : AJ} (h : MR (mD M D) a) {x y : Nat} (hy : y < 8) : MR (mD M (upd D (4 * x + 1) (nI y))) (aKy a x y) := MR.key h hy
/-! dealt -/
/-- whether x may have the keeper that a row tells -/
def odB (a : AJ) (f : Nat → Int32) (x : Nat) : Bool := decide (aK a x = 2) || match cl (aN a) (f x) with
  | none => false
  | some y => decide (y ≠ x ∧ aO a x ≠ y)
theorem odB_key {a : AJ} {f : Nat → Int32} {x : Nat} (hn : aN a ≤ 8) (h : odB a f x = true) (hk : aK a x ≠ 2) : ∃ y, y < aN a ∧ f x = nI y ∧ y ≠ x ∧ aO a x ≠ y := by
  unfold odB at h
  rw [decide_eq_false hk, Bool.false_or] at h
  rcases cl_c (f x) (n := aN a) (by omega) with ⟨c, -⟩ | ⟨y, hy, c1, c2⟩
  · rw [c] at h; cases h
  · rw [c2] at h
    exact ⟨y, hy, c1, of_decide_eq_true h⟩
theorem st_dealt (hR : RR S M) (v1 : Int32) : ∃ r : Int32, ∃ S2 : VX10, ∃ M2 : VX11, f_X10_dealt S v1 = some (r, S2) ∧ f_X11_dealt M v1 = some (r, M2) ∧ RR S2 M2 := by
  obtain ⟨hT, hr6, ht, a, ⟨hV, hJ, hM⟩, hE, hZ⟩ := id hR
  have hn := hV.2.1
  have hN := hV.N
  unfold f_X10_dealt f_X11_dealt
  rcases rr_rowC hR v1 with h | ⟨r, hr, rfl, e1, e2⟩ | ⟨r, k, hr, rfl, hk, e1, e2, e3⟩
  · exact ⟨-1, S, M, by rw [x10_rowF h] <;> rfl, by rw [m_rowF h] <;> rfl, hR⟩
  · refine ⟨-3, _, _, by rw [x10_rowN hr e1] <;> rfl, ?_, hR.found (f := 1) (by decide) (by decide)⟩
    rw [m_rowT hr, Option.bind_some, if_neg i10, zIn_t hr (by decide), if_pos rfl, nI_clamp (by omega), e2, if_neg m_neg, show f_X11_meets M 1 = _ from m_meets M (f := 1) (by decide)] <;> rfl
  rw [x10_rowT hr hk e1, Option.bind_some, if_pos rfl, show f_X6_sizeOf ((0 : Int32), S).2.2.1 (nI r) = some (nI k) from (x6_size hr).trans (congrArg some e1), Option.bind_some, show f_X2_cells ((0 : Int32), S).2.2.2.2.2.1 = some (nI (aN a)) from congrArg some hJ.1, Option.bind_some, m_rowT hr, Option.bind_some, if_neg i10, zIn_t hr (by decide), if_pos rfl, nI_clamp (by omega), e2, if_pos (nI_pos' (by omega)), if_pos rfl, hM.1]
  by_cases c : k = aN a
  · subst c
    rw [if_pos rfl, if_pos rfl]
    have hM3 : f_X11_meets M 3 = some (-3, met M 3) := m_meets M (f := 3) (by decide)
    by_cases hall : ∀ x, x < aN a → odB a (fun i => M.2.2.2.2.2.2.1 (60 * r + i)) x = true
    · have eC : f_X10_dealt_41 4096 S (nI r) 0 = f_X10_dealt_101 4096 S (nI r) 0 := by
        refine loop_is (fun f (_ : Unit) v3 => f_X10_dealt_41 f S (nI r) v3) (fun _ => ()) 0 (aN a) _ (fun n => ?_) (fun n x _ hx => ?_) 4096 0 (Nat.le_refl _) (by omega) (by omega)
        · show f_X10_dealt_41 (n + 1) S (nI r) (nI (aN a)) = _
          rw [f_X10_dealt_41, show f_X2_cells S.2.2.2.2.1 = some (nI (aN a)) from congrArg some hJ.1, Option.bind_some, if_pos (nI_le (Nat.le_refl _) (by omega))]
        · show f_X10_dealt_41 (n + 1) S (nI r) (nI x) = f_X10_dealt_41 n S (nI r) (nI (x + 1))
          rw [f_X10_dealt_41, show f_X2_cells S.2.2.2.2.1 = some (nI (aN a)) from congrArg some hJ.1, Option.bind_some, if_neg (nI_ge hx (by omega)), show f_X2_isOf S.2.2.2.2.1 (nI x) 2 = _ from x2_isOf hJ hV hx (j := 2) (by decide), Option.bind_some, x6_get hr hk e1 hx, Option.bind_some, e3 x hx, nI_1]
          by_cases k2 : aK a x = 2
          · rw [show ofB (aK a x) 2 = true by rw [k2]; rfl, if_neg (show ¬ bI true = 0 from i10)]
          · obtain ⟨y, hy, ey, y1, y2⟩ := odB_key hn (hall x hx) k2
            have ey : M.2.2.2.2.2.2.1 (60 * r + x) = nI y := ey
            rw [show ofB (aK a x) 2 = false by unfold ofB; simp [k2], if_pos (show bI false = 0 from rfl), ey, x2_may hJ hV hx hy, decide_eq_true ⟨y1, k2, y2⟩, Option.bind_some, if_neg (show ¬ bI true = 0 from i10)]
      have eM : f_X11_dealt_47 4096 M (nI r) 1 0 = f_X11_dealt_119 4096 M (nI r) 0 := by
        refine loop_is (fun f (v2 : Int32) v3 => f_X11_dealt_47 f M (nI r) v2 v3) (fun _ => 1) 0 (aN a) _ (fun n => ?_) (fun n x _ hx => ?_) 4096 0 (Nat.le_refl _) (by omega) (by omega)
        · show f_X11_dealt_47 (n + 1) M (nI r) 1 (nI (aN a)) = _
          rw [f_X11_dealt_47, hM.1, if_pos (nI_le (Nat.le_refl _) (by omega)), if_neg i10]
        · show f_X11_dealt_47 (n + 1) M (nI r) 1 (nI x) = f_X11_dealt_47 n M (nI r) 1 (nI (x + 1))
          rw [f_X11_dealt_47, hM.1, if_neg (nI_ge hx (by omega)), if_neg i10, m_kind hM hn hx, Option.bind_some, m_at hr (show x < 60 by omega), Option.bind_some, nI_1]
          by_cases k2 : aK a x = 2
          · rw [if_pos (show nI (aK a x) = 2 by rw [k2]; rfl)]
          · obtain ⟨y, hy, ey, y1, y2⟩ := odB_key hn (hall x hx) k2
            have ey : M.2.2.2.2.2.2.1 (60 * r + x) = nI y := ey
            have hk5 := (hV.2.2 x hx).1
            rw [if_neg (show ¬ nI (aK a x) = 2 from fun q => k2 ((nI_eq (by omega) (by decide)).1 (show nI (aK a x) = nI 2 from q))), ey, m_cell hM.1 hn hy, Option.bind_some, if_neg i10, Option.bind_some, m_may hM hV hx (show y < 8 by omega), decide_eq_true ⟨y1, y2⟩, Option.bind_some, if_neg (show ¬ bI true = 0 from i10)]
      rw [show f_X10_dealt_41 4096 ((0 : Int32), S).2 (nI r) 0 = _ from eC, eM]
      rw [show f_X10_dealt_101 4096 S (nI r) 0 = f_X10_dealt_101 4096 ((S.1, S.2.1, S.2.2.1, S.2.2.2.1, S.2.2.2.2.1, S.2.2.2.2.2.1, S.2.2.2.2.2.2.1, S.2.2.2.2.2.2.2.1, S.2.2.2.2.2.2.2.2.1, S.2.2.2.2.2.2.2.2.2)) (nI r) 0 from congrArg (fun Z : VX10 => f_X10_dealt_101 4096 Z (nI r) 0) (show S = (S.1, S.2.1, S.2.2.1, S.2.2.2.1, S.2.2.2.2.1, S.2.2.2.2.2.1, S.2.2.2.2.2.2.1, S.2.2.2.2.2.2.2.1, S.2.2.2.2.2.2.2.2.1, S.2.2.2.2.2.2.2.2.2) from rfl), show f_X11_dealt_119 4096 M (nI r) 0 = f_X11_dealt_119 4096 (mD M M.2.2.2.2.2.2.2.2.2.2.2.1) (nI r) 0 from congrArg (fun Z : VX11 => f_X11_dealt_119 4096 Z (nI r) 0) (mD_id M)]
      refine loop_two (fun f (J : VX2) v3 => f_X10_dealt_101 f ((S.1, S.2.1, S.2.2.1, S.2.2.2.1, J, S.2.2.2.2.2.1, S.2.2.2.2.2.2.1, S.2.2.2.2.2.2.2.1, S.2.2.2.2.2.2.2.2.1, S.2.2.2.2.2.2.2.2.2)) (nI r) v3) (fun f (D : Nat → Int32) v3 => f_X11_dealt_119 f (mD M D) (nI r) v3) (aN a) (fun i J D => ∃ a', (AV a' ∧ JR J a' ∧ MR (mD M D) a') ∧ aN a' = aN a ∧ aK a' = aK a ∧ aO a' = aO a) (fun p q => ∃ r : Int32, ∃ S2 : VX10, ∃ M2 : VX11, p = some (r, S2) ∧ q = some (r, M2) ∧ RR S2 M2) ?_ ?_ 4096 4096 0 S.2.2.2.2.1 M.2.2.2.2.2.2.2.2.2.2.2.1 (Nat.zero_le _) ⟨a, ⟨hV, hJ, hM⟩, rfl, rfl, rfl⟩ (by omega) (by omega)
      · rintro n n' J D ⟨a', ⟨hV', hJ', hM'⟩, q1, q2, q3⟩
        refine ⟨1, (S.1, S.2.1, S.2.2.1, S.2.2.2.1, J, S.2.2.2.2.2.1, S.2.2.2.2.2.2.1, S.2.2.2.2.2.2.2.1, S.2.2.2.2.2.2.2.2.1, S.2.2.2.2.2.2.2.2.2), mD M D, ?_, ?_, hT, hr6, ht, a', ⟨hV', hJ', hM'⟩, by rw [q1]; exact hE, by rw [q1]; exact hZ⟩
        · show f_X10_dealt_101 (n + 1) ((S.1, S.2.1, S.2.2.1, S.2.2.2.1, J, S.2.2.2.2.2.1, S.2.2.2.2.2.2.1, S.2.2.2.2.2.2.2.1, S.2.2.2.2.2.2.2.2.1, S.2.2.2.2.2.2.2.2.2)) (nI r) (nI (aN a)) = _
          rw [f_X10_dealt_101, show f_X2_cells ((S.1, S.2.1, S.2.2.1, S.2.2.2.1, J, S.2.2.2.2.2.1, S.2.2.2.2.2.2.1, S.2.2.2.2.2.2.2.1, S.2.2.2.2.2.2.2.2.1, S.2.2.2.2.2.2.2.2.2)).2.2.2.2.1 = some (nI (aN a)) from congrArg some (by rw [← q1]; exact hJ'.1), Option.bind_some, if_pos (nI_le (Nat.le_refl _) (by omega))]
        · show f_X11_dealt_119 (n' + 1) (mD M D) (nI r) (nI (aN a)) = _
          rw [f_X11_dealt_119, if_pos (show (mD M D).2.2.2.2.2.2.2.2.2.2.1 ≤ nI (aN a) from by show M.2.2.2.2.2.2.2.2.2.2.1 ≤ _; rw [hM.1]; exact nI_le (Nat.le_refl _) (by omega))]
      · rintro n n' J D x hx ⟨a', ⟨hV', hJ', hM'⟩, q1, q2, q3⟩
        right
        have hx' : x < aN a' := by rw [q1]; exact hx
        have hn' : aN a' ≤ 8 := hV'.2.1
        show ∃ J' D', _ ∧ f_X10_dealt_101 (n + 1) ((S.1, S.2.1, S.2.2.1, S.2.2.2.1, J, S.2.2.2.2.2.1, S.2.2.2.2.2.2.1, S.2.2.2.2.2.2.2.1, S.2.2.2.2.2.2.2.2.1, S.2.2.2.2.2.2.2.2.2)) (nI r) (nI x) = f_X10_dealt_101 n ((S.1, S.2.1, S.2.2.1, S.2.2.2.1, J', S.2.2.2.2.2.1, S.2.2.2.2.2.2.1, S.2.2.2.2.2.2.2.1, S.2.2.2.2.2.2.2.2.1, S.2.2.2.2.2.2.2.2.2)) (nI r) (nI (x + 1)) ∧ f_X11_dealt_119 (n' + 1) (mD M D) (nI r) (nI x) = f_X11_dealt_119 n' (mD M D') (nI r) (nI (x + 1))
        rw [f_X10_dealt_101, show f_X2_cells ((S.1, S.2.1, S.2.2.1, S.2.2.2.1, J, S.2.2.2.2.2.1, S.2.2.2.2.2.2.1, S.2.2.2.2.2.2.2.1, S.2.2.2.2.2.2.2.2.1, S.2.2.2.2.2.2.2.2.2)).2.2.2.2.1 = some (nI (aN a)) from congrArg some (by rw [← q1]; exact hJ'.1), Option.bind_some, if_neg (nI_ge hx (by omega)), show f_X2_isOf ((S.1, S.2.1, S.2.2.1, S.2.2.2.1, J, S.2.2.2.2.2.1, S.2.2.2.2.2.2.1, S.2.2.2.2.2.2.2.1, S.2.2.2.2.2.2.2.2.1, S.2.2.2.2.2.2.2.2.2)).2.2.2.2.1 (nI x) 2 = _ from x2_isOf hJ' hV' hx' (j := 2) (by decide), Option.bind_some, show f_X6_get ((S.1, S.2.1, S.2.2.1, S.2.2.2.1, J, S.2.2.2.2.2.1, S.2.2.2.2.2.2.1, S.2.2.2.2.2.2.2.1, S.2.2.2.2.2.2.2.2.1, S.2.2.2.2.2.2.2.2.2)).2.1 (nI r) (nI x) = _ from x6_get hr hk e1 hx, Option.bind_some, e3 x hx, f_X11_dealt_119, if_neg (show ¬ (mD M D).2.2.2.2.2.2.2.2.2.2.1 ≤ nI x from by show ¬ M.2.2.2.2.2.2.2.2.2.2.1 ≤ _; rw [hM.1]; exact nI_ge hx (by omega)), m_kind hM' hn' hx', Option.bind_some, show f_X11_rowAt (mD M D) (nI r) (nI x) = some (M.2.2.2.2.2.2.1 (60 * r + x)) from m_at hr (show x < 60 by omega), Option.bind_some, show (4 : Int32) * nI x = nI (4 * x) from pk_mul 4 x, nI_1 (4 * x), zIn_t (show 4 * x + 1 < 32 by omega) (by decide), nI_clamp (by omega), nI_1 x, q2]
        by_cases k2 : aK a x = 2
        · refine ⟨J, upd D (4 * x + 1) (-9), ⟨a', ⟨hV', hJ', hM'.1, fun z hz => ?_⟩, q1, q2, q3⟩, ?_, ?_⟩
          · obtain ⟨g1, g2, g3, g4, g5⟩ := hM'.2 z hz
            have g1 : D (4 * z) = nI (aK a' z) := g1
            have g2 : D (4 * z + 1) = kI (aP a' z) := g2
            have g3 : D (4 * z + 2) = kI (aO a' z) := g3
            have g4 : D (4 * z + 3) = nI (aL a' z) := g4
            show upd D (4 * x + 1) (-9) (4 * z) = _ ∧ upd D (4 * x + 1) (-9) (4 * z + 1) = _ ∧ upd D (4 * x + 1) (-9) (4 * z + 2) = _ ∧ upd D (4 * x + 1) (-9) (4 * z + 3) = _ ∧ _
            rw [upd_at, upd_at, upd_at, upd_at, if_neg (by omega), if_neg (show ¬ 4 * z + 2 = 4 * x + 1 by omega), if_neg (show ¬ 4 * z + 3 = 4 * x + 1 by omega)]
            refine ⟨g1, ?_, g3, g4, g5⟩
            by_cases d : z = x
            · subst d
              rw [if_pos rfl, (hV'.2.2 z hz).2.1 (by rw [q2]; exact k2)]; rfl
            · rw [if_neg (by omega)]; exact g2
          · rw [show ofB (aK a x) 2 = true by rw [k2]; rfl, if_neg (show ¬ bI true = 0 from i10)]
          · rw [if_pos (show nI (aK a x) = 2 by rw [k2]; rfl), if_pos rfl]
            exact congrArg (fun Z : VX11 => f_X11_dealt_119 n' Z (nI r) (nI (x + 1))) (show _ = mD M (upd D (4 * x + 1) (-9)) from rfl)
        · obtain ⟨y, hy, ey, y1, y2⟩ := odB_key hn (hall x hx) k2
          have ey : M.2.2.2.2.2.2.1 (60 * r + x) = nI y := ey
          have hk5 := (hV.2.2 x hx).1
          refine ⟨(J.1, upd J.2.1 x (nI y), J.2.2.1, J.2.2.2.1, J.2.2.2.2.1, J.2.2.2.2.2.1, J.2.2.2.2.2.2.1, J.2.2.2.2.2.2.2), upd D (4 * x + 1) (nI y), ⟨aKy a' x y, ⟨hV'.key (by rw [q2]; exact k2) (by rw [q1]; exact hy) y1 (by rw [q3]; exact y2), hJ'.key (by omega), hM'.keyD (by omega)⟩, q1, q2, q3⟩, ?_, ?_⟩
          · rw [show ofB (aK a x) 2 = false by unfold ofB; simp [k2], if_pos (show bI false = 0 from rfl), ey, show f_X2_setKeeper ((S.1, S.2.1, S.2.2.1, S.2.2.2.1, J, S.2.2.2.2.2.1, S.2.2.2.2.2.2.1, S.2.2.2.2.2.2.2.1, S.2.2.2.2.2.2.2.2.1, S.2.2.2.2.2.2.2.2.2)).2.2.2.2.1 (nI x) (nI y) = _ from x2_setKeeper hJ'.1 hn' hx' (nI y)] <;> rfl
          · rw [if_neg (show ¬ nI (aK a x) = 2 from fun q => k2 ((nI_eq (by omega) (by decide)).1 (show nI (aK a x) = nI 2 from q))), ey, if_pos rfl]
            exact congrArg (fun Z : VX11 => f_X11_dealt_119 n' Z (nI r) (nI (x + 1))) (show _ = mD M (upd D (4 * x + 1) (nI y)) from rfl)
    · obtain ⟨x0, hx0, hb0⟩ : ∃ x, x < aN a ∧ odB a (fun i => M.2.2.2.2.2.2.1 (60 * r + i)) x = false := Classical.byContradiction fun q => hall fun x hx => Classical.byContradiction fun w => q ⟨x, hx, by simpa using w⟩
      refine ⟨-3, _, _, ?_, ?_, hR.found (f := 3) (by decide) (by decide)⟩
      · refine loop_up (fun f (_ : Unit) v3 => f_X10_dealt_41 f S (nI r) v3) (aN a) (fun i _ => ∀ x, x < i → odB a (fun i => M.2.2.2.2.2.2.1 (60 * r + i)) x = true) (fun o => o = some (-3, (fnd S.1 3, S.2.1, S.2.2.1, S.2.2.2.1, S.2.2.2.2.1, S.2.2.2.2.2.1, S.2.2.2.2.2.2.1, S.2.2.2.2.2.2.2.1, S.2.2.2.2.2.2.2.2.1, S.2.2.2.2.2.2.2.2.2))) ?_ ?_ 4096 0 () (Nat.zero_le _) (fun x h => by omega) (by omega)
        · intro n _ h
          exact absurd h hall
        · intro n _ x hx h
          show f_X10_dealt_41 (n + 1) S (nI r) (nI x) = _ ∨ ∃ s' : Unit, (∀ y, y < x + 1 → odB a (fun i => M.2.2.2.2.2.2.1 (60 * r + i)) y = true) ∧ f_X10_dealt_41 (n + 1) S (nI r) (nI x) = f_X10_dealt_41 n S (nI r) (nI (x + 1))
          have more : odB a (fun i => M.2.2.2.2.2.2.1 (60 * r + i)) x = true → ∀ y, y < x + 1 → odB a (fun i => M.2.2.2.2.2.2.1 (60 * r + i)) y = true := fun q y hy => by
            by_cases e : y = x
            · rw [e]; exact q
            · exact h y (by omega)
          rw [f_X10_dealt_41, show f_X2_cells S.2.2.2.2.1 = some (nI (aN a)) from congrArg some hJ.1, Option.bind_some, if_neg (nI_ge hx (by omega)), show f_X2_isOf S.2.2.2.2.1 (nI x) 2 = _ from x2_isOf hJ hV hx (j := 2) (by decide), Option.bind_some, x6_get hr hk e1 hx, Option.bind_some, e3 x hx, nI_1, show f_X9_found S.1 3 = _ from x9_found S.1 (f := 3) (by decide) (by decide)]
          by_cases k2 : aK a x = 2
          · right
            refine ⟨(), more ?_, ?_⟩
            · unfold odB; rw [decide_eq_true k2]; rfl
            · rw [show ofB (aK a x) 2 = true by rw [k2]; rfl, if_neg (show ¬ bI true = 0 from i10)]
          · rw [show ofB (aK a x) 2 = false by unfold ofB; simp [k2], if_pos (show bI false = 0 from rfl)]
            rcases cl_c (M.2.2.2.2.2.2.1 (60 * r + x)) (n := aN a) (by omega) with ⟨c1, c2⟩ | ⟨y, hy, c1, c2⟩
            · left
              rw [x2_mayF hJ hn hx c2, Option.bind_some, if_pos rfl] <;> rfl
            · rw [c1, x2_may hJ hV hx hy, Option.bind_some]
              by_cases d : y ≠ x ∧ aO a x ≠ y
              · right
                refine ⟨(), more ?_, ?_⟩
                · unfold odB
                  rw [c2]
                  show (decide (aK a x = 2) || decide (y ≠ x ∧ aO a x ≠ y)) = true
                  rw [decide_eq_true d, Bool.or_true]
                · rw [decide_eq_true ⟨d.1, k2, d.2⟩, if_neg (show ¬ bI true = 0 from i10)]
              · left
                rw [decide_eq_false (fun q => d ⟨q.1, q.2.2⟩), if_pos (show bI false = 0 from rfl)] <;> rfl
      · refine loop_up (fun f (b : Bool) v3 => f_X11_dealt_47 f M (nI r) (bI b) v3) (aN a) (fun i b => (b = true ↔ ∀ x, x < i → odB a (fun i => M.2.2.2.2.2.2.1 (60 * r + i)) x = true)) (fun o => o = some (-3, met M 3)) ?_ ?_ 4096 0 true (Nat.zero_le _) ⟨fun _ x h => by omega, fun _ => rfl⟩ (by omega)
        · intro n b h
          show f_X11_dealt_47 (n + 1) M (nI r) (bI b) (nI (aN a)) = _
          have hb : b = false := by
            cases b with
            | false => rfl
            | true => exact absurd (h.1 rfl) hall
          rw [f_X11_dealt_47, hM.1, if_pos (nI_le (Nat.le_refl _) (by omega)), hb, if_pos (show bI false = 0 from rfl), hM3] <;> rfl
        · intro n b x hx h
          right
          show ∃ b' : Bool, (b' = true ↔ ∀ y, y < x + 1 → odB a (fun i => M.2.2.2.2.2.2.1 (60 * r + i)) y = true) ∧ f_X11_dealt_47 (n + 1) M (nI r) (bI b) (nI x) = f_X11_dealt_47 n M (nI r) (bI b') (nI (x + 1))
          refine ⟨b && odB a (fun i => M.2.2.2.2.2.2.1 (60 * r + i)) x, ?_, ?_⟩
          · rw [Bool.and_eq_true, h]
            constructor
            · rintro ⟨q1, q2⟩ y hy
              by_cases e : y = x
              · rw [e]; exact q2
              · exact q1 y (by omega)
            · intro q
              exact ⟨fun y hy => q y (by omega), q x (by omega)⟩
          · rw [f_X11_dealt_47, hM.1, if_neg (nI_ge hx (by omega)), m_kind hM hn hx, Option.bind_some, m_at hr (show x < 60 by omega), Option.bind_some, nI_1]
            cases b with
            | false => rw [if_pos (show bI false = 0 from rfl)]; rfl
            | true =>
              rw [if_neg (show ¬ bI true = 0 from i10), Bool.true_and]
              have hk5 := (hV.2.2 x hx).1
              unfold odB
              by_cases k2 : aK a x = 2
              · rw [if_pos (show nI (aK a x) = 2 by rw [k2]; rfl), decide_eq_true k2]; rfl
              · rw [if_neg (show ¬ nI (aK a x) = 2 from fun q => k2 ((nI_eq (by omega) (by decide)).1 (show nI (aK a x) = nI 2 from q))), decide_eq_false k2, Bool.false_or]
                rcases cl_c (M.2.2.2.2.2.2.1 (60 * r + x)) (n := aN a) (by omega) with ⟨c1, c2⟩ | ⟨y, hy, c1, c2⟩
                · rw [m_cell0 hM.1 hn c2, Option.bind_some, if_pos rfl, c1]; rfl
                · rw [c2, c1, m_cell hM.1 hn hy, Option.bind_some, if_neg i10, Option.bind_some, m_may hM hV hx (show y < 8 by omega), Option.bind_some]
                  show (if bI (decide (y ≠ x ∧ aO a x ≠ y)) = 0 then _ else _) = f_X11_dealt_47 n M (nI r) (bI (decide (y ≠ x ∧ aO a x ≠ y))) (nI (x + 1))
                  cases decide (y ≠ x ∧ aO a x ≠ y) with
                  | true => rw [if_neg (show ¬ bI true = 0 from i10)]; rfl
                  | false => rw [if_pos (show bI false = 0 from rfl)]; rfl
  · have c' : ¬ nI k = nI (aN a) := fun q => c ((nI_eq (by omega) (by omega)).1 q)
    refine ⟨-3, _, _, ?_, ?_, hR.found (f := 5) (by decide) (by decide)⟩
    · rw [if_neg c', show f_X9_found ((0 : Int32), S).2.1 5 = _ from x9_found S.1 (f := 5) (by decide) (by decide)] <;> rfl
    · rw [if_neg c', show f_X11_meets M 5 = _ from m_meets M (f := 5) (by decide)] <;> rfl
end
