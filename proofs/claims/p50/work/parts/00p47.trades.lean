/-! THE STEPS: trades -/
/-- the fewest favours by which y is out; 99 -/
def ocV (R : Nat → Option Nat) (N y : Nat) : Nat := match lf0 R N y with
  | none => 99
  | some v => v
theorem bw_cg {R R' : Nat → Option Nat} {set : Nat} : ∀ N, (∀ t, t < N → R t = R' t) → bw R set N = bw R' set N
  | 0, _ => rfl
  | N + 1, h => by
    have ih := bw_cg (set := set) N (fun t ht => h t (by omega))
    have e : bwC R set N (bw R' set N) = bwC R' set N (bw R' set N) := by
      cases hb : bw R' set N with
      | none => rfl
      | some b =>
        have := (bw_some hb).1
        show decide (nv (R N) < nv (R b)) = decide (nv (R' N) < nv (R' b))
        rw [h N (by omega), h b (by omega)]
    rw [bw, bw, ih, h N (by omega), e]
theorem ocV_cg {R R' : Nat → Option Nat} {N y : Nat} (h : ∀ t, t < N → R t = R' t) : ocV R N y = ocV R' N y := by
  unfold ocV lf0
  rw [bw_cg N h]
  cases hb : bw R' (2 ^ y) N with
  | none => rfl
  | some b =>
    show (match R b with | none => 99 | some v => v) = (match R' b with | none => 99 | some v => v)
    rw [h b (bw_some hb).1]
section
variable {Z : VX4} {N : VX11} {a : AJ} {act : Nat} {R : Nat → Option Nat} {W : Nat → Nat}
theorem ocV_le (h : TB Z N a act R W) (y : Nat) : ocV R (2 ^ aN a) y ≤ 112 := by
  unfold ocV
  cases e : lf0 R (2 ^ aN a) y with
  | none => show 99 ≤ 112; omega
  | some v => exact lf0_le h e
/-- as x4_cheap, of any set of eight -/
theorem x4_cheapW (h : TB Z N a act R W) {set : Nat} (hs : set < 256) : f_X4_cheapestWith Z (nI set) = some (oI (bw R set (2 ^ aN a))) := by
  have hN := h.N
  have hA := h.actN
  rw [bw_off (N := act + 1) (2 ^ aN a) (by omega) (fun t h1 h2 => h.off h2 (by omega))]
  unfold f_X4_cheapestWith
  refine loop_is (fun f v2 v3 => f_X4_cheapestWith_5 f Z (nI set) v2 v3) (fun k => oI (bw R set k)) 0 (act + 1) _ (fun n => ?_) (fun n k _ hk => ?_) 4096 0 (Nat.le_refl _) (by omega) (by omega)
  · show f_X4_cheapestWith_5 (n + 1) Z (nI set) _ (nI (act + 1)) = _
    rw [f_X4_cheapestWith_5, h.1.1, if_pos (nI_lt (by omega) (by omega))]
  · show f_X4_cheapestWith_5 (n + 1) Z (nI set) (oI (bw R set k)) (nI k) = f_X4_cheapestWith_5 n Z (nI set) (oI (bw R set (k + 1))) (nI (k + 1))
    have g0 : f_X4_cheapestWith_37 (f_X4_cheapestWith_5 n) Z (nI set) (oI (bw R set k)) (nI k) 0 = f_X4_cheapestWith_5 n Z (nI set) (oI (bw R set k)) (nI (k + 1)) := by
      unfold f_X4_cheapestWith_37
      rw [if_pos rfl, nI_1]
    rw [f_X4_cheapestWith_5, h.1.1, if_neg (nI_nlt (by omega) (by omega)), zIn_t (show k < 256 by omega) (by decide), if_pos rfl, nI_clamp (by omega), h.1.2 k (by omega), g0, n_sd, bw]
    cases hr : R k with
    | none => rw [oI_none, if_pos rfl, if_neg (by simp)]
    | some v =>
      have hv := h.small (show k < 2 ^ aN a by omega) hr
      rw [oI_some, if_neg (nI_m9 (by omega))]
      by_cases c : sd set k = 0
      · rw [if_pos (by rw [c]; rfl), decide_eq_true c]
        unfold f_X4_cheapestWith_37
        rw [if_neg (by decide), nI_1]
        cases hb : bw R set k with
        | none => rw [oI_none, if_pos rfl, if_pos (by simp [bwC])]; rfl
        | some b =>
          obtain ⟨b1, b2⟩ := bw_some hb
          cases hrb : R b with
          | none => rw [hrb] at b2; cases b2
          | some w =>
            have hw := h.small (show b < 2 ^ aN a by omega) hrb
            rw [oI_some, if_neg (nI_m9 (by omega)), zIn_t (show k < 256 by omega) (by decide), zIn_t (show b < 256 by omega) (by decide), nI_clamp (by omega), nI_clamp (by omega), h.1.2 k (by omega), h.1.2 b (by omega), hr, hrb, oI_some, oI_some]
            simp only [if_T]
            by_cases d : w ≤ v
            · rw [if_pos (nI_le d (by omega)), if_neg (by simp [bwC, hr, hrb, nv]; omega)]; rfl
            · rw [if_neg (nI_ge (by omega) (by omega)), if_pos (by simp [bwC, hr, hrb, nv]; omega)]; rfl
      · rw [if_neg (fun e => c ((nI0_eq (Nat.lt_of_lt_of_le (sd_lt (n := 8) hs) (by decide))).1 e)), decide_eq_false c, if_neg (by simp)]
theorem x0_never {D : VX0} (hD : D.2.1 = Z) (h : TB Z N a act R W) {y : Nat} (hy : y < 8) : f_X0_favoursOrNever D (nI y) = some (nI (ocV R (2 ^ aN a) y)) := by
  have h8 : 2 ^ y < 256 := pow_lt8 hy
  have e : f_X4_leastFor Z (nI y) = some (oI (lf0 R (2 ^ aN a) y)) := by
    unfold f_X4_leastFor lf0
    rw [n_one (by omega), x4_cheapW h h8, Option.bind_some]
    cases hb : bw R (2 ^ y) (2 ^ aN a) with
    | none => rw [oI_none, x4_fav0]; rfl
    | some b => rw [oI_some, x4_fav h (bw_some hb).1]; rfl
  unfold f_X0_favoursOrNever ocV
  rw [hD, e, Option.bind_some]
  cases hl : lf0 R (2 ^ aN a) y with
  | none => rw [oI_none, if_pos rfl]; rfl
  | some v => rw [oI_some, if_neg (nI_m9 (by have := lf0_le h hl; omega))]
theorem m_oc {M : VX11} {l o : Nat → Int32} (hM : MR M a) (e : f_X11_layLeasts M (nI (2 ^ aN a - 1)) = some (mLO M l o)) (h : TB Z (mLO M l o) a act R W) {y : Nat} (hy : y < aN a) : f_X11_outCost M (nI y) = some (nI (ocV R (2 ^ aN a) y), mLO M l o) := by
  have hn := h.n8
  have hN := h.N
  have h2 : 2 ^ y < 2 ^ aN a := Nat.pow_lt_pow_right (by decide) hy
  unfold f_X11_outCost ocV lf0
  rw [m_all hM.1 hn, Option.bind_some, e, Option.bind_some, n_one (by omega), m_first h h2, Option.bind_some]
  cases hb : bw R (2 ^ y) (2 ^ aN a) with
  | none => rw [oI_none, if_pos rfl]; rfl
  | some b =>
    obtain ⟨b1, b2⟩ := bw_some hb
    rw [oI_some, if_neg (nI_m9 (by omega)), zIn_t (show b < 256 by omega) (by decide), if_pos rfl, nI_clamp (by omega), (h.2.1 b b1).1]
    cases hr : R b with
    | none => rw [hr] at b2; cases b2
    | some v =>
      show some (nI v, _) = some (nI (match R b with | none => 99 | some v => v), _)
      rw [hr]
end
/-! the model with other doors and tables -/
def mT (M : VX11) (D l o : Nat → Int32) : VX11 := (M.1, M.2.1, M.2.2.1, M.2.2.2.1, M.2.2.2.2.1, M.2.2.2.2.2.1, M.2.2.2.2.2.2.1, M.2.2.2.2.2.2.2.1, M.2.2.2.2.2.2.2.2.1, M.2.2.2.2.2.2.2.2.2.1, M.2.2.2.2.2.2.2.2.2.2.1, D, M.2.2.2.2.2.2.2.2.2.2.2.2.1, M.2.2.2.2.2.2.2.2.2.2.2.2.2.1, M.2.2.2.2.2.2.2.2.2.2.2.2.2.2.1, M.2.2.2.2.2.2.2.2.2.2.2.2.2.2.2.1, M.2.2.2.2.2.2.2.2.2.2.2.2.2.2.2.2.1, M.2.2.2.2.2.2.2.2.2.2.2.2.2.2.2.2.2.1, M.2.2.2.2.2.2.2.2.2.2.2.2.2.2.2.2.2.2.1, M.2.2.2.2.2.2.2.2.2.2.2.2.2.2.2.2.2.2.2.1, M.2.2.2.2.2.2.2.2.2.2.2.2.2.2.2.2.2.2.2.2.1, M.2.2.2.2.2.2.2.2.2.2.2.2.2.2.2.2.2.2.2.2.2.1, l, o, M.2.2.2.2.2.2.2.2.2.2.2.2.2.2.2.2.2.2.2.2.2.2.2.2.1, M.2.2.2.2.2.2.2.2.2.2.2.2.2.2.2.2.2.2.2.2.2.2.2.2.2.1, M.2.2.2.2.2.2.2.2.2.2.2.2.2.2.2.2.2.2.2.2.2.2.2.2.2.2.1, M.2.2.2.2.2.2.2.2.2.2.2.2.2.2.2.2.2.2.2.2.2.2.2.2.2.2.2.1, M.2.2.2.2.2.2.2.2.2.2.2.2.2.2.2.2.2.2.2.2.2.2.2.2.2.2.2.2.1, M.2.2.2.2.2.2.2.2.2.2.2.2.2.2.2.2.2.2.2.2.2.2.2.2.2.2.2.2.2.1, M.2.2.2.2.2.2.2.2.2.2.2.2.2.2.2.2.2.2.2.2.2.2.2.2.2.2.2.2.2.2)
theorem mT_LO (M : VX11) (D l o l' o' : Nat → Int32) : mLO (mT M D l o) l' o' = mT M D l' o' := rfl
theorem mT_id (M : VX11) : M = mT M M.2.2.2.2.2.2.2.2.2.2.2.1 M.2.2.2.2.2.2.2.2.2.2.2.2.2.2.2.2.2.2.2.2.2.2.1 M.2.2.2.2.2.2.2.2.2.2.2.2.2.2.2.2.2.2.2.2.2.2.2.1 := rfl
theorem mT_n (M : VX11) (D l o : Nat → Int32) : (mT M D l o).2.2.2.2.2.2.2.2.2.2.1 = M.2.2.2.2.2.2.2.2.2.2.1 := rfl
theorem mT_d (M : VX11) (D l o : Nat → Int32) : (mT M D l o).2.2.2.2.2.2.2.2.2.2.2.1 = D := rfl
theorem mT_q (M : VX11) (D l o : Nat → Int32) : (mT M D l o).2.2.2.2.2.2.2.2.2.2.2.2.1 = M.2.2.2.2.2.2.2.2.2.2.2.2.1 := rfl
theorem MR.of {M M' : VX11} {a : AJ} (h : MR M a) (h1 : M'.2.2.2.2.2.2.2.2.2.2.1 = M.2.2.2.2.2.2.2.2.2.2.1) (h2 : M'.2.2.2.2.2.2.2.2.2.2.2.1 = M.2.2.2.2.2.2.2.2.2.2.2.1) (h3 : M'.2.2.2.2.2.2.2.2.2.2.2.2.1 = M.2.2.2.2.2.2.2.2.2.2.2.2.1) : MR M' a := by
  unfold MR at *
  rw [h1, h2, h3]
  exact h
theorem MR.doors {M : VX11} {D l o l' o' : Nat → Int32} {a : AJ} (h : MR (mT M D l o) a) : MR (mT M D l' o') a := h.of ((mT_n M D l' o').trans (mT_n M D l o).symm) ((mT_d M D l' o').trans (mT_d M D l o).symm) ((mT_q M D l' o').trans (mT_q M D l o).symm)
theorem MR.keyT {M : VX11} {D l o : Nat → Int32} {a : AJ} (h : MR (mT M D l o) a) {x y : Nat} (hy : y < 8) : MR (mT M (upd D (4 * x + 1) (nI y)) l o) (aKy a x y) := MR.key h hy
/-- the fewest favours, told by the jail alone -/
theorem oc_uniq {a : AJ} {act N : Nat} {R R' : Nat → Option Nat} (h : IsR a act N R) (h' : IsR a act N R') (y : Nat) : ocV R N y = ocV R' N y := ocV_cg fun t ht => h.uniq h' t ht
/-- whether two doors' keys may be traded -/
def mtB (a : AJ) (x y : Nat) : Prop := aP a x ≠ aP a y ∧ aK a x ≠ 2 ∧ aK a y ≠ 2 ∧ aP a y ≠ x ∧ aO a x ≠ aP a y ∧ aP a x ≠ y ∧ aO a y ≠ aP a x
theorem x0_may {D : VX0} {J : VX2} {a : AJ} (hJ : JR J a) (hV : AV a) {x y : Nat} (hx : x < aN a) (hy : y < aN a) : (mtB a x y → f_X0_mayTrade D J (nI x) (nI y) = some 1) ∧ (¬ mtB a x y → f_X0_mayTrade D J (nI x) (nI y) = some 0) := by
  have hn := hV.2.1
  obtain ⟨-, x2, x3, -⟩ := hV.2.2 x hx
  obtain ⟨-, y2, y3, -⟩ := hV.2.2 y hy
  have may : ∀ z p, z < aN a → (p < aN a ∨ p = 99) → f_X2_mayKeep J (nI z) (kI p) = some (bI (decide (p < aN a ∧ p ≠ z ∧ aK a z ≠ 2 ∧ aO a z ≠ p))) := fun z p hz hp => by
    rcases hp with hp | hp
    · rw [kI_lt (by omega), x2_may hJ hV hz hp]
      have : decide (p ≠ z ∧ aK a z ≠ 2 ∧ aO a z ≠ p) = decide (p < aN a ∧ p ≠ z ∧ aK a z ≠ 2 ∧ aO a z ≠ p) := decide_eq_decide.mpr ⟨fun q => ⟨hp, q⟩, fun q => q.2⟩
      rw [this]
    · subst hp
      rw [kI_99, x2_mayF hJ hn hz (Or.inl (by decide)), decide_eq_false (fun q => by omega)]; rfl
  have px : aP a x < aN a ∨ aP a x = 99 := by
    by_cases c : aK a x = 2
    · exact Or.inr (x2 c)
    · exact Or.inl (x3 c).1
  have py : aP a y < aN a ∨ aP a y = 99 := by
    by_cases c : aK a y = 2
    · exact Or.inr (y2 c)
    · exact Or.inl (y3 c).1
  have keq : kI (aP a x) = kI (aP a y) ↔ aP a x = aP a y := by
    rcases py with h | h
    · rw [kI_lt (show aP a y < 8 by omega)]
      exact kI_eq (hV.p hx) (by omega)
    · rw [h, kI_99]
      exact kI_m9 (hV.p hx)
  unfold f_X0_mayTrade
  rw [x2_keeper hJ hn hx, Option.bind_some, x2_keeper hJ hn hy, Option.bind_some, may x (aP a y) hx py, Option.bind_some, may y (aP a x) hy px, Option.bind_some]
  constructor
  · rintro ⟨m1, m2, m3, m4, m5, m6, m7⟩
    have q1 := (x3 m2).1
    have q2 := (y3 m3).1
    rw [if_neg (fun e => m1 (keq.1 e)), decide_eq_true ⟨q2, m4, m2, m5⟩, if_neg (show ¬ bI true = 0 from i10), decide_eq_true ⟨q1, m6, m3, m7⟩, if_neg (show ¬ bI true = 0 from i10)]
  · intro hno
    by_cases c1 : aP a x = aP a y
    · rw [if_pos (keq.2 c1)]
    rw [if_neg (fun e => c1 (keq.1 e))]
    by_cases c2 : aP a y < aN a ∧ aP a y ≠ x ∧ aK a x ≠ 2 ∧ aO a x ≠ aP a y
    · rw [decide_eq_true c2, if_neg (show ¬ bI true = 0 from i10)]
      by_cases c3 : aP a x < aN a ∧ aP a x ≠ y ∧ aK a y ≠ 2 ∧ aO a y ≠ aP a x
      · exact absurd ⟨c1, c2.2.2.1, c3.2.2.1, c2.2.1, c2.2.2.2, c3.2.1, c3.2.2.2⟩ hno
      · rw [decide_eq_false c3, if_pos (show bI false = 0 from rfl)]
    · rw [decide_eq_false c2, if_pos (show bI false = 0 from rfl)]
theorem m_mayF {M : VX11} {a : AJ} (hM : MR M a) (hV : AV a) {x y : Nat} (hx : x < aN a) (hy : y < aN a) (h : ¬ mtB a x y) : f_X11_trade M (nI x) (nI y) = some (0, M) := by
  have hn := hV.2.1
  obtain ⟨kx, x2, x3, -⟩ := hV.2.2 x hx
  obtain ⟨ky, y2, y3, -⟩ := hV.2.2 y hy
  unfold f_X11_trade
  rw [m_keeper hM hn hx, Option.bind_some, m_keeper hM hn hy, Option.bind_some, m_kind hM hn hx, Option.bind_some, m_kind hM hn hy, Option.bind_some]
  by_cases c1 : aK a x = 2
  · rw [if_pos (show nI (aK a x) = 2 by rw [c1]; rfl)]
  rw [if_neg (show ¬ nI (aK a x) = 2 from fun e => c1 ((nI_eq (by omega) (by decide)).1 (show nI (aK a x) = nI 2 from e)))]
  by_cases c2 : aK a y = 2
  · rw [if_pos (show nI (aK a y) = 2 by rw [c2]; rfl)]
  rw [if_neg (show ¬ nI (aK a y) = 2 from fun e => c2 ((nI_eq (by omega) (by decide)).1 (show nI (aK a y) = nI 2 from e)))]
  have q1 := (x3 c1).1
  have q2 := (y3 c2).1
  rw [kI_lt (show aP a x < 8 by omega), kI_lt (show aP a y < 8 by omega)]
  by_cases c3 : aP a x = aP a y
  · rw [if_pos (by rw [c3])]
  rw [if_neg (fun e => c3 ((nI_eq (by omega) (by omega)).1 e)), m_may hM hV hx (show aP a y < 8 by omega), Option.bind_some]
  by_cases c4 : aP a y ≠ x ∧ aO a x ≠ aP a y
  · rw [decide_eq_true c4, if_neg (show ¬ bI true = 0 from i10), m_may hM hV hy (show aP a x < 8 by omega), Option.bind_some]
    by_cases c5 : aP a x ≠ y ∧ aO a y ≠ aP a x
    · exact absurd ⟨c3, c1, c2, c4.1, c4.2, c5.1, c5.2⟩ h
    · rw [decide_eq_false c5, if_pos (show bI false = 0 from rfl)]
  · rw [decide_eq_false c4, if_pos (show bI false = 0 from rfl)]
/-- a trade tried, on both sides -/
def trX (a : AJ) (x y : Nat) : AJ := aKy (aKy a x (aP a y)) y (aP a x)
theorem trX_V {a : AJ} (hV : AV a) {x y : Nat} (hx : x < aN a) (hy : y < aN a) (hxy : x ≠ y) (h : mtB a x y) : AV (trX a x y) := by
  obtain ⟨m1, m2, m3, m4, m5, m6, m7⟩ := h
  have q1 := ((hV.2.2 x hx).2.2.1 m2).1
  have q2 := ((hV.2.2 y hy).2.2.1 m3).1
  exact (hV.key m2 q2 m4 m5).key (x := y) m3 q1 m6 m7
theorem trX_J {J : VX2} {a : AJ} (hJ : JR J a) (hn : aN a ≤ 8) {x y : Nat} (q1 : aP a x < aN a) (q2 : aP a y < aN a) : JR ((J.1, upd (upd J.2.1 x (nI (aP a y))) y (nI (aP a x)), J.2.2.1, J.2.2.2.1, J.2.2.2.2.1, J.2.2.2.2.2.1, J.2.2.2.2.2.2.1, J.2.2.2.2.2.2.2)) (trX a x y) :=
  (hJ.key (x := x) (y := aP a y) (by omega)).key (x := y) (y := aP a x) (by omega)
theorem trX_B {J : VX2} {a : AJ} (hJ : JR J a) (hn : aN a ≤ 8) {x y : Nat} (q1 : aP a x < aN a) (q2 : aP a y < aN a) : JR ((J.1, upd (upd (upd (upd J.2.1 x (nI (aP a y))) y (nI (aP a x))) x (nI (aP a x))) y (nI (aP a y)), J.2.2.1, J.2.2.2.1, J.2.2.2.2.1, J.2.2.2.2.2.1, J.2.2.2.2.2.2.1, J.2.2.2.2.2.2.2)) a := by
  refine ⟨hJ.1, hJ.2.1, hJ.2.2.1, fun z hz => ?_⟩
  obtain ⟨g1, g2, g3⟩ := hJ.2.2.2 z hz
  refine ⟨g1, ?_, g3⟩
  show upd (upd (upd (upd J.2.1 x (nI (aP a y))) y (nI (aP a x))) x (nI (aP a x))) y (nI (aP a y)) z = kI (aP a z)
  rw [upd_at, upd_at, upd_at, upd_at]
  by_cases c : z = y
  · rw [if_pos c, c, kI_lt (by omega)]
  · rw [if_neg c]
    by_cases d : z = x
    · rw [if_pos d, d, kI_lt (by omega)]
    · rw [if_neg d, if_neg c, if_neg d, g2]
theorem trX_M {M : VX11} {D l o : Nat → Int32} {a : AJ} (h : MR (mT M D l o) a) (hn : aN a ≤ 8) {x y : Nat} (q1 : aP a x < aN a) (q2 : aP a y < aN a) (l' o' : Nat → Int32) : MR (mT M (upd (upd (upd (upd D (4 * x + 1) (nI (aP a y))) (4 * y + 1) (nI (aP a x))) (4 * x + 1) (nI (aP a x))) (4 * y + 1) (nI (aP a y))) l' o') a := by
  have h1 : M.2.2.2.2.2.2.2.2.2.2.1 = nI (aN a) := h.1
  refine ⟨h1, fun z hz => ?_⟩
  obtain ⟨g1, g2, g3, g4, g5⟩ := h.2 z hz
  have g1 : D (4 * z) = nI (aK a z) := g1
  have g2 : D (4 * z + 1) = kI (aP a z) := g2
  have g3 : D (4 * z + 2) = kI (aO a z) := g3
  have g4 : D (4 * z + 3) = nI (aL a z) := g4
  have g5 : M.2.2.2.2.2.2.2.2.2.2.2.2.1 z = nI (aF a z) := g5
  have e : ∀ j, j ≠ 1 → j < 4 → upd (upd (upd (upd D (4 * x + 1) (nI (aP a y))) (4 * y + 1) (nI (aP a x))) (4 * x + 1) (nI (aP a x))) (4 * y + 1) (nI (aP a y)) (4 * z + j) = D (4 * z + j) := fun j hj hj4 => by
    rw [upd_at, upd_at, upd_at, upd_at, if_neg (by omega), if_neg (by omega), if_neg (by omega), if_neg (by omega)]
  have e1 : upd (upd (upd (upd D (4 * x + 1) (nI (aP a y))) (4 * y + 1) (nI (aP a x))) (4 * x + 1) (nI (aP a x))) (4 * y + 1) (nI (aP a y)) (4 * z + 1) = kI (aP a z) := by
    rw [upd_at, upd_at, upd_at, upd_at]
    by_cases c : z = y
    · rw [if_pos (by omega), c, kI_lt (by omega)]
    · rw [if_neg (by omega)]
      by_cases d : z = x
      · rw [if_pos (by omega), d, kI_lt (by omega)]
      · rw [if_neg (by omega), if_neg (by omega), if_neg (by omega), g2]
  exact ⟨(e 0 (by decide) (by decide)).trans g1, e1, (e 2 (by decide) (by decide)).trans g3, (e 3 (by decide) (by decide)).trans g4, g5⟩
