/-! THE STEPS: ill, without, bands -/
section
variable {S : VX10} {M : VX11}
/-- the better one of those looked at -/
def ilS (v : Option Nat) (y : Nat) (q : Option (Nat × Nat)) : Option (Nat × Nat) := match v with
  | none => q
  | some v => match q with
    | none => some (y, v)
    | some p => if v < p.2 then some (y, v) else some p
def il (lf : Nat → Option Nat) : Nat → Option (Nat × Nat)
  | 0 => none
  | y + 1 => ilS (lf y) y (il lf y)
def qa : Option (Nat × Nat) → Int32
  | none => -9
  | some p => nI p.1
def qb : Option (Nat × Nat) → Int32
  | none => -9
  | some p => nI p.2
def qc : Option (Nat × Nat) → Int32
  | none => 0
  | some p => nI p.2
theorem il_some {lf : Nat → Option Nat} {p : Nat × Nat} : ∀ {k : Nat}, il lf k = some p → p.1 < k ∧ ∃ y, y < k ∧ lf y = some p.2
  | 0, h => by cases h
  | k + 1, h => by
    rw [il] at h
    unfold ilS at h
    split at h
    · obtain ⟨h1, y, h2, h3⟩ := il_some h
      exact ⟨by omega, y, by omega, h3⟩
    · rename_i v hv
      split at h
      · cases h
        exact ⟨Nat.lt_succ_self _, k, Nat.lt_succ_self _, hv⟩
      · rename_i p' hp'
        split at h
        · cases h
          exact ⟨Nat.lt_succ_self _, k, Nat.lt_succ_self _, hv⟩
        · cases h
          obtain ⟨h1, y, h2, h3⟩ := il_some hp'
          exact ⟨by omega, y, by omega, h3⟩
/-- the fewest favours by which y is out -/
def lf0 (R : Nat → Option Nat) (N y : Nat) : Option Nat := match bw R (2 ^ y) N with
  | none => none
  | some b => R b
def lfx (R : Nat → Option Nat) (N h y : Nat) : Option Nat := if h.testBit y = true then lf0 R N y else none
theorem x4_least {Z : VX4} {M : VX11} {a : AJ} {act : Nat} {R : Nat → Option Nat} {W : Nat → Nat} (h : TB Z M a act R W) {y : Nat} (hy : y < aN a) : f_X4_leastFor Z (nI y) = some (oI (lf0 R (2 ^ aN a) y)) := by
  have hN := h.N
  have hn := h.n8
  have h2 : 2 ^ y < 2 ^ aN a := Nat.pow_lt_pow_right (by decide) hy
  unfold f_X4_leastFor lf0
  rw [n_one (by omega), x4_cheap h h2, Option.bind_some]
  cases hb : bw R (2 ^ y) (2 ^ aN a) with
  | none => rw [oI_none, x4_fav0]; rfl
  | some b =>
    rw [oI_some, x4_fav h (bw_some hb).1]; rfl
theorem lf0_le {Z : VX4} {M : VX11} {a : AJ} {act : Nat} {R : Nat → Option Nat} {W : Nat → Nat} (h : TB Z M a act R W) {y v : Nat} (e : lf0 R (2 ^ aN a) y = some v) : v ≤ 112 := by
  unfold lf0 at e
  split at e
  · cases e
  · rename_i b hb
    exact h.small (bw_some hb).1 e
theorem st_ill (hR : RR S M) (v1 : Int32) : ∃ r : Int32, ∃ S2 : VX10, ∃ M2 : VX11, f_X10_ill S v1 = some (r, S2) ∧ f_X11_ill M v1 = some (r, M2) ∧ RR S2 M2 := by
  obtain ⟨hT, hr6, ht, a, hA, hE, hZ⟩ := id hR
  obtain ⟨hV, hJ, hM⟩ := id hA
  have hn := hV.2.1
  have hN := hV.N
  unfold f_X10_ill f_X11_ill
  rcases ix2 v1 (n := aN a) (by omega) with h | ⟨x, hx, rfl⟩
  · exact ⟨-1, S, M, by rw [x2_out hJ.1 h] <;> rfl, by rw [m_cell0 hM.1 hn h] <;> rfl, hR⟩
  obtain ⟨Z, l, o, R, W, e1, e2, e3, h⟩ := RR.all hA
  rw [x2_in hJ.1 hn hx, Option.bind_some, if_neg i10, m_cell hM.1 hn hx, Option.bind_some, if_neg i10, e1, Option.bind_some, e2, Option.bind_some, e3, Option.bind_some, show f_X2_everyone ((S.1, S.2.1, S.2.2.1, S.2.2.2.1, S.2.2.2.2.1, S.2.2.2.2.2.1, Z, S.2.2.2.2.2.2.2.1, S.2.2.2.2.2.2.2.2.1, S.2.2.2.2.2.2.2.2.2)).2.2.2.2.1 = _ from x2_all hJ.1 hn, Option.bind_some, show f_X2_foesOf ((S.1, S.2.1, S.2.2.1, S.2.2.2.1, S.2.2.2.2.1, S.2.2.2.2.2.1, Z, S.2.2.2.2.2.2.2.1, S.2.2.2.2.2.2.2.2.1, S.2.2.2.2.2.2.2.2.2)).2.2.2.2.1 (nI x) = _ from x2_foes hJ hn hx, Option.bind_some, show f_X2_sprungOnes ((S.1, S.2.1, S.2.2.1, S.2.2.2.1, S.2.2.2.2.1, S.2.2.2.2.2.1, Z, S.2.2.2.2.2.2.2.1, S.2.2.2.2.2.2.2.2.1, S.2.2.2.2.2.2.2.2.2)).2.2.2.2.1 = some (nI (spr a)) from congrArg some hJ.2.1, Option.bind_some, n_one (by omega), n_sd, n_sd, n_sd]
  have hM2 : MR (mLO M l o) a := hM
  have hh : ∀ y, y < aN a → (sd (sd (sd (2 ^ aN a - 1) (aF a x)) (spr a)) (2 ^ x)).testBit y = (!(aF a x).testBit y && (!decide (aK a y = 4) && !decide (y = x))) := fun y hy => by
    rw [sd_bit, sd_bit, sd_bit, all_bit, decide_eq_true hy, Nat.testBit_two_pow]
    unfold spr
    rw [bset_bit, decide_eq_true hy, Bool.true_and, Bool.true_and, Bool.and_assoc]
    by_cases c : y = x
    · rw [decide_eq_true c, decide_eq_true c.symm]
    · rw [decide_eq_false c, decide_eq_false (show ¬ x = y from fun q => c q.symm)]
  have h1N : 0 < 2 ^ aN a := Nat.two_pow_pos _
  have hlt : sd (sd (sd (2 ^ aN a - 1) (aF a x)) (spr a)) (2 ^ x) < 2 ^ aN a := sd_lt (sd_lt (sd_lt (by omega)))
  revert hh hlt
  generalize sd (sd (sd (2 ^ aN a - 1) (aF a x)) (spr a)) (2 ^ x) = H
  intro hh hlt
  have lfle : ∀ y v, lfx R (2 ^ aN a) H y = some v → v ≤ 112 := fun y v e => by
    unfold lfx at e
    split at e
    · exact lf0_le h e
    · cases e
  have eC : f_X10_ill_62 4096 ((S.1, S.2.1, S.2.2.1, S.2.2.2.1, S.2.2.2.2.1, S.2.2.2.2.2.1, Z, S.2.2.2.2.2.2.2.1, S.2.2.2.2.2.2.2.2.1, S.2.2.2.2.2.2.2.2.2)) (nI H) (-9) (-9) 0 = (if qb (il (lfx R (2 ^ aN a) H) (aN a)) = -9 then some (qb (il (lfx R (2 ^ aN a) H) (aN a)), (S.1, S.2.1, S.2.2.1, S.2.2.2.1, S.2.2.2.2.1, S.2.2.2.2.2.1, Z, S.2.2.2.2.2.2.2.1, S.2.2.2.2.2.2.2.2.1, S.2.2.2.2.2.2.2.2.2)) else some (qb (il (lfx R (2 ^ aN a) H) (aN a)), (tel S.1 (qa (il (lfx R (2 ^ aN a) H) (aN a))), S.2.1, S.2.2.1, S.2.2.2.1, S.2.2.2.2.1, S.2.2.2.2.2.1, Z, S.2.2.2.2.2.2.2.1, S.2.2.2.2.2.2.2.2.1, S.2.2.2.2.2.2.2.2.2))) := by
    refine loop_is (fun f (σ : Int32 × Int32) v5 => f_X10_ill_62 f ((S.1, S.2.1, S.2.2.1, S.2.2.2.1, S.2.2.2.2.1, S.2.2.2.2.2.1, Z, S.2.2.2.2.2.2.2.1, S.2.2.2.2.2.2.2.2.1, S.2.2.2.2.2.2.2.2.2)) (nI H) σ.1 σ.2 v5) (fun k => (qb (il (lfx R (2 ^ aN a) H) k), qa (il (lfx R (2 ^ aN a) H) k))) 0 (aN a) _ (fun n => ?_) (fun n k _ hk => ?_) 4096 0 (Nat.le_refl _) (by omega) (by omega)
    · show f_X10_ill_62 (n + 1) ((S.1, S.2.1, S.2.2.1, S.2.2.2.1, S.2.2.2.2.1, S.2.2.2.2.2.1, Z, S.2.2.2.2.2.2.2.1, S.2.2.2.2.2.2.2.2.1, S.2.2.2.2.2.2.2.2.2)) (nI H) _ _ (nI (aN a)) = _
      rw [f_X10_ill_62, show f_X2_cells ((S.1, S.2.1, S.2.2.1, S.2.2.2.1, S.2.2.2.2.1, S.2.2.2.2.2.1, Z, S.2.2.2.2.2.2.2.1, S.2.2.2.2.2.2.2.2.1, S.2.2.2.2.2.2.2.2.2)).2.2.2.2.1 = some (nI (aN a)) from congrArg some hJ.1, Option.bind_some, if_pos (nI_le (Nat.le_refl _) (by omega))]
      rfl
    · show f_X10_ill_62 (n + 1) ((S.1, S.2.1, S.2.2.1, S.2.2.2.1, S.2.2.2.2.1, S.2.2.2.2.2.1, Z, S.2.2.2.2.2.2.2.1, S.2.2.2.2.2.2.2.2.1, S.2.2.2.2.2.2.2.2.2)) (nI H) (qb (il (lfx R (2 ^ aN a) H) k)) (qa (il (lfx R (2 ^ aN a) H) k)) (nI k) = f_X10_ill_62 n ((S.1, S.2.1, S.2.2.1, S.2.2.2.1, S.2.2.2.2.1, S.2.2.2.2.2.1, Z, S.2.2.2.2.2.2.2.1, S.2.2.2.2.2.2.2.2.1, S.2.2.2.2.2.2.2.2.2)) (nI H) (qb (ilS (lfx R (2 ^ aN a) H k) k (il (lfx R (2 ^ aN a) H) k))) (qa (ilS (lfx R (2 ^ aN a) H k) k (il (lfx R (2 ^ aN a) H) k))) (nI (k + 1))
      rw [f_X10_ill_62, show f_X2_cells ((S.1, S.2.1, S.2.2.1, S.2.2.2.1, S.2.2.2.2.1, S.2.2.2.2.2.1, Z, S.2.2.2.2.2.2.2.1, S.2.2.2.2.2.2.2.2.1, S.2.2.2.2.2.2.2.2.2)).2.2.2.2.1 = some (nI (aN a)) from congrArg some hJ.1, Option.bind_some, if_neg (nI_ge hk (by omega)), n_tstb (show H < 2 ^ 31 by omega) (by omega), show f_X4_leastFor ((S.1, S.2.1, S.2.2.1, S.2.2.2.1, S.2.2.2.2.1, S.2.2.2.2.2.1, Z, S.2.2.2.2.2.2.2.1, S.2.2.2.2.2.2.2.2.1, S.2.2.2.2.2.2.2.2.2)).2.2.2.2.2.2.1 (nI k) = _ from x4_least h hk, Option.bind_some]
      have e98 : ∀ t : Option Nat, (∀ v, t = some v → v ≤ 112) → f_X10_ill_98 (f_X10_ill_62 n) ((S.1, S.2.1, S.2.2.1, S.2.2.2.1, S.2.2.2.2.1, S.2.2.2.2.2.1, Z, S.2.2.2.2.2.2.2.1, S.2.2.2.2.2.2.2.2.1, S.2.2.2.2.2.2.2.2.2)) (nI H) (qb (il (lfx R (2 ^ aN a) H) k)) (qa (il (lfx R (2 ^ aN a) H) k)) (nI k) (oI t) = f_X10_ill_62 n ((S.1, S.2.1, S.2.2.1, S.2.2.2.1, S.2.2.2.2.1, S.2.2.2.2.2.1, Z, S.2.2.2.2.2.2.2.1, S.2.2.2.2.2.2.2.2.1, S.2.2.2.2.2.2.2.2.2)) (nI H) (qb (ilS t k (il (lfx R (2 ^ aN a) H) k))) (qa (ilS t k (il (lfx R (2 ^ aN a) H) k))) (nI (k + 1)) := fun t htt => by
        unfold f_X10_ill_98
        rw [nI_1]
        cases t with
        | none => rw [oI_none, if_pos rfl]; rfl
        | some v =>
          have := htt v rfl
          rw [oI_some, if_neg (nI_m9 (by omega))]
          cases hq : il (lfx R (2 ^ aN a) H) k with
          | none => rw [if_pos (show qb none = -9 from rfl)]; rfl
          | some p =>
            obtain ⟨q1, y, q2, q3⟩ := il_some hq
            have := lfle y _ q3
            show (if nI p.2 = -9 then _ else if nI p.2 ≤ nI v then _ else _) = f_X10_ill_62 n _ _ (qb (if v < p.2 then some (k, v) else some p)) (qa (if v < p.2 then some (k, v) else some p)) _
            rw [if_neg (nI_m9 (by omega))]
            by_cases c : v < p.2
            · rw [if_neg (nI_ge c (by omega)), if_pos c]; rfl
            · rw [if_pos (nI_le (by omega) (by omega)), if_neg c] <;> rfl
      cases hb : H.testBit k with
      | true =>
        rw [if_pos (by decide), show lfx R (2 ^ aN a) H k = lf0 R (2 ^ aN a) k from if_pos hb]
        exact e98 _ (fun v => lf0_le h)
      | false =>
        rw [if_neg (by decide), show lfx R (2 ^ aN a) H k = none from if_neg (by rw [hb]; decide)]
        exact e98 none (fun v q => by cases q)
  have eM : f_X11_ill_26 4096 (mLO M l o) (nI x) (-9) 0 0 = (if qa (il (lfx R (2 ^ aN a) H) (aN a)) = -9 then some (-9, mLO M l o) else some (qc (il (lfx R (2 ^ aN a) H) (aN a)), (M.1, M.2.1, qa (il (lfx R (2 ^ aN a) H) (aN a)), M.2.2.2.1, M.2.2.2.2.1, M.2.2.2.2.2.1, M.2.2.2.2.2.2.1, M.2.2.2.2.2.2.2.1, M.2.2.2.2.2.2.2.2.1, M.2.2.2.2.2.2.2.2.2.1, M.2.2.2.2.2.2.2.2.2.2.1, M.2.2.2.2.2.2.2.2.2.2.2.1, M.2.2.2.2.2.2.2.2.2.2.2.2.1, M.2.2.2.2.2.2.2.2.2.2.2.2.2.1, M.2.2.2.2.2.2.2.2.2.2.2.2.2.2.1, M.2.2.2.2.2.2.2.2.2.2.2.2.2.2.2.1, M.2.2.2.2.2.2.2.2.2.2.2.2.2.2.2.2.1, M.2.2.2.2.2.2.2.2.2.2.2.2.2.2.2.2.2.1, M.2.2.2.2.2.2.2.2.2.2.2.2.2.2.2.2.2.2.1, M.2.2.2.2.2.2.2.2.2.2.2.2.2.2.2.2.2.2.2.1, M.2.2.2.2.2.2.2.2.2.2.2.2.2.2.2.2.2.2.2.2.1, M.2.2.2.2.2.2.2.2.2.2.2.2.2.2.2.2.2.2.2.2.2.1, l, o, M.2.2.2.2.2.2.2.2.2.2.2.2.2.2.2.2.2.2.2.2.2.2.2.2.1, M.2.2.2.2.2.2.2.2.2.2.2.2.2.2.2.2.2.2.2.2.2.2.2.2.2.1, M.2.2.2.2.2.2.2.2.2.2.2.2.2.2.2.2.2.2.2.2.2.2.2.2.2.2.1, M.2.2.2.2.2.2.2.2.2.2.2.2.2.2.2.2.2.2.2.2.2.2.2.2.2.2.2.1, M.2.2.2.2.2.2.2.2.2.2.2.2.2.2.2.2.2.2.2.2.2.2.2.2.2.2.2.2.1, M.2.2.2.2.2.2.2.2.2.2.2.2.2.2.2.2.2.2.2.2.2.2.2.2.2.2.2.2.2.1, M.2.2.2.2.2.2.2.2.2.2.2.2.2.2.2.2.2.2.2.2.2.2.2.2.2.2.2.2.2.2))) := by
    refine loop_is (fun f (σ : Int32 × Int32) v4 => f_X11_ill_26 f (mLO M l o) (nI x) σ.1 σ.2 v4) (fun k => (qa (il (lfx R (2 ^ aN a) H) k), qc (il (lfx R (2 ^ aN a) H) k))) 0 (aN a) _ (fun n => ?_) (fun n k _ hk => ?_) 4096 0 (Nat.le_refl _) (by omega) (by omega)
    · show f_X11_ill_26 (n + 1) (mLO M l o) (nI x) _ _ (nI (aN a)) = _
      rw [f_X11_ill_26, show (mLO M l o).2.2.2.2.2.2.2.2.2.2.1 = nI (aN a) from hM.1, if_pos (nI_le (Nat.le_refl _) (by omega))]
      rfl
    · show f_X11_ill_26 (n + 1) (mLO M l o) (nI x) (qa (il (lfx R (2 ^ aN a) H) k)) (qc (il (lfx R (2 ^ aN a) H) k)) (nI k) = f_X11_ill_26 n (mLO M l o) (nI x) (qa (ilS (lfx R (2 ^ aN a) H k) k (il (lfx R (2 ^ aN a) H) k))) (qc (ilS (lfx R (2 ^ aN a) H k) k (il (lfx R (2 ^ aN a) H) k))) (nI (k + 1))
      have h2 : 2 ^ k < 2 ^ aN a := Nat.pow_lt_pow_right (by decide) hk
      have e0 : ∀ v5 : Int32, f_X11_ill_83 (f_X11_ill_26 n) (mLO M l o) (nI x) (qa (il (lfx R (2 ^ aN a) H) k)) (qc (il (lfx R (2 ^ aN a) H) k)) (nI k) v5 0 = f_X11_ill_26 n (mLO M l o) (nI x) (qa (il (lfx R (2 ^ aN a) H) k)) (qc (il (lfx R (2 ^ aN a) H) k)) (nI (k + 1)) := fun v5 => by
        unfold f_X11_ill_83
        rw [if_pos rfl, nI_1]
      rw [f_X11_ill_26, show (mLO M l o).2.2.2.2.2.2.2.2.2.2.1 = nI (aN a) from hM.1, if_neg (nI_ge hk (by omega)), n_one (by omega), m_first h h2, Option.bind_some, m_quarrel hM2 hV hx (show k < 31 by omega), Option.bind_some, m_kind hM2 hn hk, Option.bind_some, e0]
      have hhk := hh k hk
      have kK := (hV.2.2 k hk).1
      by_cases c1 : k = x
      · rw [if_pos (by rw [c1]), show lfx R (2 ^ aN a) H k = none from if_neg (by rw [hhk, decide_eq_true c1]; simp)]; rfl
      rw [if_neg (fun q => c1 ((nI_eq (by omega) (by omega)).1 q))]
      rw [decide_eq_false c1] at hhk
      cases c2 : (aF a x).testBit k with
      | true =>
        rw [if_neg (by decide), show lfx R (2 ^ aN a) H k = none from if_neg (by rw [hhk, c2]; simp)]; rfl
      | false =>
        rw [if_pos (by decide)]
        by_cases c3 : aK a k = 4
        · rw [if_pos (by rw [c3]; rfl), show lfx R (2 ^ aN a) H k = none from if_neg (by rw [hhk, decide_eq_true c3]; simp)]; rfl
        rw [if_neg (fun q : nI (aK a k) = 4 => c3 ((nI_eq (by omega) (by decide)).1 q))]
        have hT : H.testBit k = true := by rw [hhk, c2, decide_eq_false c3]; rfl
        rw [show lfx R (2 ^ aN a) H k = lf0 R (2 ^ aN a) k from if_pos hT]
        unfold lf0
        cases hb : bw R (2 ^ k) (2 ^ aN a) with
        | none => rw [oI_none, if_pos rfl]; rfl
        | some b =>
          obtain ⟨b1, b2⟩ := bw_some hb
          rw [oI_some, if_neg (nI_m9 (by omega))]
          unfold f_X11_ill_83
          rw [if_neg (by decide), zIn_t (show b < 256 by omega) (by decide), nI_clamp (by omega), (h.2.1 b b1).1, nI_1]
          simp only [if_T]
          cases hrb : R b with
          | none => rw [hrb] at b2; cases b2
          | some v =>
            have := h.small b1 hrb
            cases hq : il (lfx R (2 ^ aN a) H) k with
            | none => rw [if_pos (show qa none = -9 from rfl)]; rfl
            | some p =>
              obtain ⟨q1, y, q2, q3⟩ := il_some hq
              have := lfle y _ q3
              show (if nI p.1 = -9 then _ else if nI p.2 ≤ nI v then _ else _) = f_X11_ill_26 n _ _ (qa (if v < p.2 then some (k, v) else some p)) (qc (if v < p.2 then some (k, v) else some p)) _
              rw [if_neg (nI_m9 (by omega))]
              by_cases c : v < p.2
              · rw [if_neg (nI_ge c (by omega)), if_pos c]; rfl
              · rw [if_pos (nI_le (by omega) (by omega)), if_neg c] <;> rfl
  rw [eC, eM]
  cases hq : il (lfx R (2 ^ aN a) H) (aN a) with
  | none => exact ⟨-9, _, _, by rw [if_pos (show qb none = -9 from rfl)]; rfl, by rw [if_pos (show qa none = -9 from rfl)], hR.reach Z l o⟩
  | some p =>
    obtain ⟨q1, y, q2, q3⟩ := il_some hq
    have := lfle y _ q3
    refine ⟨nI p.2, _, _, ?_, ?_, (hR.reach Z l o).tell (nI p.1)⟩
    · rw [if_neg (show ¬ qb (some p) = -9 from nI_m9 (by omega))]; rfl
    · rw [if_neg (show ¬ qa (some p) = -9 from nI_m9 (by omega))]; rfl
theorem st_without (hR : RR S M) (v1 : Int32) : ∃ r : Int32, ∃ S2 : VX10, ∃ M2 : VX11, f_X10_without S v1 = some (r, S2) ∧ f_X11_without M v1 = some (r, M2) ∧ RR S2 M2 := by
  obtain ⟨hT, hr6, ht, a, hA, hE, hZ⟩ := id hR
  obtain ⟨hV, hJ, hM⟩ := id hA
  have hn := hV.2.1
  have hN := hV.N
  unfold f_X10_without f_X11_without
  rcases ix2 v1 (n := aN a) (by omega) with h | ⟨x, hx, rfl⟩
  · exact ⟨-1, S, M, by rw [x2_out hJ.1 h] <;> rfl, by rw [m_cell0 hM.1 hn h] <;> rfl, hR⟩
  obtain ⟨Z, l, o, R, W, e1, e2, e3, h⟩ := RR.all hA
  have h1 : 0 < 2 ^ aN a := Nat.two_pow_pos _
  have hact : sd (2 ^ aN a - 1) (2 ^ x) < 2 ^ aN a := sd_lt (by omega)
  have hM2 : MR (mLO M l o) a := hM
  obtain ⟨Z', l', o', R', W', f1, f2, h'⟩ := both hJ hM2 hV hact Z
  rw [x2_in hJ.1 hn hx, Option.bind_some, if_neg i10, m_cell hM.1 hn hx, Option.bind_some, if_neg i10, e1, Option.bind_some, e2, Option.bind_some, e3, Option.bind_some, show f_X4_howMany ((S.1, S.2.1, S.2.2.1, S.2.2.2.1, S.2.2.2.2.1, S.2.2.2.2.2.1, Z, S.2.2.2.2.2.2.2.1, S.2.2.2.2.2.2.2.2.1, S.2.2.2.2.2.2.2.2.2)).2.2.2.2.2.2.1 = _ from x4_many h, Option.bind_some, show f_X4_inSome ((S.1, S.2.1, S.2.2.1, S.2.2.2.1, S.2.2.2.2.1, S.2.2.2.2.2.1, Z, S.2.2.2.2.2.2.2.1, S.2.2.2.2.2.2.2.2.1, S.2.2.2.2.2.2.2.2.2)).2.2.2.2.2.2.1 = _ from x4_some h, Option.bind_some, show f_X2_everyone ((S.1, S.2.1, S.2.2.1, S.2.2.2.1, S.2.2.2.2.1, S.2.2.2.2.2.1, Z, S.2.2.2.2.2.2.2.1, S.2.2.2.2.2.2.2.2.1, S.2.2.2.2.2.2.2.2.2)).2.2.2.2.1 = _ from x2_all hJ.1 hn, Option.bind_some, n_one (by omega), n_sd, show f_X4_fill ((S.1, S.2.1, S.2.2.1, S.2.2.2.1, S.2.2.2.2.1, S.2.2.2.2.2.1, Z, S.2.2.2.2.2.2.2.1, S.2.2.2.2.2.2.2.2.1, S.2.2.2.2.2.2.2.2.2)).2.2.2.2.2.2.1 ((S.1, S.2.1, S.2.2.1, S.2.2.2.1, S.2.2.2.2.1, S.2.2.2.2.2.1, Z, S.2.2.2.2.2.2.2.1, S.2.2.2.2.2.2.2.2.1, S.2.2.2.2.2.2.2.2.2)).2.2.2.2.1 (nI (sd (2 ^ aN a - 1) (2 ^ x))) = _ from f1, Option.bind_some, x4_some h', Option.bind_some, x4_many h', m_many h, Option.bind_some, m_some h, Option.bind_some, m_all hM2.1 hn, Option.bind_some, n_sd (2 ^ aN a - 1) (2 ^ x), f2, Option.bind_some, m_some h', Option.bind_some, m_many h', Option.bind_some, n_sd (un (rP R) (2 ^ aN a)) (un (rP R') (2 ^ aN a)), n_and, n_sd (sd (un (rP R) (2 ^ aN a)) (un (rP R') (2 ^ aN a))) (2 ^ x)]
  have e : sd (un (rP R) (2 ^ aN a)) (un (rP R') (2 ^ aN a)) &&& sd (2 ^ aN a - 1) (2 ^ x) = sd (sd (un (rP R) (2 ^ aN a)) (un (rP R') (2 ^ aN a))) (2 ^ x) := Nat.eq_of_testBit_eq fun i => by
    rw [Nat.testBit_and, sd_bit, sd_bit, sd_bit, sd_bit, all_bit]
    by_cases c : i < aN a
    · rw [decide_eq_true c, Bool.true_and]
    · rw [s_out (un_lt (p := rP R) (m := aN a) (2 ^ aN a) (Nat.le_refl _)) (show aN a ≤ i by omega)]; rfl
  rw [e]
  exact ⟨_, _, _, rfl, rfl, (hR.reach Z' l' o').tell _⟩
end
