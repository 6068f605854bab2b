/-! THE STEPS: bands, nights -/
theorem x10_gets {S : VX10} {Z : VX4} {M : VX11} {a : AJ} {t : Nat} {R : Nat → Option Nat} {W : Nat → Nat} (e : f_X4_fill S.2.2.2.2.2.2.1 S.2.2.2.2.1 (nI t) = some Z) (h : TB Z M a t R W) : f_X10_getsOut S (nI t) = some (bI (R t).isSome, (S.1, S.2.1, S.2.2.1, S.2.2.2.1, S.2.2.2.2.1, S.2.2.2.2.2.1, Z, S.2.2.2.2.2.2.2.1, S.2.2.2.2.2.2.2.2.1, S.2.2.2.2.2.2.2.2.2)) := by
  unfold f_X10_getsOut
  rw [e, Option.bind_some, x4_has h h.actN, Option.bind_some]
  exact if_pos (by cases (R t).isSome <;> simp [bI])
theorem m_band {M : VX11} {l o : Nat → Int32} {Z : VX4} {a : AJ} {t : Nat} {R : Nat → Option Nat} {W : Nat → Nat} (e : f_X11_layLeasts M (nI t) = some (mLO M l o)) (h : TB Z (mLO M l o) a t R W) : f_X11_bandCost M (nI t) = some (nI (nv (R t)), mLO M l o) := by
  have hN := h.N
  have hA := h.actN
  unfold f_X11_bandCost
  rw [e, Option.bind_some, zIn_t (show t < 256 by omega) (by decide), if_pos rfl, if_pos rfl, nI_clamp (by omega)]
  have ho := h.ord hA
  cases hr : R t with
  | none => rw [if_pos (ho.2 (by rw [hr]; rfl))]; rfl
  | some v => rw [if_neg (fun q => by have := ho.1 q; rw [hr] at this; cases this), (h.2.1 t hA).1, hr]
theorem sEta (S : VX10) : S = (S.1, S.2.1, S.2.2.1, S.2.2.2.1, S.2.2.2.2.1, S.2.2.2.2.2.1, S.2.2.2.2.2.2.1, S.2.2.2.2.2.2.2.1, S.2.2.2.2.2.2.2.2.1, S.2.2.2.2.2.2.2.2.2) := rfl
section
variable {S : VX10} {M : VX11}
theorem st_band (hR : RR S M) (v1 : Int32) : ∃ r : Int32, ∃ S2 : VX10, ∃ M2 : VX11, f_X10_band S v1 = some (r, S2) ∧ f_X11_band M v1 = some (r, M2) ∧ RR S2 M2 := by
  obtain ⟨hT, hr6, ht, a, hA, hE, hZ⟩ := id hR
  obtain ⟨hV, hJ, hM⟩ := id hA
  have hn := hV.2.1
  have hN := hV.N
  unfold f_X10_band f_X11_band
  rcases ix2 v1 (n := 2 ^ aN a) (by omega) with h | ⟨t, ht2, rfl⟩
  · exact ⟨-1, S, M, by rw [x2_setF hJ.1 hn h] <;> rfl, by rw [m_setF hM.1 hn h] <;> rfl, hR⟩
  rw [x2_setT hJ.1 hn ht2, Option.bind_some, if_neg i10, m_setT hM.1 hn ht2, Option.bind_some, if_neg i10]
  by_cases c : t = 0
  · subst c
    exact ⟨-1, S, M, by rw [if_pos (by decide)], by rw [if_pos (by decide)], hR⟩
  obtain ⟨Z, l, o, R, W, e1, e2, h⟩ := both hJ hM hV ht2 S.2.2.2.2.2.2.1
  rw [if_neg (nI_ne0 (by omega) (by omega)), if_neg (nI_ne0 (by omega) (by omega)), x10_gets e1 h, Option.bind_some, m_band e2 h, Option.bind_some, show f_X4_favoursOf ((bI (R t).isSome, (S.1, S.2.1, S.2.2.1, S.2.2.2.1, S.2.2.2.2.1, S.2.2.2.2.2.1, Z, S.2.2.2.2.2.2.2.1, S.2.2.2.2.2.2.2.2.1, S.2.2.2.2.2.2.2.2.2)) : Int32 × VX10).2.2.2.2.2.2.2.1 (nI t) = _ from x4_fav h ht2, Option.bind_some]
  cases hr : R t with
  | none => exact ⟨-9, _, _, if_pos (show bI (none : Option Nat).isSome = 0 from rfl), if_neg (show ¬ nI (nv none) < (1000 : Int32) by decide), hR.reach Z l o⟩
  | some v =>
    have := h.small ht2 hr
    exact ⟨nI v, _, _, if_neg (show ¬ bI (some v).isSome = 0 from i10), if_pos (show nI (nv (some v)) < (1000 : Int32) from nI_lt (show v < 1000 by omega) (by decide)), hR.reach Z l o⟩
theorem st_bands (hR : RR S M) (v1 : Int32) : ∃ r : Int32, ∃ S2 : VX10, ∃ M2 : VX11, f_X10_bands S v1 = some (r, S2) ∧ f_X11_bands M v1 = some (r, M2) ∧ RR S2 M2 := by
  obtain ⟨hT, hr6, ht, a, hA, hE, hZ⟩ := id hR
  obtain ⟨hV, hJ, hM⟩ := id hA
  have hn := hV.2.1
  have hN := hV.N
  have h1 : 0 < 2 ^ aN a := Nat.two_pow_pos _
  unfold f_X10_bands f_X11_bands
  rw [hM.1, show f_X2_cells S.2.2.2.2.1 = some (nI (aN a)) from congrArg some hJ.1, Option.bind_some]
  rcases pk_ix v1 (n := aN a + 1) (by omega) with h | h | ⟨b, hb, rfl⟩
  · exact ⟨-1, S, M, by rw [if_pos (show v1 < (1 : Int32) from Int32.lt_trans h (by decide))], by rw [show f_X11_in v1 1 (nI (aN a)) = some 0 from m_inF (lo := 1) (Or.inl (show v1 < nI 1 from Int32.lt_trans h (by decide))) (by omega)] <;> rfl, hR⟩
  · refine ⟨-1, S, M, ?_, by rw [show f_X11_in v1 1 (nI (aN a)) = some 0 from m_inF (lo := 1) (Or.inr h) (by omega)] <;> rfl, hR⟩
    by_cases c : v1 < 1
    · rw [if_pos c]
    · rw [if_neg c, if_neg (ge_nle h (by omega))]
  by_cases b0 : b = 0
  · subst b0
    exact ⟨-1, S, M, by rw [if_pos (by decide)], by rw [show f_X11_in (nI 0) 1 (nI (aN a)) = some 0 from m_inF (lo := 1) (Or.inl (by decide)) (by omega)] <;> rfl, hR⟩
  rw [if_neg (show ¬ nI b < (1 : Int32) from nI_nlt (show 1 ≤ b by omega) (by omega)), if_pos (nI_le (by omega) (by omega)), show f_X11_in (nI b) 1 (nI (aN a)) = some 1 from m_inT (lo := 1) (by omega) (by omega) (by omega), Option.bind_some, if_neg i10]
  rw [show f_X10_bands_26 4096 S (nI b) 0 (-9) 1 = f_X10_bands_26 4096 ((S.1, S.2.1, S.2.2.1, S.2.2.2.1, S.2.2.2.2.1, S.2.2.2.2.2.1, S.2.2.2.2.2.2.1, S.2.2.2.2.2.2.2.1, S.2.2.2.2.2.2.2.2.1, S.2.2.2.2.2.2.2.2.2)) (nI b) 0 (-9) 1 from congrArg (fun Z : VX10 => f_X10_bands_26 4096 Z (nI b) 0 (-9) 1) (sEta S), show f_X11_bands_22 4096 M (nI b) (-9) 0 1 = f_X11_bands_22 4096 (mLO M M.2.2.2.2.2.2.2.2.2.2.2.2.2.2.2.2.2.2.2.2.2.2.1 M.2.2.2.2.2.2.2.2.2.2.2.2.2.2.2.2.2.2.2.2.2.2.2.1) (nI b) (-9) 0 1 from congrArg (fun Z : VX11 => f_X11_bands_22 4096 Z (nI b) (-9) 0 1) (mLO_id M).symm]
  refine loop_two (fun f (σ : VX4 × Int32 × Int32) v4 => f_X10_bands_26 f ((S.1, S.2.1, S.2.2.1, S.2.2.2.1, S.2.2.2.2.1, S.2.2.2.2.2.1, σ.1, S.2.2.2.2.2.2.2.1, S.2.2.2.2.2.2.2.2.1, S.2.2.2.2.2.2.2.2.2)) (nI b) σ.2.1 σ.2.2 v4) (fun f (τ : (Nat → Int32) × (Nat → Int32) × Int32 × Int32) v4 => f_X11_bands_22 f (mLO M τ.1 τ.2.1) (nI b) τ.2.2.1 τ.2.2.2 v4) (2 ^ aN a) (fun _ σ τ => σ.2.1 = τ.2.2.2 ∧ σ.2.2 = τ.2.2.1) (fun p q => ∃ r : Int32, ∃ S2 : VX10, ∃ M2 : VX11, p = some (r, S2) ∧ q = some (r, M2) ∧ RR S2 M2) ?_ ?_ 4096 4096 1 (S.2.2.2.2.2.2.1, 0, -9) (M.2.2.2.2.2.2.2.2.2.2.2.2.2.2.2.2.2.2.2.2.2.2.1, M.2.2.2.2.2.2.2.2.2.2.2.2.2.2.2.2.2.2.2.2.2.2.2.1, -9, 0) (by omega) ⟨rfl, rfl⟩ (by omega) (by omega)
  · rintro n n' ⟨Z, v2, v3⟩ ⟨l, o, w3, w2⟩ ⟨g1, g2⟩
    cases g1; cases g2
    refine ⟨v2, _, _, ?_, ?_, (hR.reach Z l o).tell v3⟩
    · show f_X10_bands_26 (n + 1) ((S.1, S.2.1, S.2.2.1, S.2.2.2.1, S.2.2.2.2.1, S.2.2.2.2.2.1, Z, S.2.2.2.2.2.2.2.1, S.2.2.2.2.2.2.2.2.1, S.2.2.2.2.2.2.2.2.2)) (nI b) v2 v3 (nI (2 ^ aN a)) = _
      rw [f_X10_bands_26, show f_X2_everyone ((S.1, S.2.1, S.2.2.1, S.2.2.2.1, S.2.2.2.2.1, S.2.2.2.2.2.1, Z, S.2.2.2.2.2.2.2.1, S.2.2.2.2.2.2.2.2.1, S.2.2.2.2.2.2.2.2.2)).2.2.2.2.1 = _ from x2_all hJ.1 hn, Option.bind_some, if_pos (nI_lt (by omega) (by omega))] <;> rfl
    · show f_X11_bands_22 (n' + 1) (mLO M l o) (nI b) v3 v2 (nI (2 ^ aN a)) = _
      rw [f_X11_bands_22, m_all (show (mLO M l o).2.2.2.2.2.2.2.2.2.2.1 = nI (aN a) from hM.1) hn, Option.bind_some, if_pos (nI_lt (by omega) (by omega))] <;> rfl
  · rintro n n' ⟨Z, v2, v3⟩ ⟨l, o, w3, w2⟩ t htt ⟨g1, g2⟩
    cases g1; cases g2
    right
    have hM2 : MR (mLO M l o) a := hM
    obtain ⟨Z', l', o', R, W, e1, e2, h⟩ := both hJ hM2 hV htt Z
    show ∃ (σ : VX4 × Int32 × Int32) (τ : (Nat → Int32) × (Nat → Int32) × Int32 × Int32), (σ.2.1 = τ.2.2.2 ∧ σ.2.2 = τ.2.2.1) ∧ f_X10_bands_26 (n + 1) ((S.1, S.2.1, S.2.2.1, S.2.2.2.1, S.2.2.2.2.1, S.2.2.2.2.2.1, Z, S.2.2.2.2.2.2.2.1, S.2.2.2.2.2.2.2.2.1, S.2.2.2.2.2.2.2.2.2)) (nI b) v2 v3 (nI t) = f_X10_bands_26 n ((S.1, S.2.1, S.2.2.1, S.2.2.2.1, S.2.2.2.2.1, S.2.2.2.2.2.1, σ.1, S.2.2.2.2.2.2.2.1, S.2.2.2.2.2.2.2.2.1, S.2.2.2.2.2.2.2.2.2)) (nI b) σ.2.1 σ.2.2 (nI (t + 1)) ∧ f_X11_bands_22 (n' + 1) (mLO M l o) (nI b) v3 v2 (nI t) = f_X11_bands_22 n' (mLO M τ.1 τ.2.1) (nI b) τ.2.2.1 τ.2.2.2 (nI (t + 1))
    rw [f_X10_bands_26, show f_X2_everyone ((S.1, S.2.1, S.2.2.1, S.2.2.2.1, S.2.2.2.2.1, S.2.2.2.2.2.1, Z, S.2.2.2.2.2.2.2.1, S.2.2.2.2.2.2.2.2.1, S.2.2.2.2.2.2.2.2.2)).2.2.2.2.1 = _ from x2_all hJ.1 hn, Option.bind_some, if_neg (nI_nlt (by omega) (by omega)), n_cnt (show t < 256 by omega), Option.bind_some, f_X11_bands_22, m_all (show (mLO M l o).2.2.2.2.2.2.2.2.2.2.1 = nI (aN a) from hM.1) hn, Option.bind_some, if_neg (nI_nlt (by omega) (by omega)), n_bits (show t < 256 by omega), Option.bind_some, nI_1]
    have p8 := pc_le t
    by_cases c : pc t = b
    · rw [if_pos (by rw [c]), if_pos (by rw [c]), x10_gets (S := (S.1, S.2.1, S.2.2.1, S.2.2.2.1, S.2.2.2.2.1, S.2.2.2.2.2.1, Z, S.2.2.2.2.2.2.2.1, S.2.2.2.2.2.2.2.2.1, S.2.2.2.2.2.2.2.2.2)) e1 h, Option.bind_some, m_band e2 h, Option.bind_some]
      cases hr : R t with
      | none =>
        exact ⟨(Z', v2, v3), (l', o', v3, v2), ⟨rfl, rfl⟩, if_pos (show bI (none : Option Nat).isSome = 0 from rfl), if_pos (show (1000 : Int32) ≤ nI (nv none) by decide)⟩
      | some v =>
        have := h.small htt hr
        have g1 : ¬ bI (some v).isSome = 0 := i10
        have g2 : ¬ (1000 : Int32) ≤ nI (nv (some v)) := nI_ge (show v < 1000 by omega) (by decide)
        by_cases d : v2 = 0
        · exact ⟨(Z', v2 + 1, nI t), (l', o', nI t, v2 + 1), ⟨rfl, rfl⟩, (if_neg g1).trans (if_pos d), (if_neg g2).trans (if_pos d)⟩
        · exact ⟨(Z', v2 + 1, v3), (l', o', v3, v2 + 1), ⟨rfl, rfl⟩, (if_neg g1).trans (if_neg d), (if_neg g2).trans (if_neg d)⟩
    · have c' : ¬ nI (pc t) = nI b := fun q => c ((nI_eq (by omega) (by omega)).1 q)
      exact ⟨(Z, v2, v3), (l, o, v3, v2), ⟨rfl, rfl⟩, by rw [if_neg c'], by rw [if_neg c']⟩
end
/-! nights -/
def ftB (cw : Nat → Nat) (cb : Nat → Bool) (t : Nat) : Nat → Bool
  | 0 => true
  | i + 1 => ftB cw cb t i && (t.testBit (cw i) == cb i)
theorem ftB_false {cw : Nat → Nat} {cb : Nat → Bool} {t i : Nat} (h : ftB cw cb t i = false) : ∀ k, i ≤ k → ftB cw cb t k = false
  | 0, hk => by rw [show i = 0 by omega] at h; exact h
  | k + 1, hk => by
    by_cases e : i = k + 1
    · rw [← e]; exact h
    · rw [ftB, ftB_false h k (by omega)]; rfl
section
variable {Z : VX7} {M : VX11} {n m : Nat} {cw : Nat → Nat} {cb : Nat → Bool}
theorem x7_fit (hm : m ≤ 8) (hn : n ≤ 8) (s1 : Z.2.2 = nI m) (hs : ∀ i, i < m → cw i < n ∧ Z.1 i = nI (cw i) ∧ M.2.2.2.2.2.2.2.2.2.2.2.2.2.2.2.2.2.2.2.2.2.2.2.2.2.2.2.2.1 i = nI (cw i) ∧ Z.2.1 i = bI (cb i) ∧ M.2.2.2.2.2.2.2.2.2.2.2.2.2.2.2.2.2.2.2.2.2.2.2.2.2.2.2.2.2.1 i = bI (cb i)) {t : Nat} (ht : t < 256) : f_X7_fit Z (nI t) = some (bI (ftB cw cb t m)) := by
  unfold f_X7_fit
  refine loop_up (fun f (_ : Unit) v2 => f_X7_fit_2 f Z (nI t) v2) m (fun i _ => ftB cw cb t i = true) (fun o => o = some (bI (ftB cw cb t m))) ?_ ?_ 4096 0 () (Nat.zero_le _) rfl (by omega)
  · intro f _ h
    show f_X7_fit_2 (f + 1) Z (nI t) (nI m) = _
    rw [f_X7_fit_2, s1, if_pos (nI_le (Nat.le_refl _) (by omega)), h]; rfl
  · intro f _ i hi h
    obtain ⟨g1, g2, g3, g4, g5⟩ := hs i hi
    show f_X7_fit_2 (f + 1) Z (nI t) (nI i) = _ ∨ ∃ s' : Unit, ftB cw cb t (i + 1) = true ∧ f_X7_fit_2 (f + 1) Z (nI t) (nI i) = f_X7_fit_2 f Z (nI t) (nI (i + 1))
    rw [f_X7_fit_2, s1, if_neg (nI_ge hi (by omega)), if_neg (show ¬ (8 : Int32) ≤ nI i from nI_ge (show i < 8 by omega) (by decide)), zIn_t (show i < 8 by omega) (by decide), if_pos rfl, if_pos rfl, nI_clamp (by omega), g2, g4, n_tstb (show t < 2 ^ 31 by omega) (by omega), nI_1]
    by_cases c : t.testBit (cw i) = cb i
    · right
      exact ⟨(), by rw [ftB, h, c]; simp, by rw [if_pos (bI_inj.2 c)]⟩
    · left
      have hf : ftB cw cb t (i + 1) = false := by rw [ftB, h, Bool.true_and]; exact beq_false_of_ne c
      rw [if_neg (fun q => c (bI_inj.1 q)), ftB_false hf m (by omega)]; rfl
theorem m_fit28 (hm : m ≤ 8) (hn : n ≤ 8) (s2 : M.2.2.2.2.2.2.2.2.2.2.2.2.2.2.2.2.2.2.2.2.2.2.2.2.2.2.2.1 = nI m) (hs : ∀ i, i < m → cw i < n ∧ Z.1 i = nI (cw i) ∧ M.2.2.2.2.2.2.2.2.2.2.2.2.2.2.2.2.2.2.2.2.2.2.2.2.2.2.2.2.1 i = nI (cw i) ∧ Z.2.1 i = bI (cb i) ∧ M.2.2.2.2.2.2.2.2.2.2.2.2.2.2.2.2.2.2.2.2.2.2.2.2.2.2.2.2.2.1 i = bI (cb i)) {t : Nat} (ht : t < 256) (b : Bool) : f_X11_fits_28 4096 M (nI t) (bI b) 0 = some (bI (b && ftB cw cb t m)) := by
  have e0 : bI b = bI (b && ftB cw cb t 0) := by rw [ftB, Bool.and_true]
  rw [e0]
  refine loop_is (fun f v3 v4 => f_X11_fits_28 f M (nI t) v3 v4) (fun i => bI (b && ftB cw cb t i)) 0 m _ (fun f => ?_) (fun f i _ hi => ?_) 4096 0 (Nat.le_refl _) (by omega) (by omega)
  · show f_X11_fits_28 (f + 1) M (nI t) _ (nI m) = _
    rw [f_X11_fits_28, s2, if_pos (nI_le (Nat.le_refl _) (by omega))]
    exact if_pos (by cases b && ftB cw cb t m <;> simp [bI])
  · obtain ⟨g1, g2, g3, g4, g5⟩ := hs i hi
    show f_X11_fits_28 (f + 1) M (nI t) (bI (b && ftB cw cb t i)) (nI i) = f_X11_fits_28 f M (nI t) (bI (b && (ftB cw cb t i && (t.testBit (cw i) == cb i)))) (nI (i + 1))
    rw [f_X11_fits_28, s2, if_neg (nI_ge hi (by omega)), zIn_t (show i < 8 by omega) (by decide), if_pos rfl, nI_clamp (by omega), g3, n_has (show t < 2 ^ 31 by omega) (by omega), Option.bind_some, if_pos rfl, g5, nI_1, ← Bool.and_assoc]
    cases h : b && ftB cw cb t i with
    | false => rw [if_pos (by decide)]; rfl
    | true =>
      rw [if_neg (by decide), Bool.true_and]
      unfold f_X11_fits_68
      rw [nI_1]
      cases cb i <;> cases t.testBit (cw i) <;> rfl
end
section
variable {S : VX10} {M : VX11}
theorem x10_fits {Z : VX4} {N : VX11} {a : AJ} {act : Nat} {R : Nat → Option Nat} {W : Nat → Nat} (h : TB Z N a act R W) (hZ : S.2.2.2.2.2.2.1 = Z) {m : Nat} {cw : Nat → Nat} {cb : Nat → Bool} (hm : m ≤ 8) (s1 : S.2.2.2.2.2.2.2.2.2.2.2 = nI m) (hs : ∀ i, i < m → cw i < aN a ∧ S.2.2.2.2.2.2.2.2.2.1 i = nI (cw i) ∧ M.2.2.2.2.2.2.2.2.2.2.2.2.2.2.2.2.2.2.2.2.2.2.2.2.2.2.2.2.1 i = nI (cw i) ∧ S.2.2.2.2.2.2.2.2.2.2.1 i = bI (cb i) ∧ M.2.2.2.2.2.2.2.2.2.2.2.2.2.2.2.2.2.2.2.2.2.2.2.2.2.2.2.2.2.1 i = bI (cb i)) {t f : Nat} (ht : t < 2 ^ aN a) (hf : f < 100) : f_X10_fitsNight S (nI t) (nI f) = some (bI ((R t).isSome && decide (nv (R t) ≤ f) && ftB cw cb t m)) := by
  have hN := h.N
  unfold f_X10_fitsNight
  rw [hZ, x4_has h ht, Option.bind_some, x4_fav h ht, Option.bind_some, x7_fit hm h.n8 s1 hs (show t < 256 by omega), Option.bind_some]
  cases hr : R t with
  | none => rw [if_pos (by decide)]; rfl
  | some v =>
    have := h.small ht hr
    rw [if_neg (show ¬ bI (some v).isSome = 0 from i10), oI_some]
    show (if nI f < nI v then some 0 else if bI (ftB cw cb t m) = 0 then some 0 else some 1) = some (bI (true && decide (v ≤ f) && ftB cw cb t m))
    by_cases c : v ≤ f
    · rw [if_neg (nI_nlt c (by omega)), decide_eq_true c]
      cases ftB cw cb t m <;> rfl
    · rw [if_pos (nI_lt (by omega) (by omega)), decide_eq_false c]; rfl
theorem m_fits {Z : VX4} {a : AJ} {act : Nat} {R : Nat → Option Nat} {W : Nat → Nat} (h : TB Z M a act R W) {Y : VX7} {m : Nat} {cw : Nat → Nat} {cb : Nat → Bool} (hm : m ≤ 8) (s2 : M.2.2.2.2.2.2.2.2.2.2.2.2.2.2.2.2.2.2.2.2.2.2.2.2.2.2.2.1 = nI m) (hs : ∀ i, i < m → cw i < aN a ∧ Y.1 i = nI (cw i) ∧ M.2.2.2.2.2.2.2.2.2.2.2.2.2.2.2.2.2.2.2.2.2.2.2.2.2.2.2.2.1 i = nI (cw i) ∧ Y.2.1 i = bI (cb i) ∧ M.2.2.2.2.2.2.2.2.2.2.2.2.2.2.2.2.2.2.2.2.2.2.2.2.2.2.2.2.2.1 i = bI (cb i)) {t f : Nat} (ht : t < 2 ^ aN a) (hf : f < 100) : f_X11_fits M (nI t) (nI f) = some (bI ((R t).isSome && decide (nv (R t) ≤ f) && ftB cw cb t m)) := by
  have hN := h.N
  have ho := h.ord ht
  have b0 : f_X11_fits_28 4096 M (nI t) 0 0 = some (bI (false && ftB cw cb t m)) := m_fit28 hm h.n8 s2 hs (show t < 256 by omega) false
  have b1 : f_X11_fits_28 4096 M (nI t) 1 0 = some (bI (true && ftB cw cb t m)) := m_fit28 hm h.n8 s2 hs (show t < 256 by omega) true
  unfold f_X11_fits
  rw [zIn_t (show t < 256 by omega) (by decide), if_pos rfl, if_pos rfl, nI_clamp (by omega), b0, b1, (h.2.1 t ht).1]
  cases hr : R t with
  | none => rw [if_pos (ho.2 (by rw [hr]; rfl))]; rfl
  | some v =>
    have := h.small ht hr
    rw [if_neg (fun q => by have := ho.1 q; rw [hr] at this; cases this)]
    show (if nI f < nI v then _ else _) = some (bI (true && decide (v ≤ f) && ftB cw cb t m))
    by_cases c : v ≤ f
    · rw [if_neg (nI_nlt c (by omega)), decide_eq_true c]; rfl
    · rw [if_pos (nI_lt (by omega) (by omega)), decide_eq_false c]; rfl
theorem x10_favT {f : Nat} (h : f < 100) : f_X10_isFavours (nI f) = some 1 := by
  unfold f_X10_isFavours
  rw [if_neg (nI_pos (by omega)), if_neg (show ¬ (99 : Int32) < nI f from nI_nlt (show f ≤ 99 by omega) (by decide))]
theorem x10_favF {v : Int32} (h : v < 0 ∨ nI 100 ≤ v) : f_X10_isFavours v = some 0 := by
  unfold f_X10_isFavours
  by_cases h0 : v < 0
  · rw [if_pos h0]
  · rw [if_neg h0, if_pos (show (99 : Int32) < v from ge_lt (n := 99) (h.resolve_left h0) (by decide))]
theorem st_culprits (hR : RR S M) (v1 : Int32) : ∃ r : Int32, ∃ S2 : VX10, ∃ M2 : VX11, f_X10_culprits S v1 = some (r, S2) ∧ f_X11_culprits M v1 = some (r, M2) ∧ RR S2 M2 := by
  obtain ⟨hT, hr6, ht, a, hA, hE, ⟨m, cw, cb, hm, s1, s2, hs⟩⟩ := id hR
  obtain ⟨hV, hJ, hM⟩ := id hA
  have hn := hV.2.1
  have hN := hV.N
  have h1 : 0 < 2 ^ aN a := Nat.two_pow_pos _
  unfold f_X10_culprits f_X11_culprits
  rcases ix2 v1 (n := 100) (by decide) with h | ⟨f, hf, rfl⟩
  · exact ⟨-1, S, M, by rw [x10_favF h] <;> rfl, by rw [show f_X11_in v1 0 99 = some 0 from m_inF (lo := 0) (hi := 99) h (by decide)] <;> rfl, hR⟩
  obtain ⟨Z, l, o, R, W, e1, e2, e3, h⟩ := RR.all hA
  rw [x10_favT hf, Option.bind_some, if_neg i10, show f_X11_in (nI f) 0 99 = some 1 from m_inT (lo := 0) (hi := 99) (Nat.zero_le _) (by omega) (by decide), Option.bind_some, if_neg i10, e1, Option.bind_some, e2, Option.bind_some, e3, Option.bind_some, show f_X2_everyone ((S.1, S.2.1, S.2.2.1, S.2.2.2.1, S.2.2.2.2.1, S.2.2.2.2.2.1, Z, S.2.2.2.2.2.2.2.1, S.2.2.2.2.2.2.2.2.1, S.2.2.2.2.2.2.2.2.2)).2.2.2.2.1 = _ from x2_all hJ.1 hn, Option.bind_some, m_all h.2.2.2.2.2.2 hn, Option.bind_some]
  refine loop_two (fun g (σ : Int32 × Int32 × Int32) v5 => f_X10_culprits_29 g ((S.1, S.2.1, S.2.2.1, S.2.2.2.1, S.2.2.2.2.1, S.2.2.2.2.2.1, Z, S.2.2.2.2.2.2.2.1, S.2.2.2.2.2.2.2.2.1, S.2.2.2.2.2.2.2.2.2)) (nI f) σ.1 σ.2.1 σ.2.2 v5) (fun g (σ : Int32 × Int32 × Int32) v5 => f_X11_culprits_33 g (mLO M l o) (nI f) σ.1 σ.2.1 σ.2.2 v5) (2 ^ aN a) (fun _ σ τ => σ = τ) (fun p q => ∃ r : Int32, ∃ S2 : VX10, ∃ M2 : VX11, p = some (r, S2) ∧ q = some (r, M2) ∧ RR S2 M2) ?_ ?_ 4096 4096 0 (0, nI (2 ^ aN a - 1), 0) (0, nI (2 ^ aN a - 1), 0) (by omega) rfl (by omega) (by omega)
  · rintro n n' ⟨v2, v3, v4⟩ _ rfl
    show ∃ r : Int32, ∃ S2 : VX10, ∃ M2 : VX11, f_X10_culprits_29 (n + 1) ((S.1, S.2.1, S.2.2.1, S.2.2.2.1, S.2.2.2.2.1, S.2.2.2.2.2.1, Z, S.2.2.2.2.2.2.2.1, S.2.2.2.2.2.2.2.2.1, S.2.2.2.2.2.2.2.2.2)) (nI f) v2 v3 v4 (nI (2 ^ aN a)) = some (r, S2) ∧ f_X11_culprits_33 (n' + 1) (mLO M l o) (nI f) v2 v3 v4 (nI (2 ^ aN a)) = some (r, M2) ∧ RR S2 M2
    rw [f_X10_culprits_29, show f_X2_everyone ((S.1, S.2.1, S.2.2.1, S.2.2.2.1, S.2.2.2.2.1, S.2.2.2.2.2.1, Z, S.2.2.2.2.2.2.2.1, S.2.2.2.2.2.2.2.2.1, S.2.2.2.2.2.2.2.2.2)).2.2.2.2.1 = _ from x2_all hJ.1 hn, Option.bind_some, if_pos (nI_lt (by omega) (by omega)), f_X11_culprits_33, m_all h.2.2.2.2.2.2 hn, Option.bind_some, if_pos (nI_lt (by omega) (by omega))]
    by_cases c : v4 = 0
    · exact ⟨-9, _, _, by rw [if_pos c], by rw [if_pos c], hR.reach Z l o⟩
    · exact ⟨v2, _, _, by rw [if_neg c]; rfl, by rw [if_neg c]; rfl, (hR.reach Z l o).tell v3⟩
  · rintro n n' ⟨v2, v3, v4⟩ _ t htt rfl
    right
    show ∃ (σ τ : Int32 × Int32 × Int32), σ = τ ∧ f_X10_culprits_29 (n + 1) ((S.1, S.2.1, S.2.2.1, S.2.2.2.1, S.2.2.2.2.1, S.2.2.2.2.2.1, Z, S.2.2.2.2.2.2.2.1, S.2.2.2.2.2.2.2.2.1, S.2.2.2.2.2.2.2.2.2)) (nI f) v2 v3 v4 (nI t) = f_X10_culprits_29 n ((S.1, S.2.1, S.2.2.1, S.2.2.2.1, S.2.2.2.2.1, S.2.2.2.2.2.1, Z, S.2.2.2.2.2.2.2.1, S.2.2.2.2.2.2.2.2.1, S.2.2.2.2.2.2.2.2.2)) (nI f) σ.1 σ.2.1 σ.2.2 (nI (t + 1)) ∧ f_X11_culprits_33 (n' + 1) (mLO M l o) (nI f) v2 v3 v4 (nI t) = f_X11_culprits_33 n' (mLO M l o) (nI f) τ.1 τ.2.1 τ.2.2 (nI (t + 1))
    rw [f_X10_culprits_29, show f_X2_everyone ((S.1, S.2.1, S.2.2.1, S.2.2.2.1, S.2.2.2.2.1, S.2.2.2.2.2.1, Z, S.2.2.2.2.2.2.2.1, S.2.2.2.2.2.2.2.2.1, S.2.2.2.2.2.2.2.2.2)).2.2.2.2.1 = _ from x2_all hJ.1 hn, Option.bind_some, if_neg (nI_nlt (by omega) (by omega)), x10_fits (S := (S.1, S.2.1, S.2.2.1, S.2.2.2.1, S.2.2.2.2.1, S.2.2.2.2.2.1, Z, S.2.2.2.2.2.2.2.1, S.2.2.2.2.2.2.2.2.1, S.2.2.2.2.2.2.2.2.2)) (M := M) h rfl hm s1 hs htt hf, Option.bind_some, f_X11_culprits_33, m_all h.2.2.2.2.2.2 hn, Option.bind_some, if_neg (nI_nlt (by omega) (by omega)), m_fits (M := mLO M l o) (Y := S.2.2.2.2.2.2.2.2.2) h hm s2 hs htt hf, Option.bind_some, nI_1]
    cases (R t).isSome && decide (nv (R t) ≤ f) && ftB cw cb t m with
    | false => exact ⟨(v2, v3, v4), (v2, v3, v4), rfl, by rw [if_pos (by decide)], by rw [if_pos (by decide)]⟩
    | true => exact ⟨(v2 ||| nI t, v3 &&& nI t, 1), (v2 ||| nI t, v3 &&& nI t, 1), rfl, by rw [if_neg (by decide)], by rw [if_neg (by decide)]⟩
end
