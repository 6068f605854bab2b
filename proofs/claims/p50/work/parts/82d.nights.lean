/-! BANDS AND NIGHTS, what the class answers -/
/-- a band's own fewest favours -/
noncomputable def bd (a : AJ) (t : Nat) : Option Nat := @dite (Option Nat) (∃ R, IsR a t ((2 ^ aN a)) R) (Classical.propDecidable _) (fun h => Classical.choose h t) (fun _ => none)
theorem bd_eq {a : AJ} {t : Nat} (ht : t < (2 ^ aN a)) {R : Nat → Option Nat} (hR : IsR a t ((2 ^ aN a)) R) : R t = bd a t := by
  unfold bd
  rw [dif_pos ⟨R, hR⟩]
  exact hR.uniq (Classical.choose_spec (p := fun R => IsR a t ((2 ^ aN a)) R) ⟨R, hR⟩) t ht
/-- the first that has it -/
def fst1 (p : Nat → Bool) : Nat → Option Nat
  | 0 => none
  | k + 1 => match fst1 p k with
    | some x => some x
    | none => if p k = true then some k else none
theorem fst1_ct (p : Nat → Bool) : ∀ k, fst1 p k = none ↔ ct p k = 0
  | 0 => ⟨fun _ => rfl, fun _ => rfl⟩
  | k + 1 => by
    have ih := fst1_ct p k
    rw [fst1, ct]
    cases h : fst1 p k with
    | none =>
      rw [ih.1 h]
      cases p k with
      | false => exact ⟨fun _ => rfl, fun _ => rfl⟩
      | true => exact ⟨(fun q => by cases q), (fun q => by cases q)⟩
    | some x =>
      have : ct p k ≠ 0 := fun q => by rw [ih.2 q] at h; cases h
      exact ⟨(fun q => by cases q), (fun q => by omega)⟩
theorem fst1_some {p : Nat → Bool} {x : Nat} : ∀ {k}, fst1 p k = some x → x < k ∧ p x = true
  | 0, h => by cases h
  | k + 1, h => by
    rw [fst1] at h
    cases e : fst1 p k with
    | none =>
      rw [e] at h
      have h : (if p k = true then some k else none) = some x := h
      split at h
      · rename_i q
        cases h
        exact ⟨Nat.lt_succ_self _, q⟩
      · cases h
    | some y =>
      rw [e] at h
      cases h
      have := fst1_some e
      exact ⟨by omega, this.2⟩
/-- the sets of a size that get out by themselves -/
noncomputable def bdP (a : AJ) (b t : Nat) : Bool := decide (0 < t) && decide (pc t = b) && (bd a t).isSome
theorem ct1 {p : Nat → Bool} (h : p 0 = false) : ct p 1 = 0 := by rw [ct, h]; rfl
theorem ct_lt (p : Nat → Bool) : ∀ n, ct p n ≤ n := ct_le p
section
variable {S : VX10} {a : AJ} {R : Nat → Option Nat} {W : Nat → Nat}
theorem e_band2 (hJ : JR S.2.2.2.2.1 a) (hV : AV a) {t : Nat} (h0 : t ≠ 0) (ht : t < (2 ^ aN a)) : ∃ Z, f_X10_band S (nI t) = some (oI (bd a t), (S.1, S.2.1, S.2.2.1, S.2.2.2.1, S.2.2.2.2.1, S.2.2.2.2.2.1, Z, S.2.2.2.2.2.2.2.1, S.2.2.2.2.2.2.2.2.1, S.2.2.2.2.2.2.2.2.2)) := by
  obtain ⟨R1, W1, h1, h2⟩ := tabs hV ht
  obtain ⟨Z, e⟩ := e_band hJ hV h0 ht h1 h2
  exact ⟨Z, by rw [e, bd_eq ht h1]⟩
theorem bd_small (hV : AV a) {t v : Nat} (ht : t < (2 ^ aN a)) (h : bd a t = some v) : v ≤ 112 := by
  obtain ⟨R1, W1, h1, h2⟩ := tabs hV ht
  rw [← bd_eq ht h1] at h
  exact h1.small hV hV.N ht h
theorem e_bands (hJ : JR S.2.2.2.2.1 a) (hV : AV a) {b : Nat} (h1 : 1 ≤ b) (hb : b ≤ aN a) : ∃ Z, f_X10_bands S (nI b) = some (nI (ct (bdP a b) ((2 ^ aN a))), (tel S.1 (oI (fst1 (bdP a b) ((2 ^ aN a)))), S.2.1, S.2.2.1, S.2.2.2.1, S.2.2.2.2.1, S.2.2.2.2.2.1, Z, S.2.2.2.2.2.2.2.1, S.2.2.2.2.2.2.2.2.1, S.2.2.2.2.2.2.2.2.2)) := by
  have hn := hV.2.1
  have hN := hV.N
  have hp : 0 < 2 ^ aN a := Nat.two_pow_pos _
  have z0 : bdP a b 0 = false := by unfold bdP; rw [decide_eq_false (Nat.lt_irrefl 0)]; rfl
  unfold f_X10_bands
  rw [if_neg (show ¬ nI b < (1 : Int32) from nI_nlt h1 (by omega)), show f_X2_cells S.2.2.2.2.1 = some (nI (aN a)) from congrArg some hJ.1, Option.bind_some, if_pos (nI_le hb (by omega)), show f_X10_bands_26 4096 S (nI b) 0 (-9) 1 = f_X10_bands_26 4096 ((S.1, S.2.1, S.2.2.1, S.2.2.2.1, S.2.2.2.2.1, S.2.2.2.2.2.1, S.2.2.2.2.2.2.1, S.2.2.2.2.2.2.2.1, S.2.2.2.2.2.2.2.2.1, S.2.2.2.2.2.2.2.2.2)) (nI b) 0 (-9) 1 from congrArg (fun Z : VX10 => f_X10_bands_26 4096 Z (nI b) 0 (-9) 1) (sEta S)]
  refine loop_up (fun f (σ : VX4 × Int32 × Int32) v4 => f_X10_bands_26 f ((S.1, S.2.1, S.2.2.1, S.2.2.2.1, S.2.2.2.2.1, S.2.2.2.2.2.1, σ.1, S.2.2.2.2.2.2.2.1, S.2.2.2.2.2.2.2.2.1, S.2.2.2.2.2.2.2.2.2)) (nI b) σ.2.1 σ.2.2 v4) (2 ^ aN a) (fun k σ => 0 < k ∧ σ.2.1 = nI (ct (bdP a b) k) ∧ σ.2.2 = oI (fst1 (bdP a b) k)) (fun p => ∃ Z, p = some (nI (ct (bdP a b) ((2 ^ aN a))), (tel S.1 (oI (fst1 (bdP a b) ((2 ^ aN a)))), S.2.1, S.2.2.1, S.2.2.2.1, S.2.2.2.2.1, S.2.2.2.2.2.1, Z, S.2.2.2.2.2.2.2.1, S.2.2.2.2.2.2.2.2.1, S.2.2.2.2.2.2.2.2.2))) ?_ ?_ 4096 1 (S.2.2.2.2.2.2.1, 0, -9) (by omega) ⟨by decide, by rw [ct1 z0]; rfl, by rw [(fst1_ct _ 1).2 (ct1 z0)]; rfl⟩ (by omega)
  · rintro n ⟨Z, v2, v3⟩ ⟨-, g1, g2⟩
    have g1 : v2 = nI (ct (bdP a b) (2 ^ aN a)) := g1
    have g2 : v3 = oI (fst1 (bdP a b) (2 ^ aN a)) := g2
    refine ⟨Z, ?_⟩
    show f_X10_bands_26 (n + 1) ((S.1, S.2.1, S.2.2.1, S.2.2.2.1, S.2.2.2.2.1, S.2.2.2.2.2.1, Z, S.2.2.2.2.2.2.2.1, S.2.2.2.2.2.2.2.2.1, S.2.2.2.2.2.2.2.2.2)) (nI b) v2 v3 (nI (2 ^ aN a)) = _
    rw [f_X10_bands_26, show f_X2_everyone ((S.1, S.2.1, S.2.2.1, S.2.2.2.1, S.2.2.2.2.1, S.2.2.2.2.2.1, Z, S.2.2.2.2.2.2.2.1, S.2.2.2.2.2.2.2.2.1, S.2.2.2.2.2.2.2.2.2)).2.2.2.2.1 = _ from x2_all hJ.1 hn, Option.bind_some, if_pos (nI_lt (by omega) (by omega)), g1, g2] <;> rfl
  · rintro n ⟨Z, v2, v3⟩ t htt ⟨g0, g1, g2⟩
    have g1 : v2 = nI (ct (bdP a b) t) := g1
    have g2 : v3 = oI (fst1 (bdP a b) t) := g2
    right
    obtain ⟨R1, W1, k1, k2⟩ := tabs hV htt
    obtain ⟨Z', M', e1, h⟩ := fillT hJ hV htt k1 k2 Z
    have hbd := bd_eq htt k1
    show ∃ (σ : VX4 × Int32 × Int32), (0 < t + 1 ∧ σ.2.1 = nI (ct (bdP a b) (t + 1)) ∧ σ.2.2 = oI (fst1 (bdP a b) (t + 1))) ∧ f_X10_bands_26 (n + 1) ((S.1, S.2.1, S.2.2.1, S.2.2.2.1, S.2.2.2.2.1, S.2.2.2.2.2.1, Z, S.2.2.2.2.2.2.2.1, S.2.2.2.2.2.2.2.2.1, S.2.2.2.2.2.2.2.2.2)) (nI b) v2 v3 (nI t) = f_X10_bands_26 n ((S.1, S.2.1, S.2.2.1, S.2.2.2.1, S.2.2.2.2.1, S.2.2.2.2.2.1, σ.1, S.2.2.2.2.2.2.2.1, S.2.2.2.2.2.2.2.2.1, S.2.2.2.2.2.2.2.2.2)) (nI b) σ.2.1 σ.2.2 (nI (t + 1))
    rw [f_X10_bands_26, show f_X2_everyone ((S.1, S.2.1, S.2.2.1, S.2.2.2.1, S.2.2.2.2.1, S.2.2.2.2.2.1, Z, S.2.2.2.2.2.2.2.1, S.2.2.2.2.2.2.2.2.1, S.2.2.2.2.2.2.2.2.2)).2.2.2.2.1 = _ from x2_all hJ.1 hn, Option.bind_some, if_neg (nI_nlt (by omega) (by omega)), n_cnt (show t < 256 by omega), Option.bind_some, nI_1]
    have p8 := pc_le t
    have cl := ct_le (bdP a b) t
    have keep : bdP a b t = false → v2 = nI (ct (bdP a b) (t + 1)) ∧ v3 = oI (fst1 (bdP a b) (t + 1)) := fun q => by
      refine ⟨by rw [g1, ct, q]; rfl, ?_⟩
      rw [g2, fst1, q]
      cases fst1 (bdP a b) t <;> rfl
    by_cases c : pc t = b
    · rw [if_pos (by rw [c]), x10_gets (S := (S.1, S.2.1, S.2.2.1, S.2.2.2.1, S.2.2.2.2.1, S.2.2.2.2.2.1, Z, S.2.2.2.2.2.2.2.1, S.2.2.2.2.2.2.2.2.1, S.2.2.2.2.2.2.2.2.2)) e1 h, Option.bind_some]
      cases hr : R1 t with
      | none =>
        have q : bdP a b t = false := by unfold bdP; rw [← hbd, hr, Option.isSome_none, Bool.and_false]
        exact ⟨(Z', v2, v3), ⟨by omega, keep q⟩, if_pos (show bI (none : Option Nat).isSome = 0 from rfl)⟩
      | some v =>
        have q : bdP a b t = true := by unfold bdP; rw [← hbd, hr, decide_eq_true g0, decide_eq_true c]; rfl
        have g3 : ¬ bI (some v).isSome = 0 := i10
        by_cases d : ct (bdP a b) t = 0
        · refine ⟨(Z', v2 + 1, nI t), ⟨by omega, ?_, ?_⟩, (if_neg g3).trans (if_pos (by rw [g1, d]; rfl))⟩
          · show v2 + 1 = _
            rw [g1, nI_1, ct, q]; rfl
          · show nI t = _
            rw [fst1, (fst1_ct _ t).2 d, q]; rfl
        · refine ⟨(Z', v2 + 1, v3), ⟨by omega, ?_, ?_⟩, (if_neg g3).trans (if_neg (by rw [g1]; exact nI_ne0 (by omega) (by omega)))⟩
          · show v2 + 1 = _
            rw [g1, nI_1, ct, q]; rfl
          · show v3 = _
            rw [g2, fst1]
            cases hf : fst1 (bdP a b) t with
            | none => exact absurd ((fst1_ct _ t).1 hf) d
            | some y => rfl
    · have c' : ¬ nI (pc t) = nI b := fun q => c ((nI_eq (by omega) (by omega)).1 q)
      have q : bdP a b t = false := by unfold bdP; rw [decide_eq_false c, Bool.and_false]; rfl
      exact ⟨(Z, v2, v3), ⟨by omega, keep q⟩, by rw [if_neg c']⟩
/-! nights -/
/-- what was seen -/
def SN (Z : VX7) (n m : Nat) (cw : Nat → Nat) (cb : Nat → Bool) : Prop := m ≤ 8 ∧ Z.2.2 = nI m ∧ ∀ i, i < m → cw i < n ∧ Z.1 i = nI (cw i) ∧ Z.2.1 i = bI (cb i)
def fit (R : Nat → Option Nat) (f m : Nat) (cw : Nat → Nat) (cb : Nat → Bool) (t : Nat) : Bool := (R t).isSome && decide (nv (R t) ≤ f) && ftB cw cb t m
def isx (p : Nat → Bool) (F : Nat) : Nat → Nat
  | 0 => F
  | k + 1 => if p k = true then isx p F k &&& k else isx p F k
theorem e_fits {Z : VX4} {N : VX11} {act : Nat} {R : Nat → Option Nat} {W : Nat → Nat} (h : TB Z N a act R W) (hZ : S.2.2.2.2.2.2.1 = Z) {m : Nat} {cw : Nat → Nat} {cb : Nat → Bool} (hs : SN S.2.2.2.2.2.2.2.2.2 (aN a) m cw cb) {t f : Nat} (ht : t < 2 ^ aN a) (hf : f < 100) : f_X10_fitsNight S (nI t) (nI f) = some (bI (fit R f m cw cb t)) :=
  x10_fits (M := ((mkM a).1, (mkM a).2.1, (mkM a).2.2.1, (mkM a).2.2.2.1, (mkM a).2.2.2.2.1, (mkM a).2.2.2.2.2.1, (mkM a).2.2.2.2.2.2.1, (mkM a).2.2.2.2.2.2.2.1, (mkM a).2.2.2.2.2.2.2.2.1, (mkM a).2.2.2.2.2.2.2.2.2.1, (mkM a).2.2.2.2.2.2.2.2.2.2.1, (mkM a).2.2.2.2.2.2.2.2.2.2.2.1, (mkM a).2.2.2.2.2.2.2.2.2.2.2.2.1, (mkM a).2.2.2.2.2.2.2.2.2.2.2.2.2.1, (mkM a).2.2.2.2.2.2.2.2.2.2.2.2.2.2.1, (mkM a).2.2.2.2.2.2.2.2.2.2.2.2.2.2.2.1, (mkM a).2.2.2.2.2.2.2.2.2.2.2.2.2.2.2.2.1, (mkM a).2.2.2.2.2.2.2.2.2.2.2.2.2.2.2.2.2.1, (mkM a).2.2.2.2.2.2.2.2.2.2.2.2.2.2.2.2.2.2.1, (mkM a).2.2.2.2.2.2.2.2.2.2.2.2.2.2.2.2.2.2.2.1, (mkM a).2.2.2.2.2.2.2.2.2.2.2.2.2.2.2.2.2.2.2.2.1, (mkM a).2.2.2.2.2.2.2.2.2.2.2.2.2.2.2.2.2.2.2.2.2.1, (mkM a).2.2.2.2.2.2.2.2.2.2.2.2.2.2.2.2.2.2.2.2.2.2.1, (mkM a).2.2.2.2.2.2.2.2.2.2.2.2.2.2.2.2.2.2.2.2.2.2.2.1, (mkM a).2.2.2.2.2.2.2.2.2.2.2.2.2.2.2.2.2.2.2.2.2.2.2.2.1, (mkM a).2.2.2.2.2.2.2.2.2.2.2.2.2.2.2.2.2.2.2.2.2.2.2.2.2.1, (mkM a).2.2.2.2.2.2.2.2.2.2.2.2.2.2.2.2.2.2.2.2.2.2.2.2.2.2.1, (mkM a).2.2.2.2.2.2.2.2.2.2.2.2.2.2.2.2.2.2.2.2.2.2.2.2.2.2.2.1, (fun i => nI (cw i)), (fun i => bI (cb i)), (mkM a).2.2.2.2.2.2.2.2.2.2.2.2.2.2.2.2.2.2.2.2.2.2.2.2.2.2.2.2.2.2)) h hZ hs.1 hs.2.1 (fun i hi => ⟨(hs.2.2 i hi).1, (hs.2.2 i hi).2.1, rfl, (hs.2.2 i hi).2.2, rfl⟩) ht hf
theorem isx_lt {p : Nat → Bool} {F n : Nat} (hF : F < 2 ^ n) : ∀ k, isx p F k < 2 ^ n
  | 0 => hF
  | k + 1 => by
    rw [isx]
    split
    · exact and_lt (isx_lt hF k)
    · exact isx_lt hF k
theorem e_culprits (hJ : JR S.2.2.2.2.1 a) (hT : TA a R W) {f m : Nat} {cw : Nat → Nat} {cb : Nat → Bool} (hf : f < 100) (hs : SN S.2.2.2.2.2.2.2.2.2 (aN a) m cw cb) : (ct (fit R f m cw cb) ((2 ^ aN a)) = 0 ∧ ∃ Z, f_X10_culprits S (nI f) = some (-9, (S.1, S.2.1, S.2.2.1, S.2.2.2.1, S.2.2.2.2.1, S.2.2.2.2.2.1, Z, S.2.2.2.2.2.2.2.1, S.2.2.2.2.2.2.2.2.1, S.2.2.2.2.2.2.2.2.2))) ∨ (0 < ct (fit R f m cw cb) ((2 ^ aN a)) ∧ ∃ Z, f_X10_culprits S (nI f) = some (nI (un (fit R f m cw cb) ((2 ^ aN a))), (tel S.1 (nI (isx (fit R f m cw cb) ((2 ^ aN a - 1)) ((2 ^ aN a)))), S.2.1, S.2.2.1, S.2.2.2.1, S.2.2.2.2.1, S.2.2.2.2.2.1, Z, S.2.2.2.2.2.2.2.1, S.2.2.2.2.2.2.2.2.1, S.2.2.2.2.2.2.2.2.2))) := by
  have hn := hT.1.2.1
  have hN := hT.1.N
  have hp : 0 < 2 ^ aN a := Nat.two_pow_pos _
  obtain ⟨Z, M, e1, h⟩ := reachT hJ hT
  unfold f_X10_culprits
  rw [x10_favT hf, Option.bind_some, if_neg i10, e1, Option.bind_some, show f_X2_everyone ((S.1, S.2.1, S.2.2.1, S.2.2.2.1, S.2.2.2.2.1, S.2.2.2.2.2.1, Z, S.2.2.2.2.2.2.2.1, S.2.2.2.2.2.2.2.2.1, S.2.2.2.2.2.2.2.2.2)).2.2.2.2.1 = _ from x2_all hJ.1 hn, Option.bind_some]
  have main : f_X10_culprits_29 4096 ((S.1, S.2.1, S.2.2.1, S.2.2.2.1, S.2.2.2.2.1, S.2.2.2.2.2.1, Z, S.2.2.2.2.2.2.2.1, S.2.2.2.2.2.2.2.2.1, S.2.2.2.2.2.2.2.2.2)) (nI f) 0 (nI (2 ^ aN a - 1)) 0 0 = if ct (fit R f m cw cb) ((2 ^ aN a)) = 0 then some (-9, (S.1, S.2.1, S.2.2.1, S.2.2.2.1, S.2.2.2.2.1, S.2.2.2.2.2.1, Z, S.2.2.2.2.2.2.2.1, S.2.2.2.2.2.2.2.2.1, S.2.2.2.2.2.2.2.2.2)) else some (nI (un (fit R f m cw cb) ((2 ^ aN a))), (tel S.1 (nI (isx (fit R f m cw cb) ((2 ^ aN a - 1)) ((2 ^ aN a)))), S.2.1, S.2.2.1, S.2.2.2.1, S.2.2.2.2.1, S.2.2.2.2.2.1, Z, S.2.2.2.2.2.2.2.1, S.2.2.2.2.2.2.2.2.1, S.2.2.2.2.2.2.2.2.2)) := by
    refine loop_is (fun g (σ : Int32 × Int32 × Int32) v5 => f_X10_culprits_29 g ((S.1, S.2.1, S.2.2.1, S.2.2.2.1, S.2.2.2.2.1, S.2.2.2.2.2.1, Z, S.2.2.2.2.2.2.2.1, S.2.2.2.2.2.2.2.2.1, S.2.2.2.2.2.2.2.2.2)) (nI f) σ.1 σ.2.1 σ.2.2 v5) (fun k => (nI (un (fit R f m cw cb) k), nI (isx (fit R f m cw cb) ((2 ^ aN a - 1)) k), if ct (fit R f m cw cb) k = 0 then 0 else 1)) 0 (2 ^ aN a) _ (fun n => ?_) (fun n t _ htt => ?_) 4096 0 (Nat.zero_le _) (Nat.zero_le _) (by omega)
    · show f_X10_culprits_29 (n + 1) ((S.1, S.2.1, S.2.2.1, S.2.2.2.1, S.2.2.2.2.1, S.2.2.2.2.2.1, Z, S.2.2.2.2.2.2.2.1, S.2.2.2.2.2.2.2.2.1, S.2.2.2.2.2.2.2.2.2)) (nI f) (nI (un (fit R f m cw cb) (2 ^ aN a))) (nI (isx (fit R f m cw cb) ((2 ^ aN a - 1)) (2 ^ aN a))) (if ct (fit R f m cw cb) (2 ^ aN a) = 0 then 0 else 1) (nI (2 ^ aN a)) = _
      rw [f_X10_culprits_29, show f_X2_everyone ((S.1, S.2.1, S.2.2.1, S.2.2.2.1, S.2.2.2.2.1, S.2.2.2.2.2.1, Z, S.2.2.2.2.2.2.2.1, S.2.2.2.2.2.2.2.2.1, S.2.2.2.2.2.2.2.2.2)).2.2.2.2.1 = _ from x2_all hJ.1 hn, Option.bind_some, if_pos (nI_lt (by omega) (by omega))]
      show _ = if ct (fit R f m cw cb) (2 ^ aN a) = 0 then _ else _
      by_cases c : ct (fit R f m cw cb) (2 ^ aN a) = 0
      · rw [if_pos c, if_pos c, if_pos rfl]
      · rw [if_neg c, if_neg c, if_neg i10]; rfl
    · show f_X10_culprits_29 (n + 1) ((S.1, S.2.1, S.2.2.1, S.2.2.2.1, S.2.2.2.2.1, S.2.2.2.2.2.1, Z, S.2.2.2.2.2.2.2.1, S.2.2.2.2.2.2.2.2.1, S.2.2.2.2.2.2.2.2.2)) (nI f) (nI (un (fit R f m cw cb) t)) (nI (isx (fit R f m cw cb) ((2 ^ aN a - 1)) t)) (if ct (fit R f m cw cb) t = 0 then 0 else 1) (nI t) = f_X10_culprits_29 n ((S.1, S.2.1, S.2.2.1, S.2.2.2.1, S.2.2.2.2.1, S.2.2.2.2.2.1, Z, S.2.2.2.2.2.2.2.1, S.2.2.2.2.2.2.2.2.1, S.2.2.2.2.2.2.2.2.2)) (nI f) (nI (un (fit R f m cw cb) t ||| (if fit R f m cw cb t = true then t else 0))) (nI (if fit R f m cw cb t = true then isx (fit R f m cw cb) ((2 ^ aN a - 1)) t &&& t else isx (fit R f m cw cb) ((2 ^ aN a - 1)) t)) (if ct (fit R f m cw cb) t + (fit R f m cw cb t).toNat = 0 then 0 else 1) (nI (t + 1))
      rw [f_X10_culprits_29, show f_X2_everyone ((S.1, S.2.1, S.2.2.1, S.2.2.2.1, S.2.2.2.2.1, S.2.2.2.2.2.1, Z, S.2.2.2.2.2.2.2.1, S.2.2.2.2.2.2.2.2.1, S.2.2.2.2.2.2.2.2.2)).2.2.2.2.1 = _ from x2_all hJ.1 hn, Option.bind_some, if_neg (nI_nlt (by omega) (by omega)), e_fits (S := (S.1, S.2.1, S.2.2.1, S.2.2.2.1, S.2.2.2.2.1, S.2.2.2.2.2.1, Z, S.2.2.2.2.2.2.2.1, S.2.2.2.2.2.2.2.2.1, S.2.2.2.2.2.2.2.2.2)) h rfl hs htt hf, Option.bind_some, nI_1, n_or, n_and]
      cases fit R f m cw cb t with
      | false =>
        rw [if_pos (show bI false = 0 from rfl), if_neg (show ¬ (false = true) by decide), if_neg (show ¬ (false = true) by decide), Nat.or_zero]; rfl
      | true =>
        rw [if_neg (by decide), if_pos rfl, if_pos rfl, if_neg (show ¬ ct (fit R f m cw cb) t + true.toNat = 0 by show ¬ ct _ t + 1 = 0; omega)]
  have main' : f_X10_culprits_29 4096 ((S.1, S.2.1, S.2.2.1, S.2.2.2.1, S.2.2.2.2.1, S.2.2.2.2.2.1, Z, S.2.2.2.2.2.2.2.1, S.2.2.2.2.2.2.2.2.1, S.2.2.2.2.2.2.2.2.2)) (nI f) 0 (nI (2 ^ aN a - 1)) 0 0 = _ := main
  rw [main']
  by_cases c : ct (fit R f m cw cb) ((2 ^ aN a)) = 0
  · exact Or.inl ⟨c, Z, by rw [if_pos c]⟩
  · exact Or.inr ⟨by omega, Z, by rw [if_neg c]⟩
theorem e_odds (hJ : JR S.2.2.2.2.1 a) (hT : TA a R W) {f m x : Nat} {cw : Nat → Nat} {cb : Nat → Bool} (hf : f < 100) (hx : x < aN a) (hs : SN S.2.2.2.2.2.2.2.2.2 (aN a) m cw cb) (h0 : 0 < ct (fit R f m cw cb) ((2 ^ aN a))) : ∃ Z, f_X10_odds S (nI f) (nI x) = some (nI (ct (fun t => fit R f m cw cb t && t.testBit x) ((2 ^ aN a))), (((S.1.1, S.1.2.1, lN (ct (fun t => fit R f m cw cb t && t.testBit x) ((2 ^ aN a)) / Nat.gcd (ct (fun t => fit R f m cw cb t && t.testBit x) ((2 ^ aN a))) (ct (fit R f m cw cb) ((2 ^ aN a)))), lN (ct (fit R f m cw cb) ((2 ^ aN a)) / Nat.gcd (ct (fun t => fit R f m cw cb t && t.testBit x) ((2 ^ aN a))) (ct (fit R f m cw cb) ((2 ^ aN a)))), S.1.2.2.2.2)), S.2.1, S.2.2.1, S.2.2.2.1, S.2.2.2.2.1, S.2.2.2.2.2.1, Z, S.2.2.2.2.2.2.2.1, S.2.2.2.2.2.2.2.2.1, S.2.2.2.2.2.2.2.2.2)) := by
  have hn := hT.1.2.1
  have hN := hT.1.N
  have hp : 0 < 2 ^ aN a := Nat.two_pow_pos _
  obtain ⟨Z, M, e1, h⟩ := reachT hJ hT
  have hle : ct (fun t => fit R f m cw cb t && t.testBit x) (2 ^ aN a) ≤ ct (fit R f m cw cb) (2 ^ aN a) := ct_mono (fun i hi => (Bool.and_eq_true_iff.1 hi).1) _
  have hle2 := ct_le (fit R f m cw cb) (2 ^ aN a)
  have h0 : 0 < ct (fit R f m cw cb) (2 ^ aN a) := h0
  refine ⟨Z, ?_⟩
  unfold f_X10_odds
  rw [x10_favT hf, Option.bind_some, if_neg i10, x2_in hJ.1 hn hx, Option.bind_some, if_neg i10, e1, Option.bind_some]
  refine loop_is (fun g (σ : Int32 × Int32) v5 => f_X10_odds_32 g ((S.1, S.2.1, S.2.2.1, S.2.2.2.1, S.2.2.2.2.1, S.2.2.2.2.2.1, Z, S.2.2.2.2.2.2.2.1, S.2.2.2.2.2.2.2.2.1, S.2.2.2.2.2.2.2.2.2)) (nI f) (nI x) σ.1 σ.2 v5) (fun k => (nI (ct (fit R f m cw cb) k), nI (ct (fun t => fit R f m cw cb t && t.testBit x) k))) 0 (2 ^ aN a) _ (fun n => ?_) (fun n t _ htt => ?_) 4096 0 (Nat.zero_le _) (Nat.zero_le _) (by omega)
  · show f_X10_odds_32 (n + 1) ((S.1, S.2.1, S.2.2.1, S.2.2.2.1, S.2.2.2.2.1, S.2.2.2.2.2.1, Z, S.2.2.2.2.2.2.2.1, S.2.2.2.2.2.2.2.2.1, S.2.2.2.2.2.2.2.2.2)) (nI f) (nI x) (nI (ct (fit R f m cw cb) (2 ^ aN a))) (nI (ct (fun t => fit R f m cw cb t && t.testBit x) (2 ^ aN a))) (nI (2 ^ aN a)) = _
    rw [f_X10_odds_32, show f_X2_everyone ((S.1, S.2.1, S.2.2.1, S.2.2.2.1, S.2.2.2.2.1, S.2.2.2.2.2.1, Z, S.2.2.2.2.2.2.2.1, S.2.2.2.2.2.2.2.2.1, S.2.2.2.2.2.2.2.2.2)).2.2.2.2.1 = _ from x2_all hJ.1 hn, Option.bind_some, if_pos (nI_lt (by omega) (by omega)), if_neg (nI_ne0 (by omega) (by omega)), show f_X9_tellFraction ((S.1, S.2.1, S.2.2.1, S.2.2.2.1, S.2.2.2.2.1, S.2.2.2.2.2.1, Z, S.2.2.2.2.2.2.2.1, S.2.2.2.2.2.2.2.2.1, S.2.2.2.2.2.2.2.2.2)).1 (nI (ct (fun t => fit R f m cw cb t && t.testBit x) (2 ^ aN a))) (nI (ct (fit R f m cw cb) (2 ^ aN a))) = _ from x9_fraction S.1 h0 (by omega) hle] <;> rfl
  · show f_X10_odds_32 (n + 1) ((S.1, S.2.1, S.2.2.1, S.2.2.2.1, S.2.2.2.2.1, S.2.2.2.2.2.1, Z, S.2.2.2.2.2.2.2.1, S.2.2.2.2.2.2.2.2.1, S.2.2.2.2.2.2.2.2.2)) (nI f) (nI x) (nI (ct (fit R f m cw cb) t)) (nI (ct (fun t => fit R f m cw cb t && t.testBit x) t)) (nI t) = f_X10_odds_32 n ((S.1, S.2.1, S.2.2.1, S.2.2.2.1, S.2.2.2.2.1, S.2.2.2.2.2.1, Z, S.2.2.2.2.2.2.2.1, S.2.2.2.2.2.2.2.2.1, S.2.2.2.2.2.2.2.2.2)) (nI f) (nI x) (nI (ct (fit R f m cw cb) t + (fit R f m cw cb t).toNat)) (nI (ct (fun t => fit R f m cw cb t && t.testBit x) t + (fit R f m cw cb t && t.testBit x).toNat)) (nI (t + 1))
    rw [f_X10_odds_32, show f_X2_everyone ((S.1, S.2.1, S.2.2.1, S.2.2.2.1, S.2.2.2.2.1, S.2.2.2.2.2.1, Z, S.2.2.2.2.2.2.2.1, S.2.2.2.2.2.2.2.2.1, S.2.2.2.2.2.2.2.2.2)).2.2.2.2.1 = _ from x2_all hJ.1 hn, Option.bind_some, if_neg (nI_nlt (by omega) (by omega)), e_fits (S := (S.1, S.2.1, S.2.2.1, S.2.2.2.1, S.2.2.2.2.1, S.2.2.2.2.2.1, Z, S.2.2.2.2.2.2.2.1, S.2.2.2.2.2.2.2.2.1, S.2.2.2.2.2.2.2.2.2)) h rfl hs htt hf, Option.bind_some, n_tstb (show t < 2 ^ 31 by omega) (show x < 31 by omega)]
    generalize ct (fit R f m cw cb) t = s
    generalize ct (fun t => fit R f m cw cb t && t.testBit x) t = q
    cases fit R f m cw cb t with
    | false => rw [if_pos (show bI false = 0 from rfl), nI_1]; rfl
    | true =>
      cases t.testBit x with
      | false => rw [if_neg (show ¬ bI true = 0 from i10), show nI q + bI false = nI (q + 0) from nI_a0 q, nI_1, nI_1]; rfl
      | true => rw [if_neg (show ¬ bI true = 0 from i10), show nI q + bI true = nI (q + 1) from nI_1 q, nI_1, nI_1]; rfl
theorem e_saw (hJ : JR S.2.2.2.2.1 a) (hV : AV a) {x m : Nat} {cw : Nat → Nat} {cb : Nat → Bool} (hx : x < aN a) (b : Bool) (hm : m < 8) (hs : SN S.2.2.2.2.2.2.2.2.2 (aN a) m cw cb) : ∃ Y, f_X10_saw S (nI x) (bI b) = some (nI m, (S.1, S.2.1, S.2.2.1, S.2.2.2.1, S.2.2.2.2.1, S.2.2.2.2.2.1, S.2.2.2.2.2.2.1, S.2.2.2.2.2.2.2.1, S.2.2.2.2.2.2.2.2.1, Y)) ∧ SN Y (aN a) (m + 1) (fun i => if i = m then x else cw i) (fun i => if i = m then b else cb i) := by
  have hn := hV.2.1
  obtain ⟨h8, s1, hs⟩ := hs
  refine ⟨(upd S.2.2.2.2.2.2.2.2.2.1 m (nI x), upd S.2.2.2.2.2.2.2.2.2.2.1 m (bI b), nI (m + 1)), ?_, by omega, rfl, fun i hi => ?_⟩
  · unfold f_X10_saw
    rw [x2_in hJ.1 hn hx, Option.bind_some, if_neg i10, x10_yesT, Option.bind_some, if_neg i10]
    unfold f_X7_isFull
    rw [s1, if_pos (show nI m < (8 : Int32) from nI_lt hm (by decide)), Option.bind_some, if_pos rfl]
    unfold f_X7_add f_X7_isFull
    rw [s1, if_pos (show nI m < (8 : Int32) from nI_lt hm (by decide)), Option.bind_some, if_pos rfl, if_pos (nI_pos' (by omega)), zIn_t hm (by decide), nI_clamp (by omega), nI_1, show nI (m + 1) - 1 = nI m from nI_pred m]
    simp only [if_T]
    rfl
  · show (if i = m then x else cw i) < aN a ∧ upd S.2.2.2.2.2.2.2.2.2.1 m (nI x) i = nI (if i = m then x else cw i) ∧ upd S.2.2.2.2.2.2.2.2.2.2.1 m (bI b) i = bI (if i = m then b else cb i)
    rw [upd_at, upd_at]
    by_cases d : i = m
    · rw [if_pos d, if_pos d, if_pos d, if_pos d]
      exact ⟨hx, rfl, rfl⟩
    · rw [if_neg d, if_neg d, if_neg d, if_neg d]
      exact hs i (by omega)
theorem e_forget {n m : Nat} {cw : Nat → Nat} {cb : Nat → Bool} (hs : SN S.2.2.2.2.2.2.2.2.2 n m cw cb) : f_X10_forget S 0 = some (nI m, (S.1, S.2.1, S.2.2.1, S.2.2.2.1, S.2.2.2.2.1, S.2.2.2.2.2.1, S.2.2.2.2.2.2.1, S.2.2.2.2.2.2.2.1, S.2.2.2.2.2.2.2.2.1, (S.2.2.2.2.2.2.2.2.2.1, S.2.2.2.2.2.2.2.2.2.2.1, 0))) := by
  obtain ⟨h8, s1, hs⟩ := hs
  unfold f_X10_forget f_X7_size
  rw [s1, if_neg (by decide), Option.bind_some, if_pos (show (0 : Int32) ≤ nI m from nI_pos' (by omega))]
  unfold f_X7_dropFrom
  rw [if_neg (by decide), s1, show nI m - 0 = nI (m - 0) from pk_sub (Nat.zero_le m), if_pos (nI_pos' (by omega))] <;> rfl
end
