/-! THE LAW'S BANDS -/
section
variable {S : VX10} {a : AJ} {R : Nat → Option Nat} {W : Nat → Nat} {g f : Nat}
theorem ls_band (h : LSt S a g f) (hV : AV a) {t : Nat} (h0 : t ≠ 0) (ht : t < (2 ^ aN a)) : ∃ S1, f_X10_band S (nI t) = some (oI (bd a t), S1) ∧ LSt S1 a g f := by
  obtain ⟨Z, e⟩ := e_band2 h.1 hV h0 ht
  exact ⟨_, e, h⟩
theorem ls_bands (h : LSt S a g f) (hV : AV a) {b : Nat} (h1 : 1 ≤ b) (hb : b ≤ aN a) : ∃ S1, f_X10_bands S (nI b) = some (nI (ct (bdP a b) ((2 ^ aN a))), S1) ∧ LSt S1 a g f ∧ f_X10_asked S1 = some (oI (fst1 (bdP a b) ((2 ^ aN a)))) := by
  obtain ⟨Z, e⟩ := e_bands h.1 hV h1 hb
  exact ⟨_, e, h, rfl⟩
theorem ls_without (h : LSt S a g f) (hT : TA a R W) {x : Nat} (hx : x < aN a) : ∃ c u S1, c < ct (rP R) ((2 ^ aN a)) ∧ u < (2 ^ aN a) ∧ u.testBit x = false ∧ f_X10_without S (nI x) = some (nI c, S1) ∧ LSt S1 a g f ∧ f_X10_asked S1 = some (nI u) := by
  have hact : sd ((2 ^ aN a - 1)) (2 ^ x) < (2 ^ aN a) := sd_lt (fu_lt a)
  obtain ⟨R1, W1, k1, k2⟩ := tabs hT.1 hact
  obtain ⟨Z, u, e⟩ := e_without h.1 hT hx k1 k2
  have hle : ct (rP R1) ((2 ^ aN a)) ≤ ct (rP R) ((2 ^ aN a)) := ct_mo fun t ht hp => by
    have hp : (R1 t).isSome = true := hp
    cases hr : R1 t with
    | none => rw [hr] at hp; cases hp
    | some v =>
      obtain ⟨w, q, -⟩ := tab_mono (sub2.rf a) hact k1 hT t ht v hr
      show (R t).isSome = true
      rw [q]; rfl
  have h1 : 0 < ct (rP R1) ((2 ^ aN a)) := ct_pos (i := 0) (by show (R1 0).isSome = true; rw [k1.1]; rfl) (Nat.two_pow_pos _)
  rw [pk_sub hle] at e
  refine ⟨ct (rP R) ((2 ^ aN a)) - ct (rP R1) ((2 ^ aN a)), u &&& sd ((2 ^ aN a - 1)) (2 ^ x), _, by omega, Nat.lt_of_le_of_lt Nat.and_le_right hact, ?_, e, h, rfl⟩
  rw [Nat.testBit_and, sd_bit, Nat.testBit_two_pow_self, Bool.not_true, Bool.and_false, Bool.and_false]
end
section
variable {S : VX10} {P2 : VA64} {a : AJ} {R : Nat → Option Nat} {W : Nat → Nat}
theorem bd_R (hT : TA a R W) {t v : Nat} (ht : t < (2 ^ aN a)) (h : bd a t = some v) : ∃ w, R t = some w ∧ w ≤ v := by
  obtain ⟨R1, W1, k1, k2⟩ := tabs hT.1 ht
  rw [← bd_eq ht k1] at h
  exact tab_mono (sub2.rf a) ht k1 hT t ht v h
/-- who is lost without one -/
theorem l_171 (hS : LSt S a 0 0) (hT : TA a R W) (N1 : VA8) : ∃ S', f_L_bands_171 4096 S P2 N1 (nI (aN a)) (nI (ct (rP R) ((2 ^ aN a)))) 0 = some (1, S') ∧ LSt S' a 0 0 := by
  have hN := hT.1.N
  have hn := hT.1.2.1
  have hct := ct_le (rP R) (2 ^ aN a)
  refine loop_up (fun f (T : VX10) v5 => f_L_bands_171 f T P2 N1 (nI (aN a)) (nI (ct (rP R) ((2 ^ aN a)))) v5) (aN a) (fun _ T => LSt T a 0 0) (fun o => ∃ S', o = some (1, S') ∧ LSt S' a 0 0) ?_ ?_ 4096 0 S (Nat.zero_le _) hS (by omega)
  · rintro n T hTs
    refine ⟨T, ?_, hTs⟩
    show f_L_bands_171 (n + 1) T P2 N1 (nI (aN a)) _ (nI (aN a)) = _
    rw [f_L_bands_171, if_pos (nI_le (Nat.le_refl _) (by omega))]
  · rintro n T x hx hTs
    right
    obtain ⟨c, u, S1, k1, k2, k3, k4, k5, k6⟩ := ls_without hTs hT hx
    refine ⟨S1, k5, ?_⟩
    show f_L_bands_171 (n + 1) T P2 N1 (nI (aN a)) (nI (ct (rP R) ((2 ^ aN a)))) (nI x) = f_L_bands_171 n S1 P2 N1 (nI (aN a)) (nI (ct (rP R) ((2 ^ aN a)))) (nI (x + 1))
    rw [f_L_bands_171, if_neg (nI_ge hx (by omega)), k4, Option.bind_some, show f_X10_asked ((nI c, S1) : Int32 × VX10).2 = _ from k6, Option.bind_some, if_neg (show ¬ ((nI c, S1) : Int32 × VX10).1 < 0 from nI_pos (by omega)), if_neg (show ¬ nI (ct (rP R) ((2 ^ aN a))) ≤ ((nI c, S1) : Int32 × VX10).1 from nI_ge k1 (by omega)), l_in (show u < 2 ^ 31 by omega) (by omega), Option.bind_some, k3, if_pos (show bI false = 0 from rfl), nI_1]
/-- the bands of a size, the first of them -/
theorem l_81 (hS : LSt S a 0 0) (hT : TA a R W) (h6 : aN a ≤ 6) {N1 : VA8} (hN1 : ∀ b, b ≤ aN a → N1 b = nI (ct (bdP a b) ((2 ^ aN a)))) : ∃ S', f_L_bands_81 4096 S P2 N1 (nI (aN a)) (nI (ct (rP R) ((2 ^ aN a)))) 1 = some (1, S') ∧ LSt S' a 0 0 := by
  have hN := hT.1.N
  have hn := hT.1.2.1
  refine loop_up (fun f (T : VX10) v5 => f_L_bands_81 f T P2 N1 (nI (aN a)) (nI (ct (rP R) ((2 ^ aN a)))) v5) (aN a + 1) (fun b T => LSt T a 0 0 ∧ 1 ≤ b) (fun o => ∃ S', o = some (1, S') ∧ LSt S' a 0 0) ?_ ?_ 4096 1 S (by omega) ⟨hS, Nat.le_refl _⟩ (by omega)
  · rintro n T ⟨hTs, -⟩
    obtain ⟨S', e, h⟩ := l_171 (P2 := P2) hTs hT N1
    refine ⟨S', ?_, h⟩
    show f_L_bands_81 (n + 1) T P2 N1 (nI (aN a)) (nI (ct (rP R) ((2 ^ aN a)))) (nI (aN a + 1)) = _
    rw [f_L_bands_81, if_pos (nI_lt (Nat.lt_succ_self _) (by omega)), e]
  · rintro n T b hb ⟨hTs, h1⟩
    right
    have hTs : LSt T a 0 0 := hTs
    have hct := ct_le (bdP a b) (2 ^ aN a)
    obtain ⟨S1, k1, k2, k3⟩ := ls_bands hTs hT.1 h1 (show b ≤ aN a by omega)
    have eC : f_L_bands_81 (n + 1) T P2 N1 (nI (aN a)) (nI (ct (rP R) ((2 ^ aN a)))) (nI b) = if nI (ct (bdP a b) ((2 ^ aN a))) = 0 then f_L_bands_121 (f_L_bands_81 n) S1 P2 N1 (nI (aN a)) (nI (ct (rP R) ((2 ^ aN a)))) (nI b) (nI (ct (bdP a b) ((2 ^ aN a)))) (oI (fst1 (bdP a b) ((2 ^ aN a)))) 1 else f_L_bands_121 (f_L_bands_81 n) S1 P2 N1 (nI (aN a)) (nI (ct (rP R) ((2 ^ aN a)))) (nI b) (nI (ct (bdP a b) ((2 ^ aN a)))) (oI (fst1 (bdP a b) ((2 ^ aN a)))) 0 := by
      rw [f_L_bands_81, if_neg (nI_nlt (show b ≤ aN a by omega) (by omega)), k1, Option.bind_some, show f_X10_asked ((nI (ct (bdP a b) ((2 ^ aN a))), S1) : Int32 × VX10).2 = _ from k3, Option.bind_some, zIn_t (show b < 8 by omega) (by decide), if_pos rfl, nI_clamp (by omega), hN1 b (by omega), if_pos rfl]
    by_cases c : ct (bdP a b) ((2 ^ aN a)) = 0
    · refine ⟨S1, ⟨k2, by omega⟩, eC.trans ?_⟩
      rw [if_pos (show nI (ct (bdP a b) ((2 ^ aN a))) = 0 by rw [c]; rfl), (fst1_ct _ _).2 c, oI_none, c]
      unfold f_L_bands_121
      rw [if_pos rfl]
      unfold f_L_bands_133
      rw [if_pos rfl, if_pos (show nI 0 ≤ 0 by decide), nI_1]
    · cases hf : fst1 (bdP a b) ((2 ^ aN a)) with
      | none => exact absurd ((fst1_ct _ _).1 hf) c
      | some x =>
        obtain ⟨x1, x2⟩ := fst1_some hf
        have x2 : (decide (0 < x) && decide (pc x = b) && (bd a x).isSome) = true := x2
        rw [Bool.and_eq_true, Bool.and_eq_true] at x2
        have y0 : 0 < x := of_decide_eq_true x2.1.1
        have y1 : pc x = b := of_decide_eq_true x2.1.2
        obtain ⟨S2, m1, m2⟩ := ls_band k2 hT.1 (show x ≠ 0 by omega) x1
        refine ⟨S2, ⟨m2, by omega⟩, eC.trans ?_⟩
        have hpos : (0 : Int32) ≤ oI (bd a x) := by
          cases hb2 : bd a x with
          | none => rw [hb2] at x2; exact absurd x2.2 (by decide)
          | some v =>
            have := bd_small hT.1 x1 hb2
            rw [oI_some]; exact nI_pos' (by omega)
        rw [hf, oI_some, if_neg (nI_ne0 (show 0 < ct (bdP a b) (2 ^ aN a) by omega) (by omega))]
        unfold f_L_bands_121
        rw [if_neg (nI_m9 (by omega))]
        unfold f_L_bands_133
        rw [if_pos rfl, if_neg (show ¬ nI (ct (bdP a b) ((2 ^ aN a))) ≤ 0 from nI_ge (show 0 < ct (bdP a b) (2 ^ aN a) by omega) (by omega)), l_bits (show x < 256 by omega), Option.bind_some, y1, if_pos rfl, m1, Option.bind_some, if_pos hpos, nI_1]
/-- the bands, one by one -/
theorem l_bands (hS : LSt S a 0 0) (hT : TA a R W) (h6 : aN a ≤ 6) (hP : ∀ i, i < (2 ^ aN a) → P2 i = nI (W i)) : ∃ S', f_L_bands S P2 (nI (aN a)) (nI (ct (rP R) ((2 ^ aN a)))) = some (1, S') ∧ LSt S' a 0 0 := by
  have hN : 2 ^ aN a ≤ 64 := Nat.le_trans (Nat.pow_le_pow_right (by decide) h6) (by decide)
  have hp0 := Nat.two_pow_pos (aN a)
  have z0 : ∀ b, bdP a b 0 = false := fun b => by unfold bdP; rw [decide_eq_false (Nat.lt_irrefl 0)]; rfl
  show ∃ S', f_L_bands_9 4096 S P2 (fun _ => 0) (nI (aN a)) (nI (ct (rP R) ((2 ^ aN a)))) 1 = some (1, S') ∧ LSt S' a 0 0
  refine loop_up (fun f (σ : VX10 × VA8) v5 => f_L_bands_9 f σ.1 P2 σ.2 (nI (aN a)) (nI (ct (rP R) ((2 ^ aN a)))) v5) ((2 ^ aN a)) (fun t σ => LSt σ.1 a 0 0 ∧ 1 ≤ t ∧ ∀ b, b ≤ aN a → σ.2 b = nI (ct (bdP a b) t)) (fun o => ∃ S', o = some (1, S') ∧ LSt S' a 0 0) ?_ ?_ 4096 1 (S, fun _ => 0) (by omega) ⟨hS, Nat.le_refl _, fun b hb => by rw [ct1 (z0 b)]; rfl⟩ (by omega)
  · rintro n ⟨T, N1⟩ ⟨g1, -, g3⟩
    obtain ⟨S', e, h⟩ := l_81 (P2 := P2) g1 hT h6 g3
    refine ⟨S', ?_, h⟩
    show f_L_bands_9 (n + 1) T P2 N1 (nI (aN a)) (nI (ct (rP R) ((2 ^ aN a)))) (nI ((2 ^ aN a))) = _
    rw [f_L_bands_9, n_one (show aN a < 31 by omega), if_pos (nI_le (Nat.le_refl _) (by omega)), e]
  · rintro n ⟨T, N1⟩ t ht ⟨g1, g2, g3⟩
    right
    have g1 : LSt T a 0 0 := g1
    have g3 : ∀ b, b ≤ aN a → N1 b = nI (ct (bdP a b) t) := g3
    have hpc := pc_n hT.1.2.1 ht
    have wb := hT.wsmall ht
    obtain ⟨S1, k1, k2⟩ := ls_band g1 hT.1 (show t ≠ 0 by omega) ht
    have up : ∀ (j : Nat), ((bd a t).isSome).toNat = j → ∀ b, b ≤ aN a → upd N1 (pc t) (N1 (pc t) + nI j) b = nI (ct (bdP a b) (t + 1)) := fun j hj b hb => by
      rw [upd_at, ct]
      by_cases c : b = pc t
      · subst c
        have : bdP a (pc t) t = (bd a t).isSome := by unfold bdP; rw [decide_eq_true (show 0 < t by omega), decide_eq_true rfl]; rfl
        rw [if_pos rfl, g3 _ hb, nI_add, this, hj]
      · have : bdP a b t = false := by unfold bdP; rw [decide_eq_false (show ¬ pc t = b from fun q => c q.symm), Bool.and_false]; rfl
        rw [if_neg c, g3 b hb, this]; rfl
    show ∃ σ : VX10 × VA8, (LSt σ.1 a 0 0 ∧ 1 ≤ t + 1 ∧ ∀ b, b ≤ aN a → σ.2 b = nI (ct (bdP a b) (t + 1))) ∧ f_L_bands_9 (n + 1) T P2 N1 (nI (aN a)) (nI (ct (rP R) ((2 ^ aN a)))) (nI t) = f_L_bands_9 n σ.1 P2 σ.2 (nI (aN a)) (nI (ct (rP R) ((2 ^ aN a)))) (nI (t + 1))
    have eC : f_L_bands_9 (n + 1) T P2 N1 (nI (aN a)) (nI (ct (rP R) ((2 ^ aN a)))) (nI t) = if 0 ≤ oI (bd a t) then f_L_bands_44 (f_L_bands_9 n) S1 P2 N1 (nI (aN a)) (nI (ct (rP R) ((2 ^ aN a)))) (nI t) (oI (bd a t)) 1 (N1 (pc t)) (nI (pc t)) else f_L_bands_44 (f_L_bands_9 n) S1 P2 N1 (nI (aN a)) (nI (ct (rP R) ((2 ^ aN a)))) (nI t) (oI (bd a t)) 0 (N1 (pc t)) (nI (pc t)) := by
      rw [f_L_bands_9, n_one (show aN a < 31 by omega), if_neg (nI_ge ht (by omega)), k1, Option.bind_some, l_bits (show t < 256 by omega), Option.bind_some, zIn_t (show pc t < 8 by omega) (by decide), if_pos rfl, nI_clamp (by omega)]
    cases hb : bd a t with
    | none =>
      rw [hb] at up
      refine ⟨(S1, upd N1 (pc t) (N1 (pc t) + nI 0)), ⟨k2, by omega, up 0 rfl⟩, ?_⟩
      rw [eC, hb, oI_none, if_neg (by decide)]
      unfold f_L_bands_44
      rw [zIn_t (show pc t < 8 by omega) (by decide), if_pos rfl, if_pos (by decide), nI_clamp (by omega), nI_1]
      rfl
    | some v =>
      rw [hb] at up
      have hv := bd_small hT.1 ht hb
      obtain ⟨w, hw, hle⟩ := bd_R hT ht hb
      rcases ls_order k2 hT ht (q := 2) (by decide) with ⟨q, -⟩ | ⟨w', tt, S2, q, -, -, e2, h2, -⟩
      · rw [hw] at q; cases q
      rw [hw] at q
      cases q
      have w0 : 0 < W t := (hT.rw ht).1 (by rw [hw]; simp)
      refine ⟨(S2, upd N1 (pc t) (N1 (pc t) + nI 1)), ⟨h2, by omega, up 1 rfl⟩, ?_⟩
      rw [eC, hb, oI_some, if_pos (nI_pos' (by omega))]
      unfold f_L_bands_44
      rw [zIn_t (show pc t < 8 by omega) (by decide), if_pos rfl, if_neg (nI_pos (by omega)), zIn_t (show t < 64 by omega) (by decide), if_pos rfl, nI_clamp (show t < 2 ^ 31 by omega), hP t ht, if_neg (nI_ne0 w0 (by omega)), show f_X10_order S1 (nI t) 2 = _ from e2, Option.bind_some, if_pos (show ((nI w, S2) : Int32 × VX10).1 ≤ nI v from nI_le hle (by omega)), nI_clamp (by omega), nI_1]
      rfl
end
