/-! THE LAW'S SETS, one by one -/
section
variable {SX : VSX} {S : VX10} {d : VA48} {P3 : VA64} {a : AJ} {R : Nat → Option Nat} {W : Nat → Nat} {r : VX10 → VA48 → VA64 → Int32 → Int32 → Int32 → Int32 → Int32 → Int32 → Int32 → Option Int32}
theorem l_162 (hT : TA a R W) (h6 : aN a ≤ 6) {t : Nat} (ht : t < (2 ^ aN a)) (hP : ∀ i, i ≤ t → P3 i = nI (W i)) (v4 v6 v7 v8 v9 v11 v12 v13 : Int32) :
    f_L_law_162 SX r 4096 S d P3 (nI (aN a)) v4 v6 v7 v8 v9 (nI t) v11 v12 v13 0 0 = f_L_law_219 SX r S d P3 (nI (aN a)) v4 v6 v7 v8 v9 (nI t) v11 v12 v13 (nI (ct (fun x => t.testBit x && decide (0 < W (sd t (2 ^ x)))) (aN a))) (if 0 ≤ v11 then 0 else 1) := by
  have hN : 2 ^ aN a ≤ 64 := Nat.le_trans (Nat.pow_le_pow_right (by decide) h6) (by decide)
  refine loop_is (fun f v14 v15 => f_L_law_162 SX r f S d P3 (nI (aN a)) v4 v6 v7 v8 v9 (nI t) v11 v12 v13 v14 v15) (fun k => nI (ct (fun x => t.testBit x && decide (0 < W (sd t (2 ^ x)))) k)) 0 (aN a) _ (fun n => ?_) (fun n x _ hx => ?_) 4096 0 (Nat.le_refl _) (by omega) (by omega)
  · show f_L_law_162 SX r (n + 1) S d P3 (nI (aN a)) v4 v6 v7 v8 v9 (nI t) v11 v12 v13 (nI (ct (fun x => t.testBit x && decide (0 < W (sd t (2 ^ x)))) (aN a))) (nI (aN a)) = _
    rw [f_L_law_162, if_pos (nI_le (Nat.le_refl _) (by omega))]
    by_cases c : 0 ≤ v11
    · rw [if_pos c, if_pos c]
    · rw [if_neg c, if_neg c]
  · show f_L_law_162 SX r (n + 1) S d P3 (nI (aN a)) v4 v6 v7 v8 v9 (nI t) v11 v12 v13 (nI (ct (fun x => t.testBit x && decide (0 < W (sd t (2 ^ x)))) x)) (nI x) = f_L_law_162 SX r n S d P3 (nI (aN a)) v4 v6 v7 v8 v9 (nI t) v11 v12 v13 (nI (ct (fun x => t.testBit x && decide (0 < W (sd t (2 ^ x)))) x + (t.testBit x && decide (0 < W (sd t (2 ^ x)))).toNat)) (nI (x + 1))
    generalize ct (fun x => t.testBit x && decide (0 < W (sd t (2 ^ x)))) x = q
    rw [f_L_law_162, if_neg (nI_ge hx (by omega)), l_in (show t < 2 ^ 31 by omega) (by omega), Option.bind_some, nI_1, n_one (show x < 31 by omega), n_sd]
    have hsd : sd t (2 ^ x) ≤ t := sd_le
    have hw := hT.wsmall (show sd t (2 ^ x) < 2 ^ aN a by omega)
    cases hb : t.testBit x with
    | false =>
      rw [if_pos (show bI false = 0 from rfl)]
      exact congrArg (fun v => f_L_law_162 SX r n S d P3 (nI (aN a)) v4 v6 v7 v8 v9 (nI t) v11 v12 v13 v (nI (x + 1))) (nI_a0 q)
    | true =>
      rw [if_neg (show ¬ bI true = 0 from i10), zIn_t (show sd t (2 ^ x) < 64 by omega) (by decide), if_pos rfl, nI_clamp (by omega), hP _ hsd]
      by_cases c : 0 < W (sd t (2 ^ x))
      · rw [if_neg (show ¬ nI (W (sd t (2 ^ x))) ≤ 0 from nI_ge c (by omega)), decide_eq_true c]
        exact congrArg (fun v => f_L_law_162 SX r n S d P3 (nI (aN a)) v4 v6 v7 v8 v9 (nI t) v11 v12 v13 v (nI (x + 1))) (nI_1 q)
      · rw [if_pos (show nI (W (sd t (2 ^ x))) ≤ 0 from nI_le (show W (sd t (2 ^ x)) ≤ 0 by omega) (by decide)), decide_eq_false c]
        exact congrArg (fun v => f_L_law_162 SX r n S d P3 (nI (aN a)) v4 v6 v7 v8 v9 (nI t) v11 v12 v13 v (nI (x + 1))) (nI_a0 q)
/-- a set that is not reached -/
theorem l_none (hS : LSt S a 0 0) (hT : TA a R W) (h6 : aN a ≤ 6) {t : Nat} (ht : t < (2 ^ aN a)) (hr : R t = none) (hP : ∀ i, i ≤ t → P3 i = nI (W i)) (v4 v6 v7 v8 t0 t1 : Int32) :
    ∃ S', f_L_law_130 SX r S d P3 (nI (aN a)) v4 v6 v7 v8 (nI t) t0 t1 = r S' d P3 (nI (aN a)) v4 v6 v7 v8 (t1 + t0) (nI (t + 1)) ∧ LSt S' a 0 0 := by
  have hN : 2 ^ aN a ≤ 64 := Nat.le_trans (Nat.pow_le_pow_right (by decide) h6) (by decide)
  rcases ls_order hS hT ht (q := 1) (by decide) with ⟨-, S1, e1, h1⟩ | ⟨v, tt, S1, q, -⟩
  case inr => rw [hr] at q; cases q
  obtain ⟨w, S2, e2, h2, -, -⟩ := ls_least h1 hT ht
  have w0 : W t = 0 := by
    have := hT.w ht
    rw [hr] at this
    have := of_decide_eq_false this
    omega
  refine ⟨S2, ?_, h2⟩
  unfold f_L_law_130
  rw [show f_X10_order S (nI t) 1 = _ from e1, Option.bind_some, show f_X10_least ((-9 : Int32), S1).2 (nI t) = _ from e2, Option.bind_some, e_asked, Option.bind_some, l_162 hT h6 ht hP, if_neg (show ¬ (0 : Int32) ≤ ((-9 : Int32), S1).1 from (by decide : ¬ (0 : Int32) ≤ -9))]
  unfold f_L_law_219
  rw [zIn_t (show t < 64 by omega) (by decide), if_pos rfl, nI_clamp (by omega), hP t (Nat.le_refl _), w0, if_pos (show nI 0 = 0 from rfl)]
  unfold f_L_law_232
  rw [if_pos rfl, if_pos (show ((-9 : Int32), S1).1 < 0 from (by decide : (-9 : Int32) < 0))]
  unfold f_L_law_294
  rw [if_pos (show ((-9 : Int32), S1).1 < 0 from (by decide : (-9 : Int32) < 0)), nI_1]
/-- who can still be let out, with a set out; the bell -/
theorem l_425 {t v f : Nat} (hS : LSt S a t f) (hT : TA a R W) (ht : t < (2 ^ aN a)) (hr : R t = some v) (v4 v6 v7 v9 : Int32) :
    ∃ S', f_L_law_425 SX r 4096 S d P3 (nI (aN a)) v4 v6 v7 (nI (un (rP R) ((2 ^ aN a)))) v9 (nI t) 0 = r S' d P3 (nI (aN a)) v4 v6 v7 (nI (un (rP R) ((2 ^ aN a)))) v9 (nI (t + 1)) ∧ LSt S' a 0 0 := by
  have hN := hT.1.N
  have hn := hT.1.2.1
  have hu : un (rP R) (2 ^ aN a) < 2 ^ aN a := un_lt _ (Nat.le_refl _)
  obtain ⟨S', e1, h1⟩ := ls_bell hS (by omega)
  refine ⟨S', ?_, h1⟩
  refine loop_is (fun f (_ : Unit) v16 => f_L_law_425 SX r f S d P3 (nI (aN a)) v4 v6 v7 (nI (un (rP R) ((2 ^ aN a)))) v9 (nI t) v16) (fun _ => ()) 0 (aN a) _ (fun n => ?_) (fun n x _ hx => ?_) 4096 0 (Nat.le_refl _) (by omega) (by omega)
  · show f_L_law_425 SX r (n + 1) S d P3 (nI (aN a)) v4 v6 v7 (nI (un (rP R) ((2 ^ aN a)))) v9 (nI t) (nI (aN a)) = _
    rw [f_L_law_425, if_pos (nI_le (Nat.le_refl _) (by omega)), e1, Option.bind_some, l_bits (show t < 256 by omega), Option.bind_some, if_pos rfl, nI_1]
  · show f_L_law_425 SX r (n + 1) S d P3 (nI (aN a)) v4 v6 v7 (nI (un (rP R) ((2 ^ aN a)))) v9 (nI t) (nI x) = f_L_law_425 SX r n S d P3 (nI (aN a)) v4 v6 v7 (nI (un (rP R) ((2 ^ aN a)))) v9 (nI t) (nI (x + 1))
    rw [f_L_law_425, if_neg (nI_ge hx (by omega)), e_can hS.1 hT.1 hx ht hS.2.1, Option.bind_some, l_in (show t < 2 ^ 31 by omega) (by omega), Option.bind_some, nI_1]
    cases hb : t.testBit x with
    | true => rw [if_neg (show ¬ bI true = 0 from i10), if_pos (rfl : true = true), if_pos rfl]
    | false =>
      rw [if_pos (show bI false = 0 from rfl), if_neg (show ¬ (false = true) by decide)]
      cases hc : costC a x t ((2 ^ aN a - 1)) with
      | none => rw [oI_none, if_pos (by decide)]
      | some c =>
        have := costC_le hT.1 hx hc
        obtain ⟨u, q, -⟩ := hT.up ht hx hb hr hc
        have hbit : (un (rP R) ((2 ^ aN a))).testBit x = true := un_bit.2 ⟨t ||| 2 ^ x, or_lt ht hx, by show (R _).isSome = true; rw [q]; rfl, or_bit⟩
        rw [oI_some, if_neg (nI_pos (by omega)), l_in (show un (rP R) (2 ^ aN a) < 2 ^ 31 by omega) (by omega), Option.bind_some, hbit, if_neg (show ¬ bI true = 0 from i10)]
/-- a set let out hand by hand -/
theorem l_305 {t v : Nat} {tt : Nat → Nat} (hS : LSt S a 0 0) (hT : TA a R W) (ht : t < (2 ^ aN a)) (hr : R t = some v) (hv : v ≤ 112) (hw : WK a t v tt) (e8 : S.2.1.2 1 = nI (pc t)) (hP : ∀ i, i < pc t → S.2.1.1 1 i = nI (tt i)) (v4 v6 v7 v9 : Int32) :
    ∃ S', f_L_law_305 SX r 4096 S d P3 (nI (aN a)) v4 v6 v7 (nI (un (rP R) ((2 ^ aN a)))) v9 (nI t) (nI v) 0 0 = r S' d P3 (nI (aN a)) v4 v6 v7 (nI (un (rP R) ((2 ^ aN a)))) v9 (nI (t + 1)) ∧ LSt S' a 0 0 := by
  have hN := hT.1.N
  have p8 := pc_le t
  obtain ⟨p, c, p0, pe, sv, hs⟩ := id hw
  have hF : ∀ i, i ≤ pc t → sumB c i ≤ v := fun i hi => by
    rw [← sv]
    have : ∀ d, sumB c i ≤ sumB c (i + d) := fun d => by
      induction d with
      | zero => exact Nat.le_refl _
      | succ d ih => exact Nat.le_trans ih (Nat.le_add_right _ _)
    have h := this (pc t - i)
    rwa [show i + (pc t - i) = pc t by omega] at h
  refine loop_up (fun f (σ : VX10 × Int32) v16 => f_L_law_305 SX r f σ.1 d P3 (nI (aN a)) v4 v6 v7 (nI (un (rP R) ((2 ^ aN a)))) v9 (nI t) (nI v) σ.2 v16) (pc t) (fun i σ => LSt σ.1 a (p i) (sumB c i) ∧ σ.2 = nI (sumB c i) ∧ σ.1.2.1 = S.2.1) (fun o => ∃ S', o = r S' d P3 (nI (aN a)) v4 v6 v7 (nI (un (rP R) ((2 ^ aN a)))) v9 (nI (t + 1)) ∧ LSt S' a 0 0) ?_ ?_ 4096 0 (S, 0) (Nat.zero_le _) ⟨by rw [p0]; exact hS, rfl, rfl⟩ (by omega)
  · rintro n ⟨T, u⟩ ⟨g1, g2, g3⟩
    have k1 : LSt T a (p (pc t)) (sumB c (pc t)) := g1
    have g2 : u = nI (sumB c (pc t)) := g2
    have g3 : T.2.1 = S.2.1 := g3
    rw [pe, sv] at k1
    rw [sv] at g2
    subst g2
    obtain ⟨S1, e1, h1, r1, a1⟩ := ls_out k1
    obtain ⟨S2, e2, h2, a2⟩ := ls_lets h1 hT.1 hw ht hv (q := 1) (by decide) (by rw [r1, g3]; exact e8) (by rw [r1, g3]; exact hP)
    obtain ⟨S', e3, h3⟩ := l_425 (SX := SX) (d := d) (P3 := P3) (r := r) h2 hT ht hr v4 v6 v7 v9
    refine ⟨S', ?_, h3⟩
    show f_L_law_305 SX r (n + 1) T d P3 (nI (aN a)) v4 v6 v7 (nI (un (rP R) ((2 ^ aN a)))) v9 (nI t) (nI v) (nI v) (nI (pc t)) = _
    rw [f_L_law_305, l_bits (show t < 256 by omega), Option.bind_some, if_pos (nI_le (Nat.le_refl _) (by omega)), if_pos rfl, e1, Option.bind_some, if_pos rfl, show f_X10_asked ((nI t, S1) : Int32 × VX10).2 = _ from a1, Option.bind_some, if_pos rfl, show f_X10_lets ((nI t, S1) : Int32 × VX10).2 1 = _ from e2, Option.bind_some, Option.bind_some, if_pos rfl, show f_X10_asked ((nI (pc t), S2) : Int32 × VX10).2 = _ from a2, Option.bind_some, if_pos rfl]
    exact e3
  · rintro n ⟨T, u⟩ i hi ⟨g1, g2, g3⟩
    right
    have g1 : LSt T a (p i) (sumB c i) := g1
    have g2 : u = nI (sumB c i) := g2
    have g3 : T.2.1 = S.2.1 := g3
    subst g2
    obtain ⟨s1, s2, s3, s4, s5⟩ := hs i hi
    obtain ⟨S1, e1, h1, r1, a1⟩ := ls_at g1 (q := 1) (k := pc t) (by decide) (by omega) (by rw [g3]; exact e8) hi
    rw [g3, hP i hi] at a1
    have e2 := e_can h1.1 hT.1 s3 s2 h1.2.1
    rw [s4, if_neg (show ¬ (false = true) by decide), s5, oI_some] at e2
    obtain ⟨S2, e3, h2, r2⟩ := ls_let h1 hT.1 s3 s2 s4 s5
    have hc := costC_le hT.1 s3 s5
    refine ⟨(S2, nI (sumB c (i + 1))), ⟨by rw [s1]; exact h2, rfl, r2.trans (r1.trans g3)⟩, ?_⟩
    show f_L_law_305 SX r (n + 1) T d P3 (nI (aN a)) v4 v6 v7 (nI (un (rP R) ((2 ^ aN a)))) v9 (nI t) (nI v) (nI (sumB c i)) (nI i) = f_L_law_305 SX r n S2 d P3 (nI (aN a)) v4 v6 v7 (nI (un (rP R) ((2 ^ aN a)))) v9 (nI t) (nI v) (nI (sumB c i + c i)) (nI (i + 1))
    rw [f_L_law_305, l_bits (show t < 256 by omega), Option.bind_some, if_neg (nI_ge hi (by omega)), show f_X10_at T 1 (nI i) = _ from e1, Option.bind_some, if_pos rfl, show f_X10_asked ((1 : Int32), S1).2 = _ from a1, Option.bind_some, show f_X10_can ((1 : Int32), S1).2 (nI (tt i)) = _ from e2, Option.bind_some, if_neg (nI_pos (by omega)), show f_X10_let ((1 : Int32), S1).2 (nI (tt i)) = _ from e3, Option.bind_some, if_pos rfl, nI_add, nI_1]
/-- a set that is reached -/
theorem l_some (hS : LSt S a 0 0) (hT : TA a R W) (h6 : aN a ≤ 6) {t v : Nat} (ht : t < (2 ^ aN a)) (hr : R t = some v) (hP : ∀ i, i ≤ t → P3 i = nI (W i)) (v4 v6 t0 t1 : Int32) :
    ∃ S', f_L_law_130 SX r S d P3 (nI (aN a)) v4 v6 (nI (mx R ((2 ^ aN a)))) (nI (un (rP R) ((2 ^ aN a)))) (nI t) t0 t1 = r S' d P3 (nI (aN a)) v4 v6 (nI (mx R ((2 ^ aN a)))) (nI (un (rP R) ((2 ^ aN a)))) (t1 + t0) (nI (t + 1)) ∧ LSt S' a 0 0 := by
  have hN : 2 ^ aN a ≤ 64 := Nat.le_trans (Nat.pow_le_pow_right (by decide) h6) (by decide)
  have p8 := pc_le t
  rcases ls_order hS hT ht (q := 1) (by decide) with ⟨q, -⟩ | ⟨v', tt, S1, q, hv, hw, e1, h1, e8, hp⟩
  · rw [hr] at q; cases q
  rw [hr] at q
  cases q
  obtain ⟨w, S2, e2, h2, r2, hb⟩ := ls_least h1 hT ht
  obtain ⟨b, u, rfl, huv, ab, sb, bN⟩ := hb v hr
  have hmx := mx_ge (R := R) (t := t) (by rw [hr]; rfl) ((2 ^ aN a)) ht
  have hm8 : mx R (2 ^ aN a) ≤ 8 := by rw [← gw_mx]; exact pc_le _
  have w0 : 0 < W t := by
    have := hT.w ht
    rw [hr] at this
    exact of_decide_eq_true this
  have wb := hT.wsmall ht
  obtain ⟨S', e3, h3⟩ := l_305 (SX := SX) (d := d) (P3 := P3) (r := r) h2 hT ht hr hv hw (by rw [r2]; exact e8) (by rw [r2]; exact hp) v4 v6 (nI (mx R ((2 ^ aN a)))) (t1 + t0)
  refine ⟨S', ?_, h3⟩
  have fin : f_L_law_294 SX r S2 d P3 (nI (aN a)) v4 v6 (nI (mx R ((2 ^ aN a)))) (nI (un (rP R) ((2 ^ aN a)))) (t1 + t0) (nI t) (nI v) = r S' d P3 (nI (aN a)) v4 v6 (nI (mx R ((2 ^ aN a)))) (nI (un (rP R) ((2 ^ aN a)))) (t1 + t0) (nI (t + 1)) := by
    unfold f_L_law_294
    rw [if_neg (nI_pos (by omega))]
    exact e3
  unfold f_L_law_130
  rw [show f_X10_order S (nI t) 1 = _ from e1, Option.bind_some, show f_X10_least ((nI v, S1) : Int32 × VX10).2 (nI t) = _ from e2, Option.bind_some, show f_X10_asked ((nI u, S2) : Int32 × VX10).2 = some (nI b) from congrArg some ab, Option.bind_some, l_162 hT h6 ht hP, if_pos (show (0 : Int32) ≤ ((nI v, S1) : Int32 × VX10).1 from nI_pos' (by omega))]
  unfold f_L_law_219
  rw [zIn_t (show t < 64 by omega) (by decide), if_pos rfl, nI_clamp (by omega), hP t (Nat.le_refl _), if_neg (nI_ne0 w0 (by omega))]
  unfold f_L_law_232
  rw [if_pos rfl, if_neg (show ¬ ((nI v, S1) : Int32 × VX10).1 < 0 from nI_pos (by omega)), if_neg (show ¬ ((nI v, S1) : Int32 × VX10).1 < ((nI u, S2) : Int32 × VX10).1 from nI_nlt huv (by omega)), if_neg (show ¬ ((nI u, S2) : Int32 × VX10).1 < 0 from nI_pos (by omega)), n_and, if_pos (congrArg nI (sd_and.2 sb)), l_bits (show t < 256 by omega), Option.bind_some, if_neg (nI_nlt hmx (by omega)), n_sd, if_pos (show nI (sd t (un (rP R) ((2 ^ aN a)))) = 0 by rw [hT.ever ht hr]; rfl)]
  by_cases c : t = 0
  · rw [if_pos (show nI t ≤ 0 from nI_le (show t ≤ 0 by omega) (by decide))]
    exact fin
  · obtain ⟨x, r', c', hx, hb, f1, f2, f3⟩ := hT.down c ht hr
    have hc := ct_le (fun x => t.testBit x && decide (0 < W (sd t (2 ^ x)))) (aN a)
    have h0 : 0 < ct (fun x => t.testBit x && decide (0 < W (sd t (2 ^ x)))) (aN a) := ct_pos (i := x) (by
      show (t.testBit x && decide (0 < W (sd t (2 ^ x)))) = true
      rw [hb, hT.w (Nat.lt_of_le_of_lt sd_le ht), f1]; rfl) hx
    rw [if_neg (show ¬ nI t ≤ 0 from nI_ge (show 0 < t by omega) (by omega)), if_neg (nI_ne0 h0 (by omega))]
    exact fin
end
/-- all sets -/
theorem l_97 {SX : VSX} {S : VX10} {d : VA48} {P3 : VA64} {a : AJ} {R : Nat → Option Nat} {W : Nat → Nat} (hS : LSt S a 0 0) (hT : TA a R W) (h6 : aN a ≤ 6) (v6 : Int32)
    (hend : ∀ m S' (P' : VA64), LSt S' a 0 0 → (∀ i, i < (2 ^ aN a) → P' i = nI (W i)) → f_L_law_97 SX (m + 1) S' d P' (nI (aN a)) (nI ((2 ^ aN a - 1))) v6 (nI (mx R ((2 ^ aN a)))) (nI (un (rP R) ((2 ^ aN a)))) (nI (ct (rP R) ((2 ^ aN a)))) (nI ((2 ^ aN a))) = some 1) :
    f_L_law_97 SX 4096 S d P3 (nI (aN a)) (nI ((2 ^ aN a - 1))) v6 (nI (mx R ((2 ^ aN a)))) (nI (un (rP R) ((2 ^ aN a)))) 0 0 = some 1 := by
  have hN : 2 ^ aN a ≤ 64 := Nat.le_trans (Nat.pow_le_pow_right (by decide) h6) (by decide)
  refine loop_up (fun f (σ : VX10 × VA64 × Int32) v10 => f_L_law_97 SX f σ.1 d σ.2.1 (nI (aN a)) (nI ((2 ^ aN a - 1))) v6 (nI (mx R ((2 ^ aN a)))) (nI (un (rP R) ((2 ^ aN a)))) σ.2.2 v10) ((2 ^ aN a)) (fun t σ => LSt σ.1 a 0 0 ∧ (∀ i, i < t → σ.2.1 i = nI (W i)) ∧ σ.2.2 = nI (ct (rP R) t)) (fun o => o = some 1) ?_ ?_ 4096 0 (S, P3, 0) (Nat.zero_le _) ⟨hS, fun i hi => by omega, rfl⟩ (by omega)
  · rintro m ⟨S', P', v⟩ ⟨g1, g2, g3⟩
    have g3 : v = nI (ct (rP R) ((2 ^ aN a))) := g3
    subst g3
    exact hend m S' P' g1 g2
  · rintro m ⟨S', P', v⟩ t ht ⟨g1, g2, g3⟩
    right
    have g1 : LSt S' a 0 0 := g1
    have g2 : ∀ i, i < t → P' i = nI (W i) := g2
    have g3 : v = nI (ct (rP R) t) := g3
    subst g3
    obtain ⟨S1, e1, h1⟩ := ls_ways g1 hT ht
    have wb := hT.wsmall ht
    have hP' : ∀ i, i ≤ t → upd P' t (nI (W t)) i = nI (W i) := fun i hi => by
      rw [upd_at]
      by_cases c : i = t
      · rw [if_pos c, c]
      · rw [if_neg c]; exact g2 i (by omega)
    have eC : f_L_law_97 SX (m + 1) S' d P' (nI (aN a)) (nI ((2 ^ aN a - 1))) v6 (nI (mx R ((2 ^ aN a)))) (nI (un (rP R) ((2 ^ aN a)))) (nI (ct (rP R) t)) (nI t) = if nI (W t) ≤ 0 then f_L_law_130 SX (f_L_law_97 SX m) S1 d (upd P' t (nI (W t))) (nI (aN a)) (nI ((2 ^ aN a - 1))) v6 (nI (mx R ((2 ^ aN a)))) (nI (un (rP R) ((2 ^ aN a)))) (nI t) 0 (nI (ct (rP R) t)) else f_L_law_130 SX (f_L_law_97 SX m) S1 d (upd P' t (nI (W t))) (nI (aN a)) (nI ((2 ^ aN a - 1))) v6 (nI (mx R ((2 ^ aN a)))) (nI (un (rP R) ((2 ^ aN a)))) (nI t) 1 (nI (ct (rP R) t)) := by
      rw [f_L_law_97, if_neg (nI_nlt (by omega) (by omega)), e1, Option.bind_some, zIn_t (show t < 64 by omega) (by decide), if_pos rfl, if_pos rfl, nI_clamp (by omega), hP' t (Nat.le_refl _)]
    show ∃ σ : VX10 × VA64 × Int32, (LSt σ.1 a 0 0 ∧ (∀ i, i < t + 1 → σ.2.1 i = nI (W i)) ∧ σ.2.2 = nI (ct (rP R) t + ((R t).isSome).toNat)) ∧ f_L_law_97 SX (m + 1) S' d P' (nI (aN a)) (nI ((2 ^ aN a - 1))) v6 (nI (mx R ((2 ^ aN a)))) (nI (un (rP R) ((2 ^ aN a)))) (nI (ct (rP R) t)) (nI t) = f_L_law_97 SX m σ.1 d σ.2.1 (nI (aN a)) (nI ((2 ^ aN a - 1))) v6 (nI (mx R ((2 ^ aN a)))) (nI (un (rP R) ((2 ^ aN a)))) σ.2.2 (nI (t + 1))
    have hw := hT.w ht
    cases hr : R t with
    | none =>
      rw [hr] at hw
      have hw : ¬ 0 < W t := of_decide_eq_false hw
      obtain ⟨S2, k1, k2⟩ := l_none (SX := SX) (d := d) (r := f_L_law_97 SX m) h1 hT h6 ht hr hP' (nI ((2 ^ aN a - 1))) v6 (nI (mx R ((2 ^ aN a)))) (nI (un (rP R) ((2 ^ aN a)))) 0 (nI (ct (rP R) t))
      refine ⟨(S2, upd P' t (nI (W t)), nI (ct (rP R) t) + 0), ⟨k2, fun i hi => hP' i (by omega), nI_a0 _⟩, ?_⟩
      rw [eC, if_pos (show nI (W t) ≤ 0 from nI_le (show W t ≤ 0 by omega) (by decide))]
      exact k1
    | some u =>
      rw [hr] at hw
      have hw : 0 < W t := of_decide_eq_true hw
      obtain ⟨S2, k1, k2⟩ := l_some (SX := SX) (d := d) (r := f_L_law_97 SX m) h1 hT h6 ht hr hP' (nI ((2 ^ aN a - 1))) v6 1 (nI (ct (rP R) t))
      refine ⟨(S2, upd P' t (nI (W t)), nI (ct (rP R) t) + 1), ⟨k2, fun i hi => hP' i (by omega), nI_1 _⟩, ?_⟩
      rw [eC, if_neg (show ¬ nI (W t) ≤ 0 from nI_ge hw (by omega))]
      exact k1
