/-! TRADES, the class alone -/
/-- no two keys that both who keep them would trade -/
def NT (a : AJ) : Prop := ∀ x y, x < y → y < aN a → mtB a x y → ∀ R R', IsR a ((2 ^ aN a - 1)) ((2 ^ aN a)) R → IsR (trX a x y) ((2 ^ aN a - 1)) ((2 ^ aN a)) R' → ¬ (ocV R' ((2 ^ aN a)) (aP a x) < ocV R ((2 ^ aN a)) (aP a x) ∧ ocV R' ((2 ^ aN a)) (aP a y) < ocV R ((2 ^ aN a)) (aP a y))
theorem trX_SD (a : AJ) (x y : Nat) : SD a (trX a x y) := ⟨rfl, rfl, rfl, rfl, rfl⟩
theorem trade_cls {J : VX2} {a : AJ} (hV : AV a) (hJ : JR J a) {x y : Nat} (hx : x < aN a) (hy : y < aN a) (hxy : x ≠ y) (Dl : VX0) {R : Nat → Option Nat} (hR : IsR a ((2 ^ aN a - 1)) ((2 ^ aN a)) R) (hW : ∀ z, z < 8 → Dl.2.2.2 z = nI (ocV R ((2 ^ aN a)) z)) (hmt : mtB a x y) :
    ∃ (b : Bool) (Z' : VX4) (J' : VX2) (R' : Nat → Option Nat), IsR (trX a x y) ((2 ^ aN a - 1)) ((2 ^ aN a)) R' ∧ f_X0_helpsBoth Dl J (nI x) (nI y) = some (bI b, (Dl.1, Z', Dl.2.2.1, Dl.2.2.2), J') ∧ (b = false → J' = J ∧ ¬ (ocV R' ((2 ^ aN a)) (aP a x) < ocV R ((2 ^ aN a)) (aP a x) ∧ ocV R' ((2 ^ aN a)) (aP a y) < ocV R ((2 ^ aN a)) (aP a y))) ∧ (b = true → (ocV R' ((2 ^ aN a)) (aP a x) < ocV R ((2 ^ aN a)) (aP a x) ∧ ocV R' ((2 ^ aN a)) (aP a y) < ocV R ((2 ^ aN a)) (aP a y)) ∧ AV (trX a x y) ∧ JR J' (trX a x y) ∧ KS (aN a) J J') := by
  have hn := hV.2.1
  have hN := hV.N
  obtain ⟨m1, m2, m3, m4, m5, m6, m7⟩ := id hmt
  have q1 := ((hV.2.2 x hx).2.2.1 m2).1
  have q2 := ((hV.2.2 y hy).2.2.1 m3).1
  have hV2 := trX_V hV hx hy hxy hmt
  have hJ2 := trX_J hJ hn q1 q2 (x := x) (y := y)
  obtain ⟨R', W', k1, k2⟩ := tabs hV2 (show (2 ^ aN a - 1) < 2 ^ aN (trX a x y) from fu_lt a)
  obtain ⟨Z', M', f1, h'⟩ := fillT hJ2 hV2 (show (2 ^ aN a - 1) < 2 ^ aN (trX a x y) from fu_lt a) k1 k2 Dl.2.1
  obtain ⟨R0, W0, k3, k4⟩ := tabs hV (fu_lt a)
  obtain ⟨Z0, M0, -, h0⟩ := fillT hJ hV (fu_lt a) k3 k4 ((fun _ => 0, 0) : VX4)
  have hRle : ∀ z, ocV R (2 ^ aN a) z ≤ 112 := fun z => by
    rw [oc_uniq hR k3 z]; exact ocV_le h0 z
  have hR'le : ∀ z, ocV R' (2 ^ aN a) z ≤ 112 := fun z => ocV_le h' z
  have w1 : f_X0_wouldTrade ((Dl.1, Z', Dl.2.2.1, Dl.2.2.2)) (nI (aP a x)) = some (bI (decide (ocV R' (2 ^ aN a) (aP a x) < ocV R (2 ^ aN a) (aP a x)))) := x0_would (Dl := (Dl.1, Z', Dl.2.2.1, Dl.2.2.2)) rfl h' (n := 2 ^ aN a) rfl (by omega) (hRle _) (hW _ (by omega))
  have w2 : f_X0_wouldTrade ((Dl.1, Z', Dl.2.2.1, Dl.2.2.2)) (nI (aP a y)) = some (bI (decide (ocV R' (2 ^ aN a) (aP a y) < ocV R (2 ^ aN a) (aP a y)))) := x0_would (Dl := (Dl.1, Z', Dl.2.2.1, Dl.2.2.2)) rfl h' (n := 2 ^ aN a) rfl (by omega) (hRle _) (hW _ (by omega))
  have sk1 : f_X2_setKeeper J (nI x) (nI (aP a y)) = some ((J.1, upd J.2.1 x (nI (aP a y)), J.2.2.1, J.2.2.2.1, J.2.2.2.2.1, J.2.2.2.2.2.1, J.2.2.2.2.2.2.1, J.2.2.2.2.2.2.2)) := x2_setKeeper hJ.1 hn hx _
  have sk2 : f_X2_setKeeper ((J.1, upd J.2.1 x (nI (aP a y)), J.2.2.1, J.2.2.2.1, J.2.2.2.2.1, J.2.2.2.2.2.1, J.2.2.2.2.2.2.1, J.2.2.2.2.2.2.2)) (nI y) (nI (aP a x)) = some ((J.1, upd (upd J.2.1 x (nI (aP a y))) y (nI (aP a x)), J.2.2.1, J.2.2.2.1, J.2.2.2.2.1, J.2.2.2.2.2.1, J.2.2.2.2.2.2.1, J.2.2.2.2.2.2.2)) := x2_setKeeper (J := (J.1, upd J.2.1 x (nI (aP a y)), J.2.2.1, J.2.2.2.1, J.2.2.2.2.1, J.2.2.2.2.2.1, J.2.2.2.2.2.2.1, J.2.2.2.2.2.2.2)) hJ.1 hn hy _
  have sk3 : f_X2_setKeeper ((J.1, upd (upd J.2.1 x (nI (aP a y))) y (nI (aP a x)), J.2.2.1, J.2.2.2.1, J.2.2.2.2.1, J.2.2.2.2.2.1, J.2.2.2.2.2.2.1, J.2.2.2.2.2.2.2)) (nI x) (nI (aP a x)) = some ((J.1, upd (upd (upd J.2.1 x (nI (aP a y))) y (nI (aP a x))) x (nI (aP a x)), J.2.2.1, J.2.2.2.1, J.2.2.2.2.1, J.2.2.2.2.2.1, J.2.2.2.2.2.2.1, J.2.2.2.2.2.2.2)) := x2_setKeeper (J := (J.1, upd (upd J.2.1 x (nI (aP a y))) y (nI (aP a x)), J.2.2.1, J.2.2.2.1, J.2.2.2.2.1, J.2.2.2.2.2.1, J.2.2.2.2.2.2.1, J.2.2.2.2.2.2.2)) hJ.1 hn hx _
  have sk4 : f_X2_setKeeper ((J.1, upd (upd (upd J.2.1 x (nI (aP a y))) y (nI (aP a x))) x (nI (aP a x)), J.2.2.1, J.2.2.2.1, J.2.2.2.2.1, J.2.2.2.2.2.1, J.2.2.2.2.2.2.1, J.2.2.2.2.2.2.2)) (nI y) (nI (aP a y)) = some ((J.1, upd (upd (upd (upd J.2.1 x (nI (aP a y))) y (nI (aP a x))) x (nI (aP a x))) y (nI (aP a y)), J.2.2.1, J.2.2.2.1, J.2.2.2.2.1, J.2.2.2.2.2.1, J.2.2.2.2.2.2.1, J.2.2.2.2.2.2.2)) := x2_setKeeper (J := (J.1, upd (upd (upd J.2.1 x (nI (aP a y))) y (nI (aP a x))) x (nI (aP a x)), J.2.2.1, J.2.2.2.1, J.2.2.2.2.1, J.2.2.2.2.2.1, J.2.2.2.2.2.2.1, J.2.2.2.2.2.2.2)) hJ.1 hn hy _
  have back : f_X0_helpsBoth_60 ((Dl.1, Z', Dl.2.2.1, Dl.2.2.2)) ((J.1, upd (upd J.2.1 x (nI (aP a y))) y (nI (aP a x)), J.2.2.1, J.2.2.2.1, J.2.2.2.2.1, J.2.2.2.2.2.1, J.2.2.2.2.2.2.1, J.2.2.2.2.2.2.2)) (nI x) (nI y) (nI (aP a x)) (nI (aP a y)) = some (0, (Dl.1, Z', Dl.2.2.1, Dl.2.2.2), (J.1, upd (upd (upd (upd J.2.1 x (nI (aP a y))) y (nI (aP a x))) x (nI (aP a x))) y (nI (aP a y)), J.2.2.1, J.2.2.2.1, J.2.2.2.2.1, J.2.2.2.2.2.1, J.2.2.2.2.2.2.1, J.2.2.2.2.2.2.2)) := by
    unfold f_X0_helpsBoth_60
    rw [sk3, Option.bind_some, sk4, Option.bind_some]
  have kx := (hJ.2.2.2 x hx).2.1
  have ky := (hJ.2.2.2 y hy).2.1
  rw [kI_lt (show aP a x < 8 by omega)] at kx
  rw [kI_lt (show aP a y < 8 by omega)] at ky
  have same : upd (upd (upd (upd J.2.1 x (nI (aP a y))) y (nI (aP a x))) x (nI (aP a x))) y (nI (aP a y)) = J.2.1 := funext fun z => by
    rw [upd_at, upd_at, upd_at, upd_at]
    by_cases c : z = y
    · rw [if_pos c, c, ky]
    · rw [if_neg c]
      by_cases d : z = x
      · rw [if_pos d, d, kx]
      · rw [if_neg d, if_neg c, if_neg d]
  rw [same] at back
  have cls : f_X0_helpsBoth Dl J (nI x) (nI y) = if decide (ocV R' (2 ^ aN a) (aP a x) < ocV R (2 ^ aN a) (aP a x)) = true ∧ decide (ocV R' (2 ^ aN a) (aP a y) < ocV R (2 ^ aN a) (aP a y)) = true then some (1, (Dl.1, Z', Dl.2.2.1, Dl.2.2.2), (J.1, upd (upd J.2.1 x (nI (aP a y))) y (nI (aP a x)), J.2.2.1, J.2.2.2.1, J.2.2.2.2.1, J.2.2.2.2.2.1, J.2.2.2.2.2.2.1, J.2.2.2.2.2.2.2)) else some (0, (Dl.1, Z', Dl.2.2.1, Dl.2.2.2), J) := by
    unfold f_X0_helpsBoth
    rw [x2_keeper hJ hn hx, Option.bind_some, x2_keeper hJ hn hy, Option.bind_some, kI_lt (show aP a x < 8 by omega), kI_lt (show aP a y < 8 by omega), sk1, Option.bind_some, sk2, Option.bind_some, x2_all (J := (J.1, upd (upd J.2.1 x (nI (aP a y))) y (nI (aP a x)), J.2.2.1, J.2.2.2.1, J.2.2.2.2.1, J.2.2.2.2.2.1, J.2.2.2.2.2.2.1, J.2.2.2.2.2.2.2)) hJ.1 hn, Option.bind_some, f1, Option.bind_some, w1, Option.bind_some, w2, Option.bind_some, back]
    cases decide (ocV R' (2 ^ aN a) (aP a x) < ocV R (2 ^ aN a) (aP a x)) with
    | false => rw [if_pos (show bI false = 0 from rfl), if_neg (fun q => by cases q.1)]
    | true =>
      rw [if_neg (show ¬ bI true = 0 from i10)]
      cases decide (ocV R' (2 ^ aN a) (aP a y) < ocV R (2 ^ aN a) (aP a y)) with
      | false => rw [if_pos (show bI false = 0 from rfl), if_neg (fun q => by cases q.2)]
      | true => rw [if_neg (show ¬ bI true = 0 from i10), if_pos ⟨rfl, rfl⟩]
  by_cases c : ocV R' (2 ^ aN a) (aP a x) < ocV R (2 ^ aN a) (aP a x) ∧ ocV R' (2 ^ aN a) (aP a y) < ocV R (2 ^ aN a) (aP a y)
  · refine ⟨true, Z', _, R', k1, ?_, (fun e => by cases e), fun _ => ⟨c, hV2, hJ2, ⟨_, rfl, fun z hz => ?_⟩⟩⟩
    · rw [cls, if_pos ⟨decide_eq_true c.1, decide_eq_true c.2⟩]; rfl
    · rw [upd_at, upd_at, if_neg (by omega), if_neg (by omega)]
  · refine ⟨false, Z', J, R', k1, ?_, fun _ => ⟨rfl, c⟩, fun e => by cases e⟩
    rw [cls, if_neg (fun q => c ⟨of_decide_eq_true q.1, of_decide_eq_true q.2⟩)]; rfl
/-- the pairs from x and y on -/
def NTf (a : AJ) (R : Nat → Option Nat) (x y : Nat) : Prop := mtB a x y → ∀ R', IsR (trX a x y) ((2 ^ aN a - 1)) ((2 ^ aN a)) R' → ¬ (ocV R' ((2 ^ aN a)) (aP a x) < ocV R ((2 ^ aN a)) (aP a x) ∧ ocV R' ((2 ^ aN a)) (aP a y) < ocV R ((2 ^ aN a)) (aP a y))
theorem trc_inner {a : AJ} (hV : AV a) {x : Nat} (hx : x < aN a) (Dl : VX0) {R : Nat → Option Nat} (hR : IsR a ((2 ^ aN a - 1)) ((2 ^ aN a)) R) (hW : ∀ z, z < 8 → Dl.2.2.2 z = nI (ocV R ((2 ^ aN a)) z)) (r39 : VX0 → VX2 → Int32 → Option (Int32 × VX0 × VX2)) (Z : VX4) {J : VX2} (hJ : JR J a) :
    (∃ (Z' : VX4), (∀ y, x < y → y < aN a → NTf a R x y) ∧ f_X0_tradeOnce_51 r39 4096 ((Dl.1, Z, Dl.2.2.1, Dl.2.2.2)) J (nI x) (nI (x + 1)) = r39 ((Dl.1, Z', Dl.2.2.1, Dl.2.2.2)) J (nI (x + 1))) ∨
    (∃ (Z' : VX4) (J' : VX2) (a' : AJ) (y : Nat), x < y ∧ y < aN a ∧ ¬ NTf a R x y ∧ AV a' ∧ SD a a' ∧ JR J' a' ∧ KS (aN a) J J' ∧ f_X0_tradeOnce_51 r39 4096 ((Dl.1, Z, Dl.2.2.1, Dl.2.2.2)) J (nI x) (nI (x + 1)) = some (1, (Dl.1, Z', Dl.2.2.1, Dl.2.2.2), J')) := by
  have hn := hV.2.1
  refine loop_up (fun f (σ : VX4) v3 => f_X0_tradeOnce_51 r39 f ((Dl.1, σ, Dl.2.2.1, Dl.2.2.2)) J (nI x) v3) (aN a) (fun k _ => x < k ∧ ∀ y, x < y → y < k → NTf a R x y)
    (fun p => (∃ (Z' : VX4), (∀ y, x < y → y < aN a → NTf a R x y) ∧ p = r39 ((Dl.1, Z', Dl.2.2.1, Dl.2.2.2)) J (nI (x + 1))) ∨
      (∃ (Z' : VX4) (J' : VX2) (a' : AJ) (y : Nat), x < y ∧ y < aN a ∧ ¬ NTf a R x y ∧ AV a' ∧ SD a a' ∧ JR J' a' ∧ KS (aN a) J J' ∧ p = some (1, (Dl.1, Z', Dl.2.2.1, Dl.2.2.2), J'))) ?_ ?_ 4096 (x + 1) Z (by omega) ⟨Nat.lt_succ_self _, fun y h1 h2 => by omega⟩ (by omega)
  · rintro n Z ⟨-, hno⟩
    left
    refine ⟨Z, hno, ?_⟩
    show f_X0_tradeOnce_51 r39 (n + 1) ((Dl.1, Z, Dl.2.2.1, Dl.2.2.2)) J (nI x) (nI (aN a)) = _
    rw [f_X0_tradeOnce_51, show f_X2_cells J = some (nI (aN a)) from congrArg some hJ.1, Option.bind_some, if_pos (nI_le (Nat.le_refl _) (by omega)), nI_1]
  · rintro n Z y hy ⟨hxy, hno⟩
    obtain ⟨t1, t0⟩ := x0_may (D := (Dl.1, Z, Dl.2.2.1, Dl.2.2.2)) hJ hV hx hy
    show _ ∨ ∃ (σ : VX4), (x < y + 1 ∧ ∀ z, x < z → z < y + 1 → NTf a R x z) ∧ f_X0_tradeOnce_51 r39 (n + 1) ((Dl.1, Z, Dl.2.2.1, Dl.2.2.2)) J (nI x) (nI y) = f_X0_tradeOnce_51 r39 n ((Dl.1, σ, Dl.2.2.1, Dl.2.2.2)) J (nI x) (nI (y + 1))
    have eC : f_X0_tradeOnce_51 r39 (n + 1) ((Dl.1, Z, Dl.2.2.1, Dl.2.2.2)) J (nI x) (nI y) = (f_X0_mayTrade ((Dl.1, Z, Dl.2.2.1, Dl.2.2.2)) J (nI x) (nI y)).bind fun r3 => if r3 = 0 then f_X0_tradeOnce_51 r39 n ((Dl.1, Z, Dl.2.2.1, Dl.2.2.2)) J (nI x) (nI (y + 1)) else (f_X0_helpsBoth ((Dl.1, Z, Dl.2.2.1, Dl.2.2.2)) J (nI x) (nI y)).bind fun r5 => if r5.1 = 0 then f_X0_tradeOnce_51 r39 n r5.2.1 r5.2.2 (nI x) (nI (y + 1)) else some (1, r5.2.1, r5.2.2) := by
      rw [f_X0_tradeOnce_51, show f_X2_cells J = some (nI (aN a)) from congrArg some hJ.1, Option.bind_some, if_neg (nI_ge hy (by omega)), nI_1]
    have more : NTf a R x y → ∀ z, x < z → z < y + 1 → NTf a R x z := fun h z h1 h2 => by
      by_cases e : z = y
      · rw [e]; exact h
      · exact hno z h1 (by omega)
    by_cases hmt : mtB a x y
    · obtain ⟨b, Z', J', R', g0, g1, g3, g4⟩ := trade_cls hV hJ hx hy (by omega) ((Dl.1, Z, Dl.2.2.1, Dl.2.2.2)) hR hW hmt
      have eC2 : f_X0_tradeOnce_51 r39 (n + 1) ((Dl.1, Z, Dl.2.2.1, Dl.2.2.2)) J (nI x) (nI y) = if bI b = 0 then f_X0_tradeOnce_51 r39 n ((Dl.1, Z', Dl.2.2.1, Dl.2.2.2)) J' (nI x) (nI (y + 1)) else some (1, (Dl.1, Z', Dl.2.2.1, Dl.2.2.2), J') := by
        rw [eC, t1 hmt, Option.bind_some, if_neg i10, g1]; rfl
      cases b with
      | false =>
        right
        obtain ⟨k1, k2⟩ := g3 rfl
        rw [k1] at eC2
        refine ⟨Z', ⟨by omega, more fun _ R2 h2 => ?_⟩, eC2⟩
        rw [oc_uniq h2 g0 (aP a x), oc_uniq h2 g0 (aP a y)]
        exact k2
      | true =>
        left
        right
        obtain ⟨k1, k2, k3, k4⟩ := g4 rfl
        exact ⟨Z', J', _, y, by omega, hy, fun h => h hmt R' g0 k1, k2, trX_SD a x y, k3, k4, eC2⟩
    · right
      refine ⟨Z, ⟨by omega, more fun h => absurd h hmt⟩, ?_⟩
      rw [eC, t0 hmt, Option.bind_some, if_pos rfl]
theorem trc_once {a : AJ} (hV : AV a) (Dl : VX0) {J : VX2} (hJ : JR J a) :
    ∃ (b : Bool) (Dl' : VX0) (J' : VX2) (a' : AJ), AV a' ∧ SD a a' ∧ JR J' a' ∧ KS (aN a) J J' ∧ f_X0_tradeOnce Dl J = some (bI b, Dl', J') ∧ (b = false → J' = J ∧ NT a ∧ a' = a) ∧ (b = true → ¬ NT a) := by
  have hn := hV.2.1
  obtain ⟨R, W, k1, k2⟩ := tabs hV (fu_lt a)
  obtain ⟨Z, M, e1, h⟩ := fillT hJ hV (fu_lt a) k1 k2 Dl.2.1
  have eW : ∃ T, f_X0_tradeOnce Dl J = f_X0_tradeOnce_39 4096 ((Dl.1, Z, Dl.2.2.1, T)) J 0 ∧ ∀ z, z < 8 → T z = nI (ocV R (2 ^ aN a) z) := by
    unfold f_X0_tradeOnce
    rw [x2_all hJ.1 hn, Option.bind_some, e1, Option.bind_some]
    refine loop_up (fun f (T : Nat → Int32) v2 => f_X0_tradeOnce_14 f ((Dl.1, Z, Dl.2.2.1, T)) J v2) 8 (fun k T => ∀ z, z < k → T z = nI (ocV R (2 ^ aN a) z)) (fun p => ∃ T, p = f_X0_tradeOnce_39 4096 ((Dl.1, Z, Dl.2.2.1, T)) J 0 ∧ ∀ z, z < 8 → T z = nI (ocV R (2 ^ aN a) z)) ?_ ?_ 4096 0 Dl.2.2.2 (Nat.zero_le _) (fun z hz => by omega) (by omega)
    · rintro n T hT
      refine ⟨T, ?_, hT⟩
      show f_X0_tradeOnce_14 (n + 1) ((Dl.1, Z, Dl.2.2.1, T)) J (nI 8) = _
      rw [f_X0_tradeOnce_14, if_pos (by decide)]
    · rintro n T k hk hT
      right
      refine ⟨upd T k (nI (ocV R (2 ^ aN a) k)), fun z hz => ?_, ?_⟩
      · rw [upd_at]
        by_cases c : z = k
        · rw [if_pos c, c]
        · rw [if_neg c]; exact hT z (by omega)
      · show f_X0_tradeOnce_14 (n + 1) ((Dl.1, Z, Dl.2.2.1, T)) J (nI k) = f_X0_tradeOnce_14 n ((Dl.1, Z, Dl.2.2.1, upd T k (nI (ocV R (2 ^ aN a) k)))) J (nI (k + 1))
        rw [f_X0_tradeOnce_14, if_neg (show ¬ (8 : Int32) ≤ nI k from nI_ge hk (by decide)), x0_never (D := (Dl.1, Z, Dl.2.2.1, T)) rfl h hk, Option.bind_some, zIn_t hk (by decide), if_pos rfl, nI_clamp (by omega), nI_1]
  obtain ⟨T, eT, hT⟩ := eW
  rw [eT]
  refine loop_up (fun f (σ : VX4) v2 => f_X0_tradeOnce_39 f (Dl.1, σ, Dl.2.2.1, T) J v2) (aN a) (fun k _ => ∀ x y, x < k → x < y → y < aN a → NTf a R x y)
    (fun p => ∃ (b : Bool) (Dl' : VX0) (J' : VX2) (a' : AJ), AV a' ∧ SD a a' ∧ JR J' a' ∧ KS (aN a) J J' ∧ p = some (bI b, Dl', J') ∧ (b = false → J' = J ∧ NT a ∧ a' = a) ∧ (b = true → ¬ NT a)) ?_ ?_ 4096 0 Z (Nat.zero_le _) (fun x y h => by omega) (by omega)
  · rintro n Z hno
    refine ⟨false, (Dl.1, Z, Dl.2.2.1, T), J, a, hV, SD.rf a, hJ, KS.rf _ _, ?_, fun _ => ⟨rfl, fun x y h1 h2 h3 R2 R' h4 h5 => ?_, rfl⟩, fun e => by cases e⟩
    · show f_X0_tradeOnce_39 (n + 1) ((Dl.1, Z, Dl.2.2.1, T)) J (nI (aN a)) = some (0, (Dl.1, Z, Dl.2.2.1, T), J)
      rw [f_X0_tradeOnce_39, show f_X2_cells J = some (nI (aN a)) from congrArg some hJ.1, Option.bind_some, if_pos (nI_le (Nat.le_refl _) (by omega))]
    · rw [oc_uniq h4 k1 (aP a x), oc_uniq h4 k1 (aP a y)]
      exact hno x y (by omega) h1 h2 h3 R' h5
  · rintro n Z x hx hno
    have eC : f_X0_tradeOnce_39 (n + 1) ((Dl.1, Z, Dl.2.2.1, T)) J (nI x) = f_X0_tradeOnce_51 (f_X0_tradeOnce_39 n) 4096 ((Dl.1, Z, Dl.2.2.1, T)) J (nI x) (nI (x + 1)) := by
      rw [f_X0_tradeOnce_39, show f_X2_cells J = some (nI (aN a)) from congrArg some hJ.1, Option.bind_some, if_neg (nI_ge hx (by omega)), nI_1]
    rcases trc_inner hV hx ((Dl.1, Z, Dl.2.2.1, T)) k1 hT (f_X0_tradeOnce_39 n) Z hJ with ⟨Z', g1, g2⟩ | ⟨Z', J', a', y, g1, g2, g3, g4, g5, g6, g7, g8⟩
    · right
      refine ⟨Z', fun x' y' h1 h2 h3 => ?_, eC.trans g2⟩
      by_cases e : x' = x
      · rw [e] at h2 ⊢; exact g1 y' h2 h3
      · exact hno x' y' (by omega) h2 h3
    · left
      exact ⟨true, _, J', a', g4, g5, g6, g7, eC.trans g8, (fun e => by cases e), fun _ h => g3 fun h1 R' h2 => h x y g1 g2 h1 R R' k1 h2⟩
section
variable {S : VX10} {a : AJ}
theorem e_trades (hJ : JR S.2.2.2.2.1 a) (hV : AV a) : ∃ (r : Nat) (Dl' : VX0) (J' : VX2) (a' : AJ), r ≤ 20 ∧ AV a' ∧ SD a a' ∧ JR J' a' ∧ KS (aN a) S.2.2.2.2.1 J' ∧ f_X10_trades S = some (nI r, (S.1, S.2.1, S.2.2.1, S.2.2.2.1, J', S.2.2.2.2.2.1, S.2.2.2.2.2.2.1, S.2.2.2.2.2.2.2.1, Dl', S.2.2.2.2.2.2.2.2.2)) ∧ (r = 0 → J' = S.2.2.2.2.1) ∧ (r < 20 → NT a') ∧ (NT a → r = 0) := by
  unfold f_X10_trades
  rw [show f_X10_trades_2 4096 S 0 = f_X10_trades_2 4096 ((S.1, S.2.1, S.2.2.1, S.2.2.2.1, S.2.2.2.2.1, S.2.2.2.2.2.1, S.2.2.2.2.2.2.1, S.2.2.2.2.2.2.2.1, S.2.2.2.2.2.2.2.2.1, S.2.2.2.2.2.2.2.2.2)) 0 from congrArg (fun Z : VX10 => f_X10_trades_2 4096 Z 0) (show S = (S.1, S.2.1, S.2.2.1, S.2.2.2.1, S.2.2.2.2.1, S.2.2.2.2.2.1, S.2.2.2.2.2.2.1, S.2.2.2.2.2.2.2.1, S.2.2.2.2.2.2.2.2.1, S.2.2.2.2.2.2.2.2.2) from rfl)]
  refine loop_up (fun f (σ : VX2 × VX0) v1 => f_X10_trades_2 f ((S.1, S.2.1, S.2.2.1, S.2.2.2.1, σ.1, S.2.2.2.2.2.1, S.2.2.2.2.2.2.1, S.2.2.2.2.2.2.2.1, σ.2, S.2.2.2.2.2.2.2.2.2)) v1) 20 (fun k σ => ∃ a', AV a' ∧ SD a a' ∧ JR σ.1 a' ∧ KS (aN a) S.2.2.2.2.1 σ.1 ∧ (k = 0 → σ.1 = S.2.2.2.2.1 ∧ a' = a) ∧ (0 < k → ¬ NT a)) (fun p => ∃ (r : Nat) (Dl' : VX0) (J' : VX2) (a' : AJ), r ≤ 20 ∧ AV a' ∧ SD a a' ∧ JR J' a' ∧ KS (aN a) S.2.2.2.2.1 J' ∧ p = some (nI r, (S.1, S.2.1, S.2.2.1, S.2.2.2.1, J', S.2.2.2.2.2.1, S.2.2.2.2.2.2.1, S.2.2.2.2.2.2.2.1, Dl', S.2.2.2.2.2.2.2.2.2)) ∧ (r = 0 → J' = S.2.2.2.2.1) ∧ (r < 20 → NT a') ∧ (NT a → r = 0)) ?_ ?_ 4096 0 (S.2.2.2.2.1, S.2.2.2.2.2.2.2.2.1) (by omega) ⟨a, hV, SD.rf a, hJ, KS.rf _ _, fun _ => ⟨rfl, rfl⟩, fun h => by omega⟩ (by omega)
  · rintro n ⟨J, Dl⟩ ⟨a', h1, h2, h3, h4, h5, h6⟩
    refine ⟨20, Dl, J, a', Nat.le_refl _, h1, h2, h3, h4, ?_, fun e => by omega, fun e => by omega, fun e => absurd e (h6 (by omega))⟩
    show f_X10_trades_2 (n + 1) ((S.1, S.2.1, S.2.2.1, S.2.2.2.1, J, S.2.2.2.2.2.1, S.2.2.2.2.2.2.1, S.2.2.2.2.2.2.2.1, Dl, S.2.2.2.2.2.2.2.2.2)) (nI 20) = _
    rw [f_X10_trades_2, if_pos (by decide)]
  · rintro n ⟨J, Dl⟩ k hk ⟨a', h1, h2, h3, h4, h5, h6⟩
    have h3 : JR J a' := h3
    have hna : aN a' = aN a := h2.1
    obtain ⟨b, Dl2, J2, a2, g1, g2, g3, g4, g5, g6, g7⟩ := trc_once h1 Dl h3
    rw [hna] at g4
    have eC : f_X10_trades_2 (n + 1) ((S.1, S.2.1, S.2.2.1, S.2.2.2.1, J, S.2.2.2.2.2.1, S.2.2.2.2.2.2.1, S.2.2.2.2.2.2.2.1, Dl, S.2.2.2.2.2.2.2.2.2)) (nI k) = if bI b = 0 then some (nI k, (S.1, S.2.1, S.2.2.1, S.2.2.2.1, J2, S.2.2.2.2.2.1, S.2.2.2.2.2.2.1, S.2.2.2.2.2.2.2.1, Dl2, S.2.2.2.2.2.2.2.2.2)) else f_X10_trades_2 n ((S.1, S.2.1, S.2.2.1, S.2.2.2.1, J2, S.2.2.2.2.2.1, S.2.2.2.2.2.2.1, S.2.2.2.2.2.2.2.1, Dl2, S.2.2.2.2.2.2.2.2.2)) (nI (k + 1)) := by
      rw [f_X10_trades_2, if_neg (show ¬ (20 : Int32) ≤ nI k from nI_ge hk (by decide)), show f_X0_tradeOnce ((S.1, S.2.1, S.2.2.1, S.2.2.2.1, J, S.2.2.2.2.2.1, S.2.2.2.2.2.2.1, S.2.2.2.2.2.2.2.1, Dl, S.2.2.2.2.2.2.2.2.2)).2.2.2.2.2.2.2.2.1 ((S.1, S.2.1, S.2.2.1, S.2.2.2.1, J, S.2.2.2.2.2.1, S.2.2.2.2.2.2.1, S.2.2.2.2.2.2.2.1, Dl, S.2.2.2.2.2.2.2.2.2)).2.2.2.2.1 = _ from g5, Option.bind_some, nI_1]
    cases b with
    | false =>
      left
      obtain ⟨q1, q2, q3⟩ := g6 rfl
      refine ⟨k, Dl2, J2, a2, by omega, g1, h2.tr g2, g3, h4.tr g4, eC, fun e => ?_, fun _ => by rw [q3]; exact q2, fun e => ?_⟩
      · rw [q1]; exact (h5 e).1
      · exact Classical.byContradiction fun c => h6 (by omega) e
    | true =>
      right
      refine ⟨(J2, Dl2), ⟨a2, g1, h2.tr g2, g3, h4.tr g4, fun e => by omega, fun _ => ?_⟩, eC⟩
      by_cases e : k = 0
      · rw [← (h5 e).2]; exact g7 rfl
      · exact h6 (by omega)
end
