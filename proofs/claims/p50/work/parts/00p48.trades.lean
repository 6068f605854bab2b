/-! trades: one tried, all, the step -/
theorem mT_set2 (M : VX11) (D l o : Nat → Int32) (i j : Nat) (v w : Int32) : ((mT M D l o).1, (mT M D l o).2.1, (mT M D l o).2.2.1, (mT M D l o).2.2.2.1, (mT M D l o).2.2.2.2.1, (mT M D l o).2.2.2.2.2.1, (mT M D l o).2.2.2.2.2.2.1, (mT M D l o).2.2.2.2.2.2.2.1, (mT M D l o).2.2.2.2.2.2.2.2.1, (mT M D l o).2.2.2.2.2.2.2.2.2.1, (mT M D l o).2.2.2.2.2.2.2.2.2.2.1, upd (upd (mT M D l o).2.2.2.2.2.2.2.2.2.2.2.1 i v) j w, (mT M D l o).2.2.2.2.2.2.2.2.2.2.2.2.1, (mT M D l o).2.2.2.2.2.2.2.2.2.2.2.2.2.1, (mT M D l o).2.2.2.2.2.2.2.2.2.2.2.2.2.2.1, (mT M D l o).2.2.2.2.2.2.2.2.2.2.2.2.2.2.2.1, (mT M D l o).2.2.2.2.2.2.2.2.2.2.2.2.2.2.2.2.1, (mT M D l o).2.2.2.2.2.2.2.2.2.2.2.2.2.2.2.2.2.1, (mT M D l o).2.2.2.2.2.2.2.2.2.2.2.2.2.2.2.2.2.2.1, (mT M D l o).2.2.2.2.2.2.2.2.2.2.2.2.2.2.2.2.2.2.2.1, (mT M D l o).2.2.2.2.2.2.2.2.2.2.2.2.2.2.2.2.2.2.2.2.1, (mT M D l o).2.2.2.2.2.2.2.2.2.2.2.2.2.2.2.2.2.2.2.2.2.1, (mT M D l o).2.2.2.2.2.2.2.2.2.2.2.2.2.2.2.2.2.2.2.2.2.2.1, (mT M D l o).2.2.2.2.2.2.2.2.2.2.2.2.2.2.2.2.2.2.2.2.2.2.2.1, (mT M D l o).2.2.2.2.2.2.2.2.2.2.2.2.2.2.2.2.2.2.2.2.2.2.2.2.1, (mT M D l o).2.2.2.2.2.2.2.2.2.2.2.2.2.2.2.2.2.2.2.2.2.2.2.2.2.1, (mT M D l o).2.2.2.2.2.2.2.2.2.2.2.2.2.2.2.2.2.2.2.2.2.2.2.2.2.2.1, (mT M D l o).2.2.2.2.2.2.2.2.2.2.2.2.2.2.2.2.2.2.2.2.2.2.2.2.2.2.2.1, (mT M D l o).2.2.2.2.2.2.2.2.2.2.2.2.2.2.2.2.2.2.2.2.2.2.2.2.2.2.2.2.1, (mT M D l o).2.2.2.2.2.2.2.2.2.2.2.2.2.2.2.2.2.2.2.2.2.2.2.2.2.2.2.2.2.1, (mT M D l o).2.2.2.2.2.2.2.2.2.2.2.2.2.2.2.2.2.2.2.2.2.2.2.2.2.2.2.2.2.2) = mT M (upd (upd D i v) j w) l o := rfl
theorem m_119 (M : VX11) (D l o : Nat → Int32) {x y : Nat} (hx : x < 8) (hy : y < 8) (v w : Int32) : f_X11_trade_119 (mT M D l o) (nI x) (nI y) v w = some (0, mT M (upd (upd D (4 * x + 1) v) (4 * y + 1) w) l o) := by
  unfold f_X11_trade_119
  rw [show (4 : Int32) * nI x = nI (4 * x) from pk_mul 4 x, show (4 : Int32) * nI y = nI (4 * y) from pk_mul 4 y, nI_1, nI_1, zIn_t (show 4 * x + 1 < 32 by omega) (by decide), if_pos rfl, zIn_t (show 4 * y + 1 < 32 by omega) (by decide), if_pos rfl, nI_clamp (show 4 * x + 1 < 2 ^ 31 by omega), nI_clamp (show 4 * y + 1 < 2 ^ 31 by omega)]
  exact congrArg (fun Z : VX11 => some ((0 : Int32), Z)) (mT_set2 M D l o (4 * x + 1) (4 * y + 1) v w)
/-- the model's cost, with tables laid anew -/
theorem m_ocT {M : VX11} {D l o : Nat → Int32} {J : VX2} {a : AJ} (hV : AV a) (hJ : JR J a) (hM : MR (mT M D l o) a) {y : Nat} (hy : y < aN a) {R : Nat → Option Nat} (hR : IsR a (2 ^ aN a - 1) (2 ^ aN a) R) : ∃ l' o', f_X11_outCost (mT M D l o) (nI y) = some (nI (ocV R (2 ^ aN a) y), mT M D l' o') := by
  have h1 : 0 < 2 ^ aN a := Nat.two_pow_pos _
  obtain ⟨Z, l', o', R', W, e1, e2, h⟩ := both hJ hM hV (show 2 ^ aN a - 1 < 2 ^ aN a by omega) ((fun _ => 0, 0) : VX4)
  refine ⟨l', o', ?_⟩
  rw [m_oc hM e2 h hy, oc_uniq h.2.2.1 hR y]
  exact congrArg (fun Z : VX11 => some (nI (ocV R (2 ^ aN a) y), Z)) (mT_LO M D l o l' o')
theorem x0_would {Dl : VX0} {Z : VX4} {N : VX11} {a : AJ} {act : Nat} {R R' : Nat → Option Nat} {W : Nat → Nat} (hD : Dl.2.1 = Z) (h : TB Z N a act R' W) {y n : Nat} (hn : n = 2 ^ aN a) (hy : y < 8) (hRle : ocV R n y ≤ 112) (hW : Dl.2.2.2 y = nI (ocV R n y)) : f_X0_wouldTrade Dl (nI y) = some (bI (decide (ocV R' n y < ocV R n y))) := by
  subst hn
  have hle := ocV_le h y
  unfold f_X0_wouldTrade
  rw [if_neg (nI_pos (by omega)), if_neg (show ¬ (8 : Int32) ≤ nI y from nI_ge hy (by decide)), x0_never hD h hy, Option.bind_some, zIn_t hy (by decide), if_pos rfl, nI_clamp (by omega), hW]
  by_cases c : ocV R' (2 ^ aN a) y < ocV R (2 ^ aN a) y
  · rw [if_neg (nI_ge c (by omega)), decide_eq_true c]; rfl
  · rw [if_pos (nI_le (by omega) (by omega)), decide_eq_false c]; rfl
theorem trade_step {J : VX2} {M : VX11} {D l o : Nat → Int32} {a : AJ} (hV : AV a) (hJ : JR J a) (hM : MR (mT M D l o) a) {x y : Nat} (hx : x < aN a) (hy : y < aN a) (hxy : x ≠ y) (Dl : VX0) {R : Nat → Option Nat} (hR : IsR a (2 ^ aN a - 1) (2 ^ aN a) R) (hW : ∀ z, z < 8 → Dl.2.2.2 z = nI (ocV R (2 ^ aN a) z)) (hmt : mtB a x y) :
    ∃ (b : Bool) (Z' : VX4) (J' : VX2) (D' l' o' : Nat → Int32), f_X0_helpsBoth Dl J (nI x) (nI y) = some (bI b, (Dl.1, Z', Dl.2.2.1, Dl.2.2.2), J') ∧ f_X11_trade (mT M D l o) (nI x) (nI y) = some (bI b, mT M D' l' o') ∧ (b = false → JR J' a ∧ MR (mT M D' l' o') a) ∧ (b = true → ∃ a', AV a' ∧ aN a' = aN a ∧ JR J' a' ∧ MR (mT M D' l' o') a') := by
  have hn := hV.2.1
  have hN := hV.N
  have h1 : 0 < 2 ^ aN a := Nat.two_pow_pos _
  obtain ⟨m1, m2, m3, m4, m5, m6, m7⟩ := id hmt
  have kx := (hV.2.2 x hx).1
  have ky := (hV.2.2 y hy).1
  have q1 := ((hV.2.2 x hx).2.2.1 m2).1
  have q2 := ((hV.2.2 y hy).2.2.1 m3).1
  have hV2 := trX_V hV hx hy hxy hmt
  have hJ2 := trX_J hJ hn q1 q2 (x := x) (y := y)
  obtain ⟨l1, o1, e1⟩ := m_ocT hV hJ hM q1 hR
  obtain ⟨l2, o2, e2⟩ := m_ocT hV hJ (hM.doors (l' := l1) (o' := o1)) q2 hR
  have hM2 : MR (mT M (upd (upd D (4 * x + 1) (nI (aP a y))) (4 * y + 1) (nI (aP a x))) l2 o2) (trX a x y) := MR.keyT (MR.keyT (hM.doors (l' := l2) (o' := o2)) (x := x) (y := aP a y) (by omega)) (x := y) (y := aP a x) (by omega)
  obtain ⟨Z', l3', o3', R', W', f1, f2, h'⟩ := both hJ2 hM2 hV2 (show 2 ^ aN a - 1 < 2 ^ aN (trX a x y) from by show 2 ^ aN a - 1 < 2 ^ aN a; omega) Dl.2.1
  have hR' : IsR (trX a x y) (2 ^ aN (trX a x y) - 1) (2 ^ aN (trX a x y)) R' := h'.2.2.1
  obtain ⟨l3, o3, e3⟩ := m_ocT hV2 hJ2 hM2 (show aP a x < aN (trX a x y) from q1) hR'
  obtain ⟨l4, o4, e4⟩ := m_ocT hV2 hJ2 (hM2.doors (l' := l3) (o' := o3)) (show aP a y < aN (trX a x y) from q2) hR'
  have e3 : f_X11_outCost (mT M (upd (upd D (4 * x + 1) (nI (aP a y))) (4 * y + 1) (nI (aP a x))) l2 o2) (nI (aP a x)) = some (nI (ocV R' (2 ^ aN a) (aP a x)), mT M (upd (upd D (4 * x + 1) (nI (aP a y))) (4 * y + 1) (nI (aP a x))) l3 o3) := e3
  have e4 : f_X11_outCost (mT M (upd (upd D (4 * x + 1) (nI (aP a y))) (4 * y + 1) (nI (aP a x))) l3 o3) (nI (aP a y)) = some (nI (ocV R' (2 ^ aN a) (aP a y)), mT M (upd (upd D (4 * x + 1) (nI (aP a y))) (4 * y + 1) (nI (aP a x))) l4 o4) := e4
  have hRle : ∀ z, ocV R (2 ^ aN a) z ≤ 112 := fun z => by
    obtain ⟨Zq, lq, oq, Rq, Wq, -, -, hq⟩ := both hJ hM hV (show 2 ^ aN a - 1 < 2 ^ aN a by omega) ((fun _ => 0, 0) : VX4)
    rw [oc_uniq hR hq.2.2.1 z]
    exact ocV_le hq z
  have hR'le : ∀ z, ocV R' (2 ^ aN a) z ≤ 112 := fun z => ocV_le h' z
  have w1 : f_X0_wouldTrade ((Dl.1, Z', Dl.2.2.1, Dl.2.2.2)) (nI (aP a x)) = some (bI (decide (ocV R' (2 ^ aN a) (aP a x) < ocV R (2 ^ aN a) (aP a x)))) := x0_would (Dl := (Dl.1, Z', Dl.2.2.1, Dl.2.2.2)) rfl h' (n := 2 ^ aN a) rfl (by omega) (hRle _) (hW _ (by omega))
  have w2 : f_X0_wouldTrade ((Dl.1, Z', Dl.2.2.1, Dl.2.2.2)) (nI (aP a y)) = some (bI (decide (ocV R' (2 ^ aN a) (aP a y) < ocV R (2 ^ aN a) (aP a y)))) := x0_would (Dl := (Dl.1, Z', Dl.2.2.1, Dl.2.2.2)) rfl h' (n := 2 ^ aN a) rfl (by omega) (hRle _) (hW _ (by omega))
  /- the class -/
  have sk1 : f_X2_setKeeper J (nI x) (nI (aP a y)) = some ((J.1, upd J.2.1 x (nI (aP a y)), J.2.2.1, J.2.2.2.1, J.2.2.2.2.1, J.2.2.2.2.2.1, J.2.2.2.2.2.2.1, J.2.2.2.2.2.2.2)) := x2_setKeeper hJ.1 hn hx _
  have sk2 : f_X2_setKeeper ((J.1, upd J.2.1 x (nI (aP a y)), J.2.2.1, J.2.2.2.1, J.2.2.2.2.1, J.2.2.2.2.2.1, J.2.2.2.2.2.2.1, J.2.2.2.2.2.2.2)) (nI y) (nI (aP a x)) = some ((J.1, upd (upd J.2.1 x (nI (aP a y))) y (nI (aP a x)), J.2.2.1, J.2.2.2.1, J.2.2.2.2.1, J.2.2.2.2.2.1, J.2.2.2.2.2.2.1, J.2.2.2.2.2.2.2)) := x2_setKeeper (J := (J.1, upd J.2.1 x (nI (aP a y)), J.2.2.1, J.2.2.2.1, J.2.2.2.2.1, J.2.2.2.2.2.1, J.2.2.2.2.2.2.1, J.2.2.2.2.2.2.2)) hJ.1 hn hy _
  have sk3 : f_X2_setKeeper ((J.1, upd (upd J.2.1 x (nI (aP a y))) y (nI (aP a x)), J.2.2.1, J.2.2.2.1, J.2.2.2.2.1, J.2.2.2.2.2.1, J.2.2.2.2.2.2.1, J.2.2.2.2.2.2.2)) (nI x) (nI (aP a x)) = some ((J.1, upd (upd (upd J.2.1 x (nI (aP a y))) y (nI (aP a x))) x (nI (aP a x)), J.2.2.1, J.2.2.2.1, J.2.2.2.2.1, J.2.2.2.2.2.1, J.2.2.2.2.2.2.1, J.2.2.2.2.2.2.2)) := x2_setKeeper (J := (J.1, upd (upd J.2.1 x (nI (aP a y))) y (nI (aP a x)), J.2.2.1, J.2.2.2.1, J.2.2.2.2.1, J.2.2.2.2.2.1, J.2.2.2.2.2.2.1, J.2.2.2.2.2.2.2)) hJ.1 hn hx _
  have sk4 : f_X2_setKeeper ((J.1, upd (upd (upd J.2.1 x (nI (aP a y))) y (nI (aP a x))) x (nI (aP a x)), J.2.2.1, J.2.2.2.1, J.2.2.2.2.1, J.2.2.2.2.2.1, J.2.2.2.2.2.2.1, J.2.2.2.2.2.2.2)) (nI y) (nI (aP a y)) = some ((J.1, upd (upd (upd (upd J.2.1 x (nI (aP a y))) y (nI (aP a x))) x (nI (aP a x))) y (nI (aP a y)), J.2.2.1, J.2.2.2.1, J.2.2.2.2.1, J.2.2.2.2.2.1, J.2.2.2.2.2.2.1, J.2.2.2.2.2.2.2)) := x2_setKeeper (J := (J.1, upd (upd (upd J.2.1 x (nI (aP a y))) y (nI (aP a x))) x (nI (aP a x)), J.2.2.1, J.2.2.2.1, J.2.2.2.2.1, J.2.2.2.2.2.1, J.2.2.2.2.2.2.1, J.2.2.2.2.2.2.2)) hJ.1 hn hy _
  have back : f_X0_helpsBoth_60 ((Dl.1, Z', Dl.2.2.1, Dl.2.2.2)) ((J.1, upd (upd J.2.1 x (nI (aP a y))) y (nI (aP a x)), J.2.2.1, J.2.2.2.1, J.2.2.2.2.1, J.2.2.2.2.2.1, J.2.2.2.2.2.2.1, J.2.2.2.2.2.2.2)) (nI x) (nI y) (nI (aP a x)) (nI (aP a y)) = some (0, (Dl.1, Z', Dl.2.2.1, Dl.2.2.2), (J.1, upd (upd (upd (upd J.2.1 x (nI (aP a y))) y (nI (aP a x))) x (nI (aP a x))) y (nI (aP a y)), J.2.2.1, J.2.2.2.1, J.2.2.2.2.1, J.2.2.2.2.2.1, J.2.2.2.2.2.2.1, J.2.2.2.2.2.2.2)) := by
    unfold f_X0_helpsBoth_60
    rw [sk3, Option.bind_some, sk4, Option.bind_some]
  have cls : f_X0_helpsBoth Dl J (nI x) (nI y) = if decide (ocV R' (2 ^ aN a) (aP a x) < ocV R (2 ^ aN a) (aP a x)) = true ∧ decide (ocV R' (2 ^ aN a) (aP a y) < ocV R (2 ^ aN a) (aP a y)) = true then some (1, (Dl.1, Z', Dl.2.2.1, Dl.2.2.2), (J.1, upd (upd J.2.1 x (nI (aP a y))) y (nI (aP a x)), J.2.2.1, J.2.2.2.1, J.2.2.2.2.1, J.2.2.2.2.2.1, J.2.2.2.2.2.2.1, J.2.2.2.2.2.2.2)) else some (0, (Dl.1, Z', Dl.2.2.1, Dl.2.2.2), (J.1, upd (upd (upd (upd J.2.1 x (nI (aP a y))) y (nI (aP a x))) x (nI (aP a x))) y (nI (aP a y)), J.2.2.1, J.2.2.2.1, J.2.2.2.2.1, J.2.2.2.2.2.1, J.2.2.2.2.2.2.1, J.2.2.2.2.2.2.2)) := by
    unfold f_X0_helpsBoth
    rw [x2_keeper hJ hn hx, Option.bind_some, x2_keeper hJ hn hy, Option.bind_some, kI_lt (show aP a x < 8 by omega), kI_lt (show aP a y < 8 by omega), sk1, Option.bind_some, sk2, Option.bind_some, x2_all (J := (J.1, upd (upd J.2.1 x (nI (aP a y))) y (nI (aP a x)), J.2.2.1, J.2.2.2.1, J.2.2.2.2.1, J.2.2.2.2.2.1, J.2.2.2.2.2.2.1, J.2.2.2.2.2.2.2)) hJ.1 hn, Option.bind_some, f1, Option.bind_some, w1, Option.bind_some, w2, Option.bind_some, back]
    cases decide (ocV R' (2 ^ aN a) (aP a x) < ocV R (2 ^ aN a) (aP a x)) with
    | false => rw [if_pos (show bI false = 0 from rfl), if_neg (fun q => by cases q.1)]
    | true =>
      rw [if_neg (show ¬ bI true = 0 from i10)]
      cases decide (ocV R' (2 ^ aN a) (aP a y) < ocV R (2 ^ aN a) (aP a y)) with
      | false => rw [if_pos (show bI false = 0 from rfl), if_neg (fun q => by cases q.2)]
      | true => rw [if_neg (show ¬ bI true = 0 from i10), if_pos ⟨rfl, rfl⟩]
  /- the model -/
  have mdl : f_X11_trade (mT M D l o) (nI x) (nI y) = if ocV R (2 ^ aN a) (aP a x) ≤ ocV R' (2 ^ aN a) (aP a x) then some (0, mT M (upd (upd (upd (upd D (4 * x + 1) (nI (aP a y))) (4 * y + 1) (nI (aP a x))) (4 * x + 1) (nI (aP a x))) (4 * y + 1) (nI (aP a y))) l3 o3) else if ocV R (2 ^ aN a) (aP a y) ≤ ocV R' (2 ^ aN a) (aP a y) then some (0, mT M (upd (upd (upd (upd D (4 * x + 1) (nI (aP a y))) (4 * y + 1) (nI (aP a x))) (4 * x + 1) (nI (aP a x))) (4 * y + 1) (nI (aP a y))) l4 o4) else some (1, mT M (upd (upd D (4 * x + 1) (nI (aP a y))) (4 * y + 1) (nI (aP a x))) l4 o4) := by
    have p1 := hRle (aP a x)
    have p2 := hRle (aP a y)
    have p3 := hR'le (aP a x)
    have p4 := hR'le (aP a y)
    unfold f_X11_trade
    rw [m_keeper hM hn hx, Option.bind_some, m_keeper hM hn hy, Option.bind_some, m_kind hM hn hx, Option.bind_some, m_kind hM hn hy, Option.bind_some, if_neg (show ¬ nI (aK a x) = 2 from fun e => m2 ((nI_eq (by omega) (by decide)).1 (show nI (aK a x) = nI 2 from e))), if_neg (show ¬ nI (aK a y) = 2 from fun e => m3 ((nI_eq (by omega) (by decide)).1 (show nI (aK a y) = nI 2 from e))), kI_lt (show aP a x < 8 by omega), kI_lt (show aP a y < 8 by omega), if_neg (fun e => m1 ((nI_eq (by omega) (by omega)).1 e)), m_may hM hV hx (show aP a y < 8 by omega), Option.bind_some, decide_eq_true ⟨m4, m5⟩, if_neg (show ¬ bI true = 0 from i10), m_may hM hV hy (show aP a x < 8 by omega), Option.bind_some, decide_eq_true ⟨m6, m7⟩, if_neg (show ¬ bI true = 0 from i10), e1, Option.bind_some]
    dsimp only
    rw [e2, Option.bind_some, show (4 : Int32) * nI x = nI (4 * x) from pk_mul 4 x, show (4 : Int32) * nI y = nI (4 * y) from pk_mul 4 y, nI_1, nI_1, zIn_t (show 4 * x + 1 < 32 by omega) (by decide), if_pos rfl, zIn_t (show 4 * y + 1 < 32 by omega) (by decide), if_pos rfl, nI_clamp (show 4 * x + 1 < 2 ^ 31 by omega), nI_clamp (show 4 * y + 1 < 2 ^ 31 by omega)]
    dsimp only
    rw [mT_set2, e3, Option.bind_some]
    dsimp only
    rw [m_119 _ _ _ _ (by omega) (by omega), e4, Option.bind_some]
    dsimp only
    rw [m_119 _ _ _ _ (by omega) (by omega)]
    by_cases c : ocV R (2 ^ aN a) (aP a x) ≤ ocV R' (2 ^ aN a) (aP a x)
    · rw [if_pos (nI_le c (by omega)), if_pos c]
    · rw [if_neg (nI_ge (by omega) (by omega)), if_neg c]
      by_cases d : ocV R (2 ^ aN a) (aP a y) ≤ ocV R' (2 ^ aN a) (aP a y)
      · rw [if_pos (nI_le d (by omega)), if_pos d]
      · rw [if_neg (nI_ge (by omega) (by omega)), if_neg d]
  by_cases c : ocV R' (2 ^ aN a) (aP a x) < ocV R (2 ^ aN a) (aP a x)
  · by_cases d : ocV R' (2 ^ aN a) (aP a y) < ocV R (2 ^ aN a) (aP a y)
    · refine ⟨true, Z', _, _, l4, o4, ?_, ?_, (fun e => by cases e), fun _ => ⟨trX a x y, hV2, rfl, hJ2, hM2.doors⟩⟩
      · rw [cls, if_pos ⟨decide_eq_true c, decide_eq_true d⟩]; rfl
      · rw [mdl, if_neg (by omega), if_neg (by omega)]; rfl
    · refine ⟨false, Z', _, _, l4, o4, ?_, ?_, fun _ => ⟨trX_B hJ hn q1 q2, trX_M hM hn q1 q2 l4 o4⟩, fun e => by cases e⟩
      · rw [cls, if_neg (fun q => d (of_decide_eq_true q.2))]; rfl
      · rw [mdl, if_neg (by omega), if_pos (by omega)]; rfl
  · refine ⟨false, Z', _, _, l3, o3, ?_, ?_, fun _ => ⟨trX_B hJ hn q1 q2, trX_M hM hn q1 q2 l3 o3⟩, fun e => by cases e⟩
    · rw [cls, if_neg (fun q => c (of_decide_eq_true q.1))]; rfl
    · rw [mdl, if_pos (by omega)]; rfl
