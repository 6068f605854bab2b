/-! trades: the loops, the step -/
theorem tr_inner {M : VX11} {a : AJ} (hV : AV a) {x : Nat} (hx : x < aN a) (Dl : VX0) {R : Nat → Option Nat} (hR : IsR a (2 ^ aN a - 1) (2 ^ aN a) R) (hW : ∀ z, z < 8 → Dl.2.2.2 z = nI (ocV R (2 ^ aN a) z)) (r39 : VX0 → VX2 → Int32 → Option (Int32 × VX0 × VX2)) (r2 : VX11 → Int32 → Option (Int32 × VX11)) (Z : VX4) {J : VX2} {D l o : Nat → Int32} (hJ : JR J a) (hM : MR (mT M D l o) a) :
    (∃ (Z' : VX4) (J' : VX2) (D' l' o' : Nat → Int32), JR J' a ∧ MR (mT M D' l' o') a ∧ f_X0_tradeOnce_51 r39 4096 ((Dl.1, Z, Dl.2.2.1, Dl.2.2.2)) J (nI x) (nI (x + 1)) = r39 ((Dl.1, Z', Dl.2.2.1, Dl.2.2.2)) J' (nI (x + 1)) ∧ f_X11_tradesOnce_14 r2 4096 (mT M D l o) (nI x) (nI (x + 1)) = r2 (mT M D' l' o') (nI (x + 1))) ∨
    (∃ (Z' : VX4) (J' : VX2) (D' l' o' : Nat → Int32) (a' : AJ), AV a' ∧ aN a' = aN a ∧ JR J' a' ∧ MR (mT M D' l' o') a' ∧ f_X0_tradeOnce_51 r39 4096 ((Dl.1, Z, Dl.2.2.1, Dl.2.2.2)) J (nI x) (nI (x + 1)) = some (1, (Dl.1, Z', Dl.2.2.1, Dl.2.2.2), J') ∧ f_X11_tradesOnce_14 r2 4096 (mT M D l o) (nI x) (nI (x + 1)) = some (1, mT M D' l' o')) := by
  have hn := hV.2.1
  refine loop_two (fun f (σ : VX4 × VX2) v3 => f_X0_tradeOnce_51 r39 f ((Dl.1, σ.1, Dl.2.2.1, Dl.2.2.2)) σ.2 (nI x) v3) (fun f (τ : (Nat → Int32) × (Nat → Int32) × (Nat → Int32)) v2 => f_X11_tradesOnce_14 r2 f (mT M τ.1 τ.2.1 τ.2.2) (nI x) v2) (aN a) (fun k σ τ => x < k ∧ JR σ.2 a ∧ MR (mT M τ.1 τ.2.1 τ.2.2) a)
    (fun p q => (∃ (Z' : VX4) (J' : VX2) (D' l' o' : Nat → Int32), JR J' a ∧ MR (mT M D' l' o') a ∧ p = r39 ((Dl.1, Z', Dl.2.2.1, Dl.2.2.2)) J' (nI (x + 1)) ∧ q = r2 (mT M D' l' o') (nI (x + 1))) ∨
      (∃ (Z' : VX4) (J' : VX2) (D' l' o' : Nat → Int32) (a' : AJ), AV a' ∧ aN a' = aN a ∧ JR J' a' ∧ MR (mT M D' l' o') a' ∧ p = some (1, (Dl.1, Z', Dl.2.2.1, Dl.2.2.2), J') ∧ q = some (1, mT M D' l' o'))) ?_ ?_ 4096 4096 (x + 1) (Z, J) (D, l, o) (by omega) ⟨Nat.lt_succ_self _, hJ, hM⟩ (by omega) (by omega)
  · rintro n n' ⟨Z, J⟩ ⟨D, l, o⟩ ⟨-, hJ, hM⟩
    left
    refine ⟨Z, J, D, l, o, hJ, hM, ?_, ?_⟩
    · show f_X0_tradeOnce_51 r39 (n + 1) ((Dl.1, Z, Dl.2.2.1, Dl.2.2.2)) J (nI x) (nI (aN a)) = _
      rw [f_X0_tradeOnce_51, show f_X2_cells J = some (nI (aN a)) from congrArg some hJ.1, Option.bind_some, if_pos (nI_le (Nat.le_refl _) (by omega)), nI_1]
    · show f_X11_tradesOnce_14 r2 (n' + 1) (mT M D l o) (nI x) (nI (aN a)) = _
      rw [f_X11_tradesOnce_14, if_pos (show (mT M D l o).2.2.2.2.2.2.2.2.2.2.1 ≤ nI (aN a) from by rw [hM.1]; exact nI_le (Nat.le_refl _) (by omega)), nI_1]
  · rintro n n' ⟨Z, J⟩ ⟨D, l, o⟩ y hy ⟨hxy, hJ, hM⟩
    have hJ : JR J a := hJ
    have hM : MR (mT M D l o) a := hM
    obtain ⟨t1, t0⟩ := x0_may (D := (Dl.1, Z, Dl.2.2.1, Dl.2.2.2)) hJ hV hx hy
    show _ ∨ ∃ (σ : VX4 × VX2) (τ : (Nat → Int32) × (Nat → Int32) × (Nat → Int32)), (x < y + 1 ∧ JR σ.2 a ∧ MR (mT M τ.1 τ.2.1 τ.2.2) a) ∧ f_X0_tradeOnce_51 r39 (n + 1) ((Dl.1, Z, Dl.2.2.1, Dl.2.2.2)) J (nI x) (nI y) = f_X0_tradeOnce_51 r39 n ((Dl.1, σ.1, Dl.2.2.1, Dl.2.2.2)) σ.2 (nI x) (nI (y + 1)) ∧ f_X11_tradesOnce_14 r2 (n' + 1) (mT M D l o) (nI x) (nI y) = f_X11_tradesOnce_14 r2 n' (mT M τ.1 τ.2.1 τ.2.2) (nI x) (nI (y + 1))
    have eC : f_X0_tradeOnce_51 r39 (n + 1) ((Dl.1, Z, Dl.2.2.1, Dl.2.2.2)) J (nI x) (nI y) = (f_X0_mayTrade ((Dl.1, Z, Dl.2.2.1, Dl.2.2.2)) J (nI x) (nI y)).bind fun r3 => if r3 = 0 then f_X0_tradeOnce_51 r39 n ((Dl.1, Z, Dl.2.2.1, Dl.2.2.2)) J (nI x) (nI (y + 1)) else (f_X0_helpsBoth ((Dl.1, Z, Dl.2.2.1, Dl.2.2.2)) J (nI x) (nI y)).bind fun r5 => if r5.1 = 0 then f_X0_tradeOnce_51 r39 n r5.2.1 r5.2.2 (nI x) (nI (y + 1)) else some (1, r5.2.1, r5.2.2) := by
      rw [f_X0_tradeOnce_51, show f_X2_cells J = some (nI (aN a)) from congrArg some hJ.1, Option.bind_some, if_neg (nI_ge hy (by omega)), nI_1]
    have eM : f_X11_tradesOnce_14 r2 (n' + 1) (mT M D l o) (nI x) (nI y) = (f_X11_trade (mT M D l o) (nI x) (nI y)).bind fun r1 => if r1.1 = 0 then f_X11_tradesOnce_14 r2 n' r1.2 (nI x) (nI (y + 1)) else some (1, r1.2) := by
      rw [f_X11_tradesOnce_14, if_neg (show ¬ (mT M D l o).2.2.2.2.2.2.2.2.2.2.1 ≤ nI y from by rw [hM.1]; exact nI_ge hy (by omega)), nI_1]
    by_cases hmt : mtB a x y
    · obtain ⟨b, Z', J', D', l', o', g1, g2, g3, g4⟩ := trade_step hV hJ hM hx hy (by omega) ((Dl.1, Z, Dl.2.2.1, Dl.2.2.2)) hR hW hmt
      have eC2 : f_X0_tradeOnce_51 r39 (n + 1) ((Dl.1, Z, Dl.2.2.1, Dl.2.2.2)) J (nI x) (nI y) = if bI b = 0 then f_X0_tradeOnce_51 r39 n ((Dl.1, Z', Dl.2.2.1, Dl.2.2.2)) J' (nI x) (nI (y + 1)) else some (1, (Dl.1, Z', Dl.2.2.1, Dl.2.2.2), J') := by
        rw [eC, t1 hmt, Option.bind_some, if_neg i10, g1]; rfl
      have eM2 : f_X11_tradesOnce_14 r2 (n' + 1) (mT M D l o) (nI x) (nI y) = if bI b = 0 then f_X11_tradesOnce_14 r2 n' (mT M D' l' o') (nI x) (nI (y + 1)) else some (1, mT M D' l' o') := by
        rw [eM, g2]; rfl
      cases b with
      | false =>
        right
        obtain ⟨k1, k2⟩ := g3 rfl
        exact ⟨(Z', J'), (D', l', o'), ⟨by omega, k1, k2⟩, eC2, eM2⟩
      | true =>
        left
        right
        obtain ⟨a', k1, k2, k3, k4⟩ := g4 rfl
        exact ⟨Z', J', D', l', o', a', k1, k2, k3, k4, eC2, eM2⟩
    · right
      refine ⟨(Z, J), (D, l, o), ⟨by omega, hJ, hM⟩, ?_, ?_⟩
      · rw [eC, t0 hmt, Option.bind_some, if_pos rfl]
      · rw [eM, m_mayF hM hV hx hy hmt]; rfl
theorem tr_once {M : VX11} {a : AJ} (hV : AV a) (Dl : VX0) {J : VX2} {D l o : Nat → Int32} (hJ : JR J a) (hM : MR (mT M D l o) a) :
    ∃ (b : Bool) (Dl' : VX0) (J' : VX2) (D' l' o' : Nat → Int32) (a' : AJ), AV a' ∧ aN a' = aN a ∧ JR J' a' ∧ MR (mT M D' l' o') a' ∧ f_X0_tradeOnce Dl J = some (bI b, Dl', J') ∧ f_X11_tradesOnce (mT M D l o) = some (bI b, mT M D' l' o') := by
  have hn := hV.2.1
  have h1 : 0 < 2 ^ aN a := Nat.two_pow_pos _
  obtain ⟨Z, l0, o0, R, W, e1, e2, h⟩ := both hJ hM hV (show 2 ^ aN a - 1 < 2 ^ aN a by omega) Dl.2.1
  have eW : ∃ T, f_X0_tradeOnce Dl J = f_X0_tradeOnce_39 4096 ((Dl.1, Z, Dl.2.2.1, T)) J 0 ∧ ∀ z, z < 8 → T z = nI (ocV R (2 ^ aN a) z) := by
    unfold f_X0_tradeOnce
    rw [x2_all hJ.1 hn, Option.bind_some, e1, Option.bind_some]
    refine loop_up (fun f (T : Nat → Int32) v2 => f_X0_tradeOnce_14 f ((Dl.1, Z, Dl.2.2.1, T)) J v2) 8 (fun k T => ∀ z, z < k → T z = nI (ocV R (2 ^ aN a) z)) (fun p => ∃ T, p = f_X0_tradeOnce_39 4096 ((Dl.1, Z, Dl.2.2.1, T)) J 0 ∧ ∀ z, z < 8 → T z = nI (ocV R (2 ^ aN a) z)) ?_ ?_ 4096 0 Dl.2.2.2 (Nat.zero_le _) (fun z hz => by omega) (by omega)
    · rintro n T hT
      refine ⟨T, ?_, hT⟩
      show f_X0_tradeOnce_14 (n + 1) ((Dl.1, Z, Dl.2.2.1, T)) J (nI 8) = _
      rw [f_X0_tradeOnce_14, if_pos (by decide)]
    · rintro n T k hk hT
      right
      refine ⟨upd T k (nI (ocV R (2 ^ aN a) k)), fun z hz => ?_, ?_⟩
      · rw [upd_at]
        by_cases c : z = k
        · rw [if_pos c, c]
        · rw [if_neg c]; exact hT z (by omega)
      · show f_X0_tradeOnce_14 (n + 1) ((Dl.1, Z, Dl.2.2.1, T)) J (nI k) = f_X0_tradeOnce_14 n ((Dl.1, Z, Dl.2.2.1, upd T k (nI (ocV R (2 ^ aN a) k)))) J (nI (k + 1))
        rw [f_X0_tradeOnce_14, if_neg (show ¬ (8 : Int32) ≤ nI k from nI_ge hk (by decide)), x0_never (D := (Dl.1, Z, Dl.2.2.1, T)) rfl h hk, Option.bind_some, zIn_t hk (by decide), if_pos rfl, nI_clamp (by omega), nI_1]
  obtain ⟨T, eT, hT⟩ := eW
  rw [eT]
  unfold f_X11_tradesOnce
  refine loop_two (fun f (σ : VX4 × VX2) v2 => f_X0_tradeOnce_39 f (Dl.1, σ.1, Dl.2.2.1, T) σ.2 v2) (fun f (τ : (Nat → Int32) × (Nat → Int32) × (Nat → Int32)) v1 => f_X11_tradesOnce_2 f (mT M τ.1 τ.2.1 τ.2.2) v1) (aN a) (fun k σ τ => JR σ.2 a ∧ MR (mT M τ.1 τ.2.1 τ.2.2) a)
    (fun p q => ∃ (b : Bool) (Dl' : VX0) (J' : VX2) (D' l' o' : Nat → Int32) (a' : AJ), AV a' ∧ aN a' = aN a ∧ JR J' a' ∧ MR (mT M D' l' o') a' ∧ p = some (bI b, Dl', J') ∧ q = some (bI b, mT M D' l' o')) ?_ ?_ 4096 4096 0 (Z, J) (D, l, o) (Nat.zero_le _) ⟨hJ, hM⟩ (by omega) (by omega)
  · rintro n n' ⟨Z, J⟩ ⟨D, l, o⟩ ⟨hJ, hM⟩
    have hJ : JR J a := hJ
    have hM : MR (mT M D l o) a := hM
    refine ⟨false, (Dl.1, Z, Dl.2.2.1, T), J, D, l, o, a, hV, rfl, hJ, hM, ?_, ?_⟩
    · show f_X0_tradeOnce_39 (n + 1) ((Dl.1, Z, Dl.2.2.1, T)) J (nI (aN a)) = some (0, (Dl.1, Z, Dl.2.2.1, T), J)
      rw [f_X0_tradeOnce_39, show f_X2_cells J = some (nI (aN a)) from congrArg some hJ.1, Option.bind_some, if_pos (nI_le (Nat.le_refl _) (by omega))]
    · show f_X11_tradesOnce_2 (n' + 1) (mT M D l o) (nI (aN a)) = some (0, mT M D l o)
      rw [f_X11_tradesOnce_2, if_pos (show (mT M D l o).2.2.2.2.2.2.2.2.2.2.1 ≤ nI (aN a) from by rw [hM.1]; exact nI_le (Nat.le_refl _) (by omega))]
  · rintro n n' ⟨Z, J⟩ ⟨D, l, o⟩ x hx ⟨hJ, hM⟩
    have hJ : JR J a := hJ
    have hM : MR (mT M D l o) a := hM
    have eC : f_X0_tradeOnce_39 (n + 1) ((Dl.1, Z, Dl.2.2.1, T)) J (nI x) = f_X0_tradeOnce_51 (f_X0_tradeOnce_39 n) 4096 ((Dl.1, Z, Dl.2.2.1, T)) J (nI x) (nI (x + 1)) := by
      rw [f_X0_tradeOnce_39, show f_X2_cells J = some (nI (aN a)) from congrArg some hJ.1, Option.bind_some, if_neg (nI_ge hx (by omega)), nI_1]
    have eM : f_X11_tradesOnce_2 (n' + 1) (mT M D l o) (nI x) = f_X11_tradesOnce_14 (f_X11_tradesOnce_2 n') 4096 (mT M D l o) (nI x) (nI (x + 1)) := by
      rw [f_X11_tradesOnce_2, if_neg (show ¬ (mT M D l o).2.2.2.2.2.2.2.2.2.2.1 ≤ nI x from by rw [hM.1]; exact nI_ge hx (by omega)), nI_1]
    rcases tr_inner (M := M) hV hx ((Dl.1, Z, Dl.2.2.1, T)) h.2.2.1 hT (f_X0_tradeOnce_39 n) (f_X11_tradesOnce_2 n') Z hJ hM with ⟨Z', J', D', l', o', k1, k2, k3, k4⟩ | ⟨Z', J', D', l', o', a', k1, k2, k3, k4, k5, k6⟩
    · right
      exact ⟨(Z', J'), (D', l', o'), ⟨k1, k2⟩, eC.trans k3, eM.trans k4⟩
    · left
      exact ⟨true, _, J', D', l', o', a', k1, k2, k3, k4, eC.trans k5, eM.trans k6⟩
section
variable {S : VX10} {M : VX11}
theorem st_trades (hR : RR S M) : ∃ r : Int32, ∃ S2 : VX10, ∃ M2 : VX11, f_X10_trades S = some (r, S2) ∧ f_X11_trades M = some (r, M2) ∧ RR S2 M2 := by
  obtain ⟨hT, hr6, ht, a, ⟨hV, hJ, hM⟩, hE, hZ⟩ := id hR
  unfold f_X10_trades f_X11_trades
  rw [show f_X10_trades_2 4096 S 0 = f_X10_trades_2 4096 ((S.1, S.2.1, S.2.2.1, S.2.2.2.1, S.2.2.2.2.1, S.2.2.2.2.2.1, S.2.2.2.2.2.2.1, S.2.2.2.2.2.2.2.1, S.2.2.2.2.2.2.2.2.1, S.2.2.2.2.2.2.2.2.2)) 0 from congrArg (fun Z : VX10 => f_X10_trades_2 4096 Z 0) (show S = (S.1, S.2.1, S.2.2.1, S.2.2.2.1, S.2.2.2.2.1, S.2.2.2.2.2.1, S.2.2.2.2.2.2.1, S.2.2.2.2.2.2.2.1, S.2.2.2.2.2.2.2.2.1, S.2.2.2.2.2.2.2.2.2) from rfl), show f_X11_trades_2 4096 M 0 = f_X11_trades_2 4096 (mT M M.2.2.2.2.2.2.2.2.2.2.2.1 M.2.2.2.2.2.2.2.2.2.2.2.2.2.2.2.2.2.2.2.2.2.2.1 M.2.2.2.2.2.2.2.2.2.2.2.2.2.2.2.2.2.2.2.2.2.2.2.1) 0 from congrArg (fun Z : VX11 => f_X11_trades_2 4096 Z 0) (mT_id M)]
  refine loop_two (fun f (σ : VX2 × VX0) v1 => f_X10_trades_2 f ((S.1, S.2.1, S.2.2.1, S.2.2.2.1, σ.1, S.2.2.2.2.2.1, S.2.2.2.2.2.2.1, S.2.2.2.2.2.2.2.1, σ.2, S.2.2.2.2.2.2.2.2.2)) v1) (fun f (τ : (Nat → Int32) × (Nat → Int32) × (Nat → Int32)) v1 => f_X11_trades_2 f (mT M τ.1 τ.2.1 τ.2.2) v1) 20 (fun k σ τ => ∃ a', (AV a' ∧ JR σ.1 a' ∧ MR (mT M τ.1 τ.2.1 τ.2.2) a') ∧ aN a' = aN a) (fun p q => ∃ r : Int32, ∃ S2 : VX10, ∃ M2 : VX11, p = some (r, S2) ∧ q = some (r, M2) ∧ RR S2 M2) ?_ ?_ 4096 4096 0 (S.2.2.2.2.1, S.2.2.2.2.2.2.2.2.1) (M.2.2.2.2.2.2.2.2.2.2.2.1, M.2.2.2.2.2.2.2.2.2.2.2.2.2.2.2.2.2.2.2.2.2.2.1, M.2.2.2.2.2.2.2.2.2.2.2.2.2.2.2.2.2.2.2.2.2.2.2.1) (by omega) ⟨a, ⟨hV, hJ, hM⟩, rfl⟩ (by omega) (by omega)
  · rintro n n' ⟨J, Dl⟩ ⟨D, l, o⟩ ⟨a', hA, en⟩
    refine ⟨nI 20, (S.1, S.2.1, S.2.2.1, S.2.2.2.1, J, S.2.2.2.2.2.1, S.2.2.2.2.2.2.1, S.2.2.2.2.2.2.2.1, Dl, S.2.2.2.2.2.2.2.2.2), mT M D l o, ?_, ?_, hT, hr6, ht, a', hA, by rw [en]; exact hE, by rw [en]; exact hZ⟩
    · show f_X10_trades_2 (n + 1) ((S.1, S.2.1, S.2.2.1, S.2.2.2.1, J, S.2.2.2.2.2.1, S.2.2.2.2.2.2.1, S.2.2.2.2.2.2.2.1, Dl, S.2.2.2.2.2.2.2.2.2)) (nI 20) = _
      rw [f_X10_trades_2, if_pos (by decide)]
    · show f_X11_trades_2 (n' + 1) (mT M D l o) (nI 20) = _
      rw [f_X11_trades_2, if_pos (by decide)]
  · rintro n n' ⟨J, Dl⟩ ⟨D, l, o⟩ k hk ⟨a', ⟨hV', hJ', hM'⟩, en⟩
    have hJ' : JR J a' := hJ'
    have hM' : MR (mT M D l o) a' := hM'
    obtain ⟨b, Dl2, J2, D2, l2, o2, a2, g1, g2, g3, g4, g5, g6⟩ := tr_once (M := M) hV' Dl hJ' hM'
    have eC : f_X10_trades_2 (n + 1) ((S.1, S.2.1, S.2.2.1, S.2.2.2.1, J, S.2.2.2.2.2.1, S.2.2.2.2.2.2.1, S.2.2.2.2.2.2.2.1, Dl, S.2.2.2.2.2.2.2.2.2)) (nI k) = if bI b = 0 then some (nI k, (S.1, S.2.1, S.2.2.1, S.2.2.2.1, J2, S.2.2.2.2.2.1, S.2.2.2.2.2.2.1, S.2.2.2.2.2.2.2.1, Dl2, S.2.2.2.2.2.2.2.2.2)) else f_X10_trades_2 n ((S.1, S.2.1, S.2.2.1, S.2.2.2.1, J2, S.2.2.2.2.2.1, S.2.2.2.2.2.2.1, S.2.2.2.2.2.2.2.1, Dl2, S.2.2.2.2.2.2.2.2.2)) (nI (k + 1)) := by
      rw [f_X10_trades_2, if_neg (show ¬ (20 : Int32) ≤ nI k from nI_ge hk (by decide)), show f_X0_tradeOnce ((S.1, S.2.1, S.2.2.1, S.2.2.2.1, J, S.2.2.2.2.2.1, S.2.2.2.2.2.2.1, S.2.2.2.2.2.2.2.1, Dl, S.2.2.2.2.2.2.2.2.2)).2.2.2.2.2.2.2.2.1 ((S.1, S.2.1, S.2.2.1, S.2.2.2.1, J, S.2.2.2.2.2.1, S.2.2.2.2.2.2.1, S.2.2.2.2.2.2.2.1, Dl, S.2.2.2.2.2.2.2.2.2)).2.2.2.2.1 = _ from g5, Option.bind_some, nI_1]
    have eM : f_X11_trades_2 (n' + 1) (mT M D l o) (nI k) = if bI b = 0 then some (nI k, mT M D2 l2 o2) else f_X11_trades_2 n' (mT M D2 l2 o2) (nI (k + 1)) := by
      rw [f_X11_trades_2, if_neg (show ¬ (20 : Int32) ≤ nI k from nI_ge hk (by decide)), g6, Option.bind_some, nI_1]
    cases b with
    | false =>
      left
      exact ⟨nI k, (S.1, S.2.1, S.2.2.1, S.2.2.2.1, J2, S.2.2.2.2.2.1, S.2.2.2.2.2.2.1, S.2.2.2.2.2.2.2.1, Dl2, S.2.2.2.2.2.2.2.2.2), mT M D2 l2 o2, eC, eM, hT, hr6, ht, a2, ⟨g1, g3, g4⟩, by rw [g2, en]; exact hE, by rw [g2, en]; exact hZ⟩
    | true =>
      right
      exact ⟨(J2, Dl2), (D2, l2, o2), ⟨a2, ⟨g1, g3, g4⟩, g2.trans en⟩, eC, eM⟩
end
