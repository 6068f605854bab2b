/-! deals: the run over all of them -/
theorem x0_skip {a : AJ} (h2 : 2 ≤ aN a) (h5 : aN a ≤ 5) (P : VX2) (b N : Nat) (hN : N < 2 ^ 20) (c : Nat) : ∀ k m f (Dl : VX0), m + k ≤ N → (∀ j, m ≤ j → j < m + k → ¬ Val a j) → (∃ a', AV a' ∧ JR Dl.1 a' ∧ SameJ a a') →
    ∃ Dl' : VX0, f_X0_dealAll_50 (f + k) Dl P (nI b) (nI (aN a)) (nI N) (nI c) (nI m) = f_X0_dealAll_50 f Dl' P (nI b) (nI (aN a)) (nI N) (nI c) (nI (m + k)) ∧ Dl'.2.2.1 = Dl.2.2.1 ∧ ∃ a', AV a' ∧ JR Dl'.1 a' ∧ SameJ a a'
  | 0, m, f, Dl, _, _, hT => ⟨Dl, rfl, rfl, hT⟩
  | k + 1, m, f, Dl, hm, hv, ⟨a0, hV0, hJ0, hs0⟩ => by
    rcases x0_isDeal (show 0 < aN a by omega) h5 hV0 hJ0 hs0 (show m < 2 ^ 20 by omega) with ⟨w, -⟩ | ⟨-, T, a', e, hV', hJ', hs'⟩
    · exact absurd w (hv m (Nat.le_refl _) (by omega))
    · obtain ⟨Dl', e', d', t'⟩ := x0_skip h2 h5 P b N hN c k (m + 1) f ((T, Dl.2.1, Dl.2.2.1, Dl.2.2.2)) (by omega) (fun j h1 h2 => hv j (by omega) (by omega)) ⟨a', hV', hJ', hs'⟩
      refine ⟨Dl', ?_, d', t'⟩
      rw [show m + (k + 1) = m + 1 + k by omega, ← e', show f + (k + 1) = f + k + 1 by omega, f_X0_dealAll_50, if_neg (nI_ge (show m < N by omega) (by omega)), e, Option.bind_some, if_pos rfl, nI_1]
theorem deal_step {M : VX11} {a : AJ} (hV : AV a) (h2 : 2 ≤ aN a) (h5 : aN a ≤ 5) (P : VX2) {b q N m c : Nat} (hb : b ≤ 8) (hN : N < 2 ^ 20) (hm : m < N) (hc : c < 2 ^ 20) (hval : Val a m) {Dl : VX0} {fd D l o : Nat → Int32}
    (hT : ∃ a', AV a' ∧ JR Dl.1 a' ∧ SameJ a a') (hM : MR (mT (mK M fd) D l o) (dealA a m)) (hF : c ≠ 0 → ∀ x, x < aN a → Dl.2.2.1 x = fd x) (f g : Nat) :
    ∃ (Dl' : VX0) (fd' l' o' : Nat → Int32) (c' : Nat), c' ≤ c + 1 ∧ (∃ a', AV a' ∧ JR Dl'.1 a' ∧ SameJ a a') ∧ MR (mT (mK M fd') D l' o') (dealA a m) ∧ (c' ≠ 0 → ∀ x, x < aN a → Dl'.2.2.1 x = fd' x) ∧
      f_X0_dealAll_50 (f + 1) Dl P (nI b) (nI (aN a)) (nI N) (nI c) (nI m) = f_X0_dealAll_50 f Dl' P (nI b) (nI (aN a)) (nI N) (nI c') (nI (m + 1)) ∧
      f_X11_deals_98 (g + 1) (mT (mK M fd) D l o) (nI b) (nI q) (nI c) 1 = f_X11_deals_149 (f_X11_deals_98 g) (mT (mK M fd') D l' o') (nI b) (nI q) (nI c') := by
  obtain ⟨a0, hV0, hJ0, hs0⟩ := hT
  rcases x0_isDeal (show 0 < aN a by omega) h5 hV0 hJ0 hs0 (show m < 2 ^ 20 by omega) with ⟨-, T, e, hVd, hJd⟩ | ⟨w, -⟩
  case inr => exact absurd hval w
  obtain ⟨r, Z', l', o', e1, e2⟩ := nb_both (M := mK M fd) hVd Dl hJd hM hb
  have hM' : MR (mT (mK M fd) D l' o') (dealA a m) := hM.doors
  have eC : f_X0_dealAll_50 (f + 1) Dl P (nI b) (nI (aN a)) (nI N) (nI c) (nI m) = if bI r = 0 then f_X0_dealAll_50 f ((T, Z', Dl.2.2.1, Dl.2.2.2)) P (nI b) (nI (aN a)) (nI N) (nI c) (nI (m + 1)) else if nI c = 0 then (f_X0_rememberDeal ((T, Z', Dl.2.2.1, Dl.2.2.2))).bind fun r5 => f_X0_dealAll_50 f r5 P (nI b) (nI (aN a)) (nI N) (nI (c + 1)) (nI (m + 1)) else f_X0_dealAll_50 f ((T, Z', Dl.2.2.1, Dl.2.2.2)) P (nI b) (nI (aN a)) (nI N) (nI (c + 1)) (nI (m + 1)) := by
    rw [f_X0_dealAll_50, if_neg (nI_ge hm (by omega)), e, Option.bind_some, if_neg i10, e1, Option.bind_some, nI_1, nI_1]
  have eM : f_X11_deals_98 (g + 1) (mT (mK M fd) D l o) (nI b) (nI q) (nI c) 1 = if bI r = 0 then f_X11_deals_149 (f_X11_deals_98 g) (mT (mK M fd) D l' o') (nI b) (nI q) (nI c) else f_X11_deals_114 (f_X11_deals_98 g) 4096 (mT (mK M fd) D l' o') (nI b) (nI q) (nI c) 0 := by
    rw [f_X11_deals_98, if_neg i10, e2, Option.bind_some]
  cases r with
  | false => exact ⟨(T, Z', Dl.2.2.1, Dl.2.2.2), fd, l', o', c, by omega, ⟨_, hVd, hJd, ⟨rfl, rfl, rfl, rfl, rfl⟩⟩, hM', hF, eC, eM⟩
  | true =>
    rw [if_neg (show ¬ bI true = 0 from i10)] at eC eM
    obtain ⟨fd', e4, k1, k2⟩ := m_first114 hM' hVd.2.1 (show 0 < aN a by omega) (f_X11_deals_98 g) b q c (by omega)
    by_cases c0 : c = 0
    · obtain ⟨F, e3, hF'⟩ := x0_remember ((T, Z', Dl.2.2.1, Dl.2.2.2)) hJd h5
      rw [if_pos (show nI c = 0 by rw [c0]; rfl), show f_X0_rememberDeal ((T, Z', Dl.2.2.1, Dl.2.2.2)) = _ from e3, Option.bind_some] at eC
      refine ⟨_, fd', l', o', c + 1, by omega, ⟨_, hVd, hJd, ⟨rfl, rfl, rfl, rfl, rfl⟩⟩, hM'.fd, fun _ x hx => ?_, eC, eM.trans e4⟩
      exact (hF' x hx).trans (k1 c0 x hx).symm
    · rw [if_neg (nI_ne0 (show 0 < c by omega) (by omega))] at eC
      refine ⟨_, fd', l', o', c + 1, by omega, ⟨_, hVd, hJd, ⟨rfl, rfl, rfl, rfl, rfl⟩⟩, hM'.fd, fun _ x hx => ?_, eC, eM.trans e4⟩
      rw [k2 c0]
      exact hF c0 x hx
theorem deal_run {M : VX11} {a : AJ} (hV : AV a) (h2 : 2 ≤ aN a) (h5 : aN a ≤ 5) (P : VX2) {b q : Nat} (hb : b ≤ 8) : ∀ d m, aN a ^ aN a - m ≤ d → m < aN a ^ aN a → Val a m → ∀ (f g c : Nat) (Dl : VX0) (fd D l o : Nat → Int32), c ≤ m → aN a ^ aN a - m < f → aN a ^ aN a - m < g →
    (∃ a', AV a' ∧ JR Dl.1 a' ∧ SameJ a a') → MR (mT (mK M fd) D l o) (dealA a m) → (c ≠ 0 → ∀ x, x < aN a → Dl.2.2.1 x = fd x) →
    ∃ (Dl' : VX0) (fd' D' l' o' : Nat → Int32) (c' : Nat), c' < 2 ^ 20 ∧ (∃ a', AV a' ∧ SameJ a a' ∧ MR (mT (mK M fd') D' l' o') a') ∧ (c' ≠ 0 → ∀ x, x < aN a → Dl'.2.2.1 x = fd' x) ∧
      f_X0_dealAll_50 f Dl P (nI b) (nI (aN a)) (nI (aN a ^ aN a)) (nI c) (nI m) = some (nI c', Dl') ∧
      f_X11_deals_98 g (mT (mK M fd) D l o) (nI b) (nI q) (nI c) 1 = f_X11_deals_161 4096 (mT (mK M fd') D' l' o') (nI q) (nI c') 0 := by
  have hN : aN a ^ aN a ≤ 3125 := pow_le5 h5 _ (Nat.le_refl _)
  intro d
  induction d with
  | zero => intro m h1 h2; omega
  | succ d ih =>
    intro m hd hm hval f g c Dl fd D l o hc hf hg hT hM hF
    obtain ⟨f, rfl⟩ : ∃ f', f = f' + 1 := ⟨f - 1, by omega⟩
    obtain ⟨g, rfl⟩ : ∃ g', g = g' + 1 := ⟨g - 1, by omega⟩
    obtain ⟨Dl1, fd1, l1, o1, c1, hc1, hT1, hM1, hF1, eC, eM⟩ := deal_step hV h2 h5 P (q := q) hb (show aN a ^ aN a < 2 ^ 20 by omega) hm (show c < 2 ^ 20 by omega) hval hT hM hF f g
    obtain ⟨r, D2, e2, hS2, hA2, hB2⟩ := m_next hV h2 h5 hval hm hM1
    rw [eC, eM]
    unfold f_X11_deals_149
    rw [e2, Option.bind_some]
    cases r with
    | false =>
      obtain ⟨f, rfl⟩ : ∃ f', f = f' + 1 + (aN a ^ aN a - (m + 1)) := ⟨f - 1 - (aN a ^ aN a - (m + 1)), by omega⟩
      obtain ⟨g, rfl⟩ : ∃ g', g = g' + 1 := ⟨g - 1, by omega⟩
      obtain ⟨Dl3, e3, d3, -⟩ := x0_skip h2 h5 P b (aN a ^ aN a) (by omega) c1 (aN a ^ aN a - (m + 1)) (m + 1) (f + 1) Dl1 (by omega) (fun j h1 h2 => hB2 rfl j (by omega) (by omega)) hT1
      refine ⟨Dl3, fd1, D2, l1, o1, c1, by omega, hS2, fun h x hx => by rw [d3]; exact hF1 h x hx, ?_, ?_⟩
      · rw [e3, show m + 1 + (aN a ^ aN a - (m + 1)) = aN a ^ aN a by omega, f_X0_dealAll_50, if_pos (nI_le (Nat.le_refl _) (by omega))]
      · show f_X11_deals_98 (g + 1) (mT (mK M fd1) D2 l1 o1) (nI b) (nI q) (nI c1) (bI false) = _
        rw [f_X11_deals_98, if_pos (show bI false = 0 from rfl)]
    | true =>
      obtain ⟨m', h1, h3, v', nv, M'⟩ := hA2 rfl
      obtain ⟨f, rfl⟩ : ∃ f', f = f' + (m' - (m + 1)) := ⟨f - (m' - (m + 1)), by omega⟩
      obtain ⟨Dl3, e3, d3, t3⟩ := x0_skip h2 h5 P b (aN a ^ aN a) (by omega) c1 (m' - (m + 1)) (m + 1) f Dl1 (by omega) (fun j h1 h2 => nv j (by omega) (by omega)) hT1
      rw [e3, show m + 1 + (m' - (m + 1)) = m' by omega]
      exact ih m' (by omega) h3 v' f g c1 Dl3 fd1 D2 l1 o1 (by omega) (by omega) (by omega) t3 M' (fun h x hx => by rw [d3]; exact hF1 h x hx)
