/-! the reader: how many cells; the whole text -/
section
variable {P : VX8} {M : VX11} {r k : Nat}
theorem aB_V {n : Nat} (h2 : 2 ≤ n) (hn : n ≤ 8) : AV (aB n) := ⟨Or.inr h2, hn, fun x hx => by
  have hx : x < n := hx
  have eP : aP (aB n) x = if x + 1 < n then x + 1 else 0 := rfl
  refine ⟨Nat.zero_le _, (fun e => absurd (show (0 : Nat) = 2 from e) (by decide)), fun _ => ?_, (fun e => absurd (show (0 : Nat) = 1 ∨ (0 : Nat) = 5 from e) (by decide)), fun _ => rfl, Nat.zero_le _, Nat.two_pow_pos _, fun y _ => ?_, ?_⟩
  · show aP (aB n) x < n ∧ aP (aB n) x ≠ x ∧ 99 ≠ aP (aB n) x
    rw [eP]
    by_cases c : x + 1 < n
    · rw [if_pos c]; exact ⟨c, by omega, by omega⟩
    · rw [if_neg c]; exact ⟨by omega, by omega, by omega⟩
  · show (0 : Nat).testBit y = (0 : Nat).testBit x
    rw [Nat.zero_testBit, Nat.zero_testBit]
  · show (0 : Nat).testBit x = false
    rw [Nat.zero_testBit]⟩
theorem m_cells49 (M : VX11) (at' num : Int32) (D Q : Nat → Int32) {n : Nat} (h2 : 2 ≤ n) (hn : n ≤ 8) : ∃ D' Q', f_X11_readsCells_49 4096 (mP M at' num (nI n) D Q) 0 = some (1, mP M at' num (nI n) D' Q') ∧ RD D' Q' (aB n) := by
  refine loop_up (fun f (σ : (Nat → Int32) × (Nat → Int32)) v2 => f_X11_readsCells_49 f (mP M at' num (nI n) σ.1 σ.2) v2) n (fun t σ => ∀ x, x < t → σ.1 (4 * x) = nI (aK (aB n) x) ∧ σ.1 (4 * x + 1) = kI (aP (aB n) x) ∧ σ.1 (4 * x + 2) = kI (aO (aB n) x) ∧ σ.1 (4 * x + 3) = nI (aL (aB n) x) ∧ σ.2 x = nI (aF (aB n) x)) (fun p => ∃ D' Q', p = some (1, mP M at' num (nI n) D' Q') ∧ RD D' Q' (aB n)) ?_ ?_ 4096 0 (D, Q) (Nat.zero_le _) (fun x h => by omega) (by omega)
  · rintro f ⟨D, Q⟩ hI
    refine ⟨D, Q, ?_, hI⟩
    show f_X11_readsCells_49 (f + 1) (mP M at' num (nI n) D Q) (nI n) = _
    rw [f_X11_readsCells_49, if_pos (show (mP M at' num (nI n) D Q).2.2.2.2.2.2.2.2.2.2.2.2.2.2.2.1 ≤ nI n from nI_le (Nat.le_refl _) (by omega))]
  · rintro f ⟨D, Q⟩ x hx hI
    right
    have eP : (x + 1) % n = aP (aB n) x := by
      show _ = if x + 1 < n then x + 1 else 0
      by_cases c : x + 1 < n
      · rw [if_pos c, Nat.mod_eq_of_lt c]
      · rw [if_neg c, show x + 1 = n by omega, Nat.mod_self]
    have p8 : aP (aB n) x < 8 := by rw [← eP]; exact Nat.lt_of_lt_of_le (Nat.mod_lt _ (by omega)) hn
    refine ⟨(dn D x 0 (nI (aP (aB n) x)) (-9) 0, upd Q x 0), fun z hz => ?_, ?_⟩
    · show dn D x 0 (nI (aP (aB n) x)) (-9) 0 (4 * z) = _ ∧ dn D x 0 (nI (aP (aB n) x)) (-9) 0 (4 * z + 1) = _ ∧ dn D x 0 (nI (aP (aB n) x)) (-9) 0 (4 * z + 2) = _ ∧ dn D x 0 (nI (aP (aB n) x)) (-9) 0 (4 * z + 3) = _ ∧ upd Q x 0 z = _
      by_cases c : z = x
      · subst c
        obtain ⟨d1, d2, d3, d4⟩ := dn_at D z 0 (nI (aP (aB n) z)) (-9) 0
        rw [d1, d2, d3, d4, upd_at, if_pos rfl, kI_lt p8]
        exact ⟨rfl, rfl, kI_99.symm, rfl, rfl⟩
      · obtain ⟨g1, g2, g3, g4, g5⟩ := hI z (by omega)
        rw [dn_ne _ _ _ _ _ (by omega), dn_ne _ _ _ _ _ (by omega), dn_ne _ _ _ _ _ (by omega), dn_ne _ _ _ _ _ (by omega), upd_at, if_neg c]
        exact ⟨g1, g2, g3, g4, g5⟩
    · show f_X11_readsCells_49 (f + 1) (mP M at' num (nI n) D Q) (nI x) = f_X11_readsCells_49 f (mP M at' num (nI n) (dn D x 0 (nI (aP (aB n) x)) (-9) 0) (upd Q x 0)) (nI (x + 1))
      rw [f_X11_readsCells_49, if_neg (show ¬ (mP M at' num (nI n) D Q).2.2.2.2.2.2.2.2.2.2.2.2.2.2.2.1 ≤ nI x from nI_ge hx (by omega)), if_neg (show ¬ (mP M at' num (nI n) D Q).2.2.2.2.2.2.2.2.2.2.2.2.2.2.2.1 = 0 from nI_ne0 (by omega) (by omega)), show (nI x + (1 : Int32)) - (nI x + (1 : Int32)) / (mP M at' num (nI n) D Q).2.2.2.2.2.2.2.2.2.2.2.2.2.2.2.1 * (mP M at' num (nI n) D Q).2.2.2.2.2.2.2.2.2.2.2.2.2.2.2.1 = nI (aP (aB n) x) from by
        show (nI x + (1 : Int32)) - (nI x + (1 : Int32)) / nI n * nI n = _
        rw [nI_1, pk_rem (show x + 1 < 2 ^ 31 by omega) (show 0 < n by omega) (by omega), eP], m_new M at' num (nI n) D Q (show x < 8 by omega) 0 (nI (aP (aB n) x)) (-9) 0, Option.bind_some, zIn_t (show x < 8 by omega) (by decide), if_pos rfl, nI_clamp (by omega), nI_1]
      rfl
theorem cells_run (h : TX P M r k) {p f : Nat} (hp : p < k) (hf : k - p < f) {S : VX5} (i1 : S.2.2.1 = 0) (i2 : S.2.2.2.2 = 0) (h32 : bAt M r k p ≠ 32) (num : Int32) (D Q : Nat → Int32) :
    Out P M r k f S p (f_X11_readsCells (mP M (nI p) num 0 D Q) (nI r)) := by
  have eB : f_X11_byteAt (mP M (nI p) num 0 D Q) (nI r) (mP M (nI p) num 0 D Q).2.2.2.2.2.2.2.2.2.2.2.2.2.1 = some (bAt M r k p) := m_bAt h (by omega) num 0 D Q
  unfold f_X11_readsCells
  rw [eB, Option.bind_some]
  by_cases c : bAt M r k p = 110
  case neg =>
    refine Or.inl ⟨p, num, 0, D, Q, S, by omega, rc_obad h hp hf i1 ?_, by rw [if_neg c]⟩
    unfold f_X5_opens
    rw [if_neg h32]
    have fo : ∃ F, F < 6 ∧ f_X5_formOf (bAt M r k p) = some F := by
      unfold f_X5_formOf
      repeat' split
      all_goals exact ⟨_, by decide, rfl⟩
    obtain ⟨F, hF, eF⟩ := fo
    rw [eF, Option.bind_some, show f_J0_isEmpty_aae02 F = some (if zL F = 0 then 1 else 0) from if_pos hF, Option.bind_some]
    by_cases z : zL F = 0
    · rw [if_pos z, if_neg i10]
    · rw [if_neg z, if_pos rfl, if_neg c]
      unfold f_X5_opens_29
      rw [if_pos i2.symm]
  have eO : f_X5_opens S (bAt M r k p) = some (1, s5 S S.2.1 110 0) := by
    rw [c]
    unfold f_X5_opens
    rw [if_neg (by decide), show f_X5_formOf 110 = some 0 from by decide, Option.bind_some, show f_J0_isEmpty_aae02 0 = some 0 from rfl, Option.bind_some, if_pos rfl, if_pos rfl]
    unfold f_X5_opens_29
    rw [if_neg (show ¬ (1 : Int32) = S.2.2.2.2 from by rw [i2]; decide)]; rfl
  have eR := rc_open h hp hf i1 eO
  have hf1 : k - (p + 1) < f - 1 := by omega
  have f1 : f_X5_formOf 110 = some 0 := by decide
  have it0 : (s5 S S.2.1 110 0).2.2.1 ≠ 0 := by show (110 : Int32) ≠ 0; decide
  rw [if_pos c, mP_at]
  rcases figC (bAt M r k (p + 1)) (lo := 2) (hi := 8) (by decide) (by decide) with e | ⟨d, h2, h8, e⟩
  · refine Or.inl ⟨p + 1, bAt M r k (p + 1) - 48, 0, D, Q, _, by omega, eR.trans (rc_bad h (by omega) hf1 it0 fun hpk => x5_cbad (c := 99) f1 (by decide) (by decide) (by decide) (by decide) (x5_figF (lo := 2) (hi := 8) (Or.inl ⟨rfl, rfl, rfl⟩) e)), ?_⟩
    rw [show f_X11_figure (mP M (nI (p + 1)) num 0 D Q) (nI r) 2 8 = _ from m_figF (lo := 2) (hi := 8) h (by omega) (by decide) e num 0 D Q, Option.bind_some, if_pos rfl]
  · have hpk := bAt_fig (by omega) e
    have eP := x5_figT (S := s5 S S.2.1 110 0) h2 h8 (Or.inl ⟨rfl, rfl, rfl⟩) e
    have eK := x5_cok (S := S) (pt := S.2.1) (t := 0) f1 (by decide) (by decide) (by decide) (by decide) (show d < 10 by omega) eP
    rw [if_pos (show 0 + 1 = zL 0 by decide)] at eK
    have eU0 : upd S.2.1 0 (nI d) 0 = nI d := by rw [upd_at, if_pos rfl]
    obtain ⟨J', j1, j2⟩ := x2_build S.1 h8
    have eCl : f_X5_close (s5 S (upd S.2.1 0 (nI d)) 110 1) = some (((s0 S J' (upd S.2.1 0 (nI d)) 1).1, (s0 S J' (upd S.2.1 0 (nI d)) 1).2.1, (s0 S J' (upd S.2.1 0 (nI d)) 1).2.2.1, (s0 S J' (upd S.2.1 0 (nI d)) 1).2.2.2.1, 1)) := cl_110 (by rw [eU0]; exact j1)
    obtain ⟨D', Q', m1, m2⟩ := m_cells49 M (nI (p + 2)) (nI d) D Q h2 h8
    refine Or.inr ⟨p + 2, nI d, ((s0 S J' (upd S.2.1 0 (nI d)) 1).1, (s0 S J' (upd S.2.1 0 (nI d)) 1).2.1, (s0 S J' (upd S.2.1 0 (nI d)) 1).2.2.1, (s0 S J' (upd S.2.1 0 (nI d)) 1).2.2.2.1, 1), f - 1 - 1, aB d, D', Q', by omega, by omega, by omega, ⟨rfl, rfl, aB_V h2 h8, h2, j2, m2⟩, eR.trans (rc_go h hpk hf1 it0 ?_), ?_⟩
    · exact eK.trans (congrArg (fun o => o.bind fun r12 => some ((1 : Int32), r12)) eCl)
    · rw [show f_X11_figure (mP M (nI (p + 1)) num 0 D Q) (nI r) 2 8 = _ from m_figT (lo := 2) (hi := 8) h (by omega) h2 h8 (by decide) e num 0 D Q, Option.bind_some, if_neg i10]
      exact m1
theorem read_main (h : TX P M r k) : ∀ (d p f g : Nat) (S : VX5) (num cells : Int32) (D Q : Nat → Int32), k - p ≤ d → p ≤ k → k - p < f → k - p < g → ((cells = 0 ∧ S.2.2.1 = 0 ∧ S.2.2.2.2 = 0) ∨ ∃ a, cells = nI (aN a) ∧ Bd S a D Q) →
    ∃ (res : Int32) (S' : VX5) (at' num' cells' : Int32) (D' Q' : Nat → Int32), RC P r k f S p = some (res, S') ∧ f_X11_faultOf_10 g (mP M (nI p) num cells D Q) (nI r) = some (res, mP M at' num' cells' D' Q') ∧ ((∃ j, j ≤ k ∧ res = nI j) ∨ (res = -9 ∧ ∃ a, cells' = nI (aN a) ∧ Bd S' a D' Q')) := by
  obtain ⟨hr, hk, -, eT, -⟩ := id h
  intro d
  induction d with
  | zero =>
    intro p f g S num cells D Q h1 h2 hf hg hI
    obtain ⟨f, rfl⟩ : ∃ f', f = f' + 1 := ⟨f - 1, by omega⟩
    obtain ⟨g, rfl⟩ : ∃ g', g = g' + 1 := ⟨g - 1, by omega⟩
    have hpk : p = k := by omega
    subst hpk
    have eM : f_X11_faultOf_10 (g + 1) (mP M (nI p) num cells D Q) (nI r) = if cells = 0 then some (nI p, mP M (nI p) num cells D Q) else some (-9, mP M (nI p) num cells D Q) := by
      rw [f_X11_faultOf_10, zIn_t hr (by decide), if_pos rfl, nI_clamp (by omega), show (mP M (nI p) num cells D Q).2.2.2.2.2.2.2.2.1 r = nI p from eT, if_pos (show nI p ≤ (mP M (nI p) num cells D Q).2.2.2.2.2.2.2.2.2.2.2.2.2.1 from nI_le (Nat.le_refl _) (by omega)), if_pos rfl]
      rfl
    have eC : S.2.2.1 = 0 → RC P r p (f + 1) S p = if S.2.2.2.2 = 0 then some (nI p, S) else some (-9, S) := fun i1 => by
      unfold RC
      rw [f_X5_read_24, if_pos (nI_le (Nat.le_refl _) (by omega)), if_pos i1]
    rw [eM]
    rcases hI with ⟨rfl, i1, i2⟩ | ⟨a, rfl, hB⟩
    · exact ⟨nI p, S, nI p, num, 0, D, Q, by rw [eC i1, if_pos i2], if_pos rfl, Or.inl ⟨p, Nat.le_refl _, rfl⟩⟩
    · have h2 := hB.2.2.2.1
      have h8 := hB.2.2.1.2.1
      exact ⟨-9, S, nI p, num, nI (aN a), D, Q, by rw [eC hB.1, hB.2.1, if_neg i10], if_neg (nI_ne0 (by omega) (by omega)), Or.inr ⟨rfl, a, rfl, hB⟩⟩
  | succ d ih =>
    intro p f g S num cells D Q h1 h2 hf hg hI
    by_cases hpk : p = k
    · exact ih p f g S num cells D Q (by omega) h2 hf hg hI
    have hp : p < k := by omega
    obtain ⟨g, rfl⟩ : ∃ g', g = g' + 1 := ⟨g - 1, by omega⟩
    have i1 : S.2.2.1 = 0 := hI.elim (fun q => q.2.1) (fun ⟨a, _, q⟩ => q.1)
    have eM : f_X11_faultOf_10 (g + 1) (mP M (nI p) num cells D Q) (nI r) = if bAt M r k p = 32 then f_X11_faultOf_10 g (mP M (nI (p + 1)) num cells D Q) (nI r) else if cells = 0 then (f_X11_readsCells (mP M (nI p) num cells D Q) (nI r)).bind fun r7 => if r7.1 = 0 then some (r7.2.2.2.2.2.2.2.2.2.2.2.2.2.2.1, r7.2) else f_X11_faultOf_10 g r7.2 (nI r) else (f_X11_readsItem (mP M (nI p) num cells D Q) (nI r)).bind fun r7 => if r7.1 = 0 then some (r7.2.2.2.2.2.2.2.2.2.2.2.2.2.2.1, r7.2) else f_X11_faultOf_10 g r7.2 (nI r) := by
      rw [f_X11_faultOf_10, zIn_t hr (by decide), if_pos rfl, nI_clamp (by omega), show (mP M (nI p) num cells D Q).2.2.2.2.2.2.2.2.1 r = nI k from eT, if_neg (show ¬ nI k ≤ (mP M (nI p) num cells D Q).2.2.2.2.2.2.2.2.2.2.2.2.2.1 from nI_ge hp (by omega)), show f_X11_byteAt (mP M (nI p) num cells D Q) (nI r) (mP M (nI p) num cells D Q).2.2.2.2.2.2.2.2.2.2.2.2.2.1 = _ from m_bAt h h2 num cells D Q, Option.bind_some, mP_at]
      rfl
    rw [eM]
    by_cases c : bAt M r k p = 32
    · have eO : f_X5_opens S (bAt M r k p) = some (1, S) := by
        unfold f_X5_opens
        rw [if_pos c]
      obtain ⟨res, S', at', num', cells', D', Q', b1, b2, b3⟩ := ih (p + 1) (f - 1) g S num cells D Q (by omega) (by omega) (by omega) (by omega) hI
      exact ⟨res, S', at', num', cells', D', Q', (rc_open h hp hf i1 eO).trans b1, by rw [if_pos c]; exact b2, b3⟩
    · rw [if_neg c]
      have main : ∀ q, Out P M r k f S p q → ∃ (res : Int32) (S' : VX5) (at' num' cells' : Int32) (D' Q' : Nat → Int32), RC P r k f S p = some (res, S') ∧ (q.bind fun r7 => if r7.1 = 0 then some (r7.2.2.2.2.2.2.2.2.2.2.2.2.2.2.1, r7.2) else f_X11_faultOf_10 g r7.2 (nI r)) = some (res, mP M at' num' cells' D' Q') ∧ ((∃ j, j ≤ k ∧ res = nI j) ∨ (res = -9 ∧ ∃ a, cells' = nI (aN a) ∧ Bd S' a D' Q')) := by
        rintro q (⟨p', num', cells', D', Q', S', b1, b2, rfl⟩ | ⟨p', num', S', f', a', D', Q', b1, b2, b3, b4, b5, rfl⟩)
        · exact ⟨nI p', S', nI p', num', cells', D', Q', b2, by rw [Option.bind_some, if_pos rfl]; rfl, Or.inl ⟨p', b1, rfl⟩⟩
        · obtain ⟨res, S2, at2, num2, cells2, D2, Q2, c1, c2, c3⟩ := ih p' f' g S' num' (nI (aN a')) D' Q' (by omega) b2 b3 (by omega) (Or.inr ⟨a', rfl, b4⟩)
          exact ⟨res, S2, at2, num2, cells2, D2, Q2, b5.trans c1, by rw [Option.bind_some, if_neg i10]; exact c2, c3⟩
      rcases hI with ⟨rfl, -, i2⟩ | ⟨a, rfl, hB⟩
      · rw [if_pos rfl]
        exact main _ (cells_run h hp hf i1 i2 c num D Q)
      · have h2 := hB.2.2.2.1
        have h8 := hB.2.2.1.2.1
        rw [if_neg (nI_ne0 (by omega) (by omega))]
        exact main _ (item_run h hp hf hB c num)
end
