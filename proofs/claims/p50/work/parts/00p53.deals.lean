/-! deals: one deal looked at, on both sides -/
theorem nb_both {M : VX11} {D l o : Nat → Int32} {a : AJ} (hV : AV a) (Dl : VX0) {T : VX2} (hJ : JR T a) (hM : MR (mT M D l o) a) {b : Nat} (hb : b ≤ 8) :
    ∃ (r : Bool) (Z' : VX4) (l' o' : Nat → Int32), f_X0_freesNoneOf ((T, Dl.2.1, Dl.2.2.1, Dl.2.2.2)) (nI b) = some (bI r, (T, Z', Dl.2.2.1, Dl.2.2.2)) ∧ f_X11_hasNoBand (mT M D l o) (nI b) = some (bI r, mT M D l' o') := by
  have hn := hV.2.1
  have hN := hV.N
  have h1 : 0 < 2 ^ aN a := Nat.two_pow_pos _
  unfold f_X0_freesNoneOf f_X11_hasNoBand
  refine loop_two (fun f (Z : VX4) v2 => f_X0_freesNoneOf_2 f ((T, Z, Dl.2.2.1, Dl.2.2.2)) (nI b) v2) (fun f (τ : (Nat → Int32) × (Nat → Int32)) v2 => f_X11_hasNoBand_2 f (mT M D τ.1 τ.2) (nI b) v2) (2 ^ aN a) (fun _ _ τ => MR (mT M D τ.1 τ.2) a) (fun p q => ∃ (r : Bool) (Z' : VX4) (l' o' : Nat → Int32), p = some (bI r, (T, Z', Dl.2.2.1, Dl.2.2.2)) ∧ q = some (bI r, mT M D l' o')) ?_ ?_ 4096 4096 1 Dl.2.1 (l, o) (by omega) hM (by omega) (by omega)
  · rintro n n' Z ⟨l, o⟩ hM
    have hM : MR (mT M D l o) a := hM
    refine ⟨true, Z, l, o, ?_, ?_⟩
    · show f_X0_freesNoneOf_2 (n + 1) ((T, Z, Dl.2.2.1, Dl.2.2.2)) (nI b) (nI (2 ^ aN a)) = _
      rw [f_X0_freesNoneOf_2, show f_X2_everyone ((T, Z, Dl.2.2.1, Dl.2.2.2)).1 = _ from x2_all hJ.1 hn, Option.bind_some, if_pos (nI_lt (by omega) (by omega))]; rfl
    · show f_X11_hasNoBand_2 (n' + 1) (mT M D l o) (nI b) (nI (2 ^ aN a)) = _
      rw [f_X11_hasNoBand_2, m_all hM.1 hn, Option.bind_some, if_pos (nI_lt (by omega) (by omega))]; rfl
  · rintro n n' Z ⟨l, o⟩ t ht hM
    have hM : MR (mT M D l o) a := hM
    obtain ⟨Z', l', o', R, W, e1, e2, h⟩ := both hJ hM hV ht Z
    have p8 := pc_le t
    show (∃ (r : Bool) (Z' : VX4) (l' o' : Nat → Int32), f_X0_freesNoneOf_2 (n + 1) ((T, Z, Dl.2.2.1, Dl.2.2.2)) (nI b) (nI t) = some (bI r, (T, Z', Dl.2.2.1, Dl.2.2.2)) ∧ f_X11_hasNoBand_2 (n' + 1) (mT M D l o) (nI b) (nI t) = some (bI r, mT M D l' o')) ∨ ∃ (Z' : VX4) (τ : (Nat → Int32) × (Nat → Int32)), MR (mT M D τ.1 τ.2) a ∧ f_X0_freesNoneOf_2 (n + 1) ((T, Z, Dl.2.2.1, Dl.2.2.2)) (nI b) (nI t) = f_X0_freesNoneOf_2 n ((T, Z', Dl.2.2.1, Dl.2.2.2)) (nI b) (nI (t + 1)) ∧ f_X11_hasNoBand_2 (n' + 1) (mT M D l o) (nI b) (nI t) = f_X11_hasNoBand_2 n' (mT M D τ.1 τ.2) (nI b) (nI (t + 1))
    have eC : f_X0_freesNoneOf_2 (n + 1) ((T, Z, Dl.2.2.1, Dl.2.2.2)) (nI b) (nI t) = if nI (pc t) = nI b then (if bI (R t).isSome = 0 then f_X0_freesNoneOf_2 n ((T, Z', Dl.2.2.1, Dl.2.2.2)) (nI b) (nI (t + 1)) else some (0, (T, Z', Dl.2.2.1, Dl.2.2.2))) else f_X0_freesNoneOf_2 n ((T, Z, Dl.2.2.1, Dl.2.2.2)) (nI b) (nI (t + 1)) := by
      rw [f_X0_freesNoneOf_2, show f_X2_everyone ((T, Z, Dl.2.2.1, Dl.2.2.2)).1 = _ from x2_all hJ.1 hn, Option.bind_some, if_neg (nI_nlt (by omega) (by omega)), n_cnt (show t < 256 by omega), Option.bind_some, show f_X4_fill ((T, Z, Dl.2.2.1, Dl.2.2.2)).2.1 ((T, Z, Dl.2.2.1, Dl.2.2.2)).1 (nI t) = _ from e1, Option.bind_some, x4_has h h.actN, Option.bind_some, nI_1]
    have eM : f_X11_hasNoBand_2 (n' + 1) (mT M D l o) (nI b) (nI t) = if nI (pc t) = nI b then (if 1000 ≤ nI (nv (R t)) then f_X11_hasNoBand_2 n' (mT M D l' o') (nI b) (nI (t + 1)) else some (0, mT M D l' o')) else f_X11_hasNoBand_2 n' (mT M D l o) (nI b) (nI (t + 1)) := by
      rw [f_X11_hasNoBand_2, m_all hM.1 hn, Option.bind_some, if_neg (nI_nlt (by omega) (by omega)), n_bits (show t < 256 by omega), Option.bind_some, m_band e2 h, Option.bind_some, nI_1]
      rfl
    by_cases c : pc t = b
    · rw [if_pos (by rw [c])] at eC eM
      cases hr : R t with
      | none =>
        right
        rw [hr] at eC eM
        exact ⟨Z', (l', o'), hM.doors, eC.trans (if_pos rfl), eM.trans (if_pos (show (1000 : Int32) ≤ nI (nv none) by decide))⟩
      | some v =>
        left
        have := h.small ht hr
        rw [hr] at eC eM
        exact ⟨false, Z', l', o', eC.trans (if_neg (show ¬ bI (some v).isSome = 0 from i10)), eM.trans (if_neg (show ¬ (1000 : Int32) ≤ nI (nv (some v)) from nI_ge (show v < 1000 by omega) (by decide)))⟩
    · right
      have c' : ¬ nI (pc t) = nI b := fun q => c ((nI_eq (by omega) (by omega)).1 q)
      exact ⟨Z, (l, o), hM, eC.trans (if_neg c'), eM.trans (if_neg c')⟩
def mK (M : VX11) (fd : Nat → Int32) : VX11 := (M.1, M.2.1, M.2.2.1, M.2.2.2.1, M.2.2.2.2.1, M.2.2.2.2.2.1, M.2.2.2.2.2.2.1, M.2.2.2.2.2.2.2.1, M.2.2.2.2.2.2.2.2.1, M.2.2.2.2.2.2.2.2.2.1, M.2.2.2.2.2.2.2.2.2.2.1, M.2.2.2.2.2.2.2.2.2.2.2.1, M.2.2.2.2.2.2.2.2.2.2.2.2.1, M.2.2.2.2.2.2.2.2.2.2.2.2.2.1, M.2.2.2.2.2.2.2.2.2.2.2.2.2.2.1, M.2.2.2.2.2.2.2.2.2.2.2.2.2.2.2.1, M.2.2.2.2.2.2.2.2.2.2.2.2.2.2.2.2.1, M.2.2.2.2.2.2.2.2.2.2.2.2.2.2.2.2.2.1, M.2.2.2.2.2.2.2.2.2.2.2.2.2.2.2.2.2.2.1, M.2.2.2.2.2.2.2.2.2.2.2.2.2.2.2.2.2.2.2.1, M.2.2.2.2.2.2.2.2.2.2.2.2.2.2.2.2.2.2.2.2.1, M.2.2.2.2.2.2.2.2.2.2.2.2.2.2.2.2.2.2.2.2.2.1, M.2.2.2.2.2.2.2.2.2.2.2.2.2.2.2.2.2.2.2.2.2.2.1, M.2.2.2.2.2.2.2.2.2.2.2.2.2.2.2.2.2.2.2.2.2.2.2.1, M.2.2.2.2.2.2.2.2.2.2.2.2.2.2.2.2.2.2.2.2.2.2.2.2.1, M.2.2.2.2.2.2.2.2.2.2.2.2.2.2.2.2.2.2.2.2.2.2.2.2.2.1, fd, M.2.2.2.2.2.2.2.2.2.2.2.2.2.2.2.2.2.2.2.2.2.2.2.2.2.2.2.1, M.2.2.2.2.2.2.2.2.2.2.2.2.2.2.2.2.2.2.2.2.2.2.2.2.2.2.2.2.1, M.2.2.2.2.2.2.2.2.2.2.2.2.2.2.2.2.2.2.2.2.2.2.2.2.2.2.2.2.2.1, M.2.2.2.2.2.2.2.2.2.2.2.2.2.2.2.2.2.2.2.2.2.2.2.2.2.2.2.2.2.2)
theorem mK_set (M : VX11) (fd D l o : Nat → Int32) (x : Nat) (v : Int32) : ((mT (mK M fd) D l o).1, (mT (mK M fd) D l o).2.1, (mT (mK M fd) D l o).2.2.1, (mT (mK M fd) D l o).2.2.2.1, (mT (mK M fd) D l o).2.2.2.2.1, (mT (mK M fd) D l o).2.2.2.2.2.1, (mT (mK M fd) D l o).2.2.2.2.2.2.1, (mT (mK M fd) D l o).2.2.2.2.2.2.2.1, (mT (mK M fd) D l o).2.2.2.2.2.2.2.2.1, (mT (mK M fd) D l o).2.2.2.2.2.2.2.2.2.1, (mT (mK M fd) D l o).2.2.2.2.2.2.2.2.2.2.1, (mT (mK M fd) D l o).2.2.2.2.2.2.2.2.2.2.2.1, (mT (mK M fd) D l o).2.2.2.2.2.2.2.2.2.2.2.2.1, (mT (mK M fd) D l o).2.2.2.2.2.2.2.2.2.2.2.2.2.1, (mT (mK M fd) D l o).2.2.2.2.2.2.2.2.2.2.2.2.2.2.1, (mT (mK M fd) D l o).2.2.2.2.2.2.2.2.2.2.2.2.2.2.2.1, (mT (mK M fd) D l o).2.2.2.2.2.2.2.2.2.2.2.2.2.2.2.2.1, (mT (mK M fd) D l o).2.2.2.2.2.2.2.2.2.2.2.2.2.2.2.2.2.1, (mT (mK M fd) D l o).2.2.2.2.2.2.2.2.2.2.2.2.2.2.2.2.2.2.1, (mT (mK M fd) D l o).2.2.2.2.2.2.2.2.2.2.2.2.2.2.2.2.2.2.2.1, (mT (mK M fd) D l o).2.2.2.2.2.2.2.2.2.2.2.2.2.2.2.2.2.2.2.2.1, (mT (mK M fd) D l o).2.2.2.2.2.2.2.2.2.2.2.2.2.2.2.2.2.2.2.2.2.1, (mT (mK M fd) D l o).2.2.2.2.2.2.2.2.2.2.2.2.2.2.2.2.2.2.2.2.2.2.1, (mT (mK M fd) D l o).2.2.2.2.2.2.2.2.2.2.2.2.2.2.2.2.2.2.2.2.2.2.2.1, (mT (mK M fd) D l o).2.2.2.2.2.2.2.2.2.2.2.2.2.2.2.2.2.2.2.2.2.2.2.2.1, (mT (mK M fd) D l o).2.2.2.2.2.2.2.2.2.2.2.2.2.2.2.2.2.2.2.2.2.2.2.2.2.1, upd (mT (mK M fd) D l o).2.2.2.2.2.2.2.2.2.2.2.2.2.2.2.2.2.2.2.2.2.2.2.2.2.2.1 x v, (mT (mK M fd) D l o).2.2.2.2.2.2.2.2.2.2.2.2.2.2.2.2.2.2.2.2.2.2.2.2.2.2.2.1, (mT (mK M fd) D l o).2.2.2.2.2.2.2.2.2.2.2.2.2.2.2.2.2.2.2.2.2.2.2.2.2.2.2.2.1, (mT (mK M fd) D l o).2.2.2.2.2.2.2.2.2.2.2.2.2.2.2.2.2.2.2.2.2.2.2.2.2.2.2.2.2.1, (mT (mK M fd) D l o).2.2.2.2.2.2.2.2.2.2.2.2.2.2.2.2.2.2.2.2.2.2.2.2.2.2.2.2.2.2) = mT (mK M (upd fd x v)) D l o := rfl
theorem MR.fd {M : VX11} {fd fd' D l o : Nat → Int32} {a : AJ} (h : MR (mT (mK M fd) D l o) a) : MR (mT (mK M fd') D l o) a :=
  h.of ((show (mT (mK M fd') D l o).2.2.2.2.2.2.2.2.2.2.1 = M.2.2.2.2.2.2.2.2.2.2.1 from rfl).trans (show M.2.2.2.2.2.2.2.2.2.2.1 = (mT (mK M fd) D l o).2.2.2.2.2.2.2.2.2.2.1 from rfl)) ((mT_d (mK M fd') D l o).trans (mT_d (mK M fd) D l o).symm) ((show (mT (mK M fd') D l o).2.2.2.2.2.2.2.2.2.2.2.2.1 = M.2.2.2.2.2.2.2.2.2.2.2.2.1 from rfl).trans (show M.2.2.2.2.2.2.2.2.2.2.2.2.1 = (mT (mK M fd) D l o).2.2.2.2.2.2.2.2.2.2.2.2.1 from rfl))
theorem x0_remember (Dl : VX0) {T : VX2} {a : AJ} (hJ : JR T a) (h5 : aN a ≤ 5) : ∃ F, f_X0_rememberDeal ((T, Dl.2.1, Dl.2.2.1, Dl.2.2.2)) = some ((T, Dl.2.1, F, Dl.2.2.2)) ∧ ∀ x, x < aN a → F x = kI (aP a x) := by
  unfold f_X0_rememberDeal
  refine loop_up (fun f (F : Nat → Int32) v1 => f_X0_rememberDeal_2 f ((T, Dl.2.1, F, Dl.2.2.2)) v1) 5 (fun k F => ∀ x, x < k → x < aN a → F x = kI (aP a x)) (fun p => ∃ F, p = some ((T, Dl.2.1, F, Dl.2.2.2)) ∧ ∀ x, x < aN a → F x = kI (aP a x)) ?_ ?_ 4096 0 Dl.2.2.1 (Nat.zero_le _) (fun x h => by omega) (by omega)
  · rintro n F h
    refine ⟨F, ?_, fun x hx => h x (by omega) hx⟩
    show f_X0_rememberDeal_2 (n + 1) ((T, Dl.2.1, F, Dl.2.2.2)) (nI 5) = _
    rw [f_X0_rememberDeal_2, if_pos (by decide)]
  · rintro n F k hk h
    right
    show ∃ F' : Nat → Int32, (∀ x, x < k + 1 → x < aN a → F' x = kI (aP a x)) ∧ f_X0_rememberDeal_2 (n + 1) ((T, Dl.2.1, F, Dl.2.2.2)) (nI k) = f_X0_rememberDeal_2 n ((T, Dl.2.1, F', Dl.2.2.2)) (nI (k + 1))
    have ok : ∃ v, f_X2_keeperOf T (nI k) = some v ∧ (k < aN a → v = kI (aP a k)) := by
      by_cases c : k < aN a
      · exact ⟨_, x2_keeper hJ (by omega) c, fun _ => rfl⟩
      · refine ⟨-9, ?_, fun q => absurd q c⟩
        unfold f_X2_keeperOf
        rw [x2_out hJ.1 (Or.inr (nI_le (by omega) (by omega))), Option.bind_some, if_pos rfl]
    obtain ⟨v, e, hv⟩ := ok
    refine ⟨upd F k v, fun x h1 h2 => ?_, ?_⟩
    · rw [upd_at]
      by_cases c : x = k
      · rw [if_pos c, hv (by omega), c]
      · rw [if_neg c]; exact h x (by omega) h2
    · rw [f_X0_rememberDeal_2, if_neg (show ¬ (5 : Int32) ≤ nI k from nI_ge hk (by decide)), show f_X2_keeperOf ((T, Dl.2.1, F, Dl.2.2.2)).1 (nI k) = _ from e, Option.bind_some, zIn_t hk (by decide), if_pos rfl, nI_clamp (by omega), nI_1]
theorem m_first114 {M : VX11} {fd D l o : Nat → Int32} {a : AJ} (hM : MR (mT (mK M fd) D l o) a) (h8 : aN a ≤ 8) (h0 : 0 < aN a) (r : VX11 → Int32 → Int32 → Int32 → Int32 → Option (Int32 × VX11)) (b q c : Nat) (hc : c < 2 ^ 30) :
    ∃ fd', f_X11_deals_114 r 4096 (mT (mK M fd) D l o) (nI b) (nI q) (nI c) 0 = f_X11_deals_149 r (mT (mK M fd') D l o) (nI b) (nI q) (nI (c + 1)) ∧ (c = 0 → ∀ x, x < aN a → fd' x = kI (aP a x)) ∧ (c ≠ 0 → fd' = fd) := by
  have hn1 : M.2.2.2.2.2.2.2.2.2.2.1 = nI (aN a) := hM.1
  by_cases hc0 : c = 0
  · subst hc0
    refine loop_up (fun f (fd : Nat → Int32) v5 => f_X11_deals_114 r f (mT (mK M fd) D l o) (nI b) (nI q) (nI 0) v5) (aN a) (fun k fd' => ∀ x, x < k → fd' x = kI (aP a x)) (fun p => ∃ fd', p = f_X11_deals_149 r (mT (mK M fd') D l o) (nI b) (nI q) (nI (0 + 1)) ∧ (0 = 0 → ∀ x, x < aN a → fd' x = kI (aP a x)) ∧ (0 ≠ 0 → fd' = fd)) ?_ ?_ 4096 0 fd (Nat.zero_le _) (fun x h => by omega) (by omega)
    · rintro n fd' h
      refine ⟨fd', ?_, fun _ => h, fun e => absurd rfl e⟩
      show f_X11_deals_114 r (n + 1) (mT (mK M fd') D l o) (nI b) (nI q) (nI 0) (nI (aN a)) = _
      rw [f_X11_deals_114, if_pos (show (mT (mK M fd') D l o).2.2.2.2.2.2.2.2.2.2.1 ≤ nI (aN a) from by show M.2.2.2.2.2.2.2.2.2.2.1 ≤ _; rw [hn1]; exact nI_le (Nat.le_refl _) (by omega)), nI_1]
    · rintro n fd' x hx h
      right
      have hM' : MR (mT (mK M fd') D l o) a := hM.fd
      refine ⟨upd fd' x (kI (aP a x)), fun z hz => ?_, ?_⟩
      · rw [upd_at]
        by_cases e : z = x
        · rw [if_pos e, e]
        · rw [if_neg e]; exact h z (by omega)
      · show f_X11_deals_114 r (n + 1) (mT (mK M fd') D l o) (nI b) (nI q) (nI 0) (nI x) = f_X11_deals_114 r n (mT (mK M (upd fd' x (kI (aP a x)))) D l o) (nI b) (nI q) (nI 0) (nI (x + 1))
        rw [f_X11_deals_114, if_neg (show ¬ (mT (mK M fd') D l o).2.2.2.2.2.2.2.2.2.2.1 ≤ nI x from by show ¬ M.2.2.2.2.2.2.2.2.2.2.1 ≤ _; rw [hn1]; exact nI_ge hx (by omega)), if_pos (show nI 0 = 0 from rfl), m_keeper hM' h8 hx, Option.bind_some, zIn_t (show x < 8 by omega) (by decide), if_pos rfl, nI_clamp (by omega), nI_1]
        exact congrArg (fun Z : VX11 => f_X11_deals_114 r n Z (nI b) (nI q) (nI 0) (nI (x + 1))) (mK_set M fd' D l o x (kI (aP a x)))
  · refine ⟨fd, ?_, fun e => absurd e hc0, fun _ => rfl⟩
    show f_X11_deals_114 r (4095 + 1) (mT (mK M fd) D l o) (nI b) (nI q) (nI c) 0 = _
    rw [f_X11_deals_114, if_neg (show ¬ (mT (mK M fd) D l o).2.2.2.2.2.2.2.2.2.2.1 ≤ 0 from by show ¬ M.2.2.2.2.2.2.2.2.2.2.1 ≤ 0; rw [hn1]; exact nI_nle h0 (by omega)), if_neg (nI_ne0 (by omega) (by omega)), nI_1]
