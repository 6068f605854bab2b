/-! deals: the step -/
def mW (N : VX11) (s R : Nat → Int32) : VX11 := (N.1, N.2.1, N.2.2.1, N.2.2.2.1, N.2.2.2.2.1, s, R, N.2.2.2.2.2.2.2.1, N.2.2.2.2.2.2.2.2.1, N.2.2.2.2.2.2.2.2.2.1, N.2.2.2.2.2.2.2.2.2.2.1, N.2.2.2.2.2.2.2.2.2.2.2.1, N.2.2.2.2.2.2.2.2.2.2.2.2.1, N.2.2.2.2.2.2.2.2.2.2.2.2.2.1, N.2.2.2.2.2.2.2.2.2.2.2.2.2.2.1, N.2.2.2.2.2.2.2.2.2.2.2.2.2.2.2.1, N.2.2.2.2.2.2.2.2.2.2.2.2.2.2.2.2.1, N.2.2.2.2.2.2.2.2.2.2.2.2.2.2.2.2.2.1, N.2.2.2.2.2.2.2.2.2.2.2.2.2.2.2.2.2.2.1, N.2.2.2.2.2.2.2.2.2.2.2.2.2.2.2.2.2.2.2.1, N.2.2.2.2.2.2.2.2.2.2.2.2.2.2.2.2.2.2.2.2.1, N.2.2.2.2.2.2.2.2.2.2.2.2.2.2.2.2.2.2.2.2.2.1, N.2.2.2.2.2.2.2.2.2.2.2.2.2.2.2.2.2.2.2.2.2.2.1, N.2.2.2.2.2.2.2.2.2.2.2.2.2.2.2.2.2.2.2.2.2.2.2.1, N.2.2.2.2.2.2.2.2.2.2.2.2.2.2.2.2.2.2.2.2.2.2.2.2.1, N.2.2.2.2.2.2.2.2.2.2.2.2.2.2.2.2.2.2.2.2.2.2.2.2.2.1, N.2.2.2.2.2.2.2.2.2.2.2.2.2.2.2.2.2.2.2.2.2.2.2.2.2.2.1, N.2.2.2.2.2.2.2.2.2.2.2.2.2.2.2.2.2.2.2.2.2.2.2.2.2.2.2.1, N.2.2.2.2.2.2.2.2.2.2.2.2.2.2.2.2.2.2.2.2.2.2.2.2.2.2.2.2.1, N.2.2.2.2.2.2.2.2.2.2.2.2.2.2.2.2.2.2.2.2.2.2.2.2.2.2.2.2.2.1, N.2.2.2.2.2.2.2.2.2.2.2.2.2.2.2.2.2.2.2.2.2.2.2.2.2.2.2.2.2.2)
theorem mW_id (N : VX11) (s : Nat → Int32) : (N.1, N.2.1, N.2.2.1, N.2.2.2.1, N.2.2.2.2.1, s, N.2.2.2.2.2.2.1, N.2.2.2.2.2.2.2.1, N.2.2.2.2.2.2.2.2.1, N.2.2.2.2.2.2.2.2.2.1, N.2.2.2.2.2.2.2.2.2.2.1, N.2.2.2.2.2.2.2.2.2.2.2.1, N.2.2.2.2.2.2.2.2.2.2.2.2.1, N.2.2.2.2.2.2.2.2.2.2.2.2.2.1, N.2.2.2.2.2.2.2.2.2.2.2.2.2.2.1, N.2.2.2.2.2.2.2.2.2.2.2.2.2.2.2.1, N.2.2.2.2.2.2.2.2.2.2.2.2.2.2.2.2.1, N.2.2.2.2.2.2.2.2.2.2.2.2.2.2.2.2.2.1, N.2.2.2.2.2.2.2.2.2.2.2.2.2.2.2.2.2.2.1, N.2.2.2.2.2.2.2.2.2.2.2.2.2.2.2.2.2.2.2.1, N.2.2.2.2.2.2.2.2.2.2.2.2.2.2.2.2.2.2.2.2.1, N.2.2.2.2.2.2.2.2.2.2.2.2.2.2.2.2.2.2.2.2.2.1, N.2.2.2.2.2.2.2.2.2.2.2.2.2.2.2.2.2.2.2.2.2.2.1, N.2.2.2.2.2.2.2.2.2.2.2.2.2.2.2.2.2.2.2.2.2.2.2.1, N.2.2.2.2.2.2.2.2.2.2.2.2.2.2.2.2.2.2.2.2.2.2.2.2.1, N.2.2.2.2.2.2.2.2.2.2.2.2.2.2.2.2.2.2.2.2.2.2.2.2.2.1, N.2.2.2.2.2.2.2.2.2.2.2.2.2.2.2.2.2.2.2.2.2.2.2.2.2.2.1, N.2.2.2.2.2.2.2.2.2.2.2.2.2.2.2.2.2.2.2.2.2.2.2.2.2.2.2.1, N.2.2.2.2.2.2.2.2.2.2.2.2.2.2.2.2.2.2.2.2.2.2.2.2.2.2.2.2.1, N.2.2.2.2.2.2.2.2.2.2.2.2.2.2.2.2.2.2.2.2.2.2.2.2.2.2.2.2.2.1, N.2.2.2.2.2.2.2.2.2.2.2.2.2.2.2.2.2.2.2.2.2.2.2.2.2.2.2.2.2.2) = mW N s N.2.2.2.2.2.2.1 := rfl
theorem mW_set (N : VX11) (s R : Nat → Int32) (i : Nat) (v : Int32) : ((mW N s R).1, (mW N s R).2.1, (mW N s R).2.2.1, (mW N s R).2.2.2.1, (mW N s R).2.2.2.2.1, (mW N s R).2.2.2.2.2.1, upd (mW N s R).2.2.2.2.2.2.1 i v, (mW N s R).2.2.2.2.2.2.2.1, (mW N s R).2.2.2.2.2.2.2.2.1, (mW N s R).2.2.2.2.2.2.2.2.2.1, (mW N s R).2.2.2.2.2.2.2.2.2.2.1, (mW N s R).2.2.2.2.2.2.2.2.2.2.2.1, (mW N s R).2.2.2.2.2.2.2.2.2.2.2.2.1, (mW N s R).2.2.2.2.2.2.2.2.2.2.2.2.2.1, (mW N s R).2.2.2.2.2.2.2.2.2.2.2.2.2.2.1, (mW N s R).2.2.2.2.2.2.2.2.2.2.2.2.2.2.2.1, (mW N s R).2.2.2.2.2.2.2.2.2.2.2.2.2.2.2.2.1, (mW N s R).2.2.2.2.2.2.2.2.2.2.2.2.2.2.2.2.2.1, (mW N s R).2.2.2.2.2.2.2.2.2.2.2.2.2.2.2.2.2.2.1, (mW N s R).2.2.2.2.2.2.2.2.2.2.2.2.2.2.2.2.2.2.2.1, (mW N s R).2.2.2.2.2.2.2.2.2.2.2.2.2.2.2.2.2.2.2.2.1, (mW N s R).2.2.2.2.2.2.2.2.2.2.2.2.2.2.2.2.2.2.2.2.2.1, (mW N s R).2.2.2.2.2.2.2.2.2.2.2.2.2.2.2.2.2.2.2.2.2.2.1, (mW N s R).2.2.2.2.2.2.2.2.2.2.2.2.2.2.2.2.2.2.2.2.2.2.2.1, (mW N s R).2.2.2.2.2.2.2.2.2.2.2.2.2.2.2.2.2.2.2.2.2.2.2.2.1, (mW N s R).2.2.2.2.2.2.2.2.2.2.2.2.2.2.2.2.2.2.2.2.2.2.2.2.2.1, (mW N s R).2.2.2.2.2.2.2.2.2.2.2.2.2.2.2.2.2.2.2.2.2.2.2.2.2.2.1, (mW N s R).2.2.2.2.2.2.2.2.2.2.2.2.2.2.2.2.2.2.2.2.2.2.2.2.2.2.2.1, (mW N s R).2.2.2.2.2.2.2.2.2.2.2.2.2.2.2.2.2.2.2.2.2.2.2.2.2.2.2.2.1, (mW N s R).2.2.2.2.2.2.2.2.2.2.2.2.2.2.2.2.2.2.2.2.2.2.2.2.2.2.2.2.2.1, (mW N s R).2.2.2.2.2.2.2.2.2.2.2.2.2.2.2.2.2.2.2.2.2.2.2.2.2.2.2.2.2.2) = mW N s (upd R i v) := rfl
theorem m_211 (N : VX11) {n q : Nat} (hn1 : N.2.2.2.2.2.2.2.2.2.2.1 = nI n) (hn : n ≤ 8) (hq : q < 6) (s : Nat → Int32) (v3 : Int32) : ∃ Q, f_X11_deals_211 4096 ((N.1, N.2.1, N.2.2.1, N.2.2.2.1, N.2.2.2.2.1, s, N.2.2.2.2.2.2.1, N.2.2.2.2.2.2.2.1, N.2.2.2.2.2.2.2.2.1, N.2.2.2.2.2.2.2.2.2.1, N.2.2.2.2.2.2.2.2.2.2.1, N.2.2.2.2.2.2.2.2.2.2.2.1, N.2.2.2.2.2.2.2.2.2.2.2.2.1, N.2.2.2.2.2.2.2.2.2.2.2.2.2.1, N.2.2.2.2.2.2.2.2.2.2.2.2.2.2.1, N.2.2.2.2.2.2.2.2.2.2.2.2.2.2.2.1, N.2.2.2.2.2.2.2.2.2.2.2.2.2.2.2.2.1, N.2.2.2.2.2.2.2.2.2.2.2.2.2.2.2.2.2.1, N.2.2.2.2.2.2.2.2.2.2.2.2.2.2.2.2.2.2.1, N.2.2.2.2.2.2.2.2.2.2.2.2.2.2.2.2.2.2.2.1, N.2.2.2.2.2.2.2.2.2.2.2.2.2.2.2.2.2.2.2.2.1, N.2.2.2.2.2.2.2.2.2.2.2.2.2.2.2.2.2.2.2.2.2.1, N.2.2.2.2.2.2.2.2.2.2.2.2.2.2.2.2.2.2.2.2.2.2.1, N.2.2.2.2.2.2.2.2.2.2.2.2.2.2.2.2.2.2.2.2.2.2.2.1, N.2.2.2.2.2.2.2.2.2.2.2.2.2.2.2.2.2.2.2.2.2.2.2.2.1, N.2.2.2.2.2.2.2.2.2.2.2.2.2.2.2.2.2.2.2.2.2.2.2.2.2.1, N.2.2.2.2.2.2.2.2.2.2.2.2.2.2.2.2.2.2.2.2.2.2.2.2.2.2.1, N.2.2.2.2.2.2.2.2.2.2.2.2.2.2.2.2.2.2.2.2.2.2.2.2.2.2.2.1, N.2.2.2.2.2.2.2.2.2.2.2.2.2.2.2.2.2.2.2.2.2.2.2.2.2.2.2.2.1, N.2.2.2.2.2.2.2.2.2.2.2.2.2.2.2.2.2.2.2.2.2.2.2.2.2.2.2.2.2.1, N.2.2.2.2.2.2.2.2.2.2.2.2.2.2.2.2.2.2.2.2.2.2.2.2.2.2.2.2.2.2)) (nI q) v3 0 = some (v3, mW N s Q) ∧ (∀ i, i < n → Q (60 * q + i) = N.2.2.2.2.2.2.2.2.2.2.2.2.2.2.2.2.2.2.2.2.2.2.2.2.2.2.1 i) ∧ ∀ j, (j < 60 * q ∨ 60 * q + 60 ≤ j) → Q j = N.2.2.2.2.2.2.1 j := by
  rw [show f_X11_deals_211 4096 ((N.1, N.2.1, N.2.2.1, N.2.2.2.1, N.2.2.2.2.1, s, N.2.2.2.2.2.2.1, N.2.2.2.2.2.2.2.1, N.2.2.2.2.2.2.2.2.1, N.2.2.2.2.2.2.2.2.2.1, N.2.2.2.2.2.2.2.2.2.2.1, N.2.2.2.2.2.2.2.2.2.2.2.1, N.2.2.2.2.2.2.2.2.2.2.2.2.1, N.2.2.2.2.2.2.2.2.2.2.2.2.2.1, N.2.2.2.2.2.2.2.2.2.2.2.2.2.2.1, N.2.2.2.2.2.2.2.2.2.2.2.2.2.2.2.1, N.2.2.2.2.2.2.2.2.2.2.2.2.2.2.2.2.1, N.2.2.2.2.2.2.2.2.2.2.2.2.2.2.2.2.2.1, N.2.2.2.2.2.2.2.2.2.2.2.2.2.2.2.2.2.2.1, N.2.2.2.2.2.2.2.2.2.2.2.2.2.2.2.2.2.2.2.1, N.2.2.2.2.2.2.2.2.2.2.2.2.2.2.2.2.2.2.2.2.1, N.2.2.2.2.2.2.2.2.2.2.2.2.2.2.2.2.2.2.2.2.2.1, N.2.2.2.2.2.2.2.2.2.2.2.2.2.2.2.2.2.2.2.2.2.2.1, N.2.2.2.2.2.2.2.2.2.2.2.2.2.2.2.2.2.2.2.2.2.2.2.1, N.2.2.2.2.2.2.2.2.2.2.2.2.2.2.2.2.2.2.2.2.2.2.2.2.1, N.2.2.2.2.2.2.2.2.2.2.2.2.2.2.2.2.2.2.2.2.2.2.2.2.2.1, N.2.2.2.2.2.2.2.2.2.2.2.2.2.2.2.2.2.2.2.2.2.2.2.2.2.2.1, N.2.2.2.2.2.2.2.2.2.2.2.2.2.2.2.2.2.2.2.2.2.2.2.2.2.2.2.1, N.2.2.2.2.2.2.2.2.2.2.2.2.2.2.2.2.2.2.2.2.2.2.2.2.2.2.2.2.1, N.2.2.2.2.2.2.2.2.2.2.2.2.2.2.2.2.2.2.2.2.2.2.2.2.2.2.2.2.2.1, N.2.2.2.2.2.2.2.2.2.2.2.2.2.2.2.2.2.2.2.2.2.2.2.2.2.2.2.2.2.2)) (nI q) v3 0 = f_X11_deals_211 4096 (mW N s N.2.2.2.2.2.2.1) (nI q) v3 0 from congrArg (fun Z : VX11 => f_X11_deals_211 4096 Z (nI q) v3 0) (mW_id N s)]
  generalize N.2.2.2.2.2.2.1 = R0
  refine loop_up (fun f (R : Nat → Int32) v5 => f_X11_deals_211 f (mW N s R) (nI q) v3 v5) 60 (fun k R => (∀ i, i < k → i < n → R (60 * q + i) = N.2.2.2.2.2.2.2.2.2.2.2.2.2.2.2.2.2.2.2.2.2.2.2.2.2.2.1 i) ∧ ∀ j, (j < 60 * q ∨ 60 * q + 60 ≤ j) → R j = R0 j) (fun p => ∃ Q, p = some (v3, mW N s Q) ∧ (∀ i, i < n → Q (60 * q + i) = N.2.2.2.2.2.2.2.2.2.2.2.2.2.2.2.2.2.2.2.2.2.2.2.2.2.2.1 i) ∧ ∀ j, (j < 60 * q ∨ 60 * q + 60 ≤ j) → Q j = R0 j) ?_ ?_ 4096 0 R0 (Nat.zero_le _) ⟨fun i h => by omega, fun j _ => rfl⟩ (by omega)
  · rintro f R ⟨h1, h2⟩
    refine ⟨R, ?_, fun i hi => h1 i (by omega) hi, h2⟩
    show f_X11_deals_211 (f + 1) (mW N s R) (nI q) v3 (nI 60) = _
    rw [f_X11_deals_211, if_pos (by decide)]
  · rintro f R k hk ⟨h1, h2⟩
    right
    have h1 : ∀ i, i < k → i < n → R (60 * q + i) = N.2.2.2.2.2.2.2.2.2.2.2.2.2.2.2.2.2.2.2.2.2.2.2.2.2.2.1 i := h1
    have h2 : ∀ j, (j < 60 * q ∨ 60 * q + 60 ≤ j) → R j = R0 j := h2
    show ∃ R' : Nat → Int32, _ ∧ f_X11_deals_211 (f + 1) (mW N s R) (nI q) v3 (nI k) = f_X11_deals_211 f (mW N s R') (nI q) v3 (nI (k + 1))
    by_cases c : k < n
    · refine ⟨upd R (60 * q + k) (N.2.2.2.2.2.2.2.2.2.2.2.2.2.2.2.2.2.2.2.2.2.2.2.2.2.2.1 k), ⟨fun i hi hn => ?_, fun j hj => ?_⟩, ?_⟩
      · show upd R (60 * q + k) (N.2.2.2.2.2.2.2.2.2.2.2.2.2.2.2.2.2.2.2.2.2.2.2.2.2.2.1 k) (60 * q + i) = _
        rw [upd_at]
        by_cases e : i = k
        · rw [if_pos (by omega), e]
        · rw [if_neg (by omega)]; exact h1 i (by omega) hn
      · show upd R (60 * q + k) (N.2.2.2.2.2.2.2.2.2.2.2.2.2.2.2.2.2.2.2.2.2.2.2.2.2.2.1 k) j = _
        rw [upd_at, if_neg (by omega)]; exact h2 j hj
      · rw [f_X11_deals_211, if_neg (show ¬ (60 : Int32) ≤ nI k from nI_ge hk (by decide)), if_neg (show ¬ (mW N s R).2.2.2.2.2.2.2.2.2.2.1 ≤ nI k from by show ¬ N.2.2.2.2.2.2.2.2.2.2.1 ≤ _; rw [hn1]; exact nI_ge c (by omega)), zIn_t (show k < 8 by omega) (by decide), if_pos rfl, show (60 : Int32) * nI q = nI (60 * q) from pk_mul 60 q, nI_add, zIn_t (show 60 * q + k < 360 by omega) (by decide), if_pos rfl, nI_clamp (by omega), nI_clamp (by omega), nI_1]
        exact congrArg (fun Z : VX11 => f_X11_deals_211 f Z (nI q) v3 (nI (k + 1))) (mW_set N s R (60 * q + k) (N.2.2.2.2.2.2.2.2.2.2.2.2.2.2.2.2.2.2.2.2.2.2.2.2.2.2.1 k))
    · refine ⟨upd R (60 * q + k) 0, ⟨fun i hi hn => ?_, fun j hj => ?_⟩, ?_⟩
      · show upd R (60 * q + k) 0 (60 * q + i) = _
        rw [upd_at, if_neg (by omega)]; exact h1 i (by omega) hn
      · show upd R (60 * q + k) 0 j = _
        rw [upd_at, if_neg (by omega)]; exact h2 j hj
      · rw [f_X11_deals_211, if_neg (show ¬ (60 : Int32) ≤ nI k from nI_ge hk (by decide)), if_pos (show (mW N s R).2.2.2.2.2.2.2.2.2.2.1 ≤ nI k from by show N.2.2.2.2.2.2.2.2.2.2.1 ≤ _; rw [hn1]; exact nI_le (by omega) (by omega)), show (60 : Int32) * nI q = nI (60 * q) from pk_mul 60 q, nI_add, zIn_t (show 60 * q + k < 360 by omega) (by decide), if_pos rfl, nI_clamp (by omega), nI_1]
        exact congrArg (fun Z : VX11 => f_X11_deals_211 f Z (nI q) v3 (nI (k + 1))) (mW_set N s R (60 * q + k) 0)
theorem x0_dealAll {a : AJ} (hV : AV a) (h5 : aN a ≤ 5) (Dl : VX0) {P : VX2} (hP : JR P a) (v2 : Int32) : ∃ T, f_X0_dealAll Dl P v2 = f_X0_dealAll_50 4096 ((T, Dl.2.1, Dl.2.2.1, Dl.2.2.2)) P v2 (nI (aN a)) (nI (aN a ^ aN a)) 0 0 ∧ JR T a := by
  unfold f_X0_dealAll
  obtain ⟨T, e1, j1⟩ := x2_become Dl.1 hP hV
  rw [show f_X2_cells P = some (nI (aN a)) from congrArg some hP.1, Option.bind_some, if_pos (show nI (aN a) ≤ (5 : Int32) from nI_le h5 (by decide)), e1, Option.bind_some]
  refine ⟨T, ?_, j1⟩
  refine loop_up (fun f (w : Int32) v5 => f_X0_dealAll_26 f ((T, Dl.2.1, Dl.2.2.1, Dl.2.2.2)) P v2 (nI (aN a)) w v5) (aN a) (fun k w => w = nI (aN a ^ k)) (fun p => p = f_X0_dealAll_50 4096 ((T, Dl.2.1, Dl.2.2.1, Dl.2.2.2)) P v2 (nI (aN a)) (nI (aN a ^ aN a)) 0 0) ?_ ?_ 4096 0 1 (Nat.zero_le _) rfl (by omega)
  · rintro f w hw
    show f_X0_dealAll_26 (f + 1) ((T, Dl.2.1, Dl.2.2.1, Dl.2.2.2)) P v2 (nI (aN a)) w (nI (aN a)) = _
    rw [f_X0_dealAll_26, if_pos (nI_le (Nat.le_refl _) (by omega)), hw]
  · rintro f w k hk hw
    right
    refine ⟨nI (aN a ^ (k + 1)), rfl, ?_⟩
    show f_X0_dealAll_26 (f + 1) ((T, Dl.2.1, Dl.2.2.1, Dl.2.2.2)) P v2 (nI (aN a)) w (nI k) = _
    rw [f_X0_dealAll_26, if_neg (nI_ge hk (by omega)), hw, pk_mul, ← Nat.pow_succ, nI_1]
def Rest (N M : VX11) : Prop := (N.2.1 = M.2.1 ∧ N.2.2.1 = M.2.2.1 ∧ N.2.2.2.1 = M.2.2.2.1 ∧ N.2.2.2.2.1 = M.2.2.2.2.1 ∧ N.1 = M.1) ∧ (N.2.2.2.2.2.1 = M.2.2.2.2.2.1 ∧ N.2.2.2.2.2.2.1 = M.2.2.2.2.2.2.1) ∧ (N.2.2.2.2.2.2.2.2.1 = M.2.2.2.2.2.2.2.2.1 ∧ N.2.2.2.2.2.2.2.2.2.1 = M.2.2.2.2.2.2.2.2.2.1) ∧ (N.2.2.2.2.2.2.2.2.2.2.2.2.2.2.2.2.2.2.1 = M.2.2.2.2.2.2.2.2.2.2.2.2.2.2.2.2.2.2.1 ∧ N.2.2.2.2.2.2.2.2.2.2.2.2.2.2.2.2.2.2.2.1 = M.2.2.2.2.2.2.2.2.2.2.2.2.2.2.2.2.2.2.2.1 ∧ N.2.2.2.2.2.2.2.2.2.2.2.2.2.2.2.2.2.2.2.2.1 = M.2.2.2.2.2.2.2.2.2.2.2.2.2.2.2.2.2.2.2.2.1 ∧ N.2.2.2.2.2.2.2.2.2.2.2.2.2.2.2.2.2.2.2.2.2.1 = M.2.2.2.2.2.2.2.2.2.2.2.2.2.2.2.2.2.2.2.2.2.1) ∧ N.2.2.2.2.2.2.2.2.2.2.2.2.2.2.2.2.2.2.2.2.2.2.2.2.2.2.2.1 = M.2.2.2.2.2.2.2.2.2.2.2.2.2.2.2.2.2.2.2.2.2.2.2.2.2.2.2.1 ∧ N.2.2.2.2.2.2.2.2.2.2.2.2.2.2.2.2.2.2.2.2.2.2.2.2.2.2.2.2.1 = M.2.2.2.2.2.2.2.2.2.2.2.2.2.2.2.2.2.2.2.2.2.2.2.2.2.2.2.2.1 ∧ N.2.2.2.2.2.2.2.2.2.2.2.2.2.2.2.2.2.2.2.2.2.2.2.2.2.2.2.2.2.1 = M.2.2.2.2.2.2.2.2.2.2.2.2.2.2.2.2.2.2.2.2.2.2.2.2.2.2.2.2.2.1
theorem Rest.mT (M : VX11) (kk fd D l o : Nat → Int32) : Rest (mT (mK (mQ M kk) fd) D l o) M := ⟨⟨rfl, rfl, rfl, rfl, rfl⟩, ⟨rfl, rfl⟩, ⟨rfl, rfl⟩, ⟨rfl, rfl, rfl, rfl⟩, rfl, rfl, rfl⟩
theorem deals_main {S : VX10} {M : VX11} {a : AJ} (hV : AV a) (hJ : JR S.2.2.2.2.1 a) (hM : MR M a) (h2 : 2 ≤ aN a) (h5 : aN a ≤ 5) {b q : Nat} (hb : b ≤ 8) (hq : q < 6) :
    ∃ (Dl' : VX0) (N : VX11) (c : Nat), c < 2 ^ 20 ∧ Rest N M ∧ MR N a ∧ (c ≠ 0 → ∀ x, x < aN a → Dl'.2.2.1 x = N.2.2.2.2.2.2.2.2.2.2.2.2.2.2.2.2.2.2.2.2.2.2.2.2.2.2.1 x) ∧ f_X0_dealAll S.2.2.2.2.2.2.2.2.1 S.2.2.2.2.1 (nI b) = some (nI c, Dl') ∧
      f_X11_deals_39 4096 M (nI b) (nI q) 0 = if nI c ≤ 0 then some (nI c, N) else f_X11_deals_211 4096 ((N.1, N.2.1, N.2.2.1, N.2.2.2.1, N.2.2.2.2.1, upd N.2.2.2.2.2.1 q N.2.2.2.2.2.2.2.2.2.2.1, N.2.2.2.2.2.2.1, N.2.2.2.2.2.2.2.1, N.2.2.2.2.2.2.2.2.1, N.2.2.2.2.2.2.2.2.2.1, N.2.2.2.2.2.2.2.2.2.2.1, N.2.2.2.2.2.2.2.2.2.2.2.1, N.2.2.2.2.2.2.2.2.2.2.2.2.1, N.2.2.2.2.2.2.2.2.2.2.2.2.2.1, N.2.2.2.2.2.2.2.2.2.2.2.2.2.2.1, N.2.2.2.2.2.2.2.2.2.2.2.2.2.2.2.1, N.2.2.2.2.2.2.2.2.2.2.2.2.2.2.2.2.1, N.2.2.2.2.2.2.2.2.2.2.2.2.2.2.2.2.2.1, N.2.2.2.2.2.2.2.2.2.2.2.2.2.2.2.2.2.2.1, N.2.2.2.2.2.2.2.2.2.2.2.2.2.2.2.2.2.2.2.1, N.2.2.2.2.2.2.2.2.2.2.2.2.2.2.2.2.2.2.2.2.1, N.2.2.2.2.2.2.2.2.2.2.2.2.2.2.2.2.2.2.2.2.2.1, N.2.2.2.2.2.2.2.2.2.2.2.2.2.2.2.2.2.2.2.2.2.2.1, N.2.2.2.2.2.2.2.2.2.2.2.2.2.2.2.2.2.2.2.2.2.2.2.1, N.2.2.2.2.2.2.2.2.2.2.2.2.2.2.2.2.2.2.2.2.2.2.2.2.1, N.2.2.2.2.2.2.2.2.2.2.2.2.2.2.2.2.2.2.2.2.2.2.2.2.2.1, N.2.2.2.2.2.2.2.2.2.2.2.2.2.2.2.2.2.2.2.2.2.2.2.2.2.2.1, N.2.2.2.2.2.2.2.2.2.2.2.2.2.2.2.2.2.2.2.2.2.2.2.2.2.2.2.1, N.2.2.2.2.2.2.2.2.2.2.2.2.2.2.2.2.2.2.2.2.2.2.2.2.2.2.2.2.1, N.2.2.2.2.2.2.2.2.2.2.2.2.2.2.2.2.2.2.2.2.2.2.2.2.2.2.2.2.2.1, N.2.2.2.2.2.2.2.2.2.2.2.2.2.2.2.2.2.2.2.2.2.2.2.2.2.2.2.2.2.2)) (nI q) (nI c) 0 := by
  have h0 : 0 < aN a := by omega
  have hN : aN a ^ aN a ≤ 3125 := pow_le5 h5 _ (Nat.le_refl _)
  have hlt := lo_lt hV h0 _ (Nat.le_refl (aN a))
  obtain ⟨T, e1, j1⟩ := x0_dealAll hV h5 S.2.2.2.2.2.2.2.2.1 hJ (nI b)
  obtain ⟨kk, D1, e2, hk, m1⟩ := m_39 hV h2 hM (nI b) (nI q)
  obtain ⟨f, hf⟩ : ∃ f, 4096 = f + lo a (aN a) := ⟨4096 - lo a (aN a), by omega⟩
  obtain ⟨Dl2, e3, d3, t3⟩ := x0_skip h2 h5 S.2.2.2.2.1 b (aN a ^ aN a) (by omega) 0 (lo a (aN a)) 0 f ((T, S.2.2.2.2.2.2.2.2.1.2.1, S.2.2.2.2.2.2.2.2.1.2.2.1, S.2.2.2.2.2.2.2.2.1.2.2.2)) (by omega) (fun j h1 h2 hv => by
    have := lo_le hV h0 hv _ (Nat.le_refl (aN a))
    rw [Nat.mod_eq_of_lt (by omega)] at this
    omega) ⟨a, hV, j1, ⟨rfl, rfl, rfl, rfl, rfl⟩⟩
  obtain ⟨Dl', fd, D2, l, o, c, hc, ⟨a', hV', hs', hM'⟩, hF, e4, e5⟩ := deal_run (M := mQ M kk) hV h2 h5 S.2.2.2.2.1 (b := b) (q := q) hb _ (lo a (aN a)) (Nat.le_refl _) hlt (lo_val hV h0) f 4096 0 Dl2 (mQ M kk).2.2.2.2.2.2.2.2.2.2.2.2.2.2.2.2.2.2.2.2.2.2.2.2.2.2.1 D1 M.2.2.2.2.2.2.2.2.2.2.2.2.2.2.2.2.2.2.2.2.2.2.1 M.2.2.2.2.2.2.2.2.2.2.2.2.2.2.2.2.2.2.2.2.2.2.2.1 (Nat.zero_le _) (by omega) (by omega) t3 (MR.kf m1) (fun h => absurd rfl h)
  obtain ⟨D3, m3, e6⟩ := m_161 hV hs' hM' hk hq (nI c)
  refine ⟨Dl', mT (mK (mQ M kk) fd) D3 l o, c, hc, Rest.mT M kk fd D3 l o, m3, hF, ?_, ?_⟩
  · rw [e1, hf]
    exact (e3.trans (by rw [Nat.zero_add])).trans e4
  · rw [e2]
    refine Eq.trans (congrArg (fun Z : VX11 => f_X11_deals_98 4096 Z (nI b) (nI q) 0 1) (mK_id (mQ M kk) D1 M.2.2.2.2.2.2.2.2.2.2.2.2.2.2.2.2.2.2.2.2.2.2.1 M.2.2.2.2.2.2.2.2.2.2.2.2.2.2.2.2.2.2.2.2.2.2.2.1)) (e5.trans e6)
theorem rr_told.of {T : VX9} {M N : VX11} (h : rr_told T M) (e1 : N.2.1 = M.2.1) (e2 : N.2.2.1 = M.2.2.1) (e3 : N.2.2.2.1 = M.2.2.2.1) (e4 : N.2.2.2.2.1 = M.2.2.2.2.1) (e5 : N.1 = M.1) : rr_told T N := by
  unfold rr_told at *
  rw [e1, e2, e3, e4, e5]; exact h
theorem rr_rows.of {R : VX6} {M N : VX11} (h : rr_rows R M) (e1 : N.2.2.2.2.2.1 = M.2.2.2.2.2.1) (e2 : N.2.2.2.2.2.2.1 = M.2.2.2.2.2.2.1) : rr_rows R N := by
  unfold rr_rows at *
  rw [e1, e2]; exact h
theorem rr_texts.of {R : VX8} {M N : VX11} (h : rr_texts R M) (e1 : N.2.2.2.2.2.2.2.2.1 = M.2.2.2.2.2.2.2.2.1) (e2 : N.2.2.2.2.2.2.2.2.2.1 = M.2.2.2.2.2.2.2.2.2.1) : rr_texts R N := by
  unfold rr_texts at *
  rw [e1, e2]; exact h
theorem rr_even.of {E : VX1} {M N : VX11} {n : Nat} (h : rr_even E M n) (e1 : N.2.2.2.2.2.2.2.2.2.2.2.2.2.2.2.2.2.2.1 = M.2.2.2.2.2.2.2.2.2.2.2.2.2.2.2.2.2.2.1) (e2 : N.2.2.2.2.2.2.2.2.2.2.2.2.2.2.2.2.2.2.2.1 = M.2.2.2.2.2.2.2.2.2.2.2.2.2.2.2.2.2.2.2.1) (e3 : N.2.2.2.2.2.2.2.2.2.2.2.2.2.2.2.2.2.2.2.2.1 = M.2.2.2.2.2.2.2.2.2.2.2.2.2.2.2.2.2.2.2.2.1) (e4 : N.2.2.2.2.2.2.2.2.2.2.2.2.2.2.2.2.2.2.2.2.2.1 = M.2.2.2.2.2.2.2.2.2.2.2.2.2.2.2.2.2.2.2.2.2.1) : rr_even E N n := by
  unfold rr_even at *
  rw [e1, e2, e3, e4]; exact h
theorem rr_seen.of {Z : VX7} {M N : VX11} {n : Nat} (h : rr_seen Z M n) (e1 : N.2.2.2.2.2.2.2.2.2.2.2.2.2.2.2.2.2.2.2.2.2.2.2.2.2.2.2.1 = M.2.2.2.2.2.2.2.2.2.2.2.2.2.2.2.2.2.2.2.2.2.2.2.2.2.2.2.1) (e2 : N.2.2.2.2.2.2.2.2.2.2.2.2.2.2.2.2.2.2.2.2.2.2.2.2.2.2.2.2.1 = M.2.2.2.2.2.2.2.2.2.2.2.2.2.2.2.2.2.2.2.2.2.2.2.2.2.2.2.2.1) (e3 : N.2.2.2.2.2.2.2.2.2.2.2.2.2.2.2.2.2.2.2.2.2.2.2.2.2.2.2.2.2.1 = M.2.2.2.2.2.2.2.2.2.2.2.2.2.2.2.2.2.2.2.2.2.2.2.2.2.2.2.2.2.1) : rr_seen Z N n := by
  unfold rr_seen at *
  rw [e1, e2, e3]; exact h
theorem x10_83 {S : VX10} {a : AJ} (hJ : JR S.2.2.2.2.1 a) (hn : aN a ≤ 8) (h5 : aN a ≤ 5) {q : Nat} (hq : q < 6) (Dl' : VX0) (r : Int32) {P : Nat → Nat → Int32} (p3 : ∀ j, j ≠ q → P j = S.2.1.1 j) : ∃ P', f_X10_deals_83 4096 ((S.1, (P, upd S.2.1.2 q (nI (aN a))), S.2.2.1, S.2.2.2.1, S.2.2.2.2.1, S.2.2.2.2.2.1, S.2.2.2.2.2.2.1, S.2.2.2.2.2.2.2.1, Dl', S.2.2.2.2.2.2.2.2.2)) (nI q) r 0 = some (r, (S.1, (P', upd S.2.1.2 q (nI (aN a))), S.2.2.1, S.2.2.2.1, S.2.2.2.2.1, S.2.2.2.2.2.1, S.2.2.2.2.2.2.1, S.2.2.2.2.2.2.2.1, Dl', S.2.2.2.2.2.2.2.2.2)) ∧ (∀ i, i < aN a → P' q i = Dl'.2.2.1 i) ∧ ∀ j, j ≠ q → P' j = S.2.1.1 j := by
  refine loop_up (fun f (P : Nat → Nat → Int32) v4 => f_X10_deals_83 f ((S.1, (P, upd S.2.1.2 q (nI (aN a))), S.2.2.1, S.2.2.2.1, S.2.2.2.2.1, S.2.2.2.2.2.1, S.2.2.2.2.2.2.1, S.2.2.2.2.2.2.2.1, Dl', S.2.2.2.2.2.2.2.2.2)) (nI q) r v4) (aN a) (fun k P => (∀ i, i < k → P q i = Dl'.2.2.1 i) ∧ ∀ j, j ≠ q → P j = S.2.1.1 j) (fun p => ∃ P', p = some (r, (S.1, (P', upd S.2.1.2 q (nI (aN a))), S.2.2.1, S.2.2.2.1, S.2.2.2.2.1, S.2.2.2.2.2.1, S.2.2.2.2.2.2.1, S.2.2.2.2.2.2.2.1, Dl', S.2.2.2.2.2.2.2.2.2)) ∧ (∀ i, i < aN a → P' q i = Dl'.2.2.1 i) ∧ ∀ j, j ≠ q → P' j = S.2.1.1 j) ?_ ?_ 4096 0 P (Nat.zero_le _) ⟨fun i h => by omega, p3⟩ (by omega)
  · rintro f P ⟨h1, h2⟩
    refine ⟨P, ?_, h1, h2⟩
    show f_X10_deals_83 (f + 1) ((S.1, (P, upd S.2.1.2 q (nI (aN a))), S.2.2.1, S.2.2.2.1, S.2.2.2.2.1, S.2.2.2.2.2.1, S.2.2.2.2.2.2.1, S.2.2.2.2.2.2.2.1, Dl', S.2.2.2.2.2.2.2.2.2)) (nI q) r (nI (aN a)) = _
    rw [f_X10_deals_83, show f_X2_cells ((S.1, (P, upd S.2.1.2 q (nI (aN a))), S.2.2.1, S.2.2.2.1, S.2.2.2.2.1, S.2.2.2.2.2.1, S.2.2.2.2.2.2.1, S.2.2.2.2.2.2.2.1, Dl', S.2.2.2.2.2.2.2.2.2)).2.2.2.2.1 = some (nI (aN a)) from congrArg some hJ.1, Option.bind_some, if_pos (nI_le (Nat.le_refl _) (by omega))]
  · rintro f P k hk ⟨h1, h2⟩
    have h1 : ∀ i, i < k → P q i = Dl'.2.2.1 i := h1
    have h2 : ∀ j, j ≠ q → P j = S.2.1.1 j := h2
    right
    refine ⟨zg P q (upd (P q) k (Dl'.2.2.1 k)), ⟨fun i hi => ?_, fun j hj => ?_⟩, ?_⟩
    · show zg P q (upd (P q) k (Dl'.2.2.1 k)) q i = _
      rw [zg_at, if_pos rfl, upd_at]
      by_cases e : i = k
      · rw [if_pos e, e]
      · rw [if_neg e]; exact h1 i (by omega)
    · show zg P q (upd (P q) k (Dl'.2.2.1 k)) j = _
      rw [zg_at, if_neg hj]; exact h2 j hj
    · show f_X10_deals_83 (f + 1) ((S.1, (P, upd S.2.1.2 q (nI (aN a))), S.2.2.1, S.2.2.2.1, S.2.2.2.2.1, S.2.2.2.2.2.1, S.2.2.2.2.2.2.1, S.2.2.2.2.2.2.2.1, Dl', S.2.2.2.2.2.2.2.2.2)) (nI q) r (nI k) = _
      rw [f_X10_deals_83, show f_X2_cells ((S.1, (P, upd S.2.1.2 q (nI (aN a))), S.2.2.1, S.2.2.2.1, S.2.2.2.2.1, S.2.2.2.2.2.1, S.2.2.2.2.2.2.1, S.2.2.2.2.2.2.2.1, Dl', S.2.2.2.2.2.2.2.2.2)).2.2.2.2.1 = some (nI (aN a)) from congrArg some hJ.1, Option.bind_some, if_neg (nI_ge hk (by omega)), show f_X0_firstKeeperOf ((S.1, (P, upd S.2.1.2 q (nI (aN a))), S.2.2.1, S.2.2.2.1, S.2.2.2.2.1, S.2.2.2.2.2.1, S.2.2.2.2.2.2.1, S.2.2.2.2.2.2.2.1, Dl', S.2.2.2.2.2.2.2.2.2)).2.2.2.2.2.2.2.2.1 (nI k) = some (Dl'.2.2.1 k) from by
        unfold f_X0_firstKeeperOf
        rw [if_neg (nI_pos (by omega)), if_neg (show ¬ (5 : Int32) ≤ nI k from nI_ge (show k < 5 by omega) (by decide)), zIn_t (show k < 5 by omega) (by decide), if_pos rfl, nI_clamp (by omega)], Option.bind_some, show f_X6_set ((S.1, (P, upd S.2.1.2 q (nI (aN a))), S.2.2.1, S.2.2.2.1, S.2.2.2.2.1, S.2.2.2.2.2.1, S.2.2.2.2.2.2.1, S.2.2.2.2.2.2.2.1, Dl', S.2.2.2.2.2.2.2.2.2)).2.1 (nI q) (nI k) (Dl'.2.2.1 k) = _ from x6_set (S := (P, upd S.2.1.2 q (nI (aN a)))) hq (show aN a ≤ 60 by omega) (by show upd S.2.1.2 q (nI (aN a)) q = _; rw [upd_at, if_pos rfl]) hk (Dl'.2.2.1 k), Option.bind_some, nI_1]
section
variable {S : VX10} {M : VX11}
theorem st_deals (hR : RR S M) (v1 v2 : Int32) : ∃ r : Int32, ∃ S2 : VX10, ∃ M2 : VX11, f_X10_deals S v1 v2 = some (r, S2) ∧ f_X11_deals M v1 v2 = some (r, M2) ∧ RR S2 M2 := by
  obtain ⟨hT, hr6, ht, a, ⟨hV, hJ, hM⟩, hE, hZ⟩ := id hR
  have hn := hV.2.1
  have hn1 : M.2.2.2.2.2.2.2.2.2.2.1 = nI (aN a) := hM.1
  unfold f_X10_deals f_X11_deals
  rw [show f_X2_cells S.2.2.2.2.1 = some (nI (aN a)) from congrArg some hJ.1]
  simp only [Option.bind_some]
  have bb : (v1 < 1 ∨ nI 6 ≤ v1) ∨ ∃ b, 1 ≤ b ∧ b ≤ 5 ∧ v1 = nI b := by
    rcases ix2 v1 (n := 6) (by decide) with (h | h) | ⟨j, hj, rfl⟩
    · refine Or.inl (Or.inl ?_)
      rw [Int32.lt_iff_toInt_lt] at h ⊢
      have h0 : (0 : Int32).toInt = 0 := by decide
      have h1 : (1 : Int32).toInt = 1 := by decide
      omega
    · exact Or.inl (Or.inr h)
    · by_cases c : j = 0
      · rw [c]; exact Or.inl (Or.inl (by decide))
      · exact Or.inr ⟨j, by omega, by omega, rfl⟩
  rcases bb with h | ⟨b, b1, b5, rfl⟩
  · refine ⟨-1, S, M, ?_, ?_, hR⟩
    · by_cases c : v1 < 1
      · rw [if_pos c]
      · rw [if_neg c, if_pos (show (5 : Int32) < v1 from ge_lt (n := 5) (h.resolve_left c) (by decide))]
    · rw [show f_X11_in v1 1 5 = some 0 from m_inF (lo := 1) (hi := 5) h (by decide)]; rfl
  rw [if_neg (show ¬ nI b < (1 : Int32) from nI_nlt b1 (by omega)), if_neg (show ¬ (5 : Int32) < nI b from nI_nlt b5 (by decide)), show f_X11_in (nI b) 1 5 = some 1 from m_inT (lo := 1) (hi := 5) b1 b5 (by decide), Option.bind_some, if_neg i10, hn1]
  by_cases cb : aN a < b
  · exact ⟨-1, S, M, by rw [if_pos (nI_lt cb (by omega))], by rw [if_pos (nI_lt cb (by omega))], hR⟩
  rw [if_neg (nI_nlt (by omega) (by omega)), if_neg (nI_nlt (by omega) (by omega))]
  rcases ix2 v2 (n := 6) (by decide) with h | ⟨q, hq, rfl⟩
  · exact ⟨-1, S, M, by rw [x6_numF h] <;> rfl, by rw [m_rowF h] <;> rfl, hR⟩
  rw [x6_numT hq, Option.bind_some, if_neg i10, m_rowT hq, Option.bind_some, if_neg i10]
  by_cases c5 : aN a ≤ 5
  case neg => exact ⟨-6, S, M, by rw [if_neg (show ¬ nI (aN a) ≤ (5 : Int32) from ge_nle (n := 5) (nI_le (show 5 + 1 ≤ aN a by omega) (by omega)) (by decide))], by rw [if_neg (show ¬ nI (aN a) ≤ (5 : Int32) from ge_nle (n := 5) (nI_le (show 5 + 1 ≤ aN a by omega) (by omega)) (by decide))], hR⟩
  rw [if_pos (show nI (aN a) ≤ (5 : Int32) from nI_le c5 (by decide)), if_pos (show nI (aN a) ≤ (5 : Int32) from nI_le c5 (by decide))]
  have h2 : 2 ≤ aN a := by have := hV.1; omega
  obtain ⟨Dl', N, c, hc, ⟨⟨w1, w2, w3, w4, w5⟩, ⟨w6, w7⟩, ⟨w8, w9⟩, ⟨w10, w11, w12, w13⟩, w14, w15, w16⟩, hMN, hF, e1, e2⟩ := deals_main (S := S) hV hJ hM h2 c5 (b := b) (q := q) (by omega) hq
  rw [e1, Option.bind_some, e2]
  have hnN : N.2.2.2.2.2.2.2.2.2.2.1 = nI (aN a) := hMN.1
  by_cases c0 : c = 0
  · subst c0
    exact ⟨nI 0, (S.1, S.2.1, S.2.2.1, S.2.2.2.1, S.2.2.2.2.1, S.2.2.2.2.2.1, S.2.2.2.2.2.2.1, S.2.2.2.2.2.2.2.1, Dl', S.2.2.2.2.2.2.2.2.2), N, by rw [if_pos (show nI 0 ≤ (0 : Int32) from by decide)], by rw [if_pos (show nI 0 ≤ (0 : Int32) from by decide)], rr_told.of hT w1 w2 w3 w4 w5, rr_rows.of hr6 w6 w7, rr_texts.of ht w8 w9, a, ⟨hV, hJ, hMN⟩, rr_even.of hE w10 w11 w12 w13, rr_seen.of hZ w14 w15 w16⟩
  have hc0 : ¬ nI c ≤ 0 := nI_nle (show 0 < c by omega) (by omega)
  rw [if_neg (show ¬ ((nI c, Dl') : Int32 × VX0).1 ≤ 0 from hc0), if_neg hc0]
  obtain ⟨P, p1, p2, p3⟩ := x6_make (S := S.2.1) hq (show aN a ≤ 60 by omega)
  obtain ⟨Q, q1, q2, q3⟩ := m_211 N (n := aN a) hnN hn hq (upd N.2.2.2.2.2.1 q N.2.2.2.2.2.2.2.2.2.2.1) (nI c)
  obtain ⟨P', c1, c2, c3⟩ := x10_83 (S := S) hJ hn c5 hq Dl' (nI c) p3
  refine ⟨nI c, (S.1, (P', upd S.2.1.2 q (nI (aN a))), S.2.2.1, S.2.2.2.1, S.2.2.2.2.1, S.2.2.2.2.2.1, S.2.2.2.2.2.2.1, S.2.2.2.2.2.2.2.1, Dl', S.2.2.2.2.2.2.2.2.2), mW N (upd M.2.2.2.2.2.1 q (nI (aN a))) Q, ?_, ?_, rr_told.of hT w1 w2 w3 w4 w5, ?_, rr_texts.of ht w8 w9, a, ⟨hV, hJ, ?_⟩, rr_even.of hE w10 w11 w12 w13, rr_seen.of hZ w14 w15 w16⟩
  · rw [p1, Option.bind_some]
    exact c1
  · refine q1.trans (congrArg (fun s => some (nI c, mW N s Q)) ?_)
    rw [hnN, w6]
  · refine rr_rows.of (rr_rows.anew (M := M) hr6 hq (by omega) c3 (fun j hj => (q3 j hj).trans (congrFun w7 j)) (fun i hi => ?_)) rfl rfl
    exact (c2 i hi).trans ((hF c0 i hi).trans (q2 i hi).symm)
  · exact MR.of hMN rfl rfl rfl
end
