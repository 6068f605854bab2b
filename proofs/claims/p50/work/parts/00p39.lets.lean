/-! THE STEPS: lets, dealt, ways -/
/-- the cell that a number is -/
def cl (n : Nat) (v : Int32) : Option Nat := if v < 0 ∨ nI n ≤ v then none else some v.toNatClampNeg
theorem cl_c (v : Int32) {n : Nat} (hn : n < 2 ^ 31) : (cl n v = none ∧ (v < 0 ∨ nI n ≤ v)) ∨ ∃ x, x < n ∧ v = nI x ∧ cl n v = some x := by
  rcases ix2 v hn with h | ⟨x, hx, rfl⟩
  · exact Or.inl ⟨if_pos h, h⟩
  · refine Or.inr ⟨x, hx, rfl, ?_⟩
    unfold cl
    rw [if_neg (fun q => q.elim (nI_pos (by omega)) (nI_ge hx hn)), nI_clamp (by omega)]
/-- the set of the first numbers of a row, if they are unlike cells -/
def us (n : Nat) (f : Nat → Int32) : Nat → Option Nat
  | 0 => some 0
  | i + 1 => match us n f i with
    | none => none
    | some u => match cl n (f i) with
      | none => none
      | some x => if u.testBit x = true then none else some (u ||| 2 ^ x)
theorem us_none {n : Nat} {f : Nat → Int32} {i : Nat} (h : us n f i = none) : ∀ k, i ≤ k → us n f k = none
  | 0, hk => by rw [show i = 0 by omega] at h; exact h
  | k + 1, hk => by
    by_cases e : i = k + 1
    · rw [← e]; exact h
    · rw [us, us_none h k (by omega)]
theorem us_some {n : Nat} {f : Nat → Int32} (hn : n < 2 ^ 31) : ∀ {k u : Nat}, us n f k = some u → u < 2 ^ n ∧ ∀ i, i < k → ∃ x, x < n ∧ f i = nI x
  | 0, u, h => by
    cases h
    exact ⟨Nat.two_pow_pos _, fun i hi => by omega⟩
  | k + 1, u, h => by
    rw [us] at h
    cases hu : us n f k with
    | none => rw [hu] at h; cases h
    | some w =>
      rw [hu] at h
      obtain ⟨h1, h2⟩ := us_some hn hu
      rcases cl_c (f k) hn with ⟨e, -⟩ | ⟨x, hx, e1, e2⟩
      · simp only [e] at h; cases h
      · simp only [e2] at h
        split at h
        · cases h
        · cases h
          refine ⟨or_lt h1 hx, fun i hi => ?_⟩
          by_cases e : i = k
          · rw [e]; exact ⟨x, hx, e1⟩
          · exact h2 i (by omega)
section
variable {S : VX10} {M : VX11}
theorem x10_unlike {a : AJ} (hJ : JR S.2.2.2.2.1 a) (hn : aN a ≤ 8) {r k : Nat} (hr : r < 6) (hk : k ≤ 60) (e1 : S.2.1.2 r = nI k) (e3 : ∀ i, i < k → S.2.1.1 r i = M.2.2.2.2.2.2.1 (60 * r + i)) :
    f_X10_tellsUnlikeCells S (nI r) = some (bI (us (aN a) (fun i => M.2.2.2.2.2.2.1 (60 * r + i)) k).isSome) := by
  have hN : 2 ^ aN a ≤ 256 := Nat.pow_le_pow_right (show 2 > 0 by decide) hn
  unfold f_X10_tellsUnlikeCells
  refine loop_up (fun f (u : Nat) v3 => f_X10_tellsUnlikeCells_4 f S (nI r) (nI u) v3) k (fun i u => us (aN a) (fun i => M.2.2.2.2.2.2.1 (60 * r + i)) i = some u) (fun o => o = some (bI (us (aN a) (fun i => M.2.2.2.2.2.2.1 (60 * r + i)) k).isSome)) ?_ ?_ 4096 0 0 (Nat.zero_le _) rfl (by omega)
  · intro n u h
    show f_X10_tellsUnlikeCells_4 (n + 1) S (nI r) (nI u) (nI k) = _
    rw [f_X10_tellsUnlikeCells_4, x6_size hr, Option.bind_some, e1, if_pos (nI_le (Nat.le_refl _) (by omega)), h]; rfl
  · intro n u i hi h
    have hu := (us_some (by omega) h).1
    show f_X10_tellsUnlikeCells_4 (n + 1) S (nI r) (nI u) (nI i) = _ ∨ ∃ u', us (aN a) (fun i => M.2.2.2.2.2.2.1 (60 * r + i)) (i + 1) = some u' ∧ f_X10_tellsUnlikeCells_4 (n + 1) S (nI r) (nI u) (nI i) = f_X10_tellsUnlikeCells_4 n S (nI r) (nI u') (nI (i + 1))
    rw [f_X10_tellsUnlikeCells_4, x6_size hr, Option.bind_some, e1, if_neg (nI_ge hi (by omega)), x6_get hr hk e1 hi, Option.bind_some, e3 i hi, nI_1]
    have hus : us (aN a) (fun i => M.2.2.2.2.2.2.1 (60 * r + i)) (i + 1) = match cl (aN a) (M.2.2.2.2.2.2.1 (60 * r + i)) with
      | none => none
      | some x => if u.testBit x = true then none else some (u ||| 2 ^ x) := by rw [us, h]
    rcases cl_c (M.2.2.2.2.2.2.1 (60 * r + i)) (n := aN a) (by omega) with ⟨c1, c2⟩ | ⟨x, hx, c1, c2⟩
    · left
      rw [c1] at hus
      rw [x2_out hJ.1 c2, Option.bind_some, if_pos rfl, us_none hus k (by omega)]; rfl
    · rw [c2] at hus
      rw [c1, x2_in hJ.1 hn hx, Option.bind_some, if_neg i10, n_tstb (show u < 2 ^ 31 by omega) (by omega), n_one (by omega), n_or]
      have hus : us (aN a) (fun i => M.2.2.2.2.2.2.1 (60 * r + i)) (i + 1) = if u.testBit x = true then none else some (u ||| 2 ^ x) := hus
      cases hb : u.testBit x with
      | true =>
        left
        rw [hb, if_pos rfl] at hus
        rw [if_pos (show bI true = 1 from rfl), us_none hus k (by omega)]; rfl
      | false =>
        right
        rw [hb, if_neg (by decide)] at hus
        exact ⟨u ||| 2 ^ x, hus, by rw [if_neg (show ¬ bI false = 1 by decide)]⟩
theorem m_unlike {a : AJ} (hM : MR M a) (hn : aN a ≤ 8) {r k : Nat} (hr : r < 6) (hk : k ≤ 60) (e2 : M.2.2.2.2.2.1 r = nI k) :
    f_X11_lets_50 4096 M (nI r) 0 1 0 = if (us (aN a) (fun i => M.2.2.2.2.2.2.1 (60 * r + i)) k).isSome = true then f_X11_lets_138 4096 M (nI r) 0 0 0 else some (-3, met M 3) := by
  have hN : 2 ^ aN a ≤ 256 := Nat.pow_le_pow_right (show 2 > 0 by decide) hn
  refine loop_up (fun f (σ : Nat × Bool) v4 => f_X11_lets_50 f M (nI r) (nI σ.1) (bI σ.2) v4) k (fun i σ => (σ.2 = true ∧ us (aN a) (fun i => M.2.2.2.2.2.2.1 (60 * r + i)) i = some σ.1) ∨ (σ.2 = false ∧ us (aN a) (fun i => M.2.2.2.2.2.2.1 (60 * r + i)) i = none)) (fun o => o = if (us (aN a) (fun i => M.2.2.2.2.2.2.1 (60 * r + i)) k).isSome = true then f_X11_lets_138 4096 M (nI r) 0 0 0 else some (-3, met M 3)) ?_ ?_ 4096 0 (0, true) (Nat.zero_le _) (Or.inl ⟨rfl, rfl⟩) (by omega)
  · rintro n ⟨u, g⟩ h
    show f_X11_lets_50 (n + 1) M (nI r) (nI u) (bI g) (nI k) = _
    rw [f_X11_lets_50, zIn_t hr (by decide), if_pos rfl, nI_clamp (by omega), e2, if_pos (nI_le (Nat.le_refl _) (by omega)), show f_X11_meets M 3 = _ from m_meets M (f := 3) (by decide), Option.bind_some]
    rcases h with ⟨h1, h2⟩ | ⟨h1, h2⟩
    · have h1 : g = true := h1
      rw [h1, h2, if_neg (show ¬ bI true = 0 from i10)]; rfl
    · have h1 : g = false := h1
      rw [h1, h2, if_pos (show bI false = 0 from rfl)]; rfl
  · rintro n ⟨u, g⟩ i hi h
    right
    show ∃ σ : Nat × Bool, _ ∧ f_X11_lets_50 (n + 1) M (nI r) (nI u) (bI g) (nI i) = f_X11_lets_50 n M (nI r) (nI σ.1) (bI σ.2) (nI (i + 1))
    have bad : ∀ v5 : Int32, f_X11_lets_97 (f_X11_lets_50 n) M (nI r) (nI u) (nI i) v5 0 = f_X11_lets_50 n M (nI r) (nI u) (bI false) (nI (i + 1)) := fun v5 => by
      unfold f_X11_lets_97
      rw [if_pos rfl, nI_o0, Nat.or_zero, nI_1]; rfl
    rw [f_X11_lets_50, zIn_t hr (by decide), if_pos rfl, nI_clamp (by omega), e2, if_neg (nI_ge hi (by omega)), m_at hr (show i < 60 by omega), Option.bind_some]
    rcases h with ⟨h1, h2⟩ | ⟨h1, h2⟩
    · have h1 : g = true := h1
      have h2 : us (aN a) (fun i => M.2.2.2.2.2.2.1 (60 * r + i)) i = some u := h2
      have hu := (us_some (by omega) h2).1
      have hus : us (aN a) (fun i => M.2.2.2.2.2.2.1 (60 * r + i)) (i + 1) = match cl (aN a) (M.2.2.2.2.2.2.1 (60 * r + i)) with
        | none => none
        | some x => if u.testBit x = true then none else some (u ||| 2 ^ x) := by rw [us, h2]
      rw [h1, if_neg (show ¬ bI true = 0 from i10)]
      rcases cl_c (M.2.2.2.2.2.2.1 (60 * r + i)) (n := aN a) (by omega) with ⟨c1, c2⟩ | ⟨x, hx, c1, c2⟩
      · rw [c1] at hus
        refine ⟨(u, false), Or.inr ⟨rfl, hus⟩, ?_⟩
        rw [m_cell0 hM.1 hn c2, Option.bind_some, if_pos rfl, bad]
      · rw [c2] at hus
        have hus : us (aN a) (fun i => M.2.2.2.2.2.2.1 (60 * r + i)) (i + 1) = if u.testBit x = true then none else some (u ||| 2 ^ x) := hus
        rw [c1, m_cell hM.1 hn hx, Option.bind_some, if_neg i10, n_has (show u < 2 ^ 31 by omega) (by omega), Option.bind_some]
        cases hb : u.testBit x with
        | true =>
          rw [hb, if_pos rfl] at hus
          refine ⟨(u, false), Or.inr ⟨rfl, hus⟩, ?_⟩
          rw [if_neg (show ¬ bI true = 0 from i10), bad]
        | false =>
          rw [hb, if_neg (by decide)] at hus
          refine ⟨(u ||| 2 ^ x, true), Or.inl ⟨rfl, hus⟩, ?_⟩
          rw [if_pos (show bI false = 0 from rfl)]
          unfold f_X11_lets_97
          rw [if_neg i10, n_one (by omega), n_or, nI_1]; rfl
    · have h1 : g = false := h1
      refine ⟨(u, false), Or.inr ⟨rfl, us_none h2 _ (Nat.le_succ _)⟩, ?_⟩
      rw [h1, if_pos (show bI false = 0 from rfl), bad]
theorem st_lets (hR : RR S M) (v1 : Int32) : ∃ r : Int32, ∃ S2 : VX10, ∃ M2 : VX11, f_X10_lets S v1 = some (r, S2) ∧ f_X11_lets M v1 = some (r, M2) ∧ RR S2 M2 := by
  obtain ⟨hT, hr6, ht, a, ⟨hV, hJ, hM⟩, hE, hZ⟩ := id hR
  have hn := hV.2.1
  have hN := hV.N
  unfold f_X10_lets f_X11_lets
  rcases rr_rowC hR v1 with h | ⟨r, hr, rfl, e1, e2⟩ | ⟨r, k, hr, rfl, hk, e1, e2, e3⟩
  · exact ⟨-1, S, M, by rw [x10_rowF h] <;> rfl, by rw [m_rowF h] <;> rfl, hR⟩
  · refine ⟨-3, _, _, by rw [x10_rowN hr e1] <;> rfl, ?_, hR.found (f := 1) (by decide) (by decide)⟩
    rw [m_rowT hr, Option.bind_some, if_neg i10, zIn_t hr (by decide), if_pos rfl, nI_clamp (by omega), e2, if_neg m_neg, show f_X11_meets M 1 = _ from m_meets M (f := 1) (by decide)] <;> rfl
  rw [x10_rowT hr hk e1, Option.bind_some, if_pos rfl, show f_X6_sizeOf ((0 : Int32), S).2.2.1 (nI r) = some (nI k) from (x6_size hr).trans (congrArg some e1), Option.bind_some, show f_X2_cells ((0 : Int32), S).2.2.2.2.2.1 = some (nI (aN a)) from congrArg some hJ.1, Option.bind_some, m_rowT hr, Option.bind_some, if_neg i10, zIn_t hr (by decide), if_pos rfl, nI_clamp (by omega), e2, if_pos (nI_pos' (by omega)), if_pos rfl, hM.1]
  by_cases c : k ≤ aN a
  · rw [if_pos (nI_le c (by omega)), if_pos (nI_le c (by omega)), show f_X10_tellsUnlikeCells ((0 : Int32), S).2 (nI r) = _ from x10_unlike hJ hn hr hk e1 e3, Option.bind_some, m_unlike hM hn hr hk e2]
    cases hus : us (aN a) (fun i => M.2.2.2.2.2.2.1 (60 * r + i)) k with
    | none =>
      refine ⟨-3, _, _, ?_, ?_, hR.found (f := 3) (by decide) (by decide)⟩
      · rw [if_pos (show bI (none : Option Nat).isSome = 0 from rfl), show f_X9_found ((0 : Int32), S).2.1 3 = _ from x9_found S.1 (f := 3) (by decide) (by decide)] <;> rfl
      · exact if_neg (by simp)
    | some u =>
      obtain ⟨-, hcell⟩ := us_some (show aN a < 2 ^ 31 by omega) hus
      have hcell : ∀ i, i < k → ∃ x, x < aN a ∧ M.2.2.2.2.2.2.1 (60 * r + i) = nI x := hcell
      rw [if_neg (show ¬ bI (some u).isSome = 0 from i10), if_pos (show (some u).isSome = true from rfl)]
      have main : ∃ r' : Int32, ∃ S2 : VX10, ∃ M2 : VX11, f_X10_letRowOut S (nI r) = some (r', S2) ∧ f_X11_lets_138 4096 M (nI r) 0 0 0 = some (r', M2) ∧ RR S2 M2 := by
        unfold f_X10_letRowOut
        refine loop_two (fun f (σ : Nat × Int32) v5 => f_X10_letRowOut_10 f S (nI r) (nI σ.1) σ.2 v5 v5) (fun f (σ : Nat × Int32) v6 => f_X11_lets_138 f M (nI r) (nI σ.1) σ.2 v6) k (fun i σ τ => σ = τ ∧ σ.1 < 2 ^ aN a) (fun p q => ∃ r : Int32, ∃ S2 : VX10, ∃ M2 : VX11, p = some (r, S2) ∧ q = some (r, M2) ∧ RR S2 M2) ?_ ?_ 4096 4096 0 (0, 0) (0, 0) (Nat.zero_le _) ⟨rfl, Nat.two_pow_pos _⟩ (by omega) (by omega)
        · rintro n n' ⟨g, F⟩ _ ⟨rfl, -⟩
          refine ⟨nI k, _, _, ?_, ?_, hR.tell F⟩
          · show f_X10_letRowOut_10 (n + 1) S (nI r) (nI g) F (nI k) (nI k) = _
            rw [f_X10_letRowOut_10, x6_size hr, Option.bind_some, e1, if_pos (nI_le (Nat.le_refl _) (by omega))] <;> rfl
          · show f_X11_lets_138 (n' + 1) M (nI r) (nI g) F (nI k) = _
            rw [f_X11_lets_138, zIn_t hr (by decide), if_pos rfl, nI_clamp (by omega), if_pos (show M.2.2.2.2.2.1 r ≤ nI k from by rw [e2]; exact nI_le (Nat.le_refl _) (by omega)), if_pos rfl, show f_X11_tells M F (M.2.2.2.2.2.1 r) = some (nI k, (M.1, M.2.1, F, M.2.2.2.1, M.2.2.2.2.1, M.2.2.2.2.2.1, M.2.2.2.2.2.2.1, M.2.2.2.2.2.2.2.1, M.2.2.2.2.2.2.2.2.1, M.2.2.2.2.2.2.2.2.2.1, M.2.2.2.2.2.2.2.2.2.2.1, M.2.2.2.2.2.2.2.2.2.2.2.1, M.2.2.2.2.2.2.2.2.2.2.2.2.1, M.2.2.2.2.2.2.2.2.2.2.2.2.2.1, M.2.2.2.2.2.2.2.2.2.2.2.2.2.2.1, M.2.2.2.2.2.2.2.2.2.2.2.2.2.2.2.1, M.2.2.2.2.2.2.2.2.2.2.2.2.2.2.2.2.1, M.2.2.2.2.2.2.2.2.2.2.2.2.2.2.2.2.2.1, M.2.2.2.2.2.2.2.2.2.2.2.2.2.2.2.2.2.2.1, M.2.2.2.2.2.2.2.2.2.2.2.2.2.2.2.2.2.2.2.1, M.2.2.2.2.2.2.2.2.2.2.2.2.2.2.2.2.2.2.2.2.1, M.2.2.2.2.2.2.2.2.2.2.2.2.2.2.2.2.2.2.2.2.2.1, M.2.2.2.2.2.2.2.2.2.2.2.2.2.2.2.2.2.2.2.2.2.2.1, M.2.2.2.2.2.2.2.2.2.2.2.2.2.2.2.2.2.2.2.2.2.2.2.1, M.2.2.2.2.2.2.2.2.2.2.2.2.2.2.2.2.2.2.2.2.2.2.2.2.1, M.2.2.2.2.2.2.2.2.2.2.2.2.2.2.2.2.2.2.2.2.2.2.2.2.2.1, M.2.2.2.2.2.2.2.2.2.2.2.2.2.2.2.2.2.2.2.2.2.2.2.2.2.2.1, M.2.2.2.2.2.2.2.2.2.2.2.2.2.2.2.2.2.2.2.2.2.2.2.2.2.2.2.1, M.2.2.2.2.2.2.2.2.2.2.2.2.2.2.2.2.2.2.2.2.2.2.2.2.2.2.2.2.1, M.2.2.2.2.2.2.2.2.2.2.2.2.2.2.2.2.2.2.2.2.2.2.2.2.2.2.2.2.2.1, M.2.2.2.2.2.2.2.2.2.2.2.2.2.2.2.2.2.2.2.2.2.2.2.2.2.2.2.2.2.2)) from by rw [e2]; rfl] <;> rfl
        · rintro n n' ⟨g, F⟩ _ i hi ⟨rfl, hg⟩
          have hg : g < 2 ^ aN a := hg
          obtain ⟨x, hx, ex⟩ := hcell i hi
          show (∃ r' : Int32, ∃ S2 : VX10, ∃ M2 : VX11, f_X10_letRowOut_10 (n + 1) S (nI r) (nI g) F (nI i) (nI i) = some (r', S2) ∧ f_X11_lets_138 (n' + 1) M (nI r) (nI g) F (nI i) = some (r', M2) ∧ RR S2 M2) ∨ ∃ σ τ : Nat × Int32, (σ = τ ∧ σ.1 < 2 ^ aN a) ∧ f_X10_letRowOut_10 (n + 1) S (nI r) (nI g) F (nI i) (nI i) = f_X10_letRowOut_10 n S (nI r) (nI σ.1) σ.2 (nI (i + 1)) (nI (i + 1)) ∧ f_X11_lets_138 (n' + 1) M (nI r) (nI g) F (nI i) = f_X11_lets_138 n' M (nI r) (nI τ.1) τ.2 (nI (i + 1))
          have eC : f_X10_letRowOut_10 (n + 1) S (nI r) (nI g) F (nI i) (nI i) = if 0 ≤ oI (costC a x g (2 ^ aN a - 1)) then f_X10_letRowOut_10 n S (nI r) (nI (g ||| 2 ^ x)) (F + oI (costC a x g (2 ^ aN a - 1))) (nI (i + 1)) (nI (i + 1)) else f_X10_letRowOut_83 S F (nI i) := by
            rw [f_X10_letRowOut_10, x6_size hr, Option.bind_some, e1, if_neg (nI_ge hi (by omega)), x6_get hr hk e1 hi, Option.bind_some, e3 i hi, ex, x2_all hJ.1 hn, Option.bind_some, x2_costA hJ hV hx hg, Option.bind_some, n_one (by omega), n_or, nI_1]
          have eM : f_X11_lets_138 (n' + 1) M (nI r) (nI g) F (nI i) = if nI (nv (costC a x g (2 ^ aN a - 1))) < 1000 then f_X11_lets_138 n' M (nI r) (nI (g ||| 2 ^ x)) (F + nI (nv (costC a x g (2 ^ aN a - 1)))) (nI (i + 1)) else (f_X11_tells M F (nI i)).bind fun r13 => some (r13.1, r13.2) := by
            rw [f_X11_lets_138, zIn_t hr (by decide), if_pos rfl, nI_clamp (by omega), e2, if_neg (nI_ge hi (by omega)), m_at hr (show i < 60 by omega), Option.bind_some, ex, m_all hM.1 hn, Option.bind_some, m_costA hM hV hx hg, Option.bind_some, Option.bind_some, n_one (by omega), n_or, nI_1]
          rw [eC, eM]
          cases hc : costC a x g (2 ^ aN a - 1) with
          | none =>
            left
            exact ⟨nI i, _, _, if_neg (show ¬ (0 : Int32) ≤ oI none by decide), if_neg (show ¬ nI (nv none) < (1000 : Int32) by decide), hR.tell F⟩
          | some d =>
            have := costC_le hV hx hc
            right
            exact ⟨(g ||| 2 ^ x, F + nI d), (g ||| 2 ^ x, F + nI d), ⟨rfl, or_lt hg hx⟩, if_pos (show (0 : Int32) ≤ oI (some d) from nI_pos' (show d < 2 ^ 31 by omega)), if_pos (show nI (nv (some d)) < (1000 : Int32) from nI_lt (show d < 1000 by omega) (by decide))⟩
      obtain ⟨r', S2, M2, f1, f2, f3⟩ := main
      exact ⟨r', S2, M2, by rw [show f_X10_letRowOut ((0 : Int32), S).2 (nI r) = _ from f1] <;> rfl, f2, f3⟩
  · refine ⟨-3, _, _, ?_, ?_, hR.found (f := 5) (by decide) (by decide)⟩
    · rw [if_neg (nI_ge (by omega) (by omega)), show f_X9_found ((0 : Int32), S).2.1 5 = _ from x9_found S.1 (f := 5) (by decide) (by decide)] <;> rfl
    · rw [if_neg (nI_ge (by omega) (by omega)), show f_X11_meets M 5 = _ from m_meets M (f := 5) (by decide)] <;> rfl
end
