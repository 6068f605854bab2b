/-! THE STEPS: odds -/
theorem Int32_l {x : Nat} (h : x < 2 ^ 31) : (nI x).toInt64 = lN x := nI_l h
/-- the class: the greatest that goes in both -/
theorem x9_fraction (T : VX9) {h s : Nat} (h0 : 0 < s) (hs : s ≤ 256) (hh : h ≤ s) : f_X9_tellFraction T (nI h) (nI s) = some ((T.1, T.2.1, lN (h / Nat.gcd h s), lN (s / Nat.gcd h s), T.2.2.2.2)) := by
  have key : ∀ fuel d : Nat, d < fuel → 1 ≤ d → d ≤ s → (∀ e, d < e → e ≤ s → ¬ (e ∣ h ∧ e ∣ s)) →
      f_X9_tellFraction_14 fuel ((T.1, T.2.1, (nI h).toInt64, (nI s).toInt64, T.2.2.2.2)) (nI h) (nI s) (nI d) = some ((T.1, T.2.1, lN (h / Nat.gcd h s), lN (s / Nat.gcd h s), T.2.2.2.2)) := by
    intro fuel
    induction fuel with
    | zero => intro d hd; omega
    | succ n ih =>
      intro d hd h1 hds hno
      have gpos : 0 < Nat.gcd h s := Nat.gcd_pos_of_pos_right _ h0
      have gle : Nat.gcd h s ≤ d := Classical.byContradiction fun c => hno _ (by omega) (Nat.le_of_dvd h0 (Nat.gcd_dvd_right _ _)) ⟨Nat.gcd_dvd_left _ _, Nat.gcd_dvd_right _ _⟩
      rw [f_X9_tellFraction_14]
      by_cases c1 : d ≤ 1
      · have e : Nat.gcd h s = 1 := by omega
        rw [if_pos (show nI d ≤ (1 : Int32) from nI_le c1 (by decide)), e, Nat.div_one, Nat.div_one, Int32_l (show h < 2 ^ 31 by omega), Int32_l (show s < 2 ^ 31 by omega)]
      · rw [if_neg (show ¬ nI d ≤ (1 : Int32) from nI_ge (show 1 < d by omega) (by omega)), if_neg (nI_ne0 (show 0 < d by omega) (by omega)), pk_rem (show h < 2 ^ 31 by omega) (show 0 < d by omega) (show d < 2 ^ 31 by omega), pk_rem (show s < 2 ^ 31 by omega) (show 0 < d by omega) (show d < 2 ^ 31 by omega), pk_div (show h < 2 ^ 31 by omega) (show 0 < d by omega) (show d < 2 ^ 31 by omega), pk_div (show s < 2 ^ 31 by omega) (show 0 < d by omega) (show d < 2 ^ 31 by omega)]
        obtain ⟨d', rfl⟩ : ∃ d', d = d' + 1 := ⟨d - 1, by omega⟩
        have hmh : h % (d' + 1) < 2 ^ 31 := Nat.lt_trans (Nat.mod_lt _ (by omega)) (by omega)
        have hms : s % (d' + 1) < 2 ^ 31 := Nat.lt_trans (Nat.mod_lt _ (by omega)) (by omega)
        have again : ¬ (d' + 1 ∣ h ∧ d' + 1 ∣ s) → f_X9_tellFraction_14 n ((T.1, T.2.1, (nI h).toInt64, (nI s).toInt64, T.2.2.2.2)) (nI h) (nI s) (nI (d' + 1) + -1) = some ((T.1, T.2.1, lN (h / Nat.gcd h s), lN (s / Nat.gcd h s), T.2.2.2.2)) := fun hn => by
          rw [pk_m1]
          refine ih d' (by omega) (by omega) (by omega) fun e he1 he2 => ?_
          by_cases q : e = d' + 1
          · rw [q]; exact hn
          · exact hno e (by omega) he2
        by_cases c2 : h % (d' + 1) = 0
        · rw [if_pos ((nI0_eq hmh).2 c2), if_neg (nI_ne0 (show 0 < d' + 1 by omega) (by omega))]
          by_cases c3 : s % (d' + 1) = 0
          · have dv : d' + 1 ∣ Nat.gcd h s := Nat.dvd_gcd (Nat.dvd_of_mod_eq_zero c2) (Nat.dvd_of_mod_eq_zero c3)
            have e : Nat.gcd h s = d' + 1 := Nat.le_antisymm gle (Nat.le_of_dvd gpos dv)
            have b1 : h / (d' + 1) ≤ h := Nat.div_le_self _ _
            have b2 : s / (d' + 1) ≤ s := Nat.div_le_self _ _
            rw [if_pos ((nI0_eq hms).2 c3), if_neg (nI_ne0 (show 0 < d' + 1 by omega) (by omega)), if_neg (nI_ne0 (show 0 < d' + 1 by omega) (by omega)), e, Int32_l (show h / (d' + 1) < 2 ^ 31 by omega), Int32_l (show s / (d' + 1) < 2 ^ 31 by omega)]
          · rw [if_neg (fun q => c3 ((nI0_eq hms).1 q))]
            exact again fun q => c3 (Nat.mod_eq_zero_of_dvd q.2)
        · rw [if_neg (fun q => c2 ((nI0_eq hmh).1 q))]
          exact again fun q => c2 (Nat.mod_eq_zero_of_dvd q.1)
  unfold f_X9_tellFraction
  exact key 4096 s (by omega) (by omega) (Nat.le_refl _) (fun e h1 h2 => by omega)
/-- the model: Euclid -/
theorem m_fraction (M : VX11) {h s : Nat} (h0 : 0 < s) (hs : s ≤ 256) (hh : h ≤ s) (r : Int32) : f_X11_fraction M (nI h).toInt64 (nI s).toInt64 r = some (r, (M.1, M.2.1, M.2.2.1, lN (h / Nat.gcd h s), lN (s / Nat.gcd h s), M.2.2.2.2.2.1, M.2.2.2.2.2.2.1, M.2.2.2.2.2.2.2.1, M.2.2.2.2.2.2.2.2.1, M.2.2.2.2.2.2.2.2.2.1, M.2.2.2.2.2.2.2.2.2.2.1, M.2.2.2.2.2.2.2.2.2.2.2.1, M.2.2.2.2.2.2.2.2.2.2.2.2.1, M.2.2.2.2.2.2.2.2.2.2.2.2.2.1, M.2.2.2.2.2.2.2.2.2.2.2.2.2.2.1, M.2.2.2.2.2.2.2.2.2.2.2.2.2.2.2.1, M.2.2.2.2.2.2.2.2.2.2.2.2.2.2.2.2.1, M.2.2.2.2.2.2.2.2.2.2.2.2.2.2.2.2.2.1, M.2.2.2.2.2.2.2.2.2.2.2.2.2.2.2.2.2.2.1, M.2.2.2.2.2.2.2.2.2.2.2.2.2.2.2.2.2.2.2.1, M.2.2.2.2.2.2.2.2.2.2.2.2.2.2.2.2.2.2.2.2.1, M.2.2.2.2.2.2.2.2.2.2.2.2.2.2.2.2.2.2.2.2.2.1, M.2.2.2.2.2.2.2.2.2.2.2.2.2.2.2.2.2.2.2.2.2.2.1, M.2.2.2.2.2.2.2.2.2.2.2.2.2.2.2.2.2.2.2.2.2.2.2.1, M.2.2.2.2.2.2.2.2.2.2.2.2.2.2.2.2.2.2.2.2.2.2.2.2.1, M.2.2.2.2.2.2.2.2.2.2.2.2.2.2.2.2.2.2.2.2.2.2.2.2.2.1, M.2.2.2.2.2.2.2.2.2.2.2.2.2.2.2.2.2.2.2.2.2.2.2.2.2.2.1, M.2.2.2.2.2.2.2.2.2.2.2.2.2.2.2.2.2.2.2.2.2.2.2.2.2.2.2.1, M.2.2.2.2.2.2.2.2.2.2.2.2.2.2.2.2.2.2.2.2.2.2.2.2.2.2.2.2.1, M.2.2.2.2.2.2.2.2.2.2.2.2.2.2.2.2.2.2.2.2.2.2.2.2.2.2.2.2.2.1, M.2.2.2.2.2.2.2.2.2.2.2.2.2.2.2.2.2.2.2.2.2.2.2.2.2.2.2.2.2.2)) := by
  rw [Int32_l (show h < 2 ^ 31 by omega), Int32_l (show s < 2 ^ 31 by omega)]
  have key : ∀ fuel a b : Nat, b < fuel → a ≤ 256 → b ≤ 256 → (0 < a ∨ 0 < b) → Nat.gcd a b = Nat.gcd h s → f_X11_fraction_6 fuel M (lN h) (lN s) r (lN a) (lN b) = some (r, (M.1, M.2.1, M.2.2.1, lN (h / Nat.gcd h s), lN (s / Nat.gcd h s), M.2.2.2.2.2.1, M.2.2.2.2.2.2.1, M.2.2.2.2.2.2.2.1, M.2.2.2.2.2.2.2.2.1, M.2.2.2.2.2.2.2.2.2.1, M.2.2.2.2.2.2.2.2.2.2.1, M.2.2.2.2.2.2.2.2.2.2.2.1, M.2.2.2.2.2.2.2.2.2.2.2.2.1, M.2.2.2.2.2.2.2.2.2.2.2.2.2.1, M.2.2.2.2.2.2.2.2.2.2.2.2.2.2.1, M.2.2.2.2.2.2.2.2.2.2.2.2.2.2.2.1, M.2.2.2.2.2.2.2.2.2.2.2.2.2.2.2.2.1, M.2.2.2.2.2.2.2.2.2.2.2.2.2.2.2.2.2.1, M.2.2.2.2.2.2.2.2.2.2.2.2.2.2.2.2.2.2.1, M.2.2.2.2.2.2.2.2.2.2.2.2.2.2.2.2.2.2.2.1, M.2.2.2.2.2.2.2.2.2.2.2.2.2.2.2.2.2.2.2.2.1, M.2.2.2.2.2.2.2.2.2.2.2.2.2.2.2.2.2.2.2.2.2.1, M.2.2.2.2.2.2.2.2.2.2.2.2.2.2.2.2.2.2.2.2.2.2.1, M.2.2.2.2.2.2.2.2.2.2.2.2.2.2.2.2.2.2.2.2.2.2.2.1, M.2.2.2.2.2.2.2.2.2.2.2.2.2.2.2.2.2.2.2.2.2.2.2.2.1, M.2.2.2.2.2.2.2.2.2.2.2.2.2.2.2.2.2.2.2.2.2.2.2.2.2.1, M.2.2.2.2.2.2.2.2.2.2.2.2.2.2.2.2.2.2.2.2.2.2.2.2.2.2.1, M.2.2.2.2.2.2.2.2.2.2.2.2.2.2.2.2.2.2.2.2.2.2.2.2.2.2.2.1, M.2.2.2.2.2.2.2.2.2.2.2.2.2.2.2.2.2.2.2.2.2.2.2.2.2.2.2.2.1, M.2.2.2.2.2.2.2.2.2.2.2.2.2.2.2.2.2.2.2.2.2.2.2.2.2.2.2.2.2.1, M.2.2.2.2.2.2.2.2.2.2.2.2.2.2.2.2.2.2.2.2.2.2.2.2.2.2.2.2.2.2)) := by
    intro fuel
    induction fuel with
    | zero => intro a b hb; omega
    | succ n ih =>
      intro a b hb ha hb2 hp hg
      rw [f_X11_fraction_6]
      by_cases c : b = 0
      · subst c
        rw [Nat.gcd_zero_right] at hg
        have ha0 : ¬ lN a = 0 := fun e => by
          have := (lN_eq (show a < 2 ^ 31 by omega) (show 0 < 2 ^ 31 by decide)).1 (show lN a = lN 0 from e)
          omega
        rw [if_pos ((lg_cmp_eq _ _).2 (show lN 0 = 0 from rfl)), if_neg ha0, if_neg ha0, pk_lDiv (show h < 2 ^ 63 by omega) (show 0 < a by omega) (by omega), pk_lDiv (show s < 2 ^ 63 by omega) (show 0 < a by omega) (by omega), hg]
      · have hb0 : ¬ lN b = 0 := fun e => c ((lN_eq (show b < 2 ^ 31 by omega) (show 0 < 2 ^ 31 by decide)).1 (show lN b = lN 0 from e))
        have hm : a % b < b := Nat.mod_lt _ (by omega)
        rw [if_neg (fun e => hb0 ((lg_cmp_eq _ _).1 e)), if_neg hb0, pk_lRem (show a < 2 ^ 63 by omega) (show 0 < b by omega) (by omega)]
        refine ih b (a % b) (by omega) hb2 (by omega) (Or.inl (by omega)) ?_
        rw [← hg, Nat.gcd_comm a b, Nat.gcd_rec b a, Nat.gcd_comm]
  unfold f_X11_fraction
  exact key 4096 h s (by omega) (by omega) (by omega) (Or.inr h0) rfl
section
variable {S : VX10} {M : VX11}
theorem RR.fraction (hR : RR S M) (u l : Int64) : RR ((((S.1.1, S.1.2.1, u, l, S.1.2.2.2.2)), S.2.1, S.2.2.1, S.2.2.2.1, S.2.2.2.2.1, S.2.2.2.2.2.1, S.2.2.2.2.2.2.1, S.2.2.2.2.2.2.2.1, S.2.2.2.2.2.2.2.2.1, S.2.2.2.2.2.2.2.2.2)) ((M.1, M.2.1, M.2.2.1, u, l, M.2.2.2.2.2.1, M.2.2.2.2.2.2.1, M.2.2.2.2.2.2.2.1, M.2.2.2.2.2.2.2.2.1, M.2.2.2.2.2.2.2.2.2.1, M.2.2.2.2.2.2.2.2.2.2.1, M.2.2.2.2.2.2.2.2.2.2.2.1, M.2.2.2.2.2.2.2.2.2.2.2.2.1, M.2.2.2.2.2.2.2.2.2.2.2.2.2.1, M.2.2.2.2.2.2.2.2.2.2.2.2.2.2.1, M.2.2.2.2.2.2.2.2.2.2.2.2.2.2.2.1, M.2.2.2.2.2.2.2.2.2.2.2.2.2.2.2.2.1, M.2.2.2.2.2.2.2.2.2.2.2.2.2.2.2.2.2.1, M.2.2.2.2.2.2.2.2.2.2.2.2.2.2.2.2.2.2.1, M.2.2.2.2.2.2.2.2.2.2.2.2.2.2.2.2.2.2.2.1, M.2.2.2.2.2.2.2.2.2.2.2.2.2.2.2.2.2.2.2.2.1, M.2.2.2.2.2.2.2.2.2.2.2.2.2.2.2.2.2.2.2.2.2.1, M.2.2.2.2.2.2.2.2.2.2.2.2.2.2.2.2.2.2.2.2.2.2.1, M.2.2.2.2.2.2.2.2.2.2.2.2.2.2.2.2.2.2.2.2.2.2.2.1, M.2.2.2.2.2.2.2.2.2.2.2.2.2.2.2.2.2.2.2.2.2.2.2.2.1, M.2.2.2.2.2.2.2.2.2.2.2.2.2.2.2.2.2.2.2.2.2.2.2.2.2.1, M.2.2.2.2.2.2.2.2.2.2.2.2.2.2.2.2.2.2.2.2.2.2.2.2.2.2.1, M.2.2.2.2.2.2.2.2.2.2.2.2.2.2.2.2.2.2.2.2.2.2.2.2.2.2.2.1, M.2.2.2.2.2.2.2.2.2.2.2.2.2.2.2.2.2.2.2.2.2.2.2.2.2.2.2.2.1, M.2.2.2.2.2.2.2.2.2.2.2.2.2.2.2.2.2.2.2.2.2.2.2.2.2.2.2.2.2.1, M.2.2.2.2.2.2.2.2.2.2.2.2.2.2.2.2.2.2.2.2.2.2.2.2.2.2.2.2.2.2)) := by
  obtain ⟨hT, hr, ht, a, hJ, hE, hZ⟩ := hR
  exact ⟨⟨hT.1, hT.2.1, rfl, rfl, hT.2.2.2.2⟩, hr, ht, a, hJ, hE, hZ⟩
theorem st_odds (hR : RR S M) (v1 v2 : Int32) : ∃ r : Int32, ∃ S2 : VX10, ∃ M2 : VX11, f_X10_odds S v1 v2 = some (r, S2) ∧ f_X11_odds M v1 v2 = some (r, M2) ∧ RR S2 M2 := by
  obtain ⟨hT, hr6, ht, a, hA, hE, ⟨m, cw, cb, hm, s1, s2, hs⟩⟩ := id hR
  obtain ⟨hV, hJ, hM⟩ := id hA
  have hn := hV.2.1
  have hN := hV.N
  have h1 : 0 < 2 ^ aN a := Nat.two_pow_pos _
  unfold f_X10_odds f_X11_odds
  rcases ix2 v1 (n := 100) (by decide) with h | ⟨f, hf, rfl⟩
  · exact ⟨-1, S, M, by rw [x10_favF h] <;> rfl, by rw [show f_X11_in v1 0 99 = some 0 from m_inF (lo := 0) (hi := 99) h (by decide)] <;> rfl, hR⟩
  rw [x10_favT hf, Option.bind_some, if_neg i10, show f_X11_in (nI f) 0 99 = some 1 from m_inT (lo := 0) (hi := 99) (Nat.zero_le _) (by omega) (by decide), Option.bind_some, if_neg i10]
  rcases ix2 v2 (n := aN a) (by omega) with h | ⟨x, hx, rfl⟩
  · exact ⟨-1, S, M, by rw [x2_out hJ.1 h] <;> rfl, by rw [m_cell0 hM.1 hn h] <;> rfl, hR⟩
  obtain ⟨Z, l, o, R, W, e1, e2, e3, h⟩ := RR.all hA
  rw [x2_in hJ.1 hn hx, Option.bind_some, if_neg i10, m_cell hM.1 hn hx, Option.bind_some, if_neg i10, e1, Option.bind_some, e2, Option.bind_some, e3, Option.bind_some]
  have hR2 := hR.reach Z l o
  refine loop_two (fun g (σ : Nat × Nat) v5 => f_X10_odds_32 g ((S.1, S.2.1, S.2.2.1, S.2.2.2.1, S.2.2.2.2.1, S.2.2.2.2.2.1, Z, S.2.2.2.2.2.2.2.1, S.2.2.2.2.2.2.2.2.1, S.2.2.2.2.2.2.2.2.2)) (nI f) (nI x) (nI σ.1) (nI σ.2) v5) (fun g (σ : Nat × Nat) v5 => f_X11_odds_36 g (mLO M l o) (nI f) (nI x) (nI σ.1) (nI σ.2) v5) (2 ^ aN a) (fun k σ τ => σ = τ ∧ σ.2 ≤ σ.1 ∧ σ.1 ≤ k) (fun p q => ∃ r : Int32, ∃ S2 : VX10, ∃ M2 : VX11, p = some (r, S2) ∧ q = some (r, M2) ∧ RR S2 M2) ?_ ?_ 4096 4096 0 (0, 0) (0, 0) (by omega) ⟨rfl, Nat.le_refl _, Nat.le_refl _⟩ (by omega) (by omega)
  · rintro n n' ⟨s, q⟩ _ ⟨rfl, g1, g2⟩
    have g1 : q ≤ s := g1
    have g2 : s ≤ 2 ^ aN a := g2
    show ∃ r : Int32, ∃ S2 : VX10, ∃ M2 : VX11, f_X10_odds_32 (n + 1) ((S.1, S.2.1, S.2.2.1, S.2.2.2.1, S.2.2.2.2.1, S.2.2.2.2.2.1, Z, S.2.2.2.2.2.2.2.1, S.2.2.2.2.2.2.2.2.1, S.2.2.2.2.2.2.2.2.2)) (nI f) (nI x) (nI s) (nI q) (nI (2 ^ aN a)) = some (r, S2) ∧ f_X11_odds_36 (n' + 1) (mLO M l o) (nI f) (nI x) (nI s) (nI q) (nI (2 ^ aN a)) = some (r, M2) ∧ RR S2 M2
    rw [f_X10_odds_32, show f_X2_everyone ((S.1, S.2.1, S.2.2.1, S.2.2.2.1, S.2.2.2.2.1, S.2.2.2.2.2.1, Z, S.2.2.2.2.2.2.2.1, S.2.2.2.2.2.2.2.2.1, S.2.2.2.2.2.2.2.2.2)).2.2.2.2.1 = _ from x2_all hJ.1 hn, Option.bind_some, if_pos (nI_lt (by omega) (by omega)), f_X11_odds_36, m_all h.2.2.2.2.2.2 hn, Option.bind_some, if_pos (nI_lt (by omega) (by omega))]
    by_cases c : s = 0
    · subst c
      refine ⟨-3, _, _, ?_, ?_, hR2.found (f := 4) (by decide) (by decide)⟩
      · rw [if_pos (show nI 0 = 0 from rfl), show f_X9_found ((S.1, S.2.1, S.2.2.1, S.2.2.2.1, S.2.2.2.2.1, S.2.2.2.2.2.1, Z, S.2.2.2.2.2.2.2.1, S.2.2.2.2.2.2.2.2.1, S.2.2.2.2.2.2.2.2.2)).1 4 = _ from x9_found S.1 (f := 4) (by decide) (by decide)] <;> rfl
      · rw [if_pos (show nI 0 = 0 from rfl), show f_X11_meets (mLO M l o) 4 = _ from m_meets (mLO M l o) (f := 4) (by decide)] <;> rfl
    · refine ⟨nI q, _, _, ?_, ?_, hR2.fraction (lN (q / Nat.gcd q s)) (lN (s / Nat.gcd q s))⟩
      · rw [if_neg (nI_ne0 (by omega) (by omega)), show f_X9_tellFraction ((S.1, S.2.1, S.2.2.1, S.2.2.2.1, S.2.2.2.2.1, S.2.2.2.2.2.1, Z, S.2.2.2.2.2.2.2.1, S.2.2.2.2.2.2.2.2.1, S.2.2.2.2.2.2.2.2.2)).1 (nI q) (nI s) = _ from x9_fraction S.1 (by omega) (by omega) g1] <;> rfl
      · rw [if_neg (nI_ne0 (by omega) (by omega)), m_fraction (mLO M l o) (by omega) (by omega) g1] <;> rfl
  · rintro n n' ⟨s, q⟩ _ t htt ⟨rfl, g1, g2⟩
    have g1 : q ≤ s := g1
    have g2 : s ≤ t := g2
    right
    show ∃ (σ τ : Nat × Nat), (σ = τ ∧ σ.2 ≤ σ.1 ∧ σ.1 ≤ t + 1) ∧ f_X10_odds_32 (n + 1) ((S.1, S.2.1, S.2.2.1, S.2.2.2.1, S.2.2.2.2.1, S.2.2.2.2.2.1, Z, S.2.2.2.2.2.2.2.1, S.2.2.2.2.2.2.2.2.1, S.2.2.2.2.2.2.2.2.2)) (nI f) (nI x) (nI s) (nI q) (nI t) = f_X10_odds_32 n ((S.1, S.2.1, S.2.2.1, S.2.2.2.1, S.2.2.2.2.1, S.2.2.2.2.2.1, Z, S.2.2.2.2.2.2.2.1, S.2.2.2.2.2.2.2.2.1, S.2.2.2.2.2.2.2.2.2)) (nI f) (nI x) (nI σ.1) (nI σ.2) (nI (t + 1)) ∧ f_X11_odds_36 (n' + 1) (mLO M l o) (nI f) (nI x) (nI s) (nI q) (nI t) = f_X11_odds_36 n' (mLO M l o) (nI f) (nI x) (nI τ.1) (nI τ.2) (nI (t + 1))
    have mf := m_fits (M := mLO M l o) (Y := S.2.2.2.2.2.2.2.2.2) h hm s2 hs htt hf
    rw [f_X10_odds_32, show f_X2_everyone ((S.1, S.2.1, S.2.2.1, S.2.2.2.1, S.2.2.2.2.1, S.2.2.2.2.2.1, Z, S.2.2.2.2.2.2.2.1, S.2.2.2.2.2.2.2.2.1, S.2.2.2.2.2.2.2.2.2)).2.2.2.2.1 = _ from x2_all hJ.1 hn, Option.bind_some, if_neg (nI_nlt (by omega) (by omega)), x10_fits (S := (S.1, S.2.1, S.2.2.1, S.2.2.2.1, S.2.2.2.2.1, S.2.2.2.2.2.1, Z, S.2.2.2.2.2.2.2.1, S.2.2.2.2.2.2.2.2.1, S.2.2.2.2.2.2.2.2.2)) (M := M) h rfl hm s1 hs htt hf, Option.bind_some, n_tstb (show t < 2 ^ 31 by omega) (show x < 31 by omega), f_X11_odds_36, m_all h.2.2.2.2.2.2 hn, Option.bind_some, if_neg (nI_nlt (by omega) (by omega)), mf, Option.bind_some]
    unfold f_X11_odds_61
    rw [mf, Option.bind_some, Option.bind_some, n_has (show t < 2 ^ 31 by omega) (show x < 31 by omega), Option.bind_some]
    cases (R t).isSome && decide (nv (R t) ≤ f) && ftB cw cb t m with
    | false =>
      refine ⟨(s, q), (s, q), ⟨rfl, g1, by show s ≤ t + 1; omega⟩, ?_, ?_⟩
      · rw [if_pos (show bI false = 0 from rfl), nI_1]
      · rw [if_pos (show bI false = 0 from rfl), if_pos (show bI false = 0 from rfl), nI_a0, nI_a0, nI_1]; rfl
    | true =>
      cases t.testBit x with
      | false =>
        refine ⟨(s + 1, q), (s + 1, q), ⟨rfl, by show q ≤ s + 1; omega, by show s + 1 ≤ t + 1; omega⟩, ?_, ?_⟩
        · rw [if_neg (show ¬ bI true = 0 from i10), show nI q + bI false = nI (q + 0) from nI_a0 q, nI_1, nI_1]; rfl
        · rw [if_neg (show ¬ bI true = 0 from i10), if_neg (show ¬ bI true = 0 from i10), Option.bind_some, if_pos (show bI false = 0 from rfl), nI_1, nI_a0, nI_1] <;> rfl
      | true =>
        refine ⟨(s + 1, q + 1), (s + 1, q + 1), ⟨rfl, by show q + 1 ≤ s + 1; omega, by show s + 1 ≤ t + 1; omega⟩, ?_, ?_⟩
        · rw [if_neg (show ¬ bI true = 0 from i10), show nI q + bI true = nI (q + 1) from nI_1 q, nI_1, nI_1]
        · rw [if_neg (show ¬ bI true = 0 from i10), if_neg (show ¬ bI true = 0 from i10), Option.bind_some, if_neg (show ¬ bI true = 0 from i10), nI_1, nI_1, nI_1]
end
