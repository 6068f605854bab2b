/-! THE STEPS: who can be out -/
theorem x2_setT {J : VX2} {n t : Nat} (hJ : J.2.2.2.2.2.1 = nI n) (hn : n ≤ 8) (ht : t < 2 ^ n) : f_X2_isSet J (nI t) = some 1 := by
  have hN : 2 ^ n ≤ 256 := Nat.pow_le_pow_right (show 2 > 0 by decide) hn
  unfold f_X2_isSet
  rw [if_neg (nI_pos (by omega)), x2_all hJ hn, Option.bind_some, if_neg (nI_nlt (by omega) (by omega))]
theorem x2_setF {J : VX2} {n : Nat} {v : Int32} (hJ : J.2.2.2.2.2.1 = nI n) (hn : n ≤ 8) (h : v < 0 ∨ nI (2 ^ n) ≤ v) : f_X2_isSet J v = some 0 := by
  have hN : 2 ^ n ≤ 256 := Nat.pow_le_pow_right (show 2 > 0 by decide) hn
  have h1 : 0 < 2 ^ n := Nat.two_pow_pos _
  unfold f_X2_isSet
  by_cases h0 : v < 0
  · rw [if_pos h0]
  · rw [if_neg h0, x2_all hJ hn, Option.bind_some, if_pos (ge_lt (show nI (2 ^ n - 1 + 1) ≤ v by rw [show 2 ^ n - 1 + 1 = 2 ^ n by omega]; exact h.resolve_left h0) (by omega))]
theorem m_setT {M : VX11} {n t : Nat} (hJ : M.2.2.2.2.2.2.2.2.2.2.1 = nI n) (hn : n ≤ 8) (ht : t < 2 ^ n) : f_X11_isSet M (nI t) = some 1 := by
  have hN : 2 ^ n ≤ 256 := Nat.pow_le_pow_right (show 2 > 0 by decide) hn
  unfold f_X11_isSet
  rw [m_all hJ hn, Option.bind_some, show f_X11_in (nI t) 0 (nI (2 ^ n - 1)) = some 1 from m_inT (lo := 0) (Nat.zero_le _) (by omega) (by omega)]; rfl
theorem m_setF {M : VX11} {n : Nat} {v : Int32} (hJ : M.2.2.2.2.2.2.2.2.2.2.1 = nI n) (hn : n ≤ 8) (h : v < 0 ∨ nI (2 ^ n) ≤ v) : f_X11_isSet M v = some 0 := by
  have hN : 2 ^ n ≤ 256 := Nat.pow_le_pow_right (show 2 > 0 by decide) hn
  have h1 : 0 < 2 ^ n := Nat.two_pow_pos _
  unfold f_X11_isSet
  rw [m_all hJ hn, Option.bind_some, show f_X11_in v 0 (nI (2 ^ n - 1)) = some 0 from m_inF (lo := 0) (h.imp id (fun q => by rw [show 2 ^ n - 1 + 1 = 2 ^ n by omega]; exact q)) (by omega)]; rfl
section
variable {S : VX10} {M : VX11}
theorem RR.reach (hR : RR S M) (Z : VX4) (l o : Nat → Int32) : RR ((S.1, S.2.1, S.2.2.1, S.2.2.2.1, S.2.2.2.2.1, S.2.2.2.2.2.1, Z, S.2.2.2.2.2.2.2.1, S.2.2.2.2.2.2.2.2.1, S.2.2.2.2.2.2.2.2.2)) (mLO M l o) := by
  obtain ⟨hT, hr6, ht, a, hA, hE, hZ⟩ := hR
  exact ⟨hT, hr6, ht, a, hA, hE, hZ⟩
/-- both tables, all acting -/
theorem RR.all {a : AJ} (hA : AV a ∧ JR S.2.2.2.2.1 a ∧ MR M a) : ∃ Z l o R W, f_X10_reachAll S = some ((S.1, S.2.1, S.2.2.1, S.2.2.2.1, S.2.2.2.2.1, S.2.2.2.2.2.1, Z, S.2.2.2.2.2.2.2.1, S.2.2.2.2.2.2.2.2.1, S.2.2.2.2.2.2.2.2.2)) ∧ f_X11_all M = some (nI (2 ^ aN a - 1)) ∧ f_X11_layLeasts M (nI (2 ^ aN a - 1)) = some (mLO M l o) ∧ TB Z (mLO M l o) a (2 ^ aN a - 1) R W := by
  obtain ⟨hV, hJ, hM⟩ := hA
  have h1 : 0 < 2 ^ aN a := Nat.two_pow_pos _
  obtain ⟨Z, l, o, R, W, e1, e2, h⟩ := both hJ hM hV (show 2 ^ aN a - 1 < 2 ^ aN a by omega) S.2.2.2.2.2.2.1
  refine ⟨Z, l, o, R, W, ?_, m_all hM.1 hV.2.1, e2, h⟩
  unfold f_X10_reachAll
  rw [x2_all hJ.1 hV.2.1, Option.bind_some, e1] <;> rfl
theorem st_least (hR : RR S M) (v1 : Int32) : ∃ r : Int32, ∃ S2 : VX10, ∃ M2 : VX11, f_X10_least S v1 = some (r, S2) ∧ f_X11_least M v1 = some (r, M2) ∧ RR S2 M2 := by
  obtain ⟨hT, hr6, ht, a, hA, hE, hZ⟩ := id hR
  obtain ⟨hV, hJ, hM⟩ := id hA
  have hn := hV.2.1
  have hN := hV.N
  unfold f_X10_least f_X11_least
  rcases ix2 v1 (n := 2 ^ aN a) (by omega) with h | ⟨t, ht2, rfl⟩
  · exact ⟨-1, S, M, by rw [x2_setF hJ.1 hn h] <;> rfl, by rw [m_setF hM.1 hn h] <;> rfl, hR⟩
  obtain ⟨Z, l, o, R, W, e1, e2, e3, h⟩ := RR.all hA
  rw [x2_setT hJ.1 hn ht2, Option.bind_some, if_neg i10, m_setT hM.1 hn ht2, Option.bind_some, if_neg i10, e1, Option.bind_some, e2, Option.bind_some, e3, Option.bind_some, show f_X4_cheapestWith ((S.1, S.2.1, S.2.2.1, S.2.2.2.1, S.2.2.2.2.1, S.2.2.2.2.2.1, Z, S.2.2.2.2.2.2.2.1, S.2.2.2.2.2.2.2.2.1, S.2.2.2.2.2.2.2.2.2)).2.2.2.2.2.2.1 (nI t) = _ from x4_cheap h ht2, m_first h ht2, Option.bind_some, Option.bind_some]
  cases hb : bw R t (2 ^ aN a) with
  | none => exact ⟨-9, _, _, rfl, rfl, hR.reach Z l o⟩
  | some b =>
    obtain ⟨b1, b2⟩ := bw_some hb
    cases hr : R b with
    | none => rw [hr] at b2; cases b2
    | some v =>
      refine ⟨nI v, _, _, ?_, ?_, (hR.reach Z l o).tell (nI b)⟩
      · rw [oI_some, if_neg (nI_m9 (by omega)), show f_X4_favoursOf ((S.1, S.2.1, S.2.2.1, S.2.2.2.1, S.2.2.2.2.1, S.2.2.2.2.2.1, Z, S.2.2.2.2.2.2.2.1, S.2.2.2.2.2.2.2.2.1, S.2.2.2.2.2.2.2.2.2)).2.2.2.2.2.2.1 (nI b) = _ from x4_fav h b1, hr] <;> rfl
      · rw [oI_some, if_neg (nI_m9 (by omega)), zIn_t (show b < 256 by omega) (by decide), if_pos rfl, nI_clamp (by omega), (h.2.1 b b1).1, hr] <;> rfl
theorem st_ever (hR : RR S M) : ∃ r : Int32, ∃ S2 : VX10, ∃ M2 : VX11, f_X10_ever S = some (r, S2) ∧ f_X11_ever M = some (r, M2) ∧ RR S2 M2 := by
  obtain ⟨hT, hr6, ht, a, hA, hE, hZ⟩ := id hR
  obtain ⟨Z, l, o, R, W, e1, e2, e3, h⟩ := RR.all hA
  unfold f_X10_ever f_X11_ever
  rw [e1, Option.bind_some, e2, Option.bind_some, e3, Option.bind_some, show f_X4_inSome ((S.1, S.2.1, S.2.2.1, S.2.2.2.1, S.2.2.2.2.1, S.2.2.2.2.2.1, Z, S.2.2.2.2.2.2.2.1, S.2.2.2.2.2.2.2.2.1, S.2.2.2.2.2.2.2.2.2)).2.2.2.2.2.2.1 = _ from x4_some h, m_some h, Option.bind_some, Option.bind_some, show f_X2_everyone ((S.1, S.2.1, S.2.2.1, S.2.2.2.1, S.2.2.2.2.1, S.2.2.2.2.2.1, Z, S.2.2.2.2.2.2.2.1, S.2.2.2.2.2.2.2.2.1, S.2.2.2.2.2.2.2.2.2)).2.2.2.2.1 = _ from x2_all hA.2.1.1 hA.1.2.1, m_all h.2.2.2.2.2.2 h.n8, Option.bind_some, Option.bind_some]
  exact ⟨_, _, _, rfl, rfl, (hR.reach Z l o).tell _⟩
/-! the greatest -/
def gw (R : Nat → Option Nat) : Nat → Nat
  | 0 => 0
  | k + 1 => if (R k).isSome = true ∧ (pc (gw R k) < pc k ∨ (pc k = pc (gw R k) ∧ nv (R k) < nv (R (gw R k)))) then k else gw R k
theorem gw_lt {R : Nat → Option Nat} {N : Nat} (hN : 0 < N) : ∀ k, k ≤ N → gw R k < N
  | 0, _ => hN
  | k + 1, h => by
    rw [gw]
    split
    · omega
    · exact gw_lt hN k (by omega)
theorem gw_some {R : Nat → Option Nat} (h0 : (R 0).isSome = true) : ∀ k, (R (gw R k)).isSome = true
  | 0 => h0
  | k + 1 => by
    rw [gw]
    split
    · rename_i c; exact c.1
    · exact gw_some h0 k
def mx (R : Nat → Option Nat) : Nat → Nat
  | 0 => 0
  | k + 1 => if (R k).isSome = true then max (mx R k) (pc k) else mx R k
theorem gw_mx (R : Nat → Option Nat) : ∀ k, pc (gw R k) = mx R k
  | 0 => by show pc 0 = 0; decide
  | k + 1 => by
    have ih := gw_mx R k
    rw [gw, mx]
    by_cases c : (R k).isSome = true
    · rw [if_pos c]
      by_cases d : (pc (gw R k) < pc k ∨ (pc k = pc (gw R k) ∧ nv (R k) < nv (R (gw R k))))
      · rw [if_pos ⟨c, d⟩]; omega
      · rw [if_neg (fun q => d q.2), ih]; omega
    · rw [if_neg c, if_neg (fun q => c q.1)]; exact ih
theorem gw_off {R : Nat → Option Nat} {N : Nat} : ∀ N', N ≤ N' → (∀ t, N ≤ t → t < N' → R t = none) → gw R N' = gw R N
  | 0, h, _ => by rw [show N = 0 by omega]
  | N' + 1, h, hp => by
    by_cases e : N = N' + 1
    · rw [e]
    · rw [gw, hp N' (by omega) (by omega), if_neg (fun q => by cases q.1), gw_off N' (by omega) (fun t h1 h2 => hp t h1 (by omega))]
end
section
variable {S : VX4} {M : VX11} {a : AJ} {act : Nat} {R : Nat → Option Nat} {W : Nat → Nat}
theorem pc_sub {i j : Nat} (hi : i ≤ 8) (hj : j ≤ 8) : (0 < nI i - nI j ↔ j < i) ∧ (nI i - nI j = 0 ↔ i = j) :=
  ⟨(by decide +kernel : ∀ i j : Fin 9, 0 < nI i.val - nI j.val ↔ j.val < i.val) ⟨i, by omega⟩ ⟨j, by omega⟩, (by decide +kernel : ∀ i j : Fin 9, nI i.val - nI j.val = 0 ↔ i.val = j.val) ⟨i, by omega⟩ ⟨j, by omega⟩⟩
theorem x4_great (h : TB S M a act R W) : f_X4_greatest S = some (nI (gw R (2 ^ aN a))) := by
  have hN := h.N
  have hA := h.actN
  rw [gw_off (N := act + 1) (2 ^ aN a) (by omega) (fun t h1 h2 => h.off h2 (by omega))]
  unfold f_X4_greatest
  have e0 : gw R 1 = 0 := by
    rw [gw, if_neg]; rfl
    rintro ⟨-, c | ⟨-, c⟩⟩ <;> exact absurd c (Nat.lt_irrefl _)
  have main := loop_is (fun f v1 v2 => f_X4_greatest_4 f S v1 v2) (fun k => nI (gw R k)) 1 (act + 1) (some (nI (gw R (act + 1)))) (fun n => ?_) (fun n k hk1 hk => ?_) 4096 1 (Nat.le_refl _) (by omega) (by omega)
  · rw [e0] at main; exact main
  · show f_X4_greatest_4 (n + 1) S _ (nI (act + 1)) = _
    rw [f_X4_greatest_4, h.1.1, if_pos (nI_lt (by omega) (by omega))]
  · show f_X4_greatest_4 (n + 1) S (nI (gw R k)) (nI k) = f_X4_greatest_4 n S (nI (gw R (k + 1))) (nI (k + 1))
    have hg : gw R k < 2 ^ aN a := gw_lt (Nat.two_pow_pos _) k (by omega)
    rw [f_X4_greatest_4, h.1.1, if_neg (nI_nlt (by omega) (by omega)), x4_has h (by omega), Option.bind_some, nI_1, gw]
    cases hr : R k with
    | none => rw [if_pos (by decide), if_neg (fun q => by cases q.1)]
    | some v =>
      have hv := h.small (show k < 2 ^ aN a by omega) hr
      have hgs := gw_some (R := R) (by rw [h.r0]; rfl) k
      cases hrg : R (gw R k) with
      | none => rw [hrg] at hgs; cases hgs
      | some w =>
        have hw := h.small hg hrg
        obtain ⟨s1, s2⟩ := pc_sub (pc_le k) (pc_le (gw R k))
        rw [if_neg (show ¬ bI (some v).isSome = 0 from i10)]
        unfold f_X4_isGreater
        rw [n_cnt (show k < 256 by omega), Option.bind_some, n_cnt (show gw R k < 256 by omega), Option.bind_some, x4_fav h (show k < 2 ^ aN a by omega), Option.bind_some, x4_fav h hg, Option.bind_some, hr, hrg, oI_some, oI_some]
        have ev : nv (some v) = v := rfl
        have ew : nv (some w) = w := rfl
        have es : (some v).isSome = true := rfl
        by_cases c1 : pc (gw R k) < pc k
        · rw [if_pos (s1.2 c1), Option.bind_some, if_neg i10, if_pos (And.intro es (Or.inl c1))]
        · rw [if_neg (fun q => c1 (s1.1 q))]
          by_cases c2 : pc k = pc (gw R k)
          · rw [if_pos (s2.2 c2)]
            by_cases c3 : w ≤ v
            · rw [if_pos (nI_le c3 (by omega)), Option.bind_some, if_pos rfl, if_neg (fun q => by omega)]
            · rw [if_neg (nI_ge (by omega) (by omega)), Option.bind_some, if_neg i10, if_pos (And.intro es (Or.inr (And.intro c2 (by omega))))]
          · rw [if_neg (fun q => c2 (s2.1 q)), Option.bind_some, if_pos rfl, if_neg (fun q => by omega)]
end
section
variable {S : VX10} {M : VX11}
theorem st_reached (hR : RR S M) : ∃ r : Int32, ∃ S2 : VX10, ∃ M2 : VX11, f_X10_reached S = some (r, S2) ∧ f_X11_reached M = some (r, M2) ∧ RR S2 M2 := by
  obtain ⟨hT, hr6, ht, a, hA, hE, hZ⟩ := id hR
  obtain ⟨Z, l, o, R, W, e1, e2, e3, h⟩ := RR.all hA
  have hN := h.N
  have h1 : 0 < 2 ^ aN a := Nat.two_pow_pos _
  have hg : gw R (2 ^ aN a) < 2 ^ aN a := gw_lt h1 _ (Nat.le_refl _)
  refine ⟨nI (ct (rP R) (2 ^ aN a)), _, _, ?_, ?_, (hR.reach Z l o).tell (nI (mx R (2 ^ aN a)))⟩
  · unfold f_X10_reached
    rw [e1, Option.bind_some, show f_X4_greatest ((S.1, S.2.1, S.2.2.1, S.2.2.2.1, S.2.2.2.2.1, S.2.2.2.2.2.1, Z, S.2.2.2.2.2.2.2.1, S.2.2.2.2.2.2.2.2.1, S.2.2.2.2.2.2.2.2.2)).2.2.2.2.2.2.1 = _ from x4_great h, Option.bind_some, n_cnt (show gw R (2 ^ aN a) < 256 by omega), gw_mx, Option.bind_some, show f_X4_howMany ((S.1, S.2.1, S.2.2.1, S.2.2.2.1, S.2.2.2.2.1, S.2.2.2.2.2.1, Z, S.2.2.2.2.2.2.2.1, S.2.2.2.2.2.2.2.2.1, S.2.2.2.2.2.2.2.2.2)).2.2.2.2.2.2.1 = _ from x4_many h] <;> rfl
  · unfold f_X11_reached
    rw [e2, Option.bind_some, e3, Option.bind_some]
    refine loop_is (fun f v1 v2 => f_X11_reached_12 f (mLO M l o) v1 v2) (fun k => nI (mx R k)) 0 (2 ^ aN a) _ (fun n => ?_) (fun n k _ hk => ?_) 4096 0 (Nat.le_refl _) (by omega) (by omega)
    · show f_X11_reached_12 (n + 1) (mLO M l o) _ (nI (2 ^ aN a)) = _
      rw [f_X11_reached_12, m_all h.2.2.2.2.2.2 h.n8, Option.bind_some, if_pos (nI_lt (by omega) (by omega)), m_many h] <;> rfl
    · show f_X11_reached_12 (n + 1) (mLO M l o) (nI (mx R k)) (nI k) = f_X11_reached_12 n (mLO M l o) (nI (mx R (k + 1))) (nI (k + 1))
      have ho := h.ord hk
      have hm8 : mx R k ≤ 8 := by rw [← gw_mx]; exact pc_le _
      have hp8 := pc_le k
      rw [f_X11_reached_12, m_all h.2.2.2.2.2.2 h.n8, Option.bind_some, if_neg (nI_nlt (by omega) (by omega)), zIn_t (show k < 256 by omega) (by decide), if_pos rfl, nI_clamp (by omega), n_bits (show k < 256 by omega), Option.bind_some, n_greater _ _ (by omega) (by omega), Option.bind_some, nI_1, mx]
      by_cases c : (R k).isSome = true
      · rw [if_neg (fun q => by rw [ho.1 q] at c; cases c), if_pos c]
      · rw [if_pos (ho.2 (by simpa using c)), if_neg c]
theorem st_most (hR : RR S M) : ∃ r : Int32, ∃ S2 : VX10, ∃ M2 : VX11, f_X10_most S = some (r, S2) ∧ f_X11_most M = some (r, M2) ∧ RR S2 M2 := by
  obtain ⟨hT, hr6, ht, a, hA, hE, hZ⟩ := id hR
  obtain ⟨Z, l, o, R, W, e1, e2, e3, h⟩ := RR.all hA
  have hN := h.N
  have h1 : 0 < 2 ^ aN a := Nat.two_pow_pos _
  have hg : gw R (2 ^ aN a) < 2 ^ aN a := gw_lt h1 _ (Nat.le_refl _)
  have hgs := gw_some (R := R) (by rw [h.r0]; rfl) (2 ^ aN a)
  cases hrg : R (gw R (2 ^ aN a)) with
  | none => rw [hrg] at hgs; cases hgs
  | some w =>
    refine ⟨nI (gw R (2 ^ aN a)), _, _, ?_, ?_, (hR.reach Z l o).tell (nI w)⟩
    · unfold f_X10_most
      rw [e1, Option.bind_some, show f_X4_greatest ((S.1, S.2.1, S.2.2.1, S.2.2.2.1, S.2.2.2.2.1, S.2.2.2.2.2.1, Z, S.2.2.2.2.2.2.2.1, S.2.2.2.2.2.2.2.2.1, S.2.2.2.2.2.2.2.2.2)).2.2.2.2.2.2.1 = _ from x4_great h, Option.bind_some, show f_X4_favoursOf ((S.1, S.2.1, S.2.2.1, S.2.2.2.1, S.2.2.2.2.1, S.2.2.2.2.2.1, Z, S.2.2.2.2.2.2.2.1, S.2.2.2.2.2.2.2.2.1, S.2.2.2.2.2.2.2.2.2)).2.2.2.2.2.2.1 (nI (gw R (2 ^ aN a))) = _ from x4_fav h hg, hrg] <;> rfl
    · unfold f_X11_most
      rw [e2, Option.bind_some, e3, Option.bind_some]
      refine loop_is (fun f v1 v2 => f_X11_most_12 f (mLO M l o) v1 v2) (fun k => nI (gw R k)) 0 (2 ^ aN a) _ (fun n => ?_) (fun n k _ hk => ?_) 4096 0 (Nat.le_refl _) (by omega) (by omega)
      · show f_X11_most_12 (n + 1) (mLO M l o) (nI (gw R (2 ^ aN a))) (nI (2 ^ aN a)) = _
        rw [f_X11_most_12, m_all h.2.2.2.2.2.2 h.n8, Option.bind_some, if_pos (nI_lt (by omega) (by omega)), zIn_t (show gw R (2 ^ aN a) < 256 by omega) (by decide), if_pos rfl, nI_clamp (by omega), (h.2.1 _ hg).1, hrg] <;> rfl
      · show f_X11_most_12 (n + 1) (mLO M l o) (nI (gw R k)) (nI k) = f_X11_most_12 n (mLO M l o) (nI (gw R (k + 1))) (nI (k + 1))
        have hgk : gw R k < 2 ^ aN a := gw_lt h1 k (by omega)
        have ho := h.ord hk
        have p1 := pc_le k
        have p2 := pc_le (gw R k)
        have v1 := h.nvle hk
        have v2 := h.nvle hgk
        have e : ∀ b : Bool, f_X11_most_62 (f_X11_most_12 n) (mLO M l o) (nI (gw R k)) (nI k) (bI b) = f_X11_most_12 n (mLO M l o) (nI (if (R k).isSome = true ∧ b = true then k else gw R k)) (nI (k + 1)) := fun b => by
          unfold f_X11_most_62
          rw [zIn_t (show k < 256 by omega) (by decide), if_pos rfl, nI_clamp (by omega), nI_1]
          by_cases c : (R k).isSome = true
          · rw [if_neg (fun q => by rw [ho.1 q] at c; cases c)]
            cases b with
            | true => rw [if_neg (by decide), if_pos ⟨c, rfl⟩]
            | false => rw [if_pos (by decide), if_neg (fun q => by cases q.2)]
          · rw [if_pos (ho.2 (by simpa using c)), if_neg (fun q => c q.1)]
        have e0 : f_X11_most_62 (f_X11_most_12 n) (mLO M l o) (nI (gw R k)) (nI k) 0 = f_X11_most_12 n (mLO M l o) (nI (if (R k).isSome = true ∧ false = true then k else gw R k)) (nI (k + 1)) := e false
        have e1 : f_X11_most_62 (f_X11_most_12 n) (mLO M l o) (nI (gw R k)) (nI k) 1 = f_X11_most_12 n (mLO M l o) (nI (if (R k).isSome = true ∧ true = true then k else gw R k)) (nI (k + 1)) := e true
        rw [f_X11_most_12, m_all h.2.2.2.2.2.2 h.n8, Option.bind_some, if_neg (nI_nlt (by omega) (by omega)), n_bits (show k < 256 by omega), Option.bind_some, n_bits (show gw R k < 256 by omega), Option.bind_some, Option.bind_some, Option.bind_some, zIn_t (show k < 256 by omega) (by decide), zIn_t (show gw R k < 256 by omega) (by decide), nI_clamp (show k < 2 ^ 31 by omega), nI_clamp (show gw R k < 2 ^ 31 by omega), (h.2.1 _ hk).1, (h.2.1 _ hgk).1, gw, e0, e1]
        simp only [if_T]
        by_cases c1 : pc (gw R k) < pc k
        · rw [if_pos (nI_lt c1 (by omega))]
          by_cases c : (R k).isSome = true
          · rw [if_pos ⟨c, trivial⟩, if_pos ⟨c, Or.inl c1⟩]
          · rw [if_neg (fun q => c q.1), if_neg (fun q => c q.1)]
        · rw [if_neg (nI_nlt (by omega) (by omega)), if_neg (fun q : (R k).isSome = true ∧ false = true => by cases q.2)]
          by_cases c2 : pc k = pc (gw R k)
          · rw [if_pos (by rw [c2])]
            by_cases c3 : nv (R (gw R k)) ≤ nv (R k)
            · rw [if_pos (nI_le c3 (by omega)), if_neg (fun q => by omega)]
            · rw [if_neg (nI_ge (by omega) (by omega))]
              by_cases c : (R k).isSome = true
              · rw [if_pos ⟨c, trivial⟩, if_pos ⟨c, Or.inr ⟨c2, by omega⟩⟩]
              · rw [if_neg (fun q => c q.1), if_neg (fun q => c q.1)]
          · rw [if_neg (fun q => c2 ((nI_eq (by omega) (by omega)).1 q)), if_neg (fun q => by omega)]
end
