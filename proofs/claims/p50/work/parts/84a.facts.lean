/-! WHAT THE LAW COUNTS: facts of the tables, steps by their answers alone -/
theorem l_bits {s : Nat} (h : s < 256) : f_L_bits (nI s) = some (nI (pc s)) := by
  unfold f_L_bits
  refine loop_is (fun f v1 v2 => f_L_bits_4 f (nI s) v1 v2) (fun k => nI (ct s.testBit k)) 0 8 _ (fun n => ?_) (fun n k _ hk => ?_) 4096 0 (Nat.le_refl _) (by omega) (by omega)
  · show f_L_bits_4 (n + 1) (nI s) _ (nI 8) = _
    rw [f_L_bits_4, if_pos (by decide)]; rfl
  · show f_L_bits_4 (n + 1) (nI s) (nI (ct s.testBit k)) (nI k) = f_L_bits_4 n (nI s) (nI (ct s.testBit k + (s.testBit k).toNat)) (nI (k + 1))
    rw [f_L_bits_4, if_neg (show ¬ (8 : Int32) ≤ nI k from nI_ge hk (by decide)), n_tstb (show s < 2 ^ 31 by omega) (by omega), nI_1]
    generalize ct s.testBit k = c
    cases s.testBit k with
    | false => exact congrArg (fun v => f_L_bits_4 n (nI s) v (nI (k + 1))) (show nI c + bI false = nI (c + false.toNat) from nI_a0 c)
    | true => exact congrArg (fun v => f_L_bits_4 n (nI s) v (nI (k + 1))) (show nI c + bI true = nI (c + true.toNat) from nI_1 c)
theorem l_in {s x : Nat} (hs : s < 2 ^ 31) (hx : x < 31) : f_L_in (nI s) (nI x) = some (bI (s.testBit x)) := by
  unfold f_L_in
  rw [n_tstb hs hx]
  cases s.testBit x <;> rfl
theorem mx_ge {R : Nat → Option Nat} {t : Nat} (h : (R t).isSome = true) : ∀ k, t < k → pc t ≤ mx R k
  | 0, hk => by omega
  | k + 1, hk => by
    rw [mx]
    by_cases e : t = k
    · subst e
      rw [if_pos h]; omega
    · have := mx_ge h k (by omega)
      split <;> omega
theorem bw_sub {R : Nat → Option Nat} {set b : Nat} : ∀ {N : Nat}, bw R set N = some b → sd set b = 0
  | 0, h => by cases h
  | N + 1, h => by
    rw [bw] at h
    split at h
    · rename_i c
      cases h
      simp only [Bool.and_eq_true, decide_eq_true_eq] at c
      exact c.1.2
    · exact bw_sub h
theorem bw_le {R : Nat → Option Nat} {set t v : Nat} (hr : R t = some v) (hs : sd set t = 0) : ∀ k, t < k → ∃ b w, bw R set k = some b ∧ R b = some w ∧ w ≤ v
  | 0, h => by omega
  | k + 1, h => by
    rw [bw]
    by_cases c : ((R k).isSome && decide (sd set k = 0) && bwC R set k (bw R set k)) = true
    · rw [if_pos c]
      rw [Bool.and_eq_true, Bool.and_eq_true] at c
      cases hk : R k with
      | none => rw [hk] at c; exact absurd c.1.1 (by decide)
      | some u =>
        refine ⟨k, u, rfl, hk, ?_⟩
        by_cases e : t = k
        · subst e; rw [hr] at hk; cases hk; exact Nat.le_refl _
        · obtain ⟨b, w, q1, q2, q3⟩ := bw_le hr hs k (by omega)
          have c2 := c.2
          rw [q1] at c2
          have c2 : decide (nv (R k) < nv (R b)) = true := c2
          rw [hk, q2] at c2
          have c2 : u < w := of_decide_eq_true c2
          omega
    · rw [if_neg c]
      by_cases e : t = k
      · subst e
        cases hb : bw R set t with
        | none =>
          rw [hb, hr] at c
          exact absurd (show ((some v).isSome && decide (sd set t = 0) && true) = true by rw [decide_eq_true hs]; rfl) c
        | some b =>
          obtain ⟨b1, b2⟩ := bw_some hb
          cases hw : R b with
          | none => rw [hw] at b2; cases b2
          | some w =>
            refine ⟨b, w, rfl, hw, Nat.le_of_not_lt fun q => c ?_⟩
            rw [hb, hr]
            show ((some v).isSome && decide (sd set t = 0) && decide (nv (R t) < nv (R b))) = true
            rw [hr, hw, decide_eq_true hs, decide_eq_true (show nv (some v) < nv (some w) from q)]; rfl
      · exact bw_le hr hs k (by omega)
theorem un_bit {p : Nat → Bool} {i : Nat} : ∀ {N : Nat}, (un p N).testBit i = true ↔ ∃ t, t < N ∧ p t = true ∧ t.testBit i = true
  | 0 => ⟨(fun h => by rw [un, Nat.zero_testBit] at h; cases h), (fun ⟨t, h, _⟩ => by omega)⟩
  | N + 1 => by
    rw [un, Nat.testBit_or, Bool.or_eq_true, un_bit (N := N)]
    constructor
    · rintro (⟨t, h1, h2, h3⟩ | h)
      · exact ⟨t, by omega, h2, h3⟩
      · split at h
        · rename_i c; exact ⟨N, by omega, c, h⟩
        · rw [Nat.zero_testBit] at h; cases h
    · rintro ⟨t, h1, h2, h3⟩
      by_cases e : t = N
      · subst e; right; rw [if_pos h2]; exact h3
      · exact Or.inl ⟨t, by omega, h2, h3⟩
theorem isx_bit {p : Nat → Bool} {F i : Nat} : ∀ {N : Nat}, (isx p F N).testBit i = true ↔ F.testBit i = true ∧ ∀ t, t < N → p t = true → t.testBit i = true
  | 0 => ⟨fun h => ⟨h, fun t h => by omega⟩, fun h => h.1⟩
  | N + 1 => by
    rw [isx]
    by_cases c : p N = true
    · rw [if_pos c, Nat.testBit_and, Bool.and_eq_true, isx_bit (N := N)]
      constructor
      · rintro ⟨⟨h1, h2⟩, h3⟩
        refine ⟨h1, fun t ht hp => ?_⟩
        by_cases e : t = N
        · rw [e]; exact h3
        · exact h2 t (by omega) hp
      · rintro ⟨h1, h2⟩
        exact ⟨⟨h1, fun t ht hp => h2 t (by omega) hp⟩, h2 N (by omega) c⟩
    · rw [if_neg c, isx_bit (N := N)]
      constructor
      · rintro ⟨h1, h2⟩
        refine ⟨h1, fun t ht hp => ?_⟩
        by_cases e : t = N
        · rw [e] at hp; exact absurd hp c
        · exact h2 t (by omega) hp
      · rintro ⟨h1, h2⟩
        exact ⟨h1, fun t ht hp => h2 t (by omega) hp⟩
theorem ct_cg {p q : Nat → Bool} : ∀ {n : Nat}, (∀ i, i < n → p i = q i) → ct p n = ct q n
  | 0, _ => rfl
  | n + 1, h => by rw [ct, ct, ct_cg (n := n) (fun i hi => h i (by omega)), h n (by omega)]
theorem ct_mo {p q : Nat → Bool} : ∀ {n : Nat}, (∀ i, i < n → p i = true → q i = true) → ct p n ≤ ct q n
  | 0, _ => Nat.le_refl _
  | n + 1, h => by
    rw [ct, ct]
    have := ct_mo (n := n) (fun i hi => h i (by omega))
    cases hp : p n with
    | false => show ct p n + 0 ≤ _; omega
    | true => rw [h n (by omega) hp]; omega
theorem ct_pos {p : Nat → Bool} {i : Nat} (hp : p i = true) : ∀ {n : Nat}, i < n → 0 < ct p n
  | 0, h => by omega
  | n + 1, h => by
    rw [ct]
    by_cases e : i = n
    · subst e; rw [hp]; show 0 < _ + 1; omega
    · have := ct_pos hp (n := n) (by omega)
      omega
theorem ct_zero {p : Nat → Bool} {n : Nat} (h : ct p n = 0) {i : Nat} (hi : i < n) : p i = false := by
  cases e : p i with
  | false => rfl
  | true => have := ct_pos e hi; omega
theorem ct_ex {p : Nat → Bool} : ∀ {n : Nat}, 0 < ct p n → ∃ i, i < n ∧ p i = true
  | 0, h => by rw [ct] at h; omega
  | n + 1, h => by
    cases e : p n with
    | true => exact ⟨n, by omega, e⟩
    | false =>
      rw [ct, e] at h
      obtain ⟨i, h1, h2⟩ := ct_ex (n := n) h
      exact ⟨i, by omega, h2⟩
section
variable {a : AJ} {R : Nat → Option Nat} {W : Nat → Nat}
theorem TA.w (hT : TA a R W) {t : Nat} (ht : t < (2 ^ aN a)) : decide (0 < W t) = (R t).isSome := by
  have := hT.rw ht
  cases hr : R t with
  | none =>
    rw [hr] at this
    exact decide_eq_false fun q => this.2 q rfl
  | some v =>
    rw [hr] at this
    exact decide_eq_true (this.1 (by simp))
theorem TA.ever (hT : TA a R W) {t v : Nat} (ht : t < (2 ^ aN a)) (hr : R t = some v) : sd t (un (rP R) ((2 ^ aN a))) = 0 :=
  sd0.2 fun i hi => un_bit.2 ⟨t, ht, by show (R t).isSome = true; rw [hr]; rfl, hi⟩
end
/-! the law's state -/
def RK (S : VX10) : Prop := (∀ r, r < 6 → S.2.1.2 r = -1 ∨ ∃ k, k ≤ 60 ∧ S.2.1.2 r = nI k) ∧ (∀ t, t < 4 → S.2.2.1.2 t = -1 ∨ ∃ k, k ≤ 100 ∧ S.2.2.1.2 t = nI k) ∧ ∀ k, k < 3 → S.2.2.2.2.2.1.1 k = -1
def LSt (S : VX10) (a : AJ) (g f : Nat) : Prop := JR S.2.2.2.2.1 a ∧ S.2.2.2.2.2.1.2.2.1 = nI g ∧ S.2.2.2.2.2.1.2.2.2 = nI f ∧ S.2.2.2.2.2.2.2.2.2.2.2 = 0 ∧ RK S
theorem LS0.ls {S : VX10} {a : AJ} (h : LS0 S a) : LSt S a 0 0 := by
  obtain ⟨⟨M, hR⟩, h1, h2, h3, h4, h5⟩ := h
  obtain ⟨-, hr, ht, -⟩ := hR
  refine ⟨h1, h2, h3, h5, fun r hr6 => ?_, fun t ht4 => ?_, h4⟩
  · obtain ⟨e, g⟩ := hr r hr6
    rw [e]
    exact g.imp id fun ⟨k, k1, k2, _⟩ => ⟨k, k1, k2⟩
  · obtain ⟨e, g⟩ := ht t ht4
    rw [e]
    exact g.imp id fun ⟨k, k1, k2, _⟩ => ⟨k, k1, k2⟩
theorem RK.row {z : Nat → Int32} (h : ∀ r, r < 6 → z r = -1 ∨ ∃ k, k ≤ 60 ∧ z r = nI k) (q : Nat) {k : Nat} (hk : k ≤ 60) : ∀ r, r < 6 → upd z q (nI k) r = -1 ∨ ∃ j, j ≤ 60 ∧ upd z q (nI k) r = nI j := fun r hr => by
  rw [upd_at]
  by_cases c : r = q
  · rw [if_pos c]; exact Or.inr ⟨k, hk, rfl⟩
  · rw [if_neg c]; exact h r hr
section
variable {S : VX10} {a : AJ} {R : Nat → Option Nat} {W : Nat → Nat} {g f : Nat}
theorem ls_order (h : LSt S a g f) (hT : TA a R W) {set q : Nat} (hs : set < (2 ^ aN a)) (hq : q < 6) : (R set = none ∧ ∃ S1, f_X10_order S (nI set) (nI q) = some (-9, S1) ∧ LSt S1 a g f) ∨ ∃ v t S1, R set = some v ∧ v ≤ 112 ∧ WK a set v t ∧ f_X10_order S (nI set) (nI q) = some (nI v, S1) ∧ LSt S1 a g f ∧ S1.2.1.2 q = nI (pc set) ∧ ∀ i, i < pc set → S1.2.1.1 q i = nI (t i) := by
  obtain ⟨h1, h2, h3, h4, h5, h6, h7⟩ := h
  rcases e_order h1 hT hs hq with ⟨r, O, e⟩ | ⟨v, O, P, t, r, hw, e, hp, -⟩
  · exact Or.inl ⟨r, _, e, h1, h2, h3, h4, h5, h6, h7⟩
  · exact Or.inr ⟨v, t, _, r, hT.small hs r, hw, e, ⟨h1, h2, h3, h4, RK.row h5 q (k := pc set) (by have := pc_le set; omega), h6, h7⟩, (upd_at _ _ _ _).trans (if_pos rfl), hp⟩
theorem ls_least (h : LSt S a g f) (hT : TA a R W) {t : Nat} (ht : t < (2 ^ aN a)) : ∃ r S1, f_X10_least S (nI t) = some (r, S1) ∧ LSt S1 a g f ∧ S1.2.1 = S.2.1 ∧ ∀ v, R t = some v → ∃ b w, r = nI w ∧ w ≤ v ∧ S1.1.2.1 = nI b ∧ sd t b = 0 ∧ b < (2 ^ aN a) := by
  rcases e_least h.1 hT ht with ⟨hb, Z, e⟩ | ⟨Z, b, v, hb, hr, e⟩
  · refine ⟨-9, _, e, h, rfl, fun v hv => ?_⟩
    obtain ⟨b, w, q, -⟩ := bw_le hv (sd0.2 fun _ i => i) ((2 ^ aN a)) ht
    rw [hb] at q; cases q
  · refine ⟨nI v, _, e, h, rfl, fun u hu => ?_⟩
    obtain ⟨b', w, q1, q2, q3⟩ := bw_le hu (sd0.2 fun _ i => i) ((2 ^ aN a)) ht
    rw [hb] at q1
    cases q1
    rw [hr] at q2
    cases q2
    exact ⟨b, v, rfl, q3, rfl, bw_sub hb, (bw_some hb).1⟩
theorem ls_ways (h : LSt S a g f) (hT : TA a R W) {t : Nat} (ht : t < (2 ^ aN a)) : ∃ S1, f_X10_ways S (nI t) = some (nI (W t), S1) ∧ LSt S1 a g f := by
  obtain ⟨O, e⟩ := e_ways h.1 hT ht
  exact ⟨_, e, h⟩
theorem ls_reached (h : LSt S a g f) (hT : TA a R W) : ∃ S1, f_X10_reached S = some (nI (ct (rP R) ((2 ^ aN a))), S1) ∧ LSt S1 a g f ∧ f_X10_asked S1 = some (nI (mx R ((2 ^ aN a)))) ∧ S1.2.1 = S.2.1 := by
  obtain ⟨Z, e⟩ := e_reached h.1 hT
  exact ⟨_, e, h, rfl, rfl⟩
theorem ls_ever (h : LSt S a g f) (hT : TA a R W) : ∃ S1, f_X10_ever S = some (nI (un (rP R) ((2 ^ aN a))), S1) ∧ LSt S1 a g f ∧ f_X10_asked S1 = some (nI (sd ((2 ^ aN a - 1)) (un (rP R) ((2 ^ aN a))))) := by
  obtain ⟨Z, e⟩ := e_ever h.1 hT
  exact ⟨_, e, h, rfl⟩
theorem ls_most (h : LSt S a g f) (hT : TA a R W) : ∃ w S1, R (gw R ((2 ^ aN a))) = some w ∧ f_X10_most S = some (nI (gw R ((2 ^ aN a))), S1) ∧ LSt S1 a g f ∧ f_X10_asked S1 = some (nI w) := by
  obtain ⟨Z, w, r, e⟩ := e_most h.1 hT
  exact ⟨w, _, r, e, h, rfl⟩
theorem ls_at (h : LSt S a g f) {q k i : Nat} (hq : q < 6) (hk : k ≤ 60) (e : S.2.1.2 q = nI k) (hi : i < k) : ∃ S1, f_X10_at S (nI q) (nI i) = some (1, S1) ∧ LSt S1 a g f ∧ S1.2.1 = S.2.1 ∧ f_X10_asked S1 = some (S.2.1.1 q i) := ⟨_, e_at hq hk e hi, h, rfl, rfl⟩
theorem ls_let (h : LSt S a g f) (hV : AV a) {x c : Nat} (hx : x < aN a) (hg : g < (2 ^ aN a)) (hb : g.testBit x = false) (hc : costC a x g ((2 ^ aN a - 1)) = some c) : ∃ S1, f_X10_let S (nI x) = some (nI c, S1) ∧ LSt S1 a (g ||| 2 ^ x) (f + c) ∧ S1.2.1 = S.2.1 := by
  have e := e_let h.1 hV hx hg h.2.1 hb hc
  exact ⟨_, e, ⟨h.1, rfl, by show S.2.2.2.2.2.1.2.2.2 + nI c = _; rw [h.2.2.1, nI_add], h.2.2.2.1, h.2.2.2.2⟩, rfl⟩
theorem ls_out (h : LSt S a g f) : ∃ S1, f_X10_out S = some (nI g, S1) ∧ LSt S1 a g f ∧ S1.2.1 = S.2.1 ∧ f_X10_asked S1 = some (nI f) := by
  refine ⟨(tel S.1 S.2.2.2.2.2.1.2.2.2, S.2.1, S.2.2.1, S.2.2.2.1, S.2.2.2.2.1, S.2.2.2.2.2.1, S.2.2.2.2.2.2.1, S.2.2.2.2.2.2.2.1, S.2.2.2.2.2.2.2.2.1, S.2.2.2.2.2.2.2.2.2), ?_, h, rfl, ?_⟩
  · rw [← h.2.1]; rfl
  · rw [← h.2.2.1]; rfl
theorem ls_bell (h : LSt S a g f) (hg : g < 256) : ∃ S1, f_X10_bell S = some (nI (pc g), S1) ∧ LSt S1 a 0 0 := ⟨_, e_bell hg h.2.1, h.1, rfl, rfl, h.2.2.2.1, h.2.2.2.2⟩
theorem ls_lets (h : LSt S a g f) (hV : AV a) {set v q : Nat} {t : Nat → Nat} (hw : WK a set v t) (hset : set < (2 ^ aN a)) (hv : v ≤ 112) (hq : q < 6) (e : S.2.1.2 q = nI (pc set)) (hP : ∀ i, i < pc set → S.2.1.1 q i = nI (t i)) : ∃ S1, f_X10_lets S (nI q) = some (nI (pc set), S1) ∧ LSt S1 a g f ∧ f_X10_asked S1 = some (nI v) :=
  ⟨_, e_lets h.1 hV hw hset hv hq e hP (pc_n hV.2.1 hset), h, rfl⟩
end
