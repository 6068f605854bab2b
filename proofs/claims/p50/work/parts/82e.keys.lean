/-! QUARRELS, ROWS, DOORS, KEYS: what the class answers -/
section
variable {S : VX10} {a : AJ} {R : Nat → Option Nat} {W : Nat → Nat}
theorem e_quarrel (hJ : JR S.2.2.2.2.1 a) (hV : AV a) {x y : Nat} (hx : x < aN a) (hy : y < aN a) (c0 : y ≠ x) : ∃ J', f_X10_quarrel S (nI x) (nI y) 0 = some (bI ((aF a x).testBit y), (S.1, S.2.1, S.2.2.1, S.2.2.2.1, J', S.2.2.2.2.2.1, S.2.2.2.2.2.2.1, S.2.2.2.2.2.2.2.1, S.2.2.2.2.2.2.2.2.1, S.2.2.2.2.2.2.2.2.2)) ∧ JR J' (aQu a x y false) := by
  have hn := hV.2.1
  have hN := hV.N
  have c0' : ¬ nI x = nI y := fun e => c0 ((nI_eq (by omega) (by omega)).1 e).symm
  have fx : aF a x < 2 ^ aN a := (hV.2.2 x hx).2.2.2.2.2.2.1
  have e1 : f_X2_setQuarrel S.2.2.2.2.1 (nI x) (nI y) (bI false) = some ((S.2.2.2.2.1.1, S.2.2.2.2.1.2.1, S.2.2.2.2.1.2.2.1, S.2.2.2.2.1.2.2.2.1, upd (upd S.2.2.2.2.1.2.2.2.2.1 x (nI (stb (aF a x) y false))) y (nI (stb (aF a y) x false)), S.2.2.2.2.1.2.2.2.2.2.1, S.2.2.2.2.1.2.2.2.2.2.2.1, S.2.2.2.2.1.2.2.2.2.2.2.2)) := by
    unfold f_X2_setQuarrel
    rw [x2_in hJ.1 hn hx, Option.bind_some, if_neg i10, x2_in hJ.1 hn hy, Option.bind_some, if_neg i10, zIn_t (show x < 8 by omega) (by decide), zIn_t (show y < 8 by omega) (by decide), nI_clamp (show x < 2 ^ 31 by omega), nI_clamp (show y < 2 ^ 31 by omega), (hJ.2.2.2 x hx).2.2.2.2, upd_at, if_neg c0, (hJ.2.2.2 y hy).2.2.2.2, n_one (by omega), n_one (by omega), n_sd, n_sd, n_bsh false (by omega), n_bsh false (by omega), n_or, n_or]
    simp only [if_T]
    rfl
  refine ⟨(S.2.2.2.2.1.1, S.2.2.2.2.1.2.1, S.2.2.2.2.1.2.2.1, S.2.2.2.2.1.2.2.2.1, upd (upd S.2.2.2.2.1.2.2.2.2.1 x (nI (stb (aF a x) y false))) y (nI (stb (aF a y) x false)), S.2.2.2.2.1.2.2.2.2.2.1, S.2.2.2.2.1.2.2.2.2.2.2.1, S.2.2.2.2.1.2.2.2.2.2.2.2), ?_, hJ.1, hJ.2.1, hJ.2.2.1, fun z hz => ?_⟩
  · unfold f_X10_quarrel
    rw [x2_in hJ.1 hn hx, Option.bind_some, if_neg i10, x2_in hJ.1 hn hy, Option.bind_some, if_neg i10, if_neg c0', show f_X10_isYesOrNo 0 = some 1 from x10_yesT false, Option.bind_some, if_neg i10, x2_foes hJ hn hx, Option.bind_some, show f_X2_setQuarrel S.2.2.2.2.1 (nI x) (nI y) 0 = _ from e1, Option.bind_some, n_tstb (show aF a x < 2 ^ 31 by omega) (by omega)]
  · obtain ⟨g1, g2, g3, g4, g5⟩ := hJ.2.2.2 z hz
    refine ⟨g1, g2, g3, g4, ?_⟩
    show upd (upd S.2.2.2.2.1.2.2.2.2.1 x (nI (stb (aF a x) y false))) y (nI (stb (aF a y) x false)) z = nI (if z = x then stb (aF a x) y false else if z = y then stb (aF a y) x false else aF a z)
    rw [upd_at, upd_at]
    by_cases d1 : z = y
    · rw [if_pos d1, if_neg (by omega), if_pos d1]
    · rw [if_neg d1]
      by_cases d2 : z = x
      · rw [if_pos d2, if_pos d2]
      · rw [if_neg d2, if_neg d2, if_neg d1, g5]
theorem e_count4 (hJ : JR S.2.2.2.2.1 a) (hV : AV a) (h0 : ∀ x, x < aN a → aF a x = 0) : f_X10_count S 4 = some 0 := by
  have e : ∀ n, n ≤ aN a → sumB (fun x => pc (aF a x)) n = 0 := fun n => by
    induction n with
    | zero => intro _; rfl
    | succ n ih => intro h; rw [sumB, ih (by omega), h0 n (by omega)]; decide
  unfold f_X10_count
  rw [if_neg (by decide), if_neg (by decide), if_neg (by decide), if_neg (by decide), if_pos (by decide), x2_quarrels hJ hV, e _ (Nat.le_refl _)]; rfl
theorem e_row {q k : Nat} (hq : q < 6) (hk : k ≤ 60) : ∃ P, f_X10_row S (nI q) (nI k) = some (nI k, (S.1, (P, upd S.2.1.2 q (nI k)), S.2.2.1, S.2.2.2.1, S.2.2.2.2.1, S.2.2.2.2.2.1, S.2.2.2.2.2.2.1, S.2.2.2.2.2.2.2.1, S.2.2.2.2.2.2.2.2.1, S.2.2.2.2.2.2.2.2.2)) ∧ (∀ i, i < k → P q i = 0) ∧ ∀ j, j ≠ q → P j = S.2.1.1 j := by
  obtain ⟨P, p1, p2, p3⟩ := x6_make (S := S.2.1) hq hk
  refine ⟨P, ?_, p2, p3⟩
  unfold f_X10_row
  rw [x6_numT hq, Option.bind_some, if_neg i10, if_pos (show nI k ≤ (60 : Int32) from nI_le hk (by decide)), if_pos (nI_pos' (by omega)), p1] <;> rfl
theorem e_lay {q k i : Nat} (hq : q < 6) (hk : k ≤ 60) (e : S.2.1.2 q = nI k) (hi : i < k) (v : Int32) : f_X10_lay S (nI q) (nI i) v = some (1, (tel S.1 (S.2.1.1 q i), (zg S.2.1.1 q (upd (S.2.1.1 q) i v), S.2.1.2), S.2.2.1, S.2.2.2.1, S.2.2.2.2.1, S.2.2.2.2.2.1, S.2.2.2.2.2.2.1, S.2.2.2.2.2.2.2.1, S.2.2.2.2.2.2.2.2.1, S.2.2.2.2.2.2.2.2.2)) := by
  unfold f_X10_lay
  rw [x10_placeT hq hk e hi, Option.bind_some, if_pos rfl, show f_X6_get ((0 : Int32), S).2.2.1 (nI q) (nI i) = some (S.2.1.1 q i) from x6_get hq hk e hi, Option.bind_some, show f_X6_set ((0 : Int32), S).2.2.1 (nI q) (nI i) v = _ from x6_set hq hk e hi v] <;> rfl
theorem e_door (hJ : JR S.2.2.2.2.1 a) (hV : AV a) {x j : Nat} (hx : x < aN a) (hj : j < 4) : f_X10_door S (nI x) (nI j) = some (1, (tel S.1 (dI a x j), S.2.1, S.2.2.1, S.2.2.2.1, S.2.2.2.2.1, S.2.2.2.2.2.1, S.2.2.2.2.2.2.1, S.2.2.2.2.2.2.2.1, S.2.2.2.2.2.2.2.2.1, S.2.2.2.2.2.2.2.2.2)) := by
  have hn := hV.2.1
  unfold f_X10_door
  rw [x2_in hJ.1 hn hx, Option.bind_some, if_neg i10, if_neg (nI_pos (by omega)), if_pos (show nI j < (4 : Int32) from nI_lt hj (by decide)), x2_door hJ hn hx hj] <;> rfl
end
/-! what is told changes no digest -/
theorem dig_cg (S : VX10) (T : VX9) (D : VX5) (Z : VX4) (O : VX3) (Q : VX0) : f_X10_digest ((T, S.2.1, S.2.2.1, D, S.2.2.2.2.1, S.2.2.2.2.2.1, Z, O, Q, S.2.2.2.2.2.2.2.2.2)) = f_X10_digest S := by
  unfold f_X10_digest
  have : ∀ fuel (h : Int64) (v : Int32), f_X10_digest_6 fuel ((T, S.2.1, S.2.2.1, D, S.2.2.2.2.1, S.2.2.2.2.2.1, Z, O, Q, S.2.2.2.2.2.2.2.2.2)) h v = f_X10_digest_6 fuel S h v := by
    intro fuel
    induction fuel with
    | zero => intro h v; rfl
    | succ n ih =>
      intro h v
      rw [f_X10_digest_6, f_X10_digest_6]
      have e : f_X10_count ((T, S.2.1, S.2.2.1, D, S.2.2.2.2.1, S.2.2.2.2.2.1, Z, O, Q, S.2.2.2.2.2.2.2.2.2)) v = f_X10_count S v := rfl
      rw [e]
      have e2 : (fun r : Int32 => f_X10_digest_6 n ((T, S.2.1, S.2.2.1, D, S.2.2.2.2.1, S.2.2.2.2.2.1, Z, O, Q, S.2.2.2.2.2.2.2.2.2)) (31 * h + r.toInt64) (v + 1)) = fun r => f_X10_digest_6 n S (31 * h + r.toInt64) (v + 1) := funext fun r => ih _ _
      rw [e2]
  exact this 4096 17 0
/-! keys kept by others -/
def SD (a a' : AJ) : Prop := aN a' = aN a ∧ aK a' = aK a ∧ aO a' = aO a ∧ aL a' = aL a ∧ aF a' = aF a
theorem SD.rf (a : AJ) : SD a a := ⟨rfl, rfl, rfl, rfl, rfl⟩
theorem SD.tr {a b c : AJ} (h : SD a b) (h' : SD b c) : SD a c := ⟨h'.1.trans h.1, h'.2.1.trans h.2.1, h'.2.2.1.trans h.2.2.1, h'.2.2.2.1.trans h.2.2.2.1, h'.2.2.2.2.trans h.2.2.2.2⟩
def KS (n : Nat) (J J' : VX2) : Prop := ∃ K, J' = (J.1, K, J.2.2.1, J.2.2.2.1, J.2.2.2.2.1, J.2.2.2.2.2.1, J.2.2.2.2.2.2.1, J.2.2.2.2.2.2.2) ∧ ∀ x, n ≤ x → K x = J.2.1 x
theorem KS.rf (n : Nat) (J : VX2) : KS n J J := ⟨J.2.1, rfl, fun _ _ => rfl⟩
theorem KS.tr {n : Nat} {J J' J'' : VX2} (h : KS n J J') (h' : KS n J' J'') : KS n J J'' := by
  obtain ⟨K, rfl, hK⟩ := h
  obtain ⟨K', rfl, hK'⟩ := h'
  exact ⟨K', rfl, fun x hx => (hK' x hx).trans (hK x hx)⟩
theorem KS.eq {J J' : VX2} {a : AJ} (h : KS (aN a) J J') (h1 : JR J a) (h2 : JR J' a) : J' = J := by
  obtain ⟨K, rfl, hK⟩ := h
  have : K = J.2.1 := funext fun x => by
    rcases Nat.lt_or_ge x (aN a) with hx | hx
    · exact (h2.2.2.2 x hx).2.1.trans (h1.2.2.2 x hx).2.1.symm
    · exact hK x hx
  rw [this]
/-- the first i keys as one has them, the others as another -/
def aMx (b c : AJ) (i : Nat) : AJ := (aN b, aK b, fun x => if x < i then aP c x else aP b x, aO b, aL b, aF b)
theorem aMx_V {b c : AJ} (hb : AV b) (hc : AV c) (h : SD b c) (i : Nat) : AV (aMx b c i) := by
  obtain ⟨h1, h2, h3, h4, h5⟩ := h
  refine ⟨hb.1, hb.2.1, fun x hx => ?_⟩
  have qb := hb.2.2 x hx
  have qc := hc.2.2 x (by rw [h1]; exact hx)
  unfold AVd at qb qc ⊢
  rw [h1, h2, h3, h4, h5] at qc
  show aK b x ≤ 5 ∧ (aK b x = 2 → (if x < i then aP c x else aP b x) = 99) ∧ (aK b x ≠ 2 → (if x < i then aP c x else aP b x) < aN b ∧ (if x < i then aP c x else aP b x) ≠ x ∧ aO b x ≠ (if x < i then aP c x else aP b x)) ∧ _
  by_cases q : x < i
  · rw [if_pos q]; exact qc
  · rw [if_neg q]; exact qb
section
variable {S : VX10} {b c : AJ}
theorem e_dealt (hJ : JR S.2.2.2.2.1 b) (hb : AV b) (hc : AV c) (h : SD b c) {q : Nat} (hq : q < 6) (e : S.2.1.2 q = nI (aN b)) (hP : ∀ x, x < aN b → S.2.1.1 q x = kI (aP c x)) : ∃ J', f_X10_dealt S (nI q) = some (1, (S.1, S.2.1, S.2.2.1, S.2.2.2.1, J', S.2.2.2.2.2.1, S.2.2.2.2.2.2.1, S.2.2.2.2.2.2.2.1, S.2.2.2.2.2.2.2.2.1, S.2.2.2.2.2.2.2.2.2)) ∧ JR J' c ∧ KS (aN b) S.2.2.2.2.1 J' := by
  have hn := hb.2.1
  have hk : aN b ≤ 60 := by omega
  obtain ⟨h1, h2, h3, h4, h5⟩ := id h
  unfold f_X10_dealt
  rw [x10_rowT hq hk e, Option.bind_some, if_pos rfl, show f_X6_sizeOf ((0 : Int32), S).2.2.1 (nI q) = some (nI (aN b)) from (x6_size hq).trans (congrArg some e), Option.bind_some, show f_X2_cells ((0 : Int32), S).2.2.2.2.2.1 = some (nI (aN b)) from congrArg some hJ.1, Option.bind_some, if_pos rfl]
  have eC : f_X10_dealt_41 4096 S (nI q) 0 = f_X10_dealt_101 4096 S (nI q) 0 := by
    refine loop_is (fun f (_ : Unit) v3 => f_X10_dealt_41 f S (nI q) v3) (fun _ => ()) 0 (aN b) _ (fun n => ?_) (fun n x _ hx => ?_) 4096 0 (Nat.le_refl _) (by omega) (by omega)
    · show f_X10_dealt_41 (n + 1) S (nI q) (nI (aN b)) = _
      rw [f_X10_dealt_41, show f_X2_cells S.2.2.2.2.1 = some (nI (aN b)) from congrArg some hJ.1, Option.bind_some, if_pos (nI_le (Nat.le_refl _) (by omega))]
    · show f_X10_dealt_41 (n + 1) S (nI q) (nI x) = f_X10_dealt_41 n S (nI q) (nI (x + 1))
      rw [f_X10_dealt_41, show f_X2_cells S.2.2.2.2.1 = some (nI (aN b)) from congrArg some hJ.1, Option.bind_some, if_neg (nI_ge hx (by omega)), show f_X2_isOf S.2.2.2.2.1 (nI x) 2 = _ from x2_isOf hJ hb hx (j := 2) (by decide), Option.bind_some, x6_get hq hk e hx, Option.bind_some, hP x hx, nI_1]
      by_cases k2 : aK b x = 2
      · rw [show ofB (aK b x) 2 = true by rw [k2]; rfl, if_neg (show ¬ bI true = 0 from i10)]
      · have hcx := (hc.2.2 x (by rw [h1]; exact hx)).2.2.1 (by rw [h2]; exact k2)
        rw [h1, h3] at hcx
        rw [show ofB (aK b x) 2 = false by unfold ofB; simp [k2], if_pos (show bI false = 0 from rfl), kI_lt (by omega), x2_may hJ hb hx hcx.1, decide_eq_true ⟨hcx.2.1, k2, hcx.2.2⟩, Option.bind_some, if_neg (show ¬ bI true = 0 from i10)]
  rw [show f_X10_dealt_41 4096 ((0 : Int32), S).2 (nI q) 0 = _ from eC, show f_X10_dealt_101 4096 S (nI q) 0 = f_X10_dealt_101 4096 ((S.1, S.2.1, S.2.2.1, S.2.2.2.1, S.2.2.2.2.1, S.2.2.2.2.2.1, S.2.2.2.2.2.2.1, S.2.2.2.2.2.2.2.1, S.2.2.2.2.2.2.2.2.1, S.2.2.2.2.2.2.2.2.2)) (nI q) 0 from congrArg (fun Z : VX10 => f_X10_dealt_101 4096 Z (nI q) 0) (show S = (S.1, S.2.1, S.2.2.1, S.2.2.2.1, S.2.2.2.2.1, S.2.2.2.2.2.1, S.2.2.2.2.2.2.1, S.2.2.2.2.2.2.2.1, S.2.2.2.2.2.2.2.2.1, S.2.2.2.2.2.2.2.2.2) from rfl)]
  refine loop_up (fun f (J : VX2) v3 => f_X10_dealt_101 f ((S.1, S.2.1, S.2.2.1, S.2.2.2.1, J, S.2.2.2.2.2.1, S.2.2.2.2.2.2.1, S.2.2.2.2.2.2.2.1, S.2.2.2.2.2.2.2.2.1, S.2.2.2.2.2.2.2.2.2)) (nI q) v3) (aN b) (fun i J => JR J (aMx b c i) ∧ KS (aN b) S.2.2.2.2.1 J) (fun p => ∃ J', p = some (1, (S.1, S.2.1, S.2.2.1, S.2.2.2.1, J', S.2.2.2.2.2.1, S.2.2.2.2.2.2.1, S.2.2.2.2.2.2.2.1, S.2.2.2.2.2.2.2.2.1, S.2.2.2.2.2.2.2.2.2)) ∧ JR J' c ∧ KS (aN b) S.2.2.2.2.1 J') ?_ ?_ 4096 0 S.2.2.2.2.1 (Nat.zero_le _) ⟨?_, KS.rf _ _⟩ (by omega)
  · rintro n J ⟨g1, g2⟩
    refine ⟨J, ?_, ?_, g2⟩
    · show f_X10_dealt_101 (n + 1) ((S.1, S.2.1, S.2.2.1, S.2.2.2.1, J, S.2.2.2.2.2.1, S.2.2.2.2.2.2.1, S.2.2.2.2.2.2.2.1, S.2.2.2.2.2.2.2.2.1, S.2.2.2.2.2.2.2.2.2)) (nI q) (nI (aN b)) = _
      rw [f_X10_dealt_101, show f_X2_cells ((S.1, S.2.1, S.2.2.1, S.2.2.2.1, J, S.2.2.2.2.2.1, S.2.2.2.2.2.2.1, S.2.2.2.2.2.2.2.1, S.2.2.2.2.2.2.2.2.1, S.2.2.2.2.2.2.2.2.2)).2.2.2.2.1 = some (nI (aN b)) from congrArg some g1.1, Option.bind_some, if_pos (nI_le (Nat.le_refl _) (by omega))]
    · obtain ⟨c1, c2, c3, c4⟩ := g1
      refine ⟨c1.trans (by rw [h1]; rfl), c2.trans ?_, c3.trans ?_, fun x hx => ?_⟩
      · show nI (spr b) = nI (spr c)
        unfold spr; rw [h1, h2]
      · show nI (bld b) = nI (bld c)
        unfold bld; rw [h1, h2]
      · obtain ⟨d1, d2, d3, d4, d5⟩ := c4 x (by rw [h1] at hx; exact hx)
        have d2 : J.2.1 x = kI (if x < aN b then aP c x else aP b x) := d2
        rw [if_pos (by rw [h1] at hx; exact hx)] at d2
        exact ⟨by rw [h2]; exact d1, d2, by rw [h3]; exact d3, by rw [h4]; exact d4, by rw [h5]; exact d5⟩
  · rintro n J i hi ⟨g1, g2⟩
    right
    have hV' := aMx_V hb hc h i
    have hi' : i < aN (aMx b c i) := hi
    show ∃ J', (JR J' (aMx b c (i + 1)) ∧ KS (aN b) S.2.2.2.2.1 J') ∧ f_X10_dealt_101 (n + 1) ((S.1, S.2.1, S.2.2.1, S.2.2.2.1, J, S.2.2.2.2.2.1, S.2.2.2.2.2.2.1, S.2.2.2.2.2.2.2.1, S.2.2.2.2.2.2.2.2.1, S.2.2.2.2.2.2.2.2.2)) (nI q) (nI i) = f_X10_dealt_101 n ((S.1, S.2.1, S.2.2.1, S.2.2.2.1, J', S.2.2.2.2.2.1, S.2.2.2.2.2.2.1, S.2.2.2.2.2.2.2.1, S.2.2.2.2.2.2.2.2.1, S.2.2.2.2.2.2.2.2.2)) (nI q) (nI (i + 1))
    rw [f_X10_dealt_101, show f_X2_cells ((S.1, S.2.1, S.2.2.1, S.2.2.2.1, J, S.2.2.2.2.2.1, S.2.2.2.2.2.2.1, S.2.2.2.2.2.2.2.1, S.2.2.2.2.2.2.2.2.1, S.2.2.2.2.2.2.2.2.2)).2.2.2.2.1 = some (nI (aN b)) from congrArg some g1.1, Option.bind_some, if_neg (nI_ge hi (by omega)), show f_X2_isOf ((S.1, S.2.1, S.2.2.1, S.2.2.2.1, J, S.2.2.2.2.2.1, S.2.2.2.2.2.2.1, S.2.2.2.2.2.2.2.1, S.2.2.2.2.2.2.2.2.1, S.2.2.2.2.2.2.2.2.2)).2.2.2.2.1 (nI i) 2 = _ from x2_isOf g1 hV' hi' (j := 2) (by decide), Option.bind_some, show f_X6_get ((S.1, S.2.1, S.2.2.1, S.2.2.2.1, J, S.2.2.2.2.2.1, S.2.2.2.2.2.2.1, S.2.2.2.2.2.2.2.1, S.2.2.2.2.2.2.2.2.1, S.2.2.2.2.2.2.2.2.2)).2.1 (nI q) (nI i) = _ from x6_get hq hk e hi, Option.bind_some, hP i hi, show f_X2_setKeeper ((S.1, S.2.1, S.2.2.1, S.2.2.2.1, J, S.2.2.2.2.2.1, S.2.2.2.2.2.2.1, S.2.2.2.2.2.2.2.1, S.2.2.2.2.2.2.2.2.1, S.2.2.2.2.2.2.2.2.2)).2.2.2.2.1 (nI i) (kI (aP c i)) = _ from x2_setKeeper g1.1 hn hi (kI (aP c i)), Option.bind_some, nI_1]
    by_cases k2 : aK b i = 2
    · refine ⟨J, ⟨⟨g1.1, g1.2.1, g1.2.2.1, fun x hx => ?_⟩, g2⟩, ?_⟩
      · obtain ⟨d1, d2, d3⟩ := g1.2.2.2 x hx
        refine ⟨d1, ?_, d3⟩
        have d2 : J.2.1 x = kI (if x < i then aP c x else aP b x) := d2
        show J.2.1 x = kI (if x < i + 1 then aP c x else aP b x)
        rw [d2]
        by_cases q1 : x < i
        · rw [if_pos q1, if_pos (by omega)]
        · rw [if_neg q1]
          by_cases q2 : x < i + 1
          · have : x = i := by omega
            subst this
            rw [if_pos q2, (hb.2.2 x hx).2.1 k2, (hc.2.2 x (by rw [h1]; exact hx)).2.1 (by rw [h2]; exact k2)]
          · rw [if_neg q2]
      · rw [show ofB (aK (aMx b c i) i) 2 = true by show ofB (aK b i) 2 = true; rw [k2]; rfl, if_neg (show ¬ bI true = 0 from i10)]
    · refine ⟨(J.1, upd J.2.1 i (kI (aP c i)), J.2.2.1, J.2.2.2.1, J.2.2.2.2.1, J.2.2.2.2.2.1, J.2.2.2.2.2.2.1, J.2.2.2.2.2.2.2), ⟨⟨g1.1, g1.2.1, g1.2.2.1, fun x hx => ?_⟩, ?_⟩, ?_⟩
      · obtain ⟨d1, d2, d3⟩ := g1.2.2.2 x hx
        refine ⟨d1, ?_, d3⟩
        have d2 : J.2.1 x = kI (if x < i then aP c x else aP b x) := d2
        show upd J.2.1 i (kI (aP c i)) x = kI (if x < i + 1 then aP c x else aP b x)
        rw [upd_at]
        by_cases q0 : x = i
        · subst q0; rw [if_pos rfl, if_pos (Nat.lt_succ_self _)]
        · rw [if_neg q0, d2]
          by_cases q1 : x < i
          · rw [if_pos q1, if_pos (by omega)]
          · rw [if_neg q1, if_neg (by omega)]
      · refine KS.tr g2 ⟨upd J.2.1 i (kI (aP c i)), rfl, fun x hx => ?_⟩
        rw [upd_at, if_neg (by omega)]
      · rw [show ofB (aK (aMx b c i) i) 2 = false by show ofB (aK b i) 2 = false; unfold ofB; simp [k2], if_pos (show bI false = 0 from rfl)]
  · refine ⟨hJ.1, hJ.2.1, hJ.2.2.1, fun x hx => ?_⟩
    obtain ⟨d1, d2, d3⟩ := hJ.2.2.2 x hx
    refine ⟨d1, ?_, d3⟩
    show _ = kI (if x < 0 then aP c x else aP b x)
    rw [if_neg (Nat.not_lt_zero x)]; exact d2
end
