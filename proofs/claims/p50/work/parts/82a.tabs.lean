/-! THE TABLES OF A JAIL, the class alone: a model's value stands in where the rows of the whole want one -/
/-- some model's value that holds a jail -/
def mkM (a : AJ) : VX11 := (0, (fun _ => 0), 0, 0, 1, (fun _ => 0), (fun _ => 0), (fun _ => 0), (fun _ => 0), (fun _ => 0), nI (aN a), (fun k => if k % 4 = 0 then nI (aK a (k / 4)) else if k % 4 = 1 then kI (aP a (k / 4)) else if k % 4 = 2 then kI (aO a (k / 4)) else nI (aL a (k / 4))), (fun x => nI (aF a x)), 0, 0, 0, (fun _ => 0), (fun _ => 0), 0, 0, (fun _ => 0), (fun _ => 0), (fun _ => 0), (fun _ => 0), (fun _ => 0), (fun _ => 0), (fun _ => 0), 0, (fun _ => 0), (fun _ => 0), 0)
theorem mkM_R (a : AJ) : MR (mkM a) a := by
  refine ⟨rfl, fun x hx => ⟨?_, ?_, ?_, ?_, rfl⟩⟩
  · show (if (4 * x) % 4 = 0 then nI (aK a (4 * x / 4)) else _) = _
    rw [if_pos (by omega), show 4 * x / 4 = x by omega]
  · show (if (4 * x + 1) % 4 = 0 then _ else if (4 * x + 1) % 4 = 1 then kI (aP a ((4 * x + 1) / 4)) else _) = _
    rw [if_neg (by omega), if_pos (by omega), show (4 * x + 1) / 4 = x by omega]
  · show (if (4 * x + 2) % 4 = 0 then _ else if (4 * x + 2) % 4 = 1 then _ else if (4 * x + 2) % 4 = 2 then kI (aO a ((4 * x + 2) / 4)) else _) = _
    rw [if_neg (by omega), if_neg (by omega), if_pos (by omega), show (4 * x + 2) / 4 = x by omega]
  · show (if (4 * x + 3) % 4 = 0 then _ else if (4 * x + 3) % 4 = 1 then _ else if (4 * x + 3) % 4 = 2 then _ else nI (aL a ((4 * x + 3) / 4))) = _
    rw [if_neg (by omega), if_neg (by omega), if_neg (by omega), show (4 * x + 3) / 4 = x by omega]
theorem tabs {a : AJ} (hV : AV a) {act : Nat} (hact : act < 2 ^ aN a) : ∃ R W, IsR a act (2 ^ aN a) R ∧ IsW a act (2 ^ aN a) W := by
  obtain ⟨l, o, R, W, -, hR, hW, -⟩ := m_lay (mkM_R a) hV (show act < 256 by have := hV.N; omega)
  exact ⟨R, W, hR, hW⟩
theorem fillT {J : VX2} {a : AJ} (hJ : JR J a) (hV : AV a) {act : Nat} (hact : act < 2 ^ aN a) {R : Nat → Option Nat} {W : Nat → Nat} (hR : IsR a act (2 ^ aN a) R) (hW : IsW a act (2 ^ aN a) W) (S : VX4) : ∃ Z M, f_X4_fill S J (nI act) = some Z ∧ TB Z M a act R W := by
  obtain ⟨Z, l, o, R', W', e1, -, h⟩ := both hJ (mkM_R a) hV hact S
  have eR := h.2.2.1.uniq hR
  have eW := h.2.2.2.1.uniq hW
  refine ⟨Z, mLO (mkM a) l o, e1, ⟨h.1.1, fun t ht => ?_⟩, fun t ht => ?_, hR, hW, hV, hact, h.2.2.2.2.2.2⟩
  · rw [h.1.2 t ht, eR t (by omega)]
  · rw [← eR t ht, ← eW t ht]; exact h.2.1 t ht
theorem fu_lt (a : AJ) : (2 ^ aN a - 1) < (2 ^ aN a) := by have := Nat.two_pow_pos (aN a); show 2 ^ aN a - 1 < 2 ^ aN a; omega
def TA (a : AJ) (R : Nat → Option Nat) (W : Nat → Nat) : Prop := AV a ∧ IsR a ((2 ^ aN a - 1)) ((2 ^ aN a)) R ∧ IsW a ((2 ^ aN a - 1)) ((2 ^ aN a)) W
theorem TA.ex {a : AJ} (hV : AV a) : ∃ R W, TA a R W := by
  obtain ⟨R, W, h⟩ := tabs hV (fu_lt a)
  exact ⟨R, W, hV, h⟩
theorem sd_fu {a : AJ} {t : Nat} (h : t < (2 ^ aN a)) : sd t ((2 ^ aN a - 1)) = 0 := sd_all h
section
variable {a : AJ} {R : Nat → Option Nat} {W : Nat → Nat}
theorem TA.r0 (h : TA a R W) : R 0 = some 0 := h.2.1.1
theorem TA.w0 (h : TA a R W) : W 0 = 1 := h.2.2.1
theorem TA.rw (h : TA a R W) {t : Nat} (ht : t < (2 ^ aN a)) : R t ≠ none ↔ 0 < W t := h.2.1.ways h.2.2 t ht
theorem TA.small (h : TA a R W) {t v : Nat} (ht : t < (2 ^ aN a)) (hv : R t = some v) : v ≤ 112 := h.2.1.small h.1 h.1.N ht hv
theorem TA.wsmall (h : TA a R W) {t : Nat} (ht : t < (2 ^ aN a)) : W t ≤ 16777216 := h.2.2.small h.1.2.1 h.1.N ht
/-- from a set that is reached, by one more -/
theorem TA.up (h : TA a R W) {t x r c : Nat} (ht : t < (2 ^ aN a)) (hx : x < aN a) (hb : t.testBit x = false) (hr : R t = some r) (hc : costC a x t ((2 ^ aN a - 1)) = some c) : ∃ v, R (t ||| 2 ^ x) = some v ∧ v ≤ r + c := by
  have hu := or_lt ht hx
  have h0 : 0 < t ||| 2 ^ x := Nat.lt_of_le_of_lt (Nat.zero_le _) (or_more hb)
  have hm := (h.2.1.2 _ h0 hu).1 (sd_fu hu)
  have hc' : cand a ((2 ^ aN a - 1)) R (t ||| 2 ^ x) x (r + c) := ⟨or_bit, r, c, by rw [or_sd hb]; exact hr, by rw [or_sd hb]; exact hc, rfl⟩
  cases e : R (t ||| 2 ^ x) with
  | none => rw [e] at hm; exact absurd ⟨x, hx, hc'⟩ (hm (r + c))
  | some v => rw [e] at hm; exact ⟨v, rfl, hm.2 _ ⟨x, hx, hc'⟩⟩
/-- a set that is reached, from one less -/
theorem TA.down (h : TA a R W) {t v : Nat} (h0 : t ≠ 0) (ht : t < (2 ^ aN a)) (hv : R t = some v) : ∃ x r c, x < aN a ∧ t.testBit x = true ∧ R (sd t (2 ^ x)) = some r ∧ costC a x (sd t (2 ^ x)) ((2 ^ aN a - 1)) = some c ∧ v = r + c := by
  have hm := (h.2.1.2 t (by omega) ht).1 (sd_fu ht)
  rw [hv] at hm
  obtain ⟨⟨x, hx, hb, r, c, e1, e2, e3⟩, -⟩ := hm
  exact ⟨x, r, c, hx, hb, e1, e2, e3⟩
end
/-! the steps that tell of the tables -/
section
variable {S : VX10} {a : AJ} {R : Nat → Option Nat} {W : Nat → Nat}
theorem reachT (hJ : JR S.2.2.2.2.1 a) (hT : TA a R W) : ∃ Z M, f_X10_reachAll S = some ((S.1, S.2.1, S.2.2.1, S.2.2.2.1, S.2.2.2.2.1, S.2.2.2.2.2.1, Z, S.2.2.2.2.2.2.2.1, S.2.2.2.2.2.2.2.2.1, S.2.2.2.2.2.2.2.2.2)) ∧ TB Z M a ((2 ^ aN a - 1)) R W := by
  obtain ⟨Z, M, e, h⟩ := fillT hJ hT.1 (fu_lt a) hT.2.1 hT.2.2 S.2.2.2.2.2.2.1
  refine ⟨Z, M, ?_, h⟩
  unfold f_X10_reachAll
  rw [x2_all hJ.1 hT.1.2.1, Option.bind_some, e] <;> rfl
theorem e_reached (hJ : JR S.2.2.2.2.1 a) (hT : TA a R W) : ∃ Z, f_X10_reached S = some (nI (ct (rP R) ((2 ^ aN a))), (tel S.1 (nI (mx R ((2 ^ aN a)))), S.2.1, S.2.2.1, S.2.2.2.1, S.2.2.2.2.1, S.2.2.2.2.2.1, Z, S.2.2.2.2.2.2.2.1, S.2.2.2.2.2.2.2.2.1, S.2.2.2.2.2.2.2.2.2)) := by
  obtain ⟨Z, M, e1, h⟩ := reachT hJ hT
  have hN := h.N
  have hg : gw R (2 ^ aN a) < 2 ^ aN a := gw_lt (Nat.two_pow_pos _) _ (Nat.le_refl _)
  refine ⟨Z, ?_⟩
  unfold f_X10_reached
  rw [e1, Option.bind_some, show f_X4_greatest ((S.1, S.2.1, S.2.2.1, S.2.2.2.1, S.2.2.2.2.1, S.2.2.2.2.2.1, Z, S.2.2.2.2.2.2.2.1, S.2.2.2.2.2.2.2.2.1, S.2.2.2.2.2.2.2.2.2)).2.2.2.2.2.2.1 = _ from x4_great h, Option.bind_some, n_cnt (show gw R (2 ^ aN a) < 256 by omega), gw_mx, Option.bind_some, show f_X4_howMany ((S.1, S.2.1, S.2.2.1, S.2.2.2.1, S.2.2.2.2.1, S.2.2.2.2.2.1, Z, S.2.2.2.2.2.2.2.1, S.2.2.2.2.2.2.2.2.1, S.2.2.2.2.2.2.2.2.2)).2.2.2.2.2.2.1 = _ from x4_many h] <;> rfl
theorem e_ever (hJ : JR S.2.2.2.2.1 a) (hT : TA a R W) : ∃ Z, f_X10_ever S = some (nI (un (rP R) ((2 ^ aN a))), (tel S.1 (nI (sd ((2 ^ aN a - 1)) (un (rP R) ((2 ^ aN a))))), S.2.1, S.2.2.1, S.2.2.2.1, S.2.2.2.2.1, S.2.2.2.2.2.1, Z, S.2.2.2.2.2.2.2.1, S.2.2.2.2.2.2.2.2.1, S.2.2.2.2.2.2.2.2.2)) := by
  obtain ⟨Z, M, e1, h⟩ := reachT hJ hT
  refine ⟨Z, ?_⟩
  unfold f_X10_ever
  rw [e1, Option.bind_some, show f_X4_inSome ((S.1, S.2.1, S.2.2.1, S.2.2.2.1, S.2.2.2.2.1, S.2.2.2.2.2.1, Z, S.2.2.2.2.2.2.2.1, S.2.2.2.2.2.2.2.2.1, S.2.2.2.2.2.2.2.2.2)).2.2.2.2.2.2.1 = _ from x4_some h, Option.bind_some, show f_X2_everyone ((S.1, S.2.1, S.2.2.1, S.2.2.2.1, S.2.2.2.2.1, S.2.2.2.2.2.1, Z, S.2.2.2.2.2.2.2.1, S.2.2.2.2.2.2.2.2.1, S.2.2.2.2.2.2.2.2.2)).2.2.2.2.1 = _ from x2_all hJ.1 hT.1.2.1, Option.bind_some, n_sd] <;> rfl
theorem e_most (hJ : JR S.2.2.2.2.1 a) (hT : TA a R W) : ∃ Z w, R (gw R ((2 ^ aN a))) = some w ∧ f_X10_most S = some (nI (gw R ((2 ^ aN a))), (tel S.1 (nI w), S.2.1, S.2.2.1, S.2.2.2.1, S.2.2.2.2.1, S.2.2.2.2.2.1, Z, S.2.2.2.2.2.2.2.1, S.2.2.2.2.2.2.2.2.1, S.2.2.2.2.2.2.2.2.2)) := by
  obtain ⟨Z, M, e1, h⟩ := reachT hJ hT
  have hg : gw R ((2 ^ aN a)) < 2 ^ aN a := gw_lt (Nat.two_pow_pos _) _ (Nat.le_refl _)
  have hgs := gw_some (R := R) (by rw [h.r0]; rfl) ((2 ^ aN a))
  cases hrg : R (gw R ((2 ^ aN a))) with
  | none => rw [hrg] at hgs; cases hgs
  | some w =>
    refine ⟨Z, w, rfl, ?_⟩
    unfold f_X10_most
    rw [e1, Option.bind_some, show f_X4_greatest ((S.1, S.2.1, S.2.2.1, S.2.2.2.1, S.2.2.2.2.1, S.2.2.2.2.2.1, Z, S.2.2.2.2.2.2.2.1, S.2.2.2.2.2.2.2.2.1, S.2.2.2.2.2.2.2.2.2)).2.2.2.2.2.2.1 = _ from x4_great h, Option.bind_some, show f_X4_favoursOf ((S.1, S.2.1, S.2.2.1, S.2.2.2.1, S.2.2.2.2.1, S.2.2.2.2.2.1, Z, S.2.2.2.2.2.2.2.1, S.2.2.2.2.2.2.2.2.1, S.2.2.2.2.2.2.2.2.2)).2.2.2.2.2.2.1 (nI (gw R ((2 ^ aN a)))) = _ from x4_fav h hg, hrg] <;> rfl
theorem e_least (hJ : JR S.2.2.2.2.1 a) (hT : TA a R W) {t : Nat} (ht : t < (2 ^ aN a)) : (bw R t ((2 ^ aN a)) = none ∧ ∃ Z, f_X10_least S (nI t) = some (-9, (S.1, S.2.1, S.2.2.1, S.2.2.2.1, S.2.2.2.2.1, S.2.2.2.2.2.1, Z, S.2.2.2.2.2.2.2.1, S.2.2.2.2.2.2.2.2.1, S.2.2.2.2.2.2.2.2.2))) ∨ ∃ Z b v, bw R t ((2 ^ aN a)) = some b ∧ R b = some v ∧ f_X10_least S (nI t) = some (nI v, (tel S.1 (nI b), S.2.1, S.2.2.1, S.2.2.2.1, S.2.2.2.2.1, S.2.2.2.2.2.1, Z, S.2.2.2.2.2.2.2.1, S.2.2.2.2.2.2.2.2.1, S.2.2.2.2.2.2.2.2.2)) := by
  obtain ⟨Z, M, e1, h⟩ := reachT hJ hT
  unfold f_X10_least
  rw [x2_setT hJ.1 hT.1.2.1 ht, Option.bind_some, if_neg i10, e1, Option.bind_some, show f_X4_cheapestWith ((S.1, S.2.1, S.2.2.1, S.2.2.2.1, S.2.2.2.2.1, S.2.2.2.2.2.1, Z, S.2.2.2.2.2.2.2.1, S.2.2.2.2.2.2.2.2.1, S.2.2.2.2.2.2.2.2.2)).2.2.2.2.2.2.1 (nI t) = _ from x4_cheap h ht, Option.bind_some]
  have hN := h.N
  cases hb : bw R t (2 ^ aN a) with
  | none => exact Or.inl ⟨rfl, Z, rfl⟩
  | some b =>
    obtain ⟨b1, b2⟩ := bw_some hb
    cases hr : R b with
    | none => rw [hr] at b2; cases b2
    | some v =>
      refine Or.inr ⟨Z, b, v, rfl, hr, ?_⟩
      rw [oI_some, if_neg (nI_m9 (by omega)), show f_X4_favoursOf ((S.1, S.2.1, S.2.2.1, S.2.2.2.1, S.2.2.2.2.1, S.2.2.2.2.2.1, Z, S.2.2.2.2.2.2.2.1, S.2.2.2.2.2.2.2.2.1, S.2.2.2.2.2.2.2.2.2)).2.2.2.2.2.2.1 (nI b) = _ from x4_fav h b1, hr] <;> rfl
theorem e_ways (hJ : JR S.2.2.2.2.1 a) (hT : TA a R W) {t : Nat} (ht : t < (2 ^ aN a)) : ∃ O, f_X10_ways S (nI t) = some (nI (W t), (S.1, S.2.1, S.2.2.1, S.2.2.2.1, S.2.2.2.2.1, S.2.2.2.2.2.1, S.2.2.2.2.2.2.1, O, S.2.2.2.2.2.2.2.2.1, S.2.2.2.2.2.2.2.2.2)) := by
  obtain ⟨S', f1⟩ := x3_many hJ hT.1 S.2.2.2.2.2.2.2.1 ht hT.2.2
  refine ⟨S', ?_⟩
  unfold f_X10_ways
  rw [x2_setT hJ.1 hT.1.2.1 ht, Option.bind_some, if_neg i10, f1] <;> rfl
theorem e_band (hJ : JR S.2.2.2.2.1 a) (hV : AV a) {t : Nat} (h0 : t ≠ 0) (ht : t < (2 ^ aN a)) {R1 : Nat → Option Nat} {W1 : Nat → Nat} (hR : IsR a t ((2 ^ aN a)) R1) (hW : IsW a t ((2 ^ aN a)) W1) : ∃ Z, f_X10_band S (nI t) = some (oI (R1 t), (S.1, S.2.1, S.2.2.1, S.2.2.2.1, S.2.2.2.2.1, S.2.2.2.2.2.1, Z, S.2.2.2.2.2.2.2.1, S.2.2.2.2.2.2.2.2.1, S.2.2.2.2.2.2.2.2.2)) := by
  obtain ⟨Z, M, e1, h⟩ := fillT hJ hV ht hR hW S.2.2.2.2.2.2.1
  have hN := h.N
  have ht : t < 2 ^ aN a := ht
  refine ⟨Z, ?_⟩
  unfold f_X10_band
  rw [x2_setT hJ.1 hV.2.1 ht, Option.bind_some, if_neg i10, if_neg (nI_ne0 (by omega) (by omega)), x10_gets e1 h, Option.bind_some, show f_X4_favoursOf ((bI (R1 t).isSome, (S.1, S.2.1, S.2.2.1, S.2.2.2.1, S.2.2.2.2.1, S.2.2.2.2.2.1, Z, S.2.2.2.2.2.2.2.1, S.2.2.2.2.2.2.2.2.1, S.2.2.2.2.2.2.2.2.2)) : Int32 × VX10).2.2.2.2.2.2.2.1 (nI t) = _ from x4_fav h ht, Option.bind_some]
  cases hr : R1 t with
  | none => exact if_pos (show bI (none : Option Nat).isSome = 0 from rfl)
  | some v => exact if_neg (show ¬ bI (some v).isSome = 0 from i10)
theorem e_without (hJ : JR S.2.2.2.2.1 a) (hT : TA a R W) {x : Nat} (hx : x < aN a) {R1 : Nat → Option Nat} {W1 : Nat → Nat} (hR : IsR a (sd ((2 ^ aN a - 1)) (2 ^ x)) ((2 ^ aN a)) R1) (hW : IsW a (sd ((2 ^ aN a - 1)) (2 ^ x)) ((2 ^ aN a)) W1) : ∃ Z u, f_X10_without S (nI x) = some (nI (ct (rP R) ((2 ^ aN a))) - nI (ct (rP R1) ((2 ^ aN a))), (tel S.1 (nI (u &&& sd ((2 ^ aN a - 1)) (2 ^ x))), S.2.1, S.2.2.1, S.2.2.2.1, S.2.2.2.2.1, S.2.2.2.2.2.1, Z, S.2.2.2.2.2.2.2.1, S.2.2.2.2.2.2.2.2.1, S.2.2.2.2.2.2.2.2.2)) := by
  have hact : sd ((2 ^ aN a - 1)) (2 ^ x) < (2 ^ aN a) := sd_lt (fu_lt a)
  have hn := hT.1.2.1
  obtain ⟨Z, M, e1, h⟩ := reachT hJ hT
  obtain ⟨Z', M', f1, h'⟩ := fillT hJ hT.1 hact hR hW Z
  refine ⟨Z', sd (un (rP R) ((2 ^ aN a))) (un (rP R1) ((2 ^ aN a))), ?_⟩
  unfold f_X10_without
  rw [x2_in hJ.1 hn hx, Option.bind_some, if_neg i10, e1, Option.bind_some, show f_X4_howMany ((S.1, S.2.1, S.2.2.1, S.2.2.2.1, S.2.2.2.2.1, S.2.2.2.2.2.1, Z, S.2.2.2.2.2.2.2.1, S.2.2.2.2.2.2.2.2.1, S.2.2.2.2.2.2.2.2.2)).2.2.2.2.2.2.1 = _ from x4_many h, Option.bind_some, show f_X4_inSome ((S.1, S.2.1, S.2.2.1, S.2.2.2.1, S.2.2.2.2.1, S.2.2.2.2.2.1, Z, S.2.2.2.2.2.2.2.1, S.2.2.2.2.2.2.2.2.1, S.2.2.2.2.2.2.2.2.2)).2.2.2.2.2.2.1 = _ from x4_some h, Option.bind_some, show f_X2_everyone ((S.1, S.2.1, S.2.2.1, S.2.2.2.1, S.2.2.2.2.1, S.2.2.2.2.2.1, Z, S.2.2.2.2.2.2.2.1, S.2.2.2.2.2.2.2.2.1, S.2.2.2.2.2.2.2.2.2)).2.2.2.2.1 = _ from x2_all hJ.1 hn, Option.bind_some, n_one (by omega), n_sd, show f_X4_fill ((S.1, S.2.1, S.2.2.1, S.2.2.2.1, S.2.2.2.2.1, S.2.2.2.2.2.1, Z, S.2.2.2.2.2.2.2.1, S.2.2.2.2.2.2.2.2.1, S.2.2.2.2.2.2.2.2.2)).2.2.2.2.2.2.1 ((S.1, S.2.1, S.2.2.1, S.2.2.2.1, S.2.2.2.2.1, S.2.2.2.2.2.1, Z, S.2.2.2.2.2.2.2.1, S.2.2.2.2.2.2.2.2.1, S.2.2.2.2.2.2.2.2.2)).2.2.2.2.1 (nI (sd (2 ^ aN a - 1) (2 ^ x))) = _ from f1, Option.bind_some, x4_some h', Option.bind_some, x4_many h', n_sd (un (rP R) (2 ^ aN a)) (un (rP R1) (2 ^ aN a)), n_and] <;> rfl
end
