/-! THE LAW'S FRIENDS -/
theorem LSt.rrs {S : VX10} {a : AJ} (h : LSt S a 0 0) (hV : AV a) : RRS S := by
  obtain ⟨h1, h2, h3, h4, h5, h6, h7⟩ := h
  refine ⟨(S.1.2.2.2.2, S.1.1, S.1.2.1, S.1.2.2.1, S.1.2.2.2.1, S.2.1.2, (fun j => S.2.1.1 (j / 60) (j % 60)), (mkM a).2.2.2.2.2.2.2.1, S.2.2.1.2, (fun j => S.2.2.1.1 (j / 100) (j % 100)), (mkM a).2.2.2.2.2.2.2.2.2.2.1, (mkM a).2.2.2.2.2.2.2.2.2.2.2.1, (mkM a).2.2.2.2.2.2.2.2.2.2.2.2.1, (mkM a).2.2.2.2.2.2.2.2.2.2.2.2.2.1, (mkM a).2.2.2.2.2.2.2.2.2.2.2.2.2.2.1, (mkM a).2.2.2.2.2.2.2.2.2.2.2.2.2.2.2.1, (mkM a).2.2.2.2.2.2.2.2.2.2.2.2.2.2.2.2.1, (mkM a).2.2.2.2.2.2.2.2.2.2.2.2.2.2.2.2.2.1, 0, 0, S.2.2.2.2.2.1.1, S.2.2.2.2.2.1.2.1, (mkM a).2.2.2.2.2.2.2.2.2.2.2.2.2.2.2.2.2.2.2.2.2.2.1, (mkM a).2.2.2.2.2.2.2.2.2.2.2.2.2.2.2.2.2.2.2.2.2.2.2.1, (mkM a).2.2.2.2.2.2.2.2.2.2.2.2.2.2.2.2.2.2.2.2.2.2.2.2.1, (mkM a).2.2.2.2.2.2.2.2.2.2.2.2.2.2.2.2.2.2.2.2.2.2.2.2.2.1, (mkM a).2.2.2.2.2.2.2.2.2.2.2.2.2.2.2.2.2.2.2.2.2.2.2.2.2.2.1, 0, (mkM a).2.2.2.2.2.2.2.2.2.2.2.2.2.2.2.2.2.2.2.2.2.2.2.2.2.2.2.2.1, (mkM a).2.2.2.2.2.2.2.2.2.2.2.2.2.2.2.2.2.2.2.2.2.2.2.2.2.2.2.2.2.1, (mkM a).2.2.2.2.2.2.2.2.2.2.2.2.2.2.2.2.2.2.2.2.2.2.2.2.2.2.2.2.2.2), ⟨fun _ _ _ => rfl, rfl, rfl, rfl, rfl⟩, fun r hr => ⟨rfl, ?_⟩, fun t ht => ⟨rfl, ?_⟩, a, ⟨hV, h1, mkM_R a⟩, ⟨⟨0, Nat.two_pow_pos _, h2, rfl⟩, h3, fun k hk => ⟨rfl, Or.inl (h7 k hk)⟩⟩, ⟨0, fun _ => 0, fun _ => false, Nat.zero_le _, h4, rfl, fun i hi => absurd hi (Nat.not_lt_zero i)⟩⟩
  · refine (h5 r hr).imp id fun ⟨k, k1, k2⟩ => ⟨k, k1, k2, fun i hi => ?_⟩
    show _ = S.2.1.1 ((60 * r + i) / 60) ((60 * r + i) % 60)
    rw [show (60 * r + i) / 60 = r by omega, show (60 * r + i) % 60 = i by omega]
  · refine (h6 t ht).imp id fun ⟨k, k1, k2⟩ => ⟨k, k1, k2, fun i hi => ?_⟩
    show _ = S.2.2.1.1 ((100 * t + i) / 100) ((100 * t + i) % 100)
    rw [show (100 * t + i) / 100 = t by omega, show (100 * t + i) % 100 = i by omega]
/-! no quarrels any more -/
theorem sub2.qu {a b : AJ} (h : sub2 a b) {x y : Nat} (hxy : y ≠ x) : sub2 a (aQu b x y false) := by
  obtain ⟨h1, h2, h3, h4, h5, h6⟩ := h
  refine ⟨h1, h2, h3, h4, h5, fun z u hz => ?_⟩
  rw [aQu_bit hxy] at hz
  split at hz
  · cases hz
  · exact h6 z u hz
abbrev dF (x y z u : Nat) : Prop := (z < x ∧ u < x) ∨ (z = x ∧ u < y) ∨ (u = x ∧ z < y)
def QF (a b : AJ) (x y : Nat) : Prop := sub2 a b ∧ AV b ∧ ∀ z u, z < aN a → u < aN a → (aF b z).testBit u = ((aF a z).testBit u && !decide (dF x y z u))
section
variable {a b : AJ} {x y : Nat}
theorem QF.step (h : QF a b x y) (hx : x < aN a) (hy : y < x) : QF a (aQu (aQu b x y false) y x false) x (y + 1) := by
  have e1 : aN b = aN a := h.1.1
  have hxb : x < aN b := by rw [e1]; exact hx
  have hyb : y < aN b := by rw [e1]; omega
  refine ⟨(h.1.qu (show y ≠ x by omega)).qu (show x ≠ y by omega), (h.2.1.quarrel hxb hyb (show y ≠ x by omega)).quarrel (show y < aN (aQu b x y false) from hyb) (show x < aN (aQu b x y false) from hxb) (show x ≠ y by omega), fun z u hz hu => ?_⟩
  rw [aQu_bit (show x ≠ y by omega), aQu_bit (show y ≠ x by omega)]
  by_cases c : (z = x ∧ u = y) ∨ (z = y ∧ u = x)
  · rw [if_pos (show (z = y ∧ u = x) ∨ (z = x ∧ u = y) by omega), decide_eq_true (show (z < x ∧ u < x) ∨ (z = x ∧ u < y + 1) ∨ (u = x ∧ z < y + 1) by omega), Bool.not_true, Bool.and_false]
  · rw [if_neg (show ¬ ((z = y ∧ u = x) ∨ (z = x ∧ u = y)) by omega), if_neg c, h.2.2 z u hz hu]
    refine congrArg (fun t => (aF a z).testBit u && !t) (decide_eq_decide.mpr ?_)
    show ((z < x ∧ u < x) ∨ (z = x ∧ u < y) ∨ (u = x ∧ z < y)) ↔ ((z < x ∧ u < x) ∨ (z = x ∧ u < y + 1) ∨ (u = x ∧ z < y + 1))
    omega
theorem QF.next (hV : AV a) (h : QF a b x x) : QF a b (x + 1) 0 := by
  refine ⟨h.1, h.2.1, fun z u hz hu => ?_⟩
  rw [h.2.2 z u hz hu]
  by_cases c : z = u
  · rw [c, (hV.2.2 u hu).2.2.2.2.2.2.2.2, Bool.false_and, Bool.false_and]
  · refine congrArg (fun t => (aF a z).testBit u && !t) (decide_eq_decide.mpr ?_)
    show ((z < x ∧ u < x) ∨ (z = x ∧ u < x) ∨ (u = x ∧ z < x)) ↔ ((z < x + 1 ∧ u < x + 1) ∨ (z = x + 1 ∧ u < 0) ∨ (u = x + 1 ∧ z < 0))
    omega
theorem QF.start (hV : AV a) : QF a a 0 0 := by
  refine ⟨sub2.rf a, hV, fun z u hz hu => ?_⟩
  rw [decide_eq_false (show ¬ ((z < 0 ∧ u < 0) ∨ (z = 0 ∧ u < 0) ∨ (u = 0 ∧ z < 0)) by omega), Bool.not_false, Bool.and_true]
theorem QF.zero (h : QF a b (aN a) y) {z : Nat} (hz : z < aN b) : aF b z = 0 := by
  have e1 : aN b = aN a := h.1.1
  refine (s_zero (h.2.1.2.2 z hz).2.2.2.2.2.2.1).2 fun u hu => ?_
  rw [e1] at hz hu
  rw [h.2.2 z u hz hu, decide_eq_true (show (z < aN a ∧ u < aN a) ∨ (z = aN a ∧ u < y) ∨ (u = aN a ∧ z < y) from Or.inl ⟨hz, hu⟩), Bool.not_true, Bool.and_false]
end
section
variable {SX : VSX} {S : VX10} {d : VA48} {a b : AJ}
theorem l_12 (hV : AV a) (hD : DR d a) {x : Nat} (hx : x < aN a) (hS : LSt S b 0 0) (hQ : QF a b x 0) (v3 v4 : Int32) (r : VX10 → VA48 → Int32 → Int32 → Int32 → Option (Int32 × VX10)) :
    ∃ S' b', f_L_friends_12 SX r 4096 S d v3 v4 (nI x) 0 = r S' d v3 v4 (nI (x + 1)) ∧ LSt S' b' 0 0 ∧ QF a b' (x + 1) 0 := by
  have hn := hV.2.1
  have hN := hV.N
  have dx := (hD.2 x hx).2.2.2.2
  have fx := (hV.2.2 x hx).2.2.2.2.2.2.1
  refine loop_up (fun f (T : VX10) v6 => f_L_friends_12 SX r f T d v3 v4 (nI x) v6) x (fun y T => ∃ b, LSt T b 0 0 ∧ QF a b x y) (fun o => ∃ S' b', o = r S' d v3 v4 (nI (x + 1)) ∧ LSt S' b' 0 0 ∧ QF a b' (x + 1) 0) ?_ ?_ 4096 0 S (Nat.zero_le _) ⟨b, hS, hQ⟩ (by omega)
  · rintro n T ⟨b, g1, g2⟩
    refine ⟨T, b, ?_, g1, g2.next hV⟩
    show f_L_friends_12 SX r (n + 1) T d v3 v4 (nI x) (nI x) = _
    rw [f_L_friends_12, if_pos (nI_le (Nat.le_refl _) (by omega)), nI_1]
  · rintro n T y hy ⟨b, g1, g2⟩
    right
    have e1 : aN b = aN a := g2.1.1
    have hxb : x < aN b := by rw [e1]; exact hx
    have hyb : y < aN b := by rw [e1]; omega
    obtain ⟨J1, k1, k2⟩ := e_quarrel g1.1 g2.2.1 hxb hyb (show y ≠ x by omega)
    obtain ⟨J2, k3, k4⟩ := e_quarrel (S := (T.1, T.2.1, T.2.2.1, T.2.2.2.1, J1, T.2.2.2.2.2.1, T.2.2.2.2.2.2.1, T.2.2.2.2.2.2.2.1, T.2.2.2.2.2.2.2.2.1, T.2.2.2.2.2.2.2.2.2)) k2 (g2.2.1.quarrel hxb hyb (show y ≠ x by omega)) (show y < aN (aQu b x y false) from hyb) (show x < aN (aQu b x y false) from hxb) (show x ≠ y by omega)
    rw [g2.2.2 x y hx (by omega), decide_eq_false (show ¬ ((x < x ∧ y < x) ∨ (x = x ∧ y < y) ∨ (y = x ∧ x < y)) by omega), Bool.not_false, Bool.and_true] at k1
    rw [aQu_bit (show y ≠ x by omega), if_pos (Or.inr ⟨rfl, rfl⟩)] at k3
    refine ⟨(T.1, T.2.1, T.2.2.1, T.2.2.2.1, J2, T.2.2.2.2.2.1, T.2.2.2.2.2.2.1, T.2.2.2.2.2.2.2.1, T.2.2.2.2.2.2.2.2.1, T.2.2.2.2.2.2.2.2.2), ⟨_, ⟨k4, g1.2⟩, g2.step hx hy⟩, ?_⟩
    show f_L_friends_12 SX r (n + 1) T d v3 v4 (nI x) (nI y) = f_L_friends_12 SX r n ((T.1, T.2.1, T.2.2.1, T.2.2.2.1, J2, T.2.2.2.2.2.1, T.2.2.2.2.2.2.1, T.2.2.2.2.2.2.2.1, T.2.2.2.2.2.2.2.2.1, T.2.2.2.2.2.2.2.2.2)) d v3 v4 (nI x) (nI (y + 1))
    rw [f_L_friends_12, if_neg (nI_ge hy (by omega)), k1, Option.bind_some, show (33 : Int32) + nI x = nI (33 + x) from nI_add 33 x, ix48 (show 33 + x < 48 by omega), if_pos rfl, nI_clamp (by omega), dx, n_tstb (show aF a x < 2 ^ 31 by omega) (by omega), if_pos rfl, show f_X10_quarrel ((bI ((aF a x).testBit y), (T.1, T.2.1, T.2.2.1, T.2.2.2.1, J1, T.2.2.2.2.2.1, T.2.2.2.2.2.2.1, T.2.2.2.2.2.2.2.1, T.2.2.2.2.2.2.2.2.1, T.2.2.2.2.2.2.2.2.2)) : Int32 × VX10).2 (nI y) (nI x) 0 = _ from k3, Option.bind_some, if_pos (show bI false = 0 from rfl), nI_1]
end
/-! keys traded, dealt as they are told -/
/-- the numbers' doors -/
def DB (d : VA48) (b : AJ) : Prop := ∀ x, x < aN b → d (1 + 4 * x) = nI (aK b x) ∧ d (2 + 4 * x) = kI (aP b x) ∧ d (3 + 4 * x) = kI (aO b x)
theorem SD.sy {a b : AJ} (h : SD a b) : SD b a := ⟨h.1.symm, h.2.1.symm, h.2.2.1.symm, h.2.2.2.1.symm, h.2.2.2.2.symm⟩
section
variable {SX : VSX} {S : VX10} {d : VA48} {b : AJ} {R : Nat → Option Nat} {W : Nat → Nat}
theorem l_291 {J : VX2} {c : AJ} {D : VX0} {T : VX9} (hJ : JR J c) (hVc : AV c) (hVb : AV b) (hsd : SD b c) (hD : DB d b) (h6 : aN b ≤ 6) {x : Nat} (hx : x < aN b) (v5 v9 v10 : Int32) (v6 : Int64) (r : VX10 → VA48 → Int32 → Int32 → Int64 → Int32 → Int32 → Int32 → Option (Int32 × VX10)) :
    ∃ T', f_L_friends_291 SX r ((T, S.2.1, S.2.2.1, S.2.2.2.1, J, S.2.2.2.2.2.1, S.2.2.2.2.2.2.1, S.2.2.2.2.2.2.2.1, D, S.2.2.2.2.2.2.2.2.2)) d (nI (aN b)) v5 v6 v9 v10 (nI x) = r ((T', S.2.1, S.2.2.1, S.2.2.2.1, J, S.2.2.2.2.2.1, S.2.2.2.2.2.2.1, S.2.2.2.2.2.2.2.1, D, S.2.2.2.2.2.2.2.2.2)) d (nI (aN b)) v5 v6 v9 v10 (nI (x + 1)) := by
  have hxc : x < aN c := by rw [hsd.1]; exact hx
  obtain ⟨d1, d2, d3⟩ := hD x hx
  have e1 := e_door (S := (T, S.2.1, S.2.2.1, S.2.2.2.1, J, S.2.2.2.2.2.1, S.2.2.2.2.2.2.1, S.2.2.2.2.2.2.2.1, D, S.2.2.2.2.2.2.2.2.2)) hJ hVc hxc (j := 0) (by decide)
  have e2 := e_door (S := (tel T (dI c x 0), S.2.1, S.2.2.1, S.2.2.2.1, J, S.2.2.2.2.2.1, S.2.2.2.2.2.2.1, S.2.2.2.2.2.2.2.1, D, S.2.2.2.2.2.2.2.2.2)) hJ hVc hxc (j := 2) (by decide)
  refine ⟨tel (tel T (dI c x 0)) (dI c x 2), ?_⟩
  unfold f_L_friends_291
  rw [show f_X10_door ((T, S.2.1, S.2.2.1, S.2.2.2.1, J, S.2.2.2.2.2.1, S.2.2.2.2.2.2.1, S.2.2.2.2.2.2.2.1, D, S.2.2.2.2.2.2.2.2.2)) (nI x) 0 = _ from e1, Option.bind_some, show f_L_tells ((1 : Int32), (tel T (dI c x 0), S.2.1, S.2.2.1, S.2.2.2.1, J, S.2.2.2.2.2.1, S.2.2.2.2.2.2.1, S.2.2.2.2.2.2.2.1, D, S.2.2.2.2.2.2.2.2.2)).2 ((1 : Int32), (tel T (dI c x 0), S.2.1, S.2.2.1, S.2.2.2.1, J, S.2.2.2.2.2.1, S.2.2.2.2.2.2.1, S.2.2.2.2.2.2.2.1, D, S.2.2.2.2.2.2.2.2.2)).1 = some (dI c x 0) from rfl, Option.bind_some, show (1 : Int32) + ((4 : Int32) * nI x) = nI (1 + 4 * x) from ixk 1 x, ix48 (show 1 + 4 * x < 48 by omega), if_pos rfl, nI_clamp (by omega), d1, if_pos (show dI c x 0 = nI (aK b x) from congrArg (fun k : Nat → Nat => nI (k x)) hsd.2.1), show f_X10_door ((1 : Int32), (tel T (dI c x 0), S.2.1, S.2.2.1, S.2.2.2.1, J, S.2.2.2.2.2.1, S.2.2.2.2.2.2.1, S.2.2.2.2.2.2.2.1, D, S.2.2.2.2.2.2.2.2.2)).2 (nI x) 2 = _ from e2, Option.bind_some, show f_L_tells ((1 : Int32), (tel (tel T (dI c x 0)) (dI c x 2), S.2.1, S.2.2.1, S.2.2.2.1, J, S.2.2.2.2.2.1, S.2.2.2.2.2.2.1, S.2.2.2.2.2.2.2.1, D, S.2.2.2.2.2.2.2.2.2)).2 ((1 : Int32), (tel (tel T (dI c x 0)) (dI c x 2), S.2.1, S.2.2.1, S.2.2.2.1, J, S.2.2.2.2.2.1, S.2.2.2.2.2.2.1, S.2.2.2.2.2.2.2.1, D, S.2.2.2.2.2.2.2.2.2)).1 = some (dI c x 2) from rfl, Option.bind_some, show (3 : Int32) + ((4 : Int32) * nI x) = nI (3 + 4 * x) from ixk 3 x, ix48 (show 3 + 4 * x < 48 by omega), if_pos rfl, nI_clamp (by omega), d3, if_pos (show dI c x 2 = kI (aO b x) from congrArg (fun k : Nat → Nat => kI (k x)) hsd.2.2.1), nI_1]
theorem l_211 (hS : LSt S b 0 0) (hT : TA b R W) (h6 : aN b ≤ 6) (hD : DB d b) (e8 : S.2.1.2 4 = nI (aN b)) (hP : ∀ x, x < aN b → S.2.1.1 4 x = kI (aP b x)) {dg : Int64} (ed : f_X10_digest S = some dg) {J : VX2} {c : AJ} (D : VX0) (hJ : JR J c) (hVc : AV c) (hsd : SD b c) (hK : KS (aN b) S.2.2.2.2.1 J) :
    ∃ S', f_L_friends_211 SX 4096 ((S.1, S.2.1, S.2.2.1, S.2.2.2.1, J, S.2.2.2.2.2.1, S.2.2.2.2.2.2.1, S.2.2.2.2.2.2.2.1, D, S.2.2.2.2.2.2.2.2.2)) d (nI (aN b)) (nI (ct (rP R) ((2 ^ aN b)))) dg 0 0 0 = some (1, S') := by
  have hVb := hT.1
  have hn := hVb.2.1
  refine loop_up (fun f (σ : VX9 × Int32) v11 => f_L_friends_211 SX f ((σ.1, S.2.1, S.2.2.1, S.2.2.2.1, J, S.2.2.2.2.2.1, S.2.2.2.2.2.2.1, S.2.2.2.2.2.2.2.1, D, S.2.2.2.2.2.2.2.2.2)) d (nI (aN b)) (nI (ct (rP R) ((2 ^ aN b)))) dg σ.2 σ.2 v11) (aN b) (fun _ _ => True) (fun o => ∃ S', o = some (1, S')) ?_ ?_ 4096 0 (S.1, 0) (Nat.zero_le _) trivial (by omega)
  · rintro n ⟨T, k⟩ -
    obtain ⟨J3, k1, k2, k3⟩ := e_dealt (S := (T, S.2.1, S.2.2.1, S.2.2.2.1, J, S.2.2.2.2.2.1, S.2.2.2.2.2.2.1, S.2.2.2.2.2.2.2.1, D, S.2.2.2.2.2.2.2.2.2)) (c := b) hJ hVc hVb hsd.sy (q := 4) (by decide) (by rw [hsd.1]; exact e8) (fun x hx => hP x (by rw [hsd.1] at hx; exact hx))
    have k3 : KS (aN c) J J3 := k3
    rw [hsd.1] at k3
    have e3 : J3 = S.2.2.2.2.1 := KS.eq (hK.tr k3) hS.1 k2
    subst e3
    obtain ⟨Z, k4⟩ := e_reached (S := (T, S.2.1, S.2.2.1, S.2.2.2.1, S.2.2.2.2.1, S.2.2.2.2.2.1, S.2.2.2.2.2.2.1, S.2.2.2.2.2.2.2.1, D, S.2.2.2.2.2.2.2.2.2)) hS.1 hT
    refine ⟨(tel T (nI (mx R ((2 ^ aN b)))), S.2.1, S.2.2.1, S.2.2.2.1, S.2.2.2.2.1, S.2.2.2.2.2.1, Z, S.2.2.2.2.2.2.2.1, D, S.2.2.2.2.2.2.2.2.2), ?_⟩
    show f_L_friends_211 SX (n + 1) ((T, S.2.1, S.2.2.1, S.2.2.2.1, J, S.2.2.2.2.2.1, S.2.2.2.2.2.2.1, S.2.2.2.2.2.2.2.1, D, S.2.2.2.2.2.2.2.2.2)) d (nI (aN b)) (nI (ct (rP R) ((2 ^ aN b)))) dg k k (nI (aN b)) = _
    rw [f_L_friends_211, if_pos (nI_le (Nat.le_refl _) (by omega)), if_pos rfl, show f_X10_dealt ((T, S.2.1, S.2.2.1, S.2.2.2.1, J, S.2.2.2.2.2.1, S.2.2.2.2.2.2.1, S.2.2.2.2.2.2.2.1, D, S.2.2.2.2.2.2.2.2.2)) 4 = _ from k1, Option.bind_some, if_pos rfl, show f_X10_digest ((1 : Int32), (T, S.2.1, S.2.2.1, S.2.2.2.1, S.2.2.2.2.1, S.2.2.2.2.2.1, S.2.2.2.2.2.2.1, S.2.2.2.2.2.2.2.1, D, S.2.2.2.2.2.2.2.2.2)).2 = some dg from (dig_cg S T S.2.2.2.1 S.2.2.2.2.2.2.1 S.2.2.2.2.2.2.2.1 D).trans ed, Option.bind_some, if_pos ((lg_cmp_eq _ _).2 rfl), show f_X10_reached ((1 : Int32), (T, S.2.1, S.2.2.1, S.2.2.2.1, S.2.2.2.2.1, S.2.2.2.2.2.1, S.2.2.2.2.2.2.1, S.2.2.2.2.2.2.2.1, D, S.2.2.2.2.2.2.2.2.2)).2 = _ from k4, Option.bind_some, if_pos rfl]
  · rintro n ⟨T, k⟩ x hx -
    right
    have hxc : x < aN c := by rw [hsd.1]; exact hx
    obtain ⟨d1, d2, d3⟩ := hD x hx
    have k1 := e_door (S := (T, S.2.1, S.2.2.1, S.2.2.2.1, J, S.2.2.2.2.2.1, S.2.2.2.2.2.2.1, S.2.2.2.2.2.2.2.1, D, S.2.2.2.2.2.2.2.2.2)) hJ hVc hxc (j := 1) (by decide)
    have qc := hVc.2.2 x hxc
    have qb := hVb.2.2 x hx
    have eK : aK c x = aK b x := congrArg (fun k : Nat → Nat => k x) hsd.2.1
    have eO : aO c x = aO b x := congrArg (fun k : Nat → Nat => k x) hsd.2.2.1
    have cn : aN c = aN b := hsd.1
    have eC : f_L_friends_211 SX (n + 1) ((T, S.2.1, S.2.2.1, S.2.2.2.1, J, S.2.2.2.2.2.1, S.2.2.2.2.2.2.1, S.2.2.2.2.2.2.2.1, D, S.2.2.2.2.2.2.2.2.2)) d (nI (aN b)) (nI (ct (rP R) ((2 ^ aN b)))) dg k k (nI x) = if 0 ≤ kI (aP c x) then f_L_friends_242 SX (f_L_friends_211 SX n) ((tel T (kI (aP c x)), S.2.1, S.2.2.1, S.2.2.2.1, J, S.2.2.2.2.2.1, S.2.2.2.2.2.2.1, S.2.2.2.2.2.2.2.1, D, S.2.2.2.2.2.2.2.2.2)) d (nI (aN b)) (nI (ct (rP R) ((2 ^ aN b)))) dg k (nI x) (kI (aP c x)) 1 k else f_L_friends_242 SX (f_L_friends_211 SX n) ((tel T (kI (aP c x)), S.2.1, S.2.2.1, S.2.2.2.1, J, S.2.2.2.2.2.1, S.2.2.2.2.2.2.1, S.2.2.2.2.2.2.2.1, D, S.2.2.2.2.2.2.2.2.2)) d (nI (aN b)) (nI (ct (rP R) ((2 ^ aN b)))) dg k (nI x) (kI (aP c x)) 0 k := by
      rw [f_L_friends_211, if_neg (nI_ge hx (by omega)), show f_X10_door ((T, S.2.1, S.2.2.1, S.2.2.2.1, J, S.2.2.2.2.2.1, S.2.2.2.2.2.2.1, S.2.2.2.2.2.2.2.1, D, S.2.2.2.2.2.2.2.2.2)) (nI x) 1 = some (1, (tel T (kI (aP c x)), S.2.1, S.2.2.1, S.2.2.2.1, J, S.2.2.2.2.2.1, S.2.2.2.2.2.2.1, S.2.2.2.2.2.2.2.1, D, S.2.2.2.2.2.2.2.2.2)) from k1, Option.bind_some, show f_L_tells ((1 : Int32), (tel T (kI (aP c x)), S.2.1, S.2.2.1, S.2.2.2.1, J, S.2.2.2.2.2.1, S.2.2.2.2.2.2.1, S.2.2.2.2.2.2.2.1, D, S.2.2.2.2.2.2.2.2.2)).2 ((1 : Int32), (tel T (kI (aP c x)), S.2.1, S.2.2.1, S.2.2.2.1, J, S.2.2.2.2.2.1, S.2.2.2.2.2.2.1, S.2.2.2.2.2.2.2.1, D, S.2.2.2.2.2.2.2.2.2)).1 = some (kI (aP c x)) from rfl, Option.bind_some]
    have go : ∀ k', ∃ σ : VX9 × Int32, True ∧ f_L_friends_291 SX (f_L_friends_211 SX n) ((tel T (kI (aP c x)), S.2.1, S.2.2.1, S.2.2.2.1, J, S.2.2.2.2.2.1, S.2.2.2.2.2.2.1, S.2.2.2.2.2.2.2.1, D, S.2.2.2.2.2.2.2.2.2)) d (nI (aN b)) (nI (ct (rP R) ((2 ^ aN b)))) dg k' k' (nI x) = f_L_friends_211 SX n ((σ.1, S.2.1, S.2.2.1, S.2.2.2.1, J, S.2.2.2.2.2.1, S.2.2.2.2.2.2.1, S.2.2.2.2.2.2.2.1, D, S.2.2.2.2.2.2.2.2.2)) d (nI (aN b)) (nI (ct (rP R) ((2 ^ aN b)))) dg σ.2 σ.2 (nI (x + 1)) := fun k' => by
      obtain ⟨T', e⟩ := l_291 (SX := SX) (S := S) (D := D) (T := tel T (kI (aP c x))) hJ hVc hVb hsd hD h6 hx (nI (ct (rP R) ((2 ^ aN b)))) k' k' dg (f_L_friends_211 SX n)
      exact ⟨(T', k'), trivial, e⟩
    have c3 : (3 : Int32) + ((4 : Int32) * nI x) = nI (3 + 4 * x) := ixk 3 x
    have c2 : (2 : Int32) + ((4 : Int32) * nI x) = nI (2 + 4 * x) := ixk 2 x
    show ∃ σ : VX9 × Int32, True ∧ f_L_friends_211 SX (n + 1) ((T, S.2.1, S.2.2.1, S.2.2.2.1, J, S.2.2.2.2.2.1, S.2.2.2.2.2.2.1, S.2.2.2.2.2.2.2.1, D, S.2.2.2.2.2.2.2.2.2)) d (nI (aN b)) (nI (ct (rP R) ((2 ^ aN b)))) dg k k (nI x) = f_L_friends_211 SX n ((σ.1, S.2.1, S.2.2.1, S.2.2.2.1, J, S.2.2.2.2.2.1, S.2.2.2.2.2.2.1, S.2.2.2.2.2.2.2.1, D, S.2.2.2.2.2.2.2.2.2)) d (nI (aN b)) (nI (ct (rP R) ((2 ^ aN b)))) dg σ.2 σ.2 (nI (x + 1))
    rw [eC]
    by_cases k2 : aK b x = 2
    · have pc' := qc.2.1 (by rw [eK]; exact k2)
      have pb := qb.2.1 k2
      have ob := qb.2.2.2.2.1 (by omega)
      rw [pb, kI_99] at d2
      rw [ob, kI_99] at d3
      obtain ⟨σ, -, h⟩ := go (k + 0)
      refine ⟨σ, trivial, Eq.trans ?_ h⟩
      rw [pc', kI_99, if_neg (by decide)]
      unfold f_L_friends_242
      rw [c2, ix48 (show 2 + 4 * x < 48 by omega), if_pos rfl, nI_clamp (by omega), d2, if_neg (by decide)]
      unfold f_L_friends_263
      rw [if_neg (fun q => nI_m9 (show x < 2 ^ 31 by omega) q.symm), c3, ix48 (show 3 + 4 * x < 48 by omega), if_pos rfl, nI_clamp (by omega), d3, if_pos rfl, if_neg (by decide)]
    · obtain ⟨w1, w2, w3⟩ := qc.2.2.1 (by rw [eK]; exact k2)
      obtain ⟨u1, u2, u3⟩ := qb.2.2.1 k2
      rw [kI_lt (show aP b x < 8 by omega)] at d2
      obtain ⟨σ, -, h⟩ := go (k + 1)
      refine ⟨σ, trivial, Eq.trans ?_ h⟩
      rw [kI_lt (show aP c x < 8 by omega), if_pos (nI_pos' (by omega))]
      unfold f_L_friends_242
      rw [c2, ix48 (show 2 + 4 * x < 48 by omega), if_pos rfl, nI_clamp (by omega), d2, if_pos (nI_pos' (by omega))]
      unfold f_L_friends_263
      have ne : ¬ nI (aP c x) = kI (aO b x) := fun q => by
        by_cases o8 : aO b x < 8
        · rw [kI_lt o8] at q
          have := (nI_eq (show aP c x < 2 ^ 31 by omega) (show aO b x < 2 ^ 31 by omega)).1 q
          omega
        · rw [show kI (aO b x) = -9 from if_neg o8] at q
          exact nI_m9 (by omega) q
      rw [if_neg (fun q => w2 ((nI_eq (by omega) (by omega)).1 q)), c3, ix48 (show 3 + 4 * x < 48 by omega), if_pos rfl, nI_clamp (by omega), d3, if_neg ne]
theorem l_181 (hS : LSt S b 0 0) (hT : TA b R W) (h6 : aN b ≤ 6) (hD : DB d b) (e8 : S.2.1.2 4 = nI (aN b)) (hP : ∀ x, x < aN b → S.2.1.1 4 x = kI (aP b x)) {dg : Int64} (ed : f_X10_digest S = some dg) {J : VX2} {c : AJ} (D : VX0) (hJ : JR J c) (hVc : AV c) (hsd : SD b c) (hK : KS (aN b) S.2.2.2.2.1 J) {r : Nat} (hr : r ≤ 20) (hNT : r < 20 → NT c) :
    ∃ S', f_L_friends_181 SX ((S.1, S.2.1, S.2.2.1, S.2.2.2.1, J, S.2.2.2.2.2.1, S.2.2.2.2.2.2.1, S.2.2.2.2.2.2.2.1, D, S.2.2.2.2.2.2.2.2.2)) d (nI (aN b)) (nI (ct (rP R) ((2 ^ aN b)))) dg (nI r) = some (1, S') := by
  unfold f_L_friends_181
  by_cases c0 : r = 0
  · rw [if_pos (show nI r ≤ 0 from nI_le (show r ≤ 0 by omega) (by decide))]
    exact l_211 hS hT h6 hD e8 hP ed D hJ hVc hsd hK
  rw [if_neg (show ¬ nI r ≤ 0 from nI_ge (show 0 < r by omega) (by omega))]
  by_cases c20 : r = 20
  · rw [if_pos (show (20 : Int32) ≤ nI r from nI_le (show 20 ≤ r by omega) (by omega))]
    exact l_211 hS hT h6 hD e8 hP ed D hJ hVc hsd hK
  rw [if_neg (show ¬ (20 : Int32) ≤ nI r from nI_ge (show r < 20 by omega) (by decide))]
  obtain ⟨r', D', J', a', -, -, -, -, -, e, f1, -, f2⟩ := e_trades (S := (S.1, S.2.1, S.2.2.1, S.2.2.2.1, J, S.2.2.2.2.2.1, S.2.2.2.2.2.2.1, S.2.2.2.2.2.2.2.1, D, S.2.2.2.2.2.2.2.2.2)) hJ hVc
  have r0 := f2 (hNT (by omega))
  have j0 : J' = J := f1 r0
  subst j0
  subst r0
  obtain ⟨S', h⟩ := l_211 (SX := SX) hS hT h6 hD e8 hP ed D' hJ hVc hsd hK
  refine ⟨S', ?_⟩
  rw [e, Option.bind_some, if_pos (show ((nI 0, (S.1, S.2.1, S.2.2.1, S.2.2.2.1, J', S.2.2.2.2.2.1, S.2.2.2.2.2.2.1, S.2.2.2.2.2.2.2.1, D', S.2.2.2.2.2.2.2.2.2)) : Int32 × VX10).1 = 0 from rfl)]
  exact h
theorem l_109 (hS : LSt S b 0 0) (hT : TA b R W) (h6 : aN b ≤ 6) (hD : DB d b) (e8 : S.2.1.2 4 = nI (aN b)) :
    ∃ S', f_L_friends_109 SX 4096 S d (nI (aN b)) (nI (ct (rP R) ((2 ^ aN b)))) 0 = some (1, S') := by
  have hVb := hT.1
  refine loop_up (fun f (T : VX10) v6 => f_L_friends_109 SX f T d (nI (aN b)) (nI (ct (rP R) ((2 ^ aN b)))) v6) (aN b) (fun x T => LSt T b 0 0 ∧ T.2.1.2 4 = nI (aN b) ∧ ∀ i, i < x → T.2.1.1 4 i = kI (aP b i)) (fun o => ∃ S', o = some (1, S')) ?_ ?_ 4096 0 S (Nat.zero_le _) ⟨hS, e8, fun i hi => absurd hi (Nat.not_lt_zero i)⟩ (by omega)
  · rintro n T ⟨g1, g2, g3⟩
    obtain ⟨M, hR⟩ := g1.rrs hVb
    obtain ⟨dg, M2, ed, -, -⟩ := st_digest hR
    obtain ⟨r, D', J', a', r20, hVa, hsd, hJ', hK, et, r0, rN, -⟩ := e_trades g1.1 hVb
    obtain ⟨S', h⟩ := l_181 (SX := SX) g1 hT h6 hD g2 g3 ed D' hJ' hVa hsd hK r20 rN
    refine ⟨S', ?_⟩
    show f_L_friends_109 SX (n + 1) T d (nI (aN b)) (nI (ct (rP R) ((2 ^ aN b)))) (nI (aN b)) = _
    rw [f_L_friends_109, if_pos (nI_le (Nat.le_refl _) (by omega)), ed, Option.bind_some, et, Option.bind_some, if_neg (show ¬ ((nI r, (T.1, T.2.1, T.2.2.1, T.2.2.2.1, J', T.2.2.2.2.2.1, T.2.2.2.2.2.2.1, T.2.2.2.2.2.2.2.1, D', T.2.2.2.2.2.2.2.2.2)) : Int32 × VX10).1 < 0 from nI_pos (by omega)), if_neg (show ¬ (20 : Int32) < ((nI r, (T.1, T.2.1, T.2.2.1, T.2.2.2.1, J', T.2.2.2.2.2.1, T.2.2.2.2.2.2.1, T.2.2.2.2.2.2.2.1, D', T.2.2.2.2.2.2.2.2.2)) : Int32 × VX10).1 from nI_nlt r20 (by decide))]
    by_cases c : r = 0
    · have j0 := r0 c
      subst j0
      rw [if_pos (show ((nI r, (T.1, T.2.1, T.2.2.1, T.2.2.2.1, T.2.2.2.2.1, T.2.2.2.2.2.1, T.2.2.2.2.2.2.1, T.2.2.2.2.2.2.2.1, D', T.2.2.2.2.2.2.2.2.2)) : Int32 × VX10).1 = 0 by rw [c]; rfl), show f_X10_digest ((nI r, (T.1, T.2.1, T.2.2.1, T.2.2.2.1, T.2.2.2.2.1, T.2.2.2.2.2.1, T.2.2.2.2.2.2.1, T.2.2.2.2.2.2.2.1, D', T.2.2.2.2.2.2.2.2.2)) : Int32 × VX10).2 = some dg from (dig_cg T T.1 T.2.2.2.1 T.2.2.2.2.2.2.1 T.2.2.2.2.2.2.2.1 D').trans ed, Option.bind_some, if_pos ((lg_cmp_eq _ _).2 rfl)]
      exact h
    · rw [if_neg (show ¬ ((nI r, (T.1, T.2.1, T.2.2.1, T.2.2.2.1, J', T.2.2.2.2.2.1, T.2.2.2.2.2.2.1, T.2.2.2.2.2.2.2.1, D', T.2.2.2.2.2.2.2.2.2)) : Int32 × VX10).1 = 0 from nI_ne0 (by omega) (by omega))]
      exact h
  · rintro n T x hx ⟨g1, g2, g3⟩
    right
    have d2 := (hD x hx).2.1
    have e := e_lay (S := T) (q := 4) (k := aN b) (i := x) (by decide) (by omega) g2 hx (kI (aP b x))
    refine ⟨(tel T.1 (T.2.1.1 4 x), (zg T.2.1.1 4 (upd (T.2.1.1 4) x (kI (aP b x))), T.2.1.2), T.2.2.1, T.2.2.2.1, T.2.2.2.2.1, T.2.2.2.2.2.1, T.2.2.2.2.2.2.1, T.2.2.2.2.2.2.2.1, T.2.2.2.2.2.2.2.2.1, T.2.2.2.2.2.2.2.2.2), ⟨g1, g2, fun i hi => ?_⟩, ?_⟩
    · show zg T.2.1.1 4 (upd (T.2.1.1 4) x (kI (aP b x))) 4 i = _
      rw [zg_at, if_pos rfl, upd_at]
      by_cases c : i = x
      · rw [if_pos c, c]
      · rw [if_neg c]; exact g3 i (by omega)
    · show f_L_friends_109 SX (n + 1) T d (nI (aN b)) (nI (ct (rP R) ((2 ^ aN b)))) (nI x) = _
      rw [f_L_friends_109, if_neg (nI_ge hx (by omega)), show (2 : Int32) + ((4 : Int32) * nI x) = nI (2 + 4 * x) from ixk 2 x, ix48 (show 2 + 4 * x < 48 by omega), if_pos rfl, nI_clamp (by omega), d2, show f_X10_lay T 4 (nI x) (kI (aP b x)) = _ from e, Option.bind_some, if_pos rfl, nI_1]
end
theorem l_friends {SX : VSX} {S : VX10} {d : VA48} {a : AJ} {R : Nat → Option Nat} {W : Nat → Nat} (hS : LSt S a 0 0) (hT : TA a R W) (h6 : aN a ≤ 6) (hD : DR d a) : ∃ S', f_L_friends SX S d (nI (aN a)) (nI (ct (rP R) ((2 ^ aN a)))) = some (1, S') := by
  have hV := hT.1
  show ∃ S', f_L_friends_3 SX 4096 S d (nI (aN a)) (nI (ct (rP R) ((2 ^ aN a)))) 0 = some (1, S')
  refine loop_up (fun f (T : VX10) v5 => f_L_friends_3 SX f T d (nI (aN a)) (nI (ct (rP R) ((2 ^ aN a)))) v5) (aN a) (fun x T => ∃ b, LSt T b 0 0 ∧ QF a b x 0) (fun o => ∃ S', o = some (1, S')) ?_ ?_ 4096 0 S (Nat.zero_le _) ⟨a, hS, QF.start hV⟩ (by omega)
  · rintro n T ⟨b, g1, g2⟩
    have g1 : LSt T b 0 0 := g1
    obtain ⟨hs2, hVb, -⟩ := id g2
    obtain ⟨s1, s2, s3, s4, s5, s6⟩ := id hs2
    obtain ⟨R', W', hTb⟩ := TA.ex hVb
    have hN : 2 ^ aN b ≤ 256 := hVb.N
    have hct := ct_le (rP R') (2 ^ aN b)
    have hle : ct (rP R) ((2 ^ aN a)) ≤ ct (rP R') ((2 ^ aN b)) := by
      rw [s1]
      exact ct_mo fun t ht hp => by
        have hp : (R t).isSome = true := hp
        cases hr : R t with
        | none => rw [hr] at hp; cases hp
        | some v =>
          obtain ⟨w, q, -⟩ := tab_mono hs2 (fu_lt a) hT.2.1 hTb t ht v hr
          show (R' t).isSome = true
          rw [q]; rfl
    have hDb : DB d b := fun x hx => by
      have hx : x < aN a := by rw [← s1]; exact hx
      obtain ⟨d1, d2, d3, -⟩ := hD.2 x hx
      rw [s2, s3, s4]
      exact ⟨d1, d2, d3⟩
    obtain ⟨S1, e1, h1, -⟩ := ls_reached g1 hTb
    obtain ⟨S2, e2, h2, -⟩ := ls_reached h1 hTb
    obtain ⟨P, e3, -⟩ := e_row (S := S2) (q := 4) (k := aN b) (by decide) (by have := hVb.2.1; omega)
    obtain ⟨S', h⟩ := l_109 (SX := SX) (S := (S2.1, (P, upd S2.2.1.2 4 (nI (aN b))), S2.2.2.1, S2.2.2.2.1, S2.2.2.2.2.1, S2.2.2.2.2.2.1, S2.2.2.2.2.2.2.1, S2.2.2.2.2.2.2.2.1, S2.2.2.2.2.2.2.2.2.1, S2.2.2.2.2.2.2.2.2.2)) ⟨h2.1, h2.2.1, h2.2.2.1, h2.2.2.2.1, RK.row h2.2.2.2.2.1 4 (k := aN b) (by have := hVb.2.1; omega), h2.2.2.2.2.2⟩ hTb (by rw [s1]; exact h6) hDb (show upd S2.2.1.2 4 (nI (aN b)) 4 = nI (aN b) by rw [upd_at, if_pos rfl])
    refine ⟨S', ?_⟩
    show f_L_friends_3 SX (n + 1) T d (nI (aN a)) (nI (ct (rP R) ((2 ^ aN a)))) (nI (aN a)) = _
    have c4 : f_X10_count T 4 = some 0 := e_count4 g1.1 hVb (fun z hz => g2.zero hz)
    have n1 : nI (aN a) = nI (aN b) := by rw [s1]
    rw [f_L_friends_3, if_pos (nI_le (Nat.le_refl _) (by omega)), c4, Option.bind_some, if_pos rfl, e1, Option.bind_some, if_pos (show nI (ct (rP R) ((2 ^ aN a))) ≤ ((nI (ct (rP R') ((2 ^ aN b))), S1) : Int32 × VX10).1 from nI_le hle (by omega)), show f_X10_reached ((nI (ct (rP R') ((2 ^ aN b))), S1) : Int32 × VX10).2 = _ from e2, Option.bind_some, n1, show f_X10_row ((nI (ct (rP R') ((2 ^ aN b))), S2) : Int32 × VX10).2 4 (nI (aN b)) = _ from e3, Option.bind_some, if_pos rfl]
    exact h
  · rintro n T x hx ⟨b, g1, g2⟩
    right
    obtain ⟨S', b', k1, k2, k3⟩ := l_12 (SX := SX) hV hD hx g1 g2 (nI (aN a)) (nI (ct (rP R) ((2 ^ aN a)))) (f_L_friends_3 SX n)
    refine ⟨S', ⟨b', k2, k3⟩, ?_⟩
    show f_L_friends_3 SX (n + 1) T d (nI (aN a)) (nI (ct (rP R) ((2 ^ aN a)))) (nI x) = _
    rw [f_L_friends_3, if_neg (nI_ge hx (by omega))]
    exact k1
