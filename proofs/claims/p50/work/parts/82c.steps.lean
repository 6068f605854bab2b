/-! THE STEPS of an evening, an order let out -/
theorem loop_d1 {σ α : Type} (F : Nat → σ → Int32 → Option α) (I : Nat → σ → Prop) (Q : Option α → Prop)
    (hend : ∀ n s, I 0 s → Q (F (n + 1) s (-1))) (N : Nat)
    (hstep : ∀ n s i, i < N → I (i + 1) s → ∃ s', I i s' ∧ F (n + 1) s (nI i) = F n s' (nI i + -1)) :
    ∀ i fuel s, i ≤ N → I i s → i < fuel → Q (F fuel s (ixd i)) := by
  intro i
  induction i with
  | zero =>
    intro fuel s _ h h1
    obtain ⟨n, rfl⟩ : ∃ n, fuel = n + 1 := ⟨fuel - 1, by omega⟩
    exact hend n s h
  | succ i ih =>
    intro fuel s hi h h1
    obtain ⟨n, rfl⟩ : ∃ n, fuel = n + 1 := ⟨fuel - 1, by omega⟩
    obtain ⟨s', g1, g2⟩ := hstep n s i (by omega) h
    show Q (F (n + 1) s (nI i))
    rw [g2, ixd_m1]
    exact ih n s' (by omega) g1 (by omega)
theorem x3_first {J : VX2} {a : AJ} (hJ : JR J a) (hV : AV a) (S : VX3) {set : Nat} (hs : set < 2 ^ aN a) :
    ∃ S' G, GT a set G ∧ ((G 0 = none ∧ f_X3_findFirst S J (nI set) = some (-9, S')) ∨ ∃ v t, G 0 = some v ∧ v ≤ 112 ∧ WK a set v t ∧ (∀ i, i < pc set → S'.2.2.2 i = nI (t i)) ∧ f_X3_findFirst S J (nI set) = some (nI v, S')) := by
  have hn := hV.2.1
  have hN := hV.N
  have eC : f_X3_findFirst S J (nI set) = f_X3_findFirst_25 4096 ((S.1, upd S.2.1 set 0, S.2.2.1, S.2.2.2)) J (nI set) (ixd set) := by
    unfold f_X3_findFirst
    rw [if_neg (nI_pos (by omega)), if_pos (show nI set < (256 : Int32) from nI_lt (show set < 256 by omega) (by decide)), zIn_t (show set < 256 by omega) (by decide), if_pos rfl, nI_clamp (by omega), ixd_sub]
  rw [eC]
  refine loop_d1 (fun f (S' : VX3) v3 => f_X3_findFirst_25 f S' J (nI set) v3) (fun k S' => ∃ G, OT a set k S' (fun u => nI (nv (G u))) G) (fun p => ∃ S' G, GT a set G ∧ ((G 0 = none ∧ p = some (-9, S')) ∨ ∃ v t, G 0 = some v ∧ v ≤ 112 ∧ WK a set v t ∧ (∀ i, i < pc set → S'.2.2.2 i = nI (t i)) ∧ p = some (nI v, S'))) ?_ set ?_ set 4096 ((S.1, upd S.2.1 set 0, S.2.2.1, S.2.2.2)) (Nat.le_refl _) ⟨fun _ => some 0, rfl, fun u h1 h2 => ?_, fun u v h1 h2 e => ?_, fun u h1 h2 => by omega, fun u h1 h2 => by omega⟩ (by omega)
  · rintro n S' ⟨G, h⟩
    have hr0 := h.2.1 0 (Nat.le_refl _) (Nat.zero_le _)
    have c0 : (0 : Int32).toNatClampNeg = 0 := rfl
    have hGT : GT a set G := ⟨h.1, fun u hu => h.2.2.2.1 u (Nat.zero_le _) hu⟩
    show ∃ S'' G, GT a set G ∧ ((G 0 = none ∧ f_X3_findFirst_25 (n + 1) S' J (nI set) (-1) = some (-9, S'')) ∨ ∃ v t, G 0 = some v ∧ v ≤ 112 ∧ WK a set v t ∧ (∀ i, i < pc set → S''.2.2.2 i = nI (t i)) ∧ f_X3_findFirst_25 (n + 1) S' J (nI set) (-1) = some (nI v, S''))
    cases hg : G 0 with
    | none =>
      refine ⟨S', G, hGT, Or.inl ⟨hg, ?_⟩⟩
      rw [f_X3_findFirst_25, if_pos (by decide), if_pos (by decide), c0, if_pos (show S'.2.1 0 = -9 by rw [hr0.1, hg]; rfl), if_pos (by decide), hr0.1, hg]; rfl
    | some v =>
      have hvle := h.2.2.1 0 v (Nat.le_refl _) (Nat.zero_le _) hg
      have h0 : G 0 ≠ none := by rw [hg]; simp
      obtain ⟨T, t1, t2⟩ := x3_follow h hV hs h0
      refine ⟨(S'.1, S'.2.1, S'.2.2.1, T), G, hGT, Or.inr ⟨v, nx a set G, hg, by omega, h.walk hV hs hg, t2, ?_⟩⟩
      rw [f_X3_findFirst_25, if_pos (by decide), if_pos (by decide), c0, if_neg (show ¬ S'.2.1 0 = -9 by rw [hr0.1, hg]; exact nI_m9 (by omega)), t1, Option.bind_some, if_pos (by decide)]
      show some (S'.2.1 0, (S'.1, S'.2.1, S'.2.2.1, T)) = _
      rw [hr0.1, hg]; rfl
  · rintro n S' k hk ⟨G, h⟩
    obtain ⟨g1, g2, g3, g4, g5⟩ := id h
    show ∃ S'', (∃ G, OT a set k S'' (fun u => nI (nv (G u))) G) ∧ f_X3_findFirst_25 (n + 1) S' J (nI set) (nI k) = f_X3_findFirst_25 n S'' J (nI set) (nI k + -1)
    rw [f_X3_findFirst_25, if_neg (nI_pos (by omega)), n_sd, zIn_t (show k < 256 by omega) (by decide), nI_clamp (by omega)]
    by_cases c : sd k set = 0
    · obtain ⟨N, f1, f2, f3⟩ := x3_from (S := S') (G := G) (t := k) hJ hV hs c (fun u h1 h2 => (g2 u (by omega) h2).1) (fun u v h1 h2 => g3 u v (by omega) h2)
      refine ⟨(S'.1, upd S'.2.1 k (oI (bB (ordC a set G k) (aN a))), N, S'.2.2.2), ⟨fun u => if u = k then bB (ordC a set G k) (aN a) else G u, h.step hk ?_ ?_ (fun u hu => ⟨?_, f2 u hu, ?_⟩) (fun v e => ?_) ⟨fun _ => rfl, fun e => absurd c e⟩ f3⟩, ?_⟩
      · show upd S'.2.1 k (oI (bB (ordC a set G k) (aN a))) k = _
        rw [upd_at, if_pos rfl]
      · show nI (nv (if k = k then _ else _)) = _
        rw [if_pos rfl]
      · show upd S'.2.1 k (oI (bB (ordC a set G k) (aN a))) u = _
        rw [upd_at, if_neg hu]
      · show nI (nv (if u = k then _ else _)) = _
        rw [if_neg hu]
      · exact ordC_le hV hs (by omega) (fun u v h1 h2 => g3 u v (by omega) h2) c (bA_first e).2.1
      · rw [if_pos (by rw [c]; rfl), f1, Option.bind_some, if_pos rfl]
    · refine ⟨(S'.1, upd S'.2.1 k (-9), S'.2.2.1, S'.2.2.2), ⟨fun u => if u = k then none else G u, h.step hk ?_ ?_ (fun u hu => ⟨?_, rfl, ?_⟩) (fun v e => by cases e) ⟨fun e => absurd e c, fun _ => rfl⟩ (fun e => absurd rfl e)⟩, ?_⟩
      · show upd S'.2.1 k (-9) k = _
        rw [upd_at, if_pos rfl]; rfl
      · show nI (nv (if k = k then _ else _)) = _
        rw [if_pos rfl]
      · show upd S'.2.1 k (-9) u = _
        rw [upd_at, if_neg hu]
      · show nI (nv (if u = k then _ else _)) = _
        rw [if_neg hu]
      · rw [if_neg (fun e => c ((nI0_eq (Nat.lt_of_lt_of_le (sd_lt (show k < 2 ^ aN a by omega)) (by omega))).1 e)), if_pos rfl]
  · have : u = set := by omega
    subst this
    exact ⟨by show upd S.2.1 u 0 u = _; rw [upd_at, if_pos rfl]; rfl, rfl⟩
  · cases e; omega
section
variable {S : VX10} {a : AJ} {R : Nat → Option Nat} {W : Nat → Nat}
theorem e_order (hJ : JR S.2.2.2.2.1 a) (hT : TA a R W) {set q : Nat} (hs : set < (2 ^ aN a)) (hq : q < 6) : (R set = none ∧ ∃ O, f_X10_order S (nI set) (nI q) = some (-9, (S.1, S.2.1, S.2.2.1, S.2.2.2.1, S.2.2.2.2.1, S.2.2.2.2.2.1, S.2.2.2.2.2.2.1, O, S.2.2.2.2.2.2.2.2.1, S.2.2.2.2.2.2.2.2.2))) ∨ ∃ v O P t, R set = some v ∧ WK a set v t ∧ f_X10_order S (nI set) (nI q) = some (nI v, (S.1, (P, upd S.2.1.2 q (nI (pc set))), S.2.2.1, S.2.2.2.1, S.2.2.2.2.1, S.2.2.2.2.2.1, S.2.2.2.2.2.2.1, O, S.2.2.2.2.2.2.2.2.1, S.2.2.2.2.2.2.2.2.2)) ∧ (∀ i, i < pc set → P q i = nI (t i)) ∧ ∀ j, j ≠ q → P j = S.2.1.1 j := by
  have hn := hT.1.2.1
  have hN := hT.1.N
  have hp := pc_le set
  obtain ⟨S', G, hG, main⟩ := x3_first hJ hT.1 S.2.2.2.2.2.2.2.1 hs
  have eq := hG.eq hT hs
  unfold f_X10_order
  rw [x2_setT hJ.1 hn hs, Option.bind_some, if_neg i10, x6_numT hq, Option.bind_some, if_neg i10]
  rcases main with ⟨h0, f1⟩ | ⟨v, t, h0, hv, hw, hst, f1⟩
  · refine Or.inl ⟨by rw [← eq]; exact h0, S', ?_⟩
    rw [f1, Option.bind_some, if_pos (show ((-9 : Int32), S').1 = -9 from rfl)]
  · obtain ⟨P, p1, p2, p3⟩ := x6_make (S := S.2.1) hq (show pc set ≤ 60 by omega)
    obtain ⟨P', p4, p5, p6⟩ := x10_fill (S := (S.1, (P, upd S.2.1.2 q (nI (pc set))), S.2.2.1, S.2.2.2.1, S.2.2.2.2.1, S.2.2.2.2.2.1, S.2.2.2.2.2.2.1, S', S.2.2.2.2.2.2.2.2.1, S.2.2.2.2.2.2.2.2.2)) (t := t) hq hp (by show upd S.2.1.2 q (nI (pc set)) q = _; rw [upd_at, if_pos rfl]) hst (nI v)
    refine Or.inr ⟨v, S', P', t, by rw [← eq]; exact h0, hw, ?_, p5, fun j hj => (p6 j hj).trans (p3 j hj)⟩
    rw [f1, Option.bind_some, if_neg (show ¬ ((nI v, S') : Int32 × VX3).1 = -9 from nI_m9 (by omega)), n_cnt (show set < 256 by omega), Option.bind_some, p1, Option.bind_some]
    exact p4
theorem e_at {q k i : Nat} (hq : q < 6) (hk : k ≤ 60) (e : S.2.1.2 q = nI k) (hi : i < k) : f_X10_at S (nI q) (nI i) = some (1, (tel S.1 (S.2.1.1 q i), S.2.1, S.2.2.1, S.2.2.2.1, S.2.2.2.2.1, S.2.2.2.2.2.1, S.2.2.2.2.2.2.1, S.2.2.2.2.2.2.2.1, S.2.2.2.2.2.2.2.2.1, S.2.2.2.2.2.2.2.2.2)) := by
  unfold f_X10_at
  rw [x10_placeT hq hk e hi, Option.bind_some, if_pos rfl, show f_X6_get ((0 : Int32), S).2.2.1 (nI q) (nI i) = some (S.2.1.1 q i) from x6_get hq hk e hi] <;> rfl
theorem e_can (hJ : JR S.2.2.2.2.1 a) (hV : AV a) {x g : Nat} (hx : x < aN a) (hg : g < (2 ^ aN a)) (eg : S.2.2.2.2.2.1.2.2.1 = nI g) : f_X10_can S (nI x) = some (if g.testBit x = true then -4 else oI (costC a x g ((2 ^ aN a - 1)))) := by
  have hn := hV.2.1
  have hN := hV.N
  unfold f_X10_can
  rw [x2_in hJ.1 hn hx, Option.bind_some, if_neg i10]
  unfold f_X1_hasOut f_X1_whoIsOut
  rw [eg, n_tstb (show g < 2 ^ 31 by omega) (by omega), Option.bind_some, x2_all hJ.1 hn, Option.bind_some, x2_costA hJ hV hx hg, Option.bind_some]
  cases g.testBit x with
  | true => rw [if_pos (by decide)] <;> rfl
  | false => rw [if_neg (by decide)] <;> rfl
theorem e_let (hJ : JR S.2.2.2.2.1 a) (hV : AV a) {x g c : Nat} (hx : x < aN a) (hg : g < (2 ^ aN a)) (eg : S.2.2.2.2.2.1.2.2.1 = nI g) (hb : g.testBit x = false) (hc : costC a x g ((2 ^ aN a - 1)) = some c) : f_X10_let S (nI x) = some (nI c, (S.1, S.2.1, S.2.2.1, S.2.2.2.1, S.2.2.2.2.1, ((S.2.2.2.2.2.1.1, S.2.2.2.2.2.1.2.1, nI (g ||| 2 ^ x), S.2.2.2.2.2.1.2.2.2 + nI c)), S.2.2.2.2.2.2.1, S.2.2.2.2.2.2.2.1, S.2.2.2.2.2.2.2.2.1, S.2.2.2.2.2.2.2.2.2)) := by
  have := costC_le hV hx hc
  have hn := hV.2.1
  unfold f_X10_let
  rw [e_can hJ hV hx hg eg, if_neg (by rw [hb]; decide), hc, Option.bind_some, oI_some, if_neg (nI_pos (by omega))]
  unfold f_X1_addOut
  rw [eg, n_one (by omega), n_or] <;> rfl
theorem e_out : f_X10_out S = some (S.2.2.2.2.2.1.2.2.1, (tel S.1 S.2.2.2.2.2.1.2.2.2, S.2.1, S.2.2.1, S.2.2.2.1, S.2.2.2.2.1, S.2.2.2.2.2.1, S.2.2.2.2.2.2.1, S.2.2.2.2.2.2.2.1, S.2.2.2.2.2.2.2.2.1, S.2.2.2.2.2.2.2.2.2)) := rfl
theorem e_bell {g : Nat} (hg : g < 256) (eg : S.2.2.2.2.2.1.2.2.1 = nI g) : f_X10_bell S = some (nI (pc g), (S.1, S.2.1, S.2.2.1, S.2.2.2.1, S.2.2.2.2.1, ((S.2.2.2.2.2.1.1, S.2.2.2.2.2.1.2.1, 0, 0)), S.2.2.2.2.2.2.1, S.2.2.2.2.2.2.2.1, S.2.2.2.2.2.2.2.2.1, S.2.2.2.2.2.2.2.2.2)) := by
  unfold f_X10_bell f_X1_howManyOut
  rw [eg, n_cnt hg] <;> rfl
theorem e_asked : f_X10_asked S = some S.1.2.1 := rfl
theorem e_lets (hJ : JR S.2.2.2.2.1 a) (hV : AV a) {set v q : Nat} {t : Nat → Nat} (hw : WK a set v t) (hset : set < (2 ^ aN a)) (hv : v ≤ 112) (hq : q < 6) (e : S.2.1.2 q = nI (pc set)) (hP : ∀ i, i < pc set → S.2.1.1 q i = nI (t i)) (hpn : pc set ≤ aN a) : f_X10_lets S (nI q) = some (nI (pc set), (tel S.1 (nI v), S.2.1, S.2.2.1, S.2.2.2.1, S.2.2.2.2.1, S.2.2.2.2.2.1, S.2.2.2.2.2.2.1, S.2.2.2.2.2.2.2.1, S.2.2.2.2.2.2.2.2.1, S.2.2.2.2.2.2.2.2.2)) := by
  have hn := hV.2.1
  have hN := hV.N
  have hk : pc set ≤ 60 := by have := pc_le set; omega
  obtain ⟨p, c, p0, pe, sv, hs⟩ := hw
  have hpN : ∀ i, i ≤ pc set → p i < (2 ^ aN a) := fun i hi => by
    rcases Nat.lt_or_ge i (pc set) with h | h
    · exact (hs i h).2.1
    · rw [show i = pc set by omega, pe]; exact hset
  have e1 : f_X10_tellsUnlikeCells S (nI q) = some 1 := by
    unfold f_X10_tellsUnlikeCells
    refine loop_is (fun f u v3 => f_X10_tellsUnlikeCells_4 f S (nI q) u v3) (fun i => nI (p i)) 0 (pc set) _ (fun n => ?_) (fun n i _ hi => ?_) 4096 0 (Nat.le_refl _) (by omega) (by omega) |> fun h => by rw [p0] at h; exact h
    · show f_X10_tellsUnlikeCells_4 (n + 1) S (nI q) _ (nI (pc set)) = _
      rw [f_X10_tellsUnlikeCells_4, x6_size hq, Option.bind_some, e, if_pos (nI_le (Nat.le_refl _) (by omega))]
    · obtain ⟨s1, s2, s3, s4, s5⟩ := hs i hi
      have s2' : p i < 2 ^ aN a := s2
      show f_X10_tellsUnlikeCells_4 (n + 1) S (nI q) (nI (p i)) (nI i) = f_X10_tellsUnlikeCells_4 n S (nI q) (nI (p (i + 1))) (nI (i + 1))
      rw [f_X10_tellsUnlikeCells_4, x6_size hq, Option.bind_some, e, if_neg (nI_ge hi (by omega)), x6_get hq hk e hi, Option.bind_some, hP i hi, x2_in hJ.1 hn s3, Option.bind_some, if_neg i10, n_tstb (show p i < 2 ^ 31 by omega) (by omega), s4, if_neg (show ¬ bI false = 1 by decide), n_one (by omega), n_or, nI_1, s1]
  have hF : ∀ i, i ≤ pc set → sumB c i ≤ v := fun i hi => by
    rw [← sv]
    have : ∀ d, sumB c i ≤ sumB c (i + d) := fun d => by
      induction d with
      | zero => exact Nat.le_refl _
      | succ d ih => exact Nat.le_trans ih (Nat.le_add_right _ _)
    have h := this (pc set - i)
    rwa [show i + (pc set - i) = pc set by omega] at h
  have e2 : f_X10_letRowOut S (nI q) = some (nI (pc set), (tel S.1 (nI v), S.2.1, S.2.2.1, S.2.2.2.1, S.2.2.2.2.1, S.2.2.2.2.2.1, S.2.2.2.2.2.2.1, S.2.2.2.2.2.2.2.1, S.2.2.2.2.2.2.2.2.1, S.2.2.2.2.2.2.2.2.2)) := by
    unfold f_X10_letRowOut
    refine loop_is (fun f (σ : Int32 × Int32 × Int32) v5 => f_X10_letRowOut_10 f S (nI q) σ.1 σ.2.1 σ.2.2 v5) (fun i => (nI (p i), nI (sumB c i), nI i)) 0 (pc set) _ (fun n => ?_) (fun n i _ hi => ?_) 4096 0 (Nat.le_refl _) (by omega) (by omega) |> fun h => by rw [p0] at h; exact h
    · show f_X10_letRowOut_10 (n + 1) S (nI q) _ (nI (sumB c (pc set))) (nI (pc set)) (nI (pc set)) = _
      rw [f_X10_letRowOut_10, x6_size hq, Option.bind_some, e, if_pos (nI_le (Nat.le_refl _) (by omega)), sv]; rfl
    · obtain ⟨s1, s2, s3, s4, s5⟩ := hs i hi
      have := costC_le hV s3 s5
      show f_X10_letRowOut_10 (n + 1) S (nI q) (nI (p i)) (nI (sumB c i)) (nI i) (nI i) = f_X10_letRowOut_10 n S (nI q) (nI (p (i + 1))) (nI (sumB c i + c i)) (nI (i + 1)) (nI (i + 1))
      rw [f_X10_letRowOut_10, x6_size hq, Option.bind_some, e, if_neg (nI_ge hi (by omega)), x6_get hq hk e hi, Option.bind_some, hP i hi, x2_all hJ.1 hn, Option.bind_some, x2_costA hJ hV s3 s2, Option.bind_some, s5, oI_some, if_pos (nI_pos' (show c i < 2 ^ 31 by omega)), n_one (by omega), n_or, nI_1, nI_add, s1]
  unfold f_X10_lets
  rw [x10_rowT hq hk e, Option.bind_some, if_pos rfl, show f_X6_sizeOf ((0 : Int32), S).2.2.1 (nI q) = some (nI (pc set)) from (x6_size hq).trans (congrArg some e), Option.bind_some, show f_X2_cells ((0 : Int32), S).2.2.2.2.2.1 = some (nI (aN a)) from congrArg some hJ.1, Option.bind_some, if_pos (nI_le hpn (by omega)), show f_X10_tellsUnlikeCells ((0 : Int32), S).2 (nI q) = _ from e1, Option.bind_some, if_neg i10, show f_X10_letRowOut ((0 : Int32), S).2 (nI q) = _ from e2] <;> rfl
end
