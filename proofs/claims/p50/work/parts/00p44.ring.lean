/-! THE STEPS: ring -/
def stp (a : AJ) (y : Nat) : Nat := if y < aN a then aP a y else y
def itr (a : AJ) (y : Nat) : Nat → Nat
  | 0 => y
  | i + 1 => stp a (itr a y i)
theorem itr_add (a : AJ) (y m : Nat) : ∀ k, itr a (itr a y m) k = itr a y (m + k)
  | 0 => rfl
  | k + 1 => by rw [itr, itr_add a y m k]; rfl
theorem itr_in {a : AJ} (hV : AV a) {y : Nat} (hy : y < aN a ∨ y = 99) : ∀ i, itr a y i < aN a ∨ itr a y i = 99
  | 0 => hy
  | i + 1 => by
    rw [itr]
    unfold stp
    rcases itr_in hV hy i with h | h
    · rw [if_pos h]
      obtain ⟨-, h2, h3, -⟩ := hV.2.2 _ h
      by_cases c : aK a (itr a y i) = 2
      · exact Or.inr (h2 c)
      · exact Or.inl (h3 c).1
    · rw [if_neg (by have := hV.2.1; omega)]; exact Or.inr h
theorem itr_99 {a : AJ} (hV : AV a) {y i : Nat} (h : itr a y i = 99) : ∀ k, itr a y (i + k) = 99
  | 0 => h
  | k + 1 => by
    show stp a (itr a y (i + k)) = 99
    rw [itr_99 hV h k]
    exact if_neg (by have := hV.2.1; omega)
/-- the first L are unlike cells -/
def Unl (a : AJ) (y L : Nat) : Prop := (∀ i, i < L → itr a y i < aN a) ∧ ∀ i j, i < j → j < L → itr a y i ≠ itr a y j
def ms (a : AJ) (y : Nat) : Nat → Nat
  | 0 => 0
  | i + 1 => ms a y i ||| 2 ^ itr a y i
theorem ms_bit (a : AJ) (y b : Nat) : ∀ i, (ms a y i).testBit b = true ↔ ∃ j, j < i ∧ itr a y j = b
  | 0 => by
    show (0 : Nat).testBit b = true ↔ _
    rw [Nat.zero_testBit]
    exact ⟨fun h => (by cases h), fun ⟨j, h, _⟩ => by omega⟩
  | i + 1 => by
    rw [ms, Nat.testBit_or, Nat.testBit_two_pow, Bool.or_eq_true, ms_bit a y b i]
    constructor
    · rintro (⟨j, h1, h2⟩ | h)
      · exact ⟨j, by omega, h2⟩
      · exact ⟨i, by omega, of_decide_eq_true h⟩
    · rintro ⟨j, h1, h2⟩
      by_cases e : j = i
      · subst e; exact Or.inr (decide_eq_true h2)
      · exact Or.inl ⟨j, by omega, h2⟩
theorem unl_ms {a : AJ} (hV : AV a) {y : Nat} : ∀ {L : Nat}, Unl a y L → ∀ i, i ≤ L → ms a y i < 2 ^ aN a ∧ pc (ms a y i) = i
  | L, h, 0, _ => ⟨Nat.two_pow_pos _, by show pc 0 = 0; decide⟩
  | L, h, i + 1, hi => by
    obtain ⟨h1, h2⟩ := unl_ms hV h i (by omega)
    have hN := hV.N
    have hn := hV.2.1
    have hx := h.1 i (by omega)
    exact ⟨or_lt h1 hx, by rw [ms, pc_or (by omega) (by omega) (by
      cases q : (ms a y i).testBit (itr a y i) with
      | false => rfl
      | true =>
        obtain ⟨j, j1, j2⟩ := (ms_bit a y _ i).1 q
        exact absurd j2 (h.2 j i j1 (by omega))), h2]⟩
theorem pc_n {s n : Nat} (hn : n ≤ 8) (hs : s < 2 ^ n) : pc s ≤ n := by
  unfold pc
  rw [ct_off (p := s.testBit) (N := n) 8 hn (fun t h1 h2 => s_out hs h1)]
  exact ct_le _ n
/-- how many are met -/
theorem met_ex {a : AJ} (hV : AV a) {y : Nat} (hy : y < aN a ∨ y = 99) : ∃ L, L ≤ aN a ∧ Unl a y L ∧ (itr a y L = 99 ∨ ∃ i, i < L ∧ itr a y i = itr a y L) := by
  have hn := hV.2.1
  have ex : ∃ L, itr a y L = 99 ∨ ∃ i, i < L ∧ itr a y i = itr a y L := Classical.byContradiction fun c => by
    have hU : Unl a y (aN a + 1) := ⟨fun i hi => (itr_in hV hy i).resolve_right (fun e => c ⟨i, Or.inl e⟩), fun i j h1 h2 e => c ⟨j, Or.inr ⟨i, h1, e⟩⟩⟩
    obtain ⟨h1, h2⟩ := unl_ms hV hU (aN a + 1) (Nat.le_refl _)
    have := pc_n hn h1
    omega
  obtain ⟨L, h1, h2⟩ := pk_least _ ex
  have hU : Unl a y L := ⟨fun i hi => (itr_in hV hy i).resolve_right (fun e => h2 i hi (Or.inl e)), fun i j q1 q2 e => h2 j q2 (Or.inr ⟨i, q1, e⟩)⟩
  obtain ⟨q1, q2⟩ := unl_ms hV hU L (Nat.le_refl _)
  have := pc_n hn q1
  exact ⟨L, by omega, hU, h1⟩
theorem kI_in {J : VX2} {a : AJ} (hJ : JR J a) (hn : aN a ≤ 8) {y : Nat} (hy : y < aN a ∨ y = 99) : f_X2_isCell J (kI y) = some (bI (decide (y < aN a))) := by
  rcases hy with hy | hy
  · rw [kI_lt (by omega), x2_in hJ.1 hn hy, decide_eq_true hy]; rfl
  · subst hy
    rw [kI_99, x2_none, decide_eq_false (by omega)]; rfl
theorem x2_met {J : VX2} {a : AJ} (hJ : JR J a) (hV : AV a) {y L : Nat} (hy : y < aN a ∨ y = 99) (hL : L ≤ aN a) (hU : Unl a y L) (he : itr a y L = 99 ∨ ∃ i, i < L ∧ itr a y i = itr a y L) : f_X2_metFrom J (kI y) = some (nI L) := by
  have hn := hV.2.1
  have hN := hV.N
  obtain ⟨m1, m2⟩ := unl_ms hV hU L (Nat.le_refl _)
  have e49 : f_X2_metFrom_49 J (nI (ms a y L)) = some (nI L) := by
    unfold f_X2_metFrom_49
    rw [n_cnt (show ms a y L < 256 by omega), m2]; rfl
  unfold f_X2_metFrom
  refine loop_is (fun f (σ : Nat × Nat) v4 => f_X2_metFrom_7 f J (nI σ.1) (kI σ.2) v4) (fun i => (ms a y i, itr a y i)) 0 L _ (fun n => ?_) (fun n i _ hi => ?_) 4096 0 (Nat.le_refl _) (by omega) (by omega)
  · show f_X2_metFrom_7 (n + 1) J (nI (ms a y L)) (kI (itr a y L)) (nI L) = _
    rw [f_X2_metFrom_7, e49, kI_in hJ hn (itr_in hV hy L), Option.bind_some]
    rcases he with he | ⟨i, h1, h2⟩
    · rw [he, decide_eq_false (by omega), if_pos (show bI false = 0 from rfl), ite_self]
    · have hx := hU.1 i h1
      rw [← h2, decide_eq_true hx, if_neg (show ¬ bI true = 0 from i10), kI_lt (by omega), n_tstb (show ms a y L < 2 ^ 31 by omega) (by omega), (ms_bit a y (itr a y i) L).2 ⟨i, h1, rfl⟩, if_neg (show ¬ bI true = 0 from i10), ite_self]
  · obtain ⟨n1, n2⟩ := unl_ms hV hU i (by omega)
    have hx := hU.1 i hi
    show f_X2_metFrom_7 (n + 1) J (nI (ms a y i)) (kI (itr a y i)) (nI i) = f_X2_metFrom_7 n J (nI (ms a y i ||| 2 ^ itr a y i)) (kI (stp a (itr a y i))) (nI (i + 1))
    have hb : (ms a y i).testBit (itr a y i) = false := by
      cases q : (ms a y i).testBit (itr a y i) with
      | false => rfl
      | true =>
        obtain ⟨j, j1, j2⟩ := (ms_bit a y _ i).1 q
        exact absurd j2 (hU.2 j i j1 hi)
    rw [f_X2_metFrom_7, if_neg (show ¬ (8 : Int32) ≤ nI i from nI_ge (show i < 8 by omega) (by decide)), kI_in hJ hn (Or.inl hx), Option.bind_some, decide_eq_true hx, if_neg (show ¬ bI true = 0 from i10), kI_lt (show itr a y i < 8 by omega), n_tstb (show ms a y i < 2 ^ 31 by omega) (by omega), hb, if_pos (show bI false = 0 from rfl), zIn_t (show itr a y i < 8 by omega) (by decide), if_pos rfl, nI_clamp (by omega), (hJ.2.2.2 _ hx).2.1, n_one (by omega), n_or, nI_1]
    unfold stp
    rw [if_pos hx]
theorem x2_far {J : VX2} {a : AJ} (hJ : JR J a) (hV : AV a) {y : Nat} (hy : y < aN a ∨ y = 99) : f_X2_farFrom J (kI y) = some (kI (itr a y (aN a))) := by
  have hn := hV.2.1
  unfold f_X2_farFrom
  refine loop_up (fun f (z : Nat) v3 => f_X2_farFrom_4 f J (kI z) v3) (aN a) (fun i z => z = itr a y i) (fun o => o = some (kI (itr a y (aN a)))) ?_ ?_ 4096 0 y (Nat.zero_le _) rfl (by omega)
  · rintro n z rfl
    show f_X2_farFrom_4 (n + 1) J (kI (itr a y (aN a))) (nI (aN a)) = _
    rw [f_X2_farFrom_4, hJ.1, if_pos (nI_le (Nat.le_refl _) (by omega))]
  · rintro n z i hi rfl
    show f_X2_farFrom_4 (n + 1) J (kI (itr a y i)) (nI i) = _ ∨ ∃ z, z = itr a y (i + 1) ∧ f_X2_farFrom_4 (n + 1) J (kI (itr a y i)) (nI i) = f_X2_farFrom_4 n J (kI z) (nI (i + 1))
    rw [f_X2_farFrom_4, hJ.1, if_neg (nI_ge hi (by omega)), kI_in hJ hn (itr_in hV hy i), Option.bind_some]
    rcases itr_in hV hy i with h | h
    · right
      refine ⟨_, rfl, ?_⟩
      rw [decide_eq_true h, if_neg (show ¬ bI true = 0 from i10), kI_lt (show itr a y i < 8 by omega), zIn_t (show itr a y i < 8 by omega) (by decide), if_pos rfl, nI_clamp (by omega), (hJ.2.2.2 _ h).2.1, nI_1, itr]
      unfold stp
      rw [if_pos h]
    · left
      have e := itr_99 hV h (aN a - i)
      rw [show i + (aN a - i) = aN a by omega] at e
      rw [h, e, decide_eq_false (by omega), if_pos (show bI false = 0 from rfl)]
section
variable {S : VX10} {M : VX11}
theorem st_ring (hR : RR S M) (v1 : Int32) : ∃ r : Int32, ∃ S2 : VX10, ∃ M2 : VX11, f_X10_ring S v1 = some (r, S2) ∧ f_X11_ring M v1 = some (r, M2) ∧ RR S2 M2 := by
  obtain ⟨hT, hr6, ht, a, ⟨hV, hJ, hM⟩, hE, hZ⟩ := id hR
  have hn := hV.2.1
  have hN := hV.N
  unfold f_X10_ring f_X11_ring
  rcases ix2 v1 (n := aN a) (by omega) with h | ⟨x, hx, rfl⟩
  · exact ⟨-1, S, M, by rw [x2_out hJ.1 h] <;> rfl, by rw [m_cell0 hM.1 hn h] <;> rfl, hR⟩
  rw [x2_in hJ.1 hn hx, Option.bind_some, if_neg i10, m_cell hM.1 hn hx, Option.bind_some, if_neg i10]
  have hxi : x < aN a ∨ x = 99 := Or.inl hx
  obtain ⟨L, hL, hU, he⟩ := met_ex hV hxi
  have m94 : ∀ c : Int32, f_X11_ring_94 M (nI L) c = some (nI L, (M.1, M.2.1, c, M.2.2.2.1, M.2.2.2.2.1, M.2.2.2.2.2.1, M.2.2.2.2.2.2.1, M.2.2.2.2.2.2.2.1, M.2.2.2.2.2.2.2.2.1, M.2.2.2.2.2.2.2.2.2.1, M.2.2.2.2.2.2.2.2.2.2.1, M.2.2.2.2.2.2.2.2.2.2.2.1, M.2.2.2.2.2.2.2.2.2.2.2.2.1, M.2.2.2.2.2.2.2.2.2.2.2.2.2.1, M.2.2.2.2.2.2.2.2.2.2.2.2.2.2.1, M.2.2.2.2.2.2.2.2.2.2.2.2.2.2.2.1, M.2.2.2.2.2.2.2.2.2.2.2.2.2.2.2.2.1, M.2.2.2.2.2.2.2.2.2.2.2.2.2.2.2.2.2.1, M.2.2.2.2.2.2.2.2.2.2.2.2.2.2.2.2.2.2.1, M.2.2.2.2.2.2.2.2.2.2.2.2.2.2.2.2.2.2.2.1, M.2.2.2.2.2.2.2.2.2.2.2.2.2.2.2.2.2.2.2.2.1, M.2.2.2.2.2.2.2.2.2.2.2.2.2.2.2.2.2.2.2.2.2.1, M.2.2.2.2.2.2.2.2.2.2.2.2.2.2.2.2.2.2.2.2.2.2.1, M.2.2.2.2.2.2.2.2.2.2.2.2.2.2.2.2.2.2.2.2.2.2.2.1, M.2.2.2.2.2.2.2.2.2.2.2.2.2.2.2.2.2.2.2.2.2.2.2.2.1, M.2.2.2.2.2.2.2.2.2.2.2.2.2.2.2.2.2.2.2.2.2.2.2.2.2.1, M.2.2.2.2.2.2.2.2.2.2.2.2.2.2.2.2.2.2.2.2.2.2.2.2.2.2.1, M.2.2.2.2.2.2.2.2.2.2.2.2.2.2.2.2.2.2.2.2.2.2.2.2.2.2.2.1, M.2.2.2.2.2.2.2.2.2.2.2.2.2.2.2.2.2.2.2.2.2.2.2.2.2.2.2.2.1, M.2.2.2.2.2.2.2.2.2.2.2.2.2.2.2.2.2.2.2.2.2.2.2.2.2.2.2.2.2.1, M.2.2.2.2.2.2.2.2.2.2.2.2.2.2.2.2.2.2.2.2.2.2.2.2.2.2.2.2.2.2)) := fun c => rfl
  have eM : f_X11_ring_17 4096 M 0 0 (nI x) = f_X11_ring_61 4096 M (nI L) (kI (itr a x L)) 0 (kI (itr a x L)) := by
    rw [← kI_lt (show x < 8 by omega)]
    refine loop_is (fun f (σ : Nat × Nat) v3 => f_X11_ring_17 f M (nI σ.1) v3 (kI σ.2)) (fun i => (ms a x i, itr a x i)) 0 L _ (fun n => ?_) (fun n i _ hi => ?_) 4096 0 (Nat.le_refl _) (by omega) (by omega)
    · obtain ⟨m1, m2⟩ := unl_ms hV hU L (Nat.le_refl _)
      show f_X11_ring_17 (n + 1) M (nI (ms a x L)) (nI L) (kI (itr a x L)) = _
      rw [f_X11_ring_17]
      rcases he with he | ⟨i, h1, h2⟩
      · rw [he, if_pos kI_99]
      · have hi := hU.1 i h1
        rw [← h2, if_neg (fun e => by have := (kI_m9 (Or.inl (show itr a x i < 8 by omega))).1 e; omega), kI_lt (show itr a x i < 8 by omega), n_has (show ms a x L < 2 ^ 31 by omega) (by omega), Option.bind_some, (ms_bit a x (itr a x i) L).2 ⟨i, h1, rfl⟩, if_neg (show ¬ bI true = 0 from i10)]
    · obtain ⟨n1, n2⟩ := unl_ms hV hU i (by omega)
      have hx := hU.1 i hi
      have hb : (ms a x i).testBit (itr a x i) = false := by
        cases q : (ms a x i).testBit (itr a x i) with
        | false => rfl
        | true =>
          obtain ⟨j, j1, j2⟩ := (ms_bit a x _ i).1 q
          exact absurd j2 (hU.2 j i j1 hi)
      show f_X11_ring_17 (n + 1) M (nI (ms a x i)) (nI i) (kI (itr a x i)) = f_X11_ring_17 n M (nI (ms a x i ||| 2 ^ itr a x i)) (nI (i + 1)) (kI (stp a (itr a x i)))
      rw [f_X11_ring_17, if_neg (fun e => by have := (kI_m9 (Or.inl (show itr a x i < 8 by omega))).1 e; omega), kI_lt (show itr a x i < 8 by omega), n_has (show ms a x i < 2 ^ 31 by omega) (by omega), Option.bind_some, hb, if_pos (show bI false = 0 from rfl), m_keeper hM hn hx, Option.bind_some, n_one (by omega), n_or, nI_1]
      unfold stp
      rw [if_pos hx]
  have main : ∃ c : Nat, f_X2_metFrom S.2.2.2.2.1 (kI (itr a x (aN a))) = some (nI c) ∧ f_X11_ring_61 4096 M (nI L) (kI (itr a x L)) 0 (kI (itr a x L)) = some (nI L, (M.1, M.2.1, nI c, M.2.2.2.1, M.2.2.2.2.1, M.2.2.2.2.2.1, M.2.2.2.2.2.2.1, M.2.2.2.2.2.2.2.1, M.2.2.2.2.2.2.2.2.1, M.2.2.2.2.2.2.2.2.2.1, M.2.2.2.2.2.2.2.2.2.2.1, M.2.2.2.2.2.2.2.2.2.2.2.1, M.2.2.2.2.2.2.2.2.2.2.2.2.1, M.2.2.2.2.2.2.2.2.2.2.2.2.2.1, M.2.2.2.2.2.2.2.2.2.2.2.2.2.2.1, M.2.2.2.2.2.2.2.2.2.2.2.2.2.2.2.1, M.2.2.2.2.2.2.2.2.2.2.2.2.2.2.2.2.1, M.2.2.2.2.2.2.2.2.2.2.2.2.2.2.2.2.2.1, M.2.2.2.2.2.2.2.2.2.2.2.2.2.2.2.2.2.2.1, M.2.2.2.2.2.2.2.2.2.2.2.2.2.2.2.2.2.2.2.1, M.2.2.2.2.2.2.2.2.2.2.2.2.2.2.2.2.2.2.2.2.1, M.2.2.2.2.2.2.2.2.2.2.2.2.2.2.2.2.2.2.2.2.2.1, M.2.2.2.2.2.2.2.2.2.2.2.2.2.2.2.2.2.2.2.2.2.2.1, M.2.2.2.2.2.2.2.2.2.2.2.2.2.2.2.2.2.2.2.2.2.2.2.1, M.2.2.2.2.2.2.2.2.2.2.2.2.2.2.2.2.2.2.2.2.2.2.2.2.1, M.2.2.2.2.2.2.2.2.2.2.2.2.2.2.2.2.2.2.2.2.2.2.2.2.2.1, M.2.2.2.2.2.2.2.2.2.2.2.2.2.2.2.2.2.2.2.2.2.2.2.2.2.2.1, M.2.2.2.2.2.2.2.2.2.2.2.2.2.2.2.2.2.2.2.2.2.2.2.2.2.2.2.1, M.2.2.2.2.2.2.2.2.2.2.2.2.2.2.2.2.2.2.2.2.2.2.2.2.2.2.2.2.1, M.2.2.2.2.2.2.2.2.2.2.2.2.2.2.2.2.2.2.2.2.2.2.2.2.2.2.2.2.2.1, M.2.2.2.2.2.2.2.2.2.2.2.2.2.2.2.2.2.2.2.2.2.2.2.2.2.2.2.2.2.2)) := by
    rcases he with he | ⟨i, h1, h2⟩
    · refine ⟨0, ?_, ?_⟩
      · have e := itr_99 hV he (aN a - L)
        rw [show L + (aN a - L) = aN a by omega] at e
        rw [e]
        exact x2_met hJ hV (Or.inr rfl) (Nat.zero_le _) ⟨fun i hi => by omega, fun i j _ h => by omega⟩ (Or.inl rfl)
      · rw [he, kI_99]
        show f_X11_ring_61 (4095 + 1) M (nI L) (-9) 0 (-9) = _
        rw [f_X11_ring_61, if_pos rfl, m94]; rfl
    · have per : ∀ m, i ≤ m → itr a x (m + (L - i)) = itr a x m := fun m hm => by
        have := itr_add a x L (m - i)
        rw [← h2, itr_add, show i + (m - i) = m by omega, show L + (m - i) = m + (L - i) by omega] at this
        exact this.symm
      have perq : ∀ q m, i ≤ m → itr a x (m + q * (L - i)) = itr a x m := fun q => by
        induction q with
        | zero => intro m _; rw [Nat.zero_mul, Nat.add_zero]
        | succ q ih =>
          intro m hm
          rw [Nat.succ_mul, ← Nat.add_assoc, per _ (by omega), ih m hm]
      have big : ∀ m, ∃ q, m ≤ i + q * (L - i) := fun m => ⟨m, by
        have : m * 1 ≤ m * (L - i) := Nat.mul_le_mul_left m (by omega)
        omega⟩
      have cell : ∀ m, i ≤ m → itr a x m < aN a := fun m hm => (itr_in hV hxi m).resolve_right fun e => by
        obtain ⟨q, hq⟩ := big m
        have e2 := itr_99 hV e (i + q * (L - i) - m)
        rw [show m + (i + q * (L - i) - m) = i + q * (L - i) by omega, perq q i (Nat.le_refl _)] at e2
        have := hU.1 i h1
        omega
      have unl : ∀ m d, i ≤ m → 0 < d → d < L - i → itr a x (m + d) ≠ itr a x m := fun m d hm d0 dl e => by
        obtain ⟨q, hq⟩ := big m
        have e2 : itr a x (i + q * (L - i) + d) = itr a x (i + q * (L - i)) := by
          have := congrArg (fun z => itr a z (i + q * (L - i) - m)) e
          simp only [itr_add] at this
          rw [show m + d + (i + q * (L - i) - m) = i + q * (L - i) + d by omega, show m + (i + q * (L - i) - m) = i + q * (L - i) by omega] at this
          exact this
        rw [show i + q * (L - i) + d = i + d + q * (L - i) by omega, perq q _ (by omega), perq q i (Nat.le_refl _)] at e2
        exact hU.2 i (i + d) (by omega) (by omega) e2.symm
      refine ⟨L - i, ?_, ?_⟩
      · refine x2_met hJ hV (Or.inl (cell _ (by omega))) (by omega) ⟨fun j hj => ?_, fun j k hjk hk => ?_⟩ (Or.inr ⟨0, by omega, ?_⟩)
        · rw [itr_add]; exact cell _ (by omega)
        · rw [itr_add, itr_add]
          intro e
          refine unl (aN a + j) (k - j) (by omega) (by omega) (by omega) ?_
          rw [show aN a + j + (k - j) = aN a + k by omega]
          exact e.symm
        · exact ((itr_add a x (aN a) (L - i)).trans (per (aN a) (by omega))).symm
      · have hz := hU.1 i h1
        have k9 : ∀ m, i ≤ m → ¬ kI (itr a x m) = -9 := fun m hm e => by
          have := cell m hm
          have := (kI_m9 (Or.inl (show itr a x m < 8 by omega))).1 e
          omega
        rw [← h2]
        have go : ∀ (r : VX11 → Int32 → Int32 → Int32 → Int32 → Option (Int32 × VX11)) (d : Nat), f_X11_ring_80 r M (nI L) (kI (itr a x i)) (nI d) (kI (itr a x (i + d))) = r M (nI L) (kI (itr a x i)) (nI (d + 1)) (kI (itr a x (i + (d + 1)))) := fun r d => by
          unfold f_X11_ring_80
          have hc := cell (i + d) (by omega)
          rw [kI_lt (show itr a x (i + d) < 8 by omega), m_keeper hM hn hc, Option.bind_some, nI_1]
          show r M (nI L) _ _ (kI (aP a (itr a x (i + d)))) = r M (nI L) _ _ (kI (stp a (itr a x (i + d))))
          unfold stp
          rw [if_pos hc]
        refine loop_is (fun f (d : Nat) v5 => f_X11_ring_61 f M (nI L) (kI (itr a x i)) v5 (kI (itr a x (i + d)))) (fun d => d) 0 (L - i) _ (fun n => ?_) (fun n d _ hd => ?_) 4096 0 (Nat.le_refl _) (by omega) (by omega)
        · show f_X11_ring_61 (n + 1) M (nI L) (kI (itr a x i)) (nI (L - i)) (kI (itr a x (i + (L - i)))) = _
          rw [per i (Nat.le_refl _), f_X11_ring_61, if_neg (k9 i (Nat.le_refl _)), if_neg (nI_ne0 (by omega) (by omega)), if_pos rfl, m94]
        · show f_X11_ring_61 (n + 1) M (nI L) (kI (itr a x i)) (nI d) (kI (itr a x (i + d))) = f_X11_ring_61 n M (nI L) (kI (itr a x i)) (nI (d + 1)) (kI (itr a x (i + (d + 1))))
          rw [f_X11_ring_61, if_neg (k9 (i + d) (by omega)), go]
          by_cases c : d = 0
          · rw [if_pos (by rw [c]; rfl)]
          · have c1 := cell (i + d) (by omega)
            rw [if_neg (nI_ne0 (by omega) (by omega)), if_neg (fun e => unl i d (Nat.le_refl _) (by omega) hd (by
              rw [kI_lt (show itr a x (i + d) < 8 by omega), kI_lt (show itr a x i < 8 by omega)] at e
              exact (nI_eq (by omega) (by omega)).1 e))]
  obtain ⟨c, f1, f2⟩ := main
  refine ⟨nI L, _, _, ?_, eM.trans f2, hR.tell (nI c)⟩
  have k1 : f_X2_farFrom S.2.2.2.2.1 (nI x) = some (kI (itr a x (aN a))) := by rw [← kI_lt (show x < 8 by omega)]; exact x2_far hJ hV hxi
  have k2 : f_X2_metFrom S.2.2.2.2.1 (nI x) = some (nI L) := by rw [← kI_lt (show x < 8 by omega)]; exact x2_met hJ hV hxi hL hU he
  rw [k1, Option.bind_some, f1, Option.bind_some, k2] <;> rfl
end
