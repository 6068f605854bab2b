/-! deals: figures, the next one -/
theorem NNf {n j A y r : Nat} (hn : 0 < n) (hy : y < n) (hr : r < n ^ j) : ((A * n + y) * n ^ j + r) / n ^ j = A * n + y ∧ ((A * n + y) * n ^ j + r) % n ^ j = r ∧ ((A * n + y) * n ^ j + r) / n ^ (j + 1) = A := by
  have hp : 0 < n ^ j := Nat.pow_pos hn
  have e1 : ((A * n + y) * n ^ j + r) / n ^ j = A * n + y := by
    rw [Nat.mul_comm, Nat.mul_add_div hp, Nat.div_eq_of_lt hr, Nat.add_zero]
  refine ⟨e1, ?_, ?_⟩
  · rw [Nat.mul_comm, Nat.mul_add_mod, Nat.mod_eq_of_lt hr]
  · rw [Nat.pow_succ, ← Nat.div_div_eq_div_mul, e1, Nat.mul_comm A n, Nat.mul_add_div hn, Nat.div_eq_of_lt hy, Nat.add_zero]
/-- figures but one are told by what lies above and below -/
theorem dg_same {n j M N : Nat} (hn : 0 < n) (h1 : M / n ^ (j + 1) = N / n ^ (j + 1)) (h2 : M % n ^ j = N % n ^ j) {x : Nat} (hx : x < n) (hxj : n - 1 - x ≠ j) : dg n M x = dg n N x := by
  unfold dg
  by_cases c : j < n - 1 - x
  · have e : n ^ (n - 1 - x) = n ^ (j + 1) * n ^ (n - 1 - x - (j + 1)) := by rw [← Nat.pow_add, show j + 1 + (n - 1 - x - (j + 1)) = n - 1 - x by omega]
    rw [e, ← Nat.div_div_eq_div_mul, ← Nat.div_div_eq_div_mul, h1]
  · have hlt : n - 1 - x < j := by omega
    have e : n ^ j = n ^ (n - 1 - x) * n ^ (j - (n - 1 - x)) := by rw [← Nat.pow_add, show n - 1 - x + (j - (n - 1 - x)) = j by omega]
    have dv : n ∣ n ^ (j - (n - 1 - x)) := ⟨n ^ (j - (n - 1 - x) - 1), by rw [← Nat.pow_succ', show (j - (n - 1 - x) - 1).succ = j - (n - 1 - x) by omega]⟩
    have k : ∀ K, K % n ^ j / n ^ (n - 1 - x) % n = K / n ^ (n - 1 - x) % n := fun K => by
      rw [e, Nat.mod_mul_right_div_self, Nat.mod_mod_of_dvd _ dv]
    rw [← k M, ← k N, h2]
/-- the least keeper that x may have -/
def lk (a : AJ) (x : Nat) : Nat := if okB a x 0 = true then 0 else if okB a x 1 = true then 1 else 2
theorem lk_ok {a : AJ} (hV : AV a) {x : Nat} (hx : x < aN a) : okB a x (lk a x) = true ∧ lk a x < aN a ∧ ∀ y, y < lk a x → okB a x y = false := by
  have hn := hV.2.1
  obtain ⟨k1, k2, k3, k4, k5, -⟩ := hV.2.2 x hx
  unfold lk
  by_cases c0 : okB a x 0 = true
  · rw [if_pos c0]; exact ⟨c0, by omega, fun y hy => by omega⟩
  have c0' : okB a x 0 = false := by simpa using c0
  rw [if_neg c0]
  have h2 : aK a x ≠ 2 := fun e => c0 (by unfold okB; rw [if_pos e]; rfl)
  obtain ⟨p1, p2, p3⟩ := k3 h2
  have ok : ∀ y, okB a x y = decide (y ≠ x ∧ aO a x ≠ y) := fun y => if_neg h2
  have pok : okB a x (aP a x) = true := by rw [ok]; exact decide_eq_true ⟨p2, p3⟩
  by_cases c1 : okB a x 1 = true
  · rw [if_pos c1]
    refine ⟨c1, ?_, fun y hy => by rw [show y = 0 by omega]; exact c0'⟩
    have : aP a x ≠ 0 := fun e => by rw [e] at pok; exact c0 pok
    omega
  · have c1' : okB a x 1 = false := by simpa using c1
    rw [if_neg c1]
    have q0 : aP a x ≠ 0 := fun e => by rw [e] at pok; exact c0 pok
    have q1 : aP a x ≠ 1 := fun e => by rw [e] at pok; exact c1 pok
    refine ⟨?_, by omega, fun y hy => ?_⟩
    · rw [ok] at c0 c1 ⊢
      refine decide_eq_true ?_
      have g0 : ¬ (0 ≠ x ∧ aO a x ≠ 0) := fun q => c0 (decide_eq_true q)
      have g1 : ¬ (1 ≠ x ∧ aO a x ≠ 1) := fun q => c1 (decide_eq_true q)
      constructor
      · intro e; omega
      · intro e; omega
    · have : y = 0 ∨ y = 1 := by omega
      rcases this with rfl | rfl
      · exact c0'
      · exact c1'
/-- the least figures, of the last j cells -/
def lo (a : AJ) : Nat → Nat
  | 0 => 0
  | j + 1 => lk a (aN a - 1 - j) * aN a ^ j + lo a j
theorem lo_lt {a : AJ} (hV : AV a) (h0 : 0 < aN a) : ∀ j, j ≤ aN a → lo a j < aN a ^ j
  | 0, _ => by show 0 < aN a ^ 0; rw [Nat.pow_zero]; omega
  | j + 1, h => by
    have ih := lo_lt hV h0 j (by omega)
    have := (lk_ok hV (show aN a - 1 - j < aN a by omega)).2.1
    rw [lo, Nat.pow_succ]
    have h2 : (lk a (aN a - 1 - j) + 1) * aN a ^ j ≤ aN a * aN a ^ j := Nat.mul_le_mul_right _ (by omega)
    rw [Nat.succ_mul] at h2
    rw [Nat.mul_comm (aN a ^ j) (aN a)]
    omega
theorem dgj {a : AJ} {k j : Nat} (hj : j < aN a) : dg (aN a) k (aN a - 1 - j) = k / aN a ^ j % aN a := by
  unfold dg
  rw [show aN a - 1 - (aN a - 1 - j) = j by omega]
theorem lo_le {a : AJ} (hV : AV a) (h0 : 0 < aN a) {k : Nat} (hk : Val a k) : ∀ j, j ≤ aN a → lo a j ≤ k % aN a ^ j
  | 0, _ => Nat.zero_le _
  | j + 1, h => by
    have ih := lo_le hV h0 hk j (by omega)
    have hlt := lo_lt hV h0 j (by omega)
    have hok := hk (aN a - 1 - j) (by omega)
    rw [dgj (by omega)] at hok
    have hle : lk a (aN a - 1 - j) ≤ k / aN a ^ j % aN a := Classical.byContradiction fun c => by
      rw [(lk_ok hV (show aN a - 1 - j < aN a by omega)).2.2 _ (by omega)] at hok; cases hok
    rw [lo, Nat.mod_pow_succ, Nat.mul_comm (aN a ^ j)]
    generalize k / aN a ^ j % aN a = e at *
    by_cases c : lk a (aN a - 1 - j) = e
    · rw [c]; omega
    · have h2 : (lk a (aN a - 1 - j) + 1) * aN a ^ j ≤ e * aN a ^ j := Nat.mul_le_mul_right _ (by omega)
      rw [Nat.succ_mul] at h2
      omega
/-! the model's next deal -/
theorem mT_set1 (M : VX11) (D l o : Nat → Int32) (i : Nat) (v : Int32) : ((mT M D l o).1, (mT M D l o).2.1, (mT M D l o).2.2.1, (mT M D l o).2.2.2.1, (mT M D l o).2.2.2.2.1, (mT M D l o).2.2.2.2.2.1, (mT M D l o).2.2.2.2.2.2.1, (mT M D l o).2.2.2.2.2.2.2.1, (mT M D l o).2.2.2.2.2.2.2.2.1, (mT M D l o).2.2.2.2.2.2.2.2.2.1, (mT M D l o).2.2.2.2.2.2.2.2.2.2.1, upd (mT M D l o).2.2.2.2.2.2.2.2.2.2.2.1 i v, (mT M D l o).2.2.2.2.2.2.2.2.2.2.2.2.1, (mT M D l o).2.2.2.2.2.2.2.2.2.2.2.2.2.1, (mT M D l o).2.2.2.2.2.2.2.2.2.2.2.2.2.2.1, (mT M D l o).2.2.2.2.2.2.2.2.2.2.2.2.2.2.2.1, (mT M D l o).2.2.2.2.2.2.2.2.2.2.2.2.2.2.2.2.1, (mT M D l o).2.2.2.2.2.2.2.2.2.2.2.2.2.2.2.2.2.1, (mT M D l o).2.2.2.2.2.2.2.2.2.2.2.2.2.2.2.2.2.2.1, (mT M D l o).2.2.2.2.2.2.2.2.2.2.2.2.2.2.2.2.2.2.2.1, (mT M D l o).2.2.2.2.2.2.2.2.2.2.2.2.2.2.2.2.2.2.2.2.1, (mT M D l o).2.2.2.2.2.2.2.2.2.2.2.2.2.2.2.2.2.2.2.2.2.1, (mT M D l o).2.2.2.2.2.2.2.2.2.2.2.2.2.2.2.2.2.2.2.2.2.2.1, (mT M D l o).2.2.2.2.2.2.2.2.2.2.2.2.2.2.2.2.2.2.2.2.2.2.2.1, (mT M D l o).2.2.2.2.2.2.2.2.2.2.2.2.2.2.2.2.2.2.2.2.2.2.2.2.1, (mT M D l o).2.2.2.2.2.2.2.2.2.2.2.2.2.2.2.2.2.2.2.2.2.2.2.2.2.1, (mT M D l o).2.2.2.2.2.2.2.2.2.2.2.2.2.2.2.2.2.2.2.2.2.2.2.2.2.2.1, (mT M D l o).2.2.2.2.2.2.2.2.2.2.2.2.2.2.2.2.2.2.2.2.2.2.2.2.2.2.2.1, (mT M D l o).2.2.2.2.2.2.2.2.2.2.2.2.2.2.2.2.2.2.2.2.2.2.2.2.2.2.2.2.1, (mT M D l o).2.2.2.2.2.2.2.2.2.2.2.2.2.2.2.2.2.2.2.2.2.2.2.2.2.2.2.2.2.1, (mT M D l o).2.2.2.2.2.2.2.2.2.2.2.2.2.2.2.2.2.2.2.2.2.2.2.2.2.2.2.2.2.2) = mT M (upd D i v) l o := rfl
section
variable {M : VX11} {a : AJ} {D l o : Nat → Int32}
theorem m_least {N : VX11} {a' : AJ} (hN : MR N a') (hV' : AV a') (hV : AV a) (hs : SameJ a a') {x : Nat} (hx : x < aN a) (hk : aK a x ≠ 2) : f_X11_leastKeeper N (nI x) = some (nI (lk a x)) := by
  have hn := hV.2.1
  obtain ⟨l1, l2, l3⟩ := lk_ok hV hx
  obtain ⟨s1, s2, s3, -⟩ := id hs
  have hx' : x < aN a' := by rw [s1]; exact hx
  have ok : ∀ y, okB a x y = decide (y ≠ x ∧ aO a x ≠ y) := fun y => if_neg hk
  unfold f_X11_leastKeeper
  refine loop_is (fun f (_ : Unit) v2 => f_X11_leastKeeper_2 f N (nI x) v2) (fun _ => ()) 0 (lk a x) _ (fun n => ?_) (fun n y _ hy => ?_) 4096 0 (Nat.le_refl _) (by omega) (by omega)
  · show f_X11_leastKeeper_2 (n + 1) N (nI x) (nI (lk a x)) = _
    rw [f_X11_leastKeeper_2, m_may hN hV' hx' (show lk a x < 8 by omega), Option.bind_some, s3, ← ok, l1, if_neg (show ¬ bI true = 0 from i10)]
  · show f_X11_leastKeeper_2 (n + 1) N (nI x) (nI y) = f_X11_leastKeeper_2 n N (nI x) (nI (y + 1))
    rw [f_X11_leastKeeper_2, m_may hN hV' hx' (show y < 8 by omega), Option.bind_some, s3, ← ok, l3 y hy, if_pos (show bI false = 0 from rfl), nI_1]
theorem m_nd28 {a' : AJ} (hM : MR (mT M D l o) a') (hV' : AV a') (hs : SameJ a a') (h8 : aN a ≤ 8) {x d : Nat} (hx : x < aN a) (hd : d < aN a) (hk : aK a x ≠ 2) (r : VX11 → Int32 → Option (Int32 × VX11)) :
    (∃ y, d < y ∧ y < aN a ∧ okB a x y = true ∧ (∀ z, d < z → z < y → okB a x z = false) ∧ f_X11_nextDeal_28 r 4096 (mT M D l o) (nI x) (nI (d + 1)) = f_X11_nextDeal_51 r (mT M D l o) (nI x) (nI y)) ∨
    ((∀ z, d < z → z < aN a → okB a x z = false) ∧ f_X11_nextDeal_28 r 4096 (mT M D l o) (nI x) (nI (d + 1)) = f_X11_nextDeal_51 r (mT M D l o) (nI x) (nI (aN a))) := by
  obtain ⟨s1, s2, s3, -⟩ := id hs
  have hx' : x < aN a' := by rw [s1]; exact hx
  have ok : ∀ y, okB a x y = decide (y ≠ x ∧ aO a x ≠ y) := fun y => if_neg hk
  refine loop_up (fun f (_ : Unit) v2 => f_X11_nextDeal_28 r f (mT M D l o) (nI x) v2) (aN a) (fun i _ => d < i ∧ ∀ z, d < z → z < i → okB a x z = false) (fun p => (∃ y, d < y ∧ y < aN a ∧ okB a x y = true ∧ (∀ z, d < z → z < y → okB a x z = false) ∧ p = f_X11_nextDeal_51 r (mT M D l o) (nI x) (nI y)) ∨ ((∀ z, d < z → z < aN a → okB a x z = false) ∧ p = f_X11_nextDeal_51 r (mT M D l o) (nI x) (nI (aN a)))) ?_ ?_ 4096 (d + 1) () (by omega) ⟨Nat.lt_succ_self _, fun z h1 h2 => by omega⟩ (by omega)
  · rintro n _ ⟨-, h⟩
    right
    refine ⟨h, ?_⟩
    show f_X11_nextDeal_28 r (n + 1) (mT M D l o) (nI x) (nI (aN a)) = _
    rw [f_X11_nextDeal_28, if_pos (show (mT M D l o).2.2.2.2.2.2.2.2.2.2.1 ≤ nI (aN a) from by rw [hM.1, s1]; exact nI_le (Nat.le_refl _) (by omega))]
  · rintro n _ y hy ⟨h1, h2⟩
    show _ ∨ ∃ _ : Unit, (d < y + 1 ∧ ∀ z, d < z → z < y + 1 → okB a x z = false) ∧ f_X11_nextDeal_28 r (n + 1) (mT M D l o) (nI x) (nI y) = f_X11_nextDeal_28 r n (mT M D l o) (nI x) (nI (y + 1))
    have e : f_X11_nextDeal_28 r (n + 1) (mT M D l o) (nI x) (nI y) = if bI (okB a x y) = 0 then f_X11_nextDeal_28 r n (mT M D l o) (nI x) (nI (y + 1)) else f_X11_nextDeal_51 r (mT M D l o) (nI x) (nI y) := by
      rw [f_X11_nextDeal_28, if_neg (show ¬ (mT M D l o).2.2.2.2.2.2.2.2.2.2.1 ≤ nI y from by rw [hM.1, s1]; exact nI_ge hy (by omega)), m_may hM hV' hx' (show y < 8 by omega), Option.bind_some, s3, ← ok, nI_1]
    cases hok : okB a x y with
    | true =>
      left
      left
      rw [hok] at e
      exact ⟨y, h1, hy, hok, h2, e.trans (if_neg i10)⟩
    | false =>
      right
      rw [hok] at e
      refine ⟨(), ⟨by omega, fun z g1 g2 => ?_⟩, e.trans (if_pos rfl)⟩
      by_cases c : z = y
      · rw [c]; exact hok
      · exact h2 z g1 (by omega)
end
