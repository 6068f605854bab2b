/-! THE LAW'S NUMBERS: a jail told by them -/
theorem cell_ok {SX : VSX} (hL : SX.1 ≤ 260) {k : Nat} (hk : k ≤ 100) : ∃ c, c < 2 ^ 28 ∧ f_L_cell SX (nI k) = some (nI c) := by
  unfold f_L_cell
  rw [show Int32.ofNat SX.1 = nI SX.1 from rfl]
  by_cases h : SX.1 ≤ k
  · rw [if_pos (nI_le h (by omega))]
    refine ⟨(61 * k + 7) * (k + 3), ?_, ?_⟩
    · have h1 : 61 * k + 7 ≤ 6107 := by omega
      have h2 : k + 3 ≤ 103 := by omega
      exact Nat.lt_of_le_of_lt (Nat.mul_le_mul h1 h2) (by decide)
    · rw [show (61 : Int32) * nI k = nI (61 * k) from pk_mul 61 k, show nI (61 * k) + 7 = nI (61 * k + 7) from nI_add _ 7, show nI k + 3 = nI (k + 3) from nI_add k 3, pk_mul]
  · rw [if_neg (nI_ge (by omega) (by omega)), zIn_t (show k < SX.1 by omega) (by omega), if_pos rfl, nI_clamp (by omega)]
    obtain ⟨j, h1, h2⟩ := pk_andE (SX.2 k) (m := (268435455 : Int32)) 28 (by decide)
    exact ⟨j, h1, by rw [h2]⟩
/-- the jail that the numbers tell -/
def aD (d : VA48) : AJ := ((d 0).toNatClampNeg, (fun x => (d (1 + 4 * x)).toNatClampNeg), (fun x => if d (2 + 4 * x) = -9 then 99 else (d (2 + 4 * x)).toNatClampNeg), (fun x => if d (3 + 4 * x) = -9 then 99 else (d (3 + 4 * x)).toNatClampNeg), (fun x => (d (4 + 4 * x)).toNatClampNeg), (fun x => (d (33 + x)).toNatClampNeg))
/-- one door's words -/
def DV (n x k p o l : Nat) : Prop := k ≤ 5 ∧ (k = 2 → p = 99) ∧ (k ≠ 2 → p < n ∧ p ≠ x ∧ o ≠ p) ∧ ((k = 1 ∨ k = 5) → o < n ∧ o ≠ x) ∧ (¬ (k = 1 ∨ k = 5) → o = 99) ∧ l ≤ 3 ∧ (¬ (k = 3 ∨ k = 4) → l = 0)
def DRow (d : VA48) (n x : Nat) : Prop := ∃ k p o l, DV n x k p o l ∧ d (1 + 4 * x) = nI k ∧ d (2 + 4 * x) = kI p ∧ d (3 + 4 * x) = kI o ∧ d (4 + 4 * x) = nI l
theorem kI_back {p : Nat} (h : p < 8 ∨ p = 99) : (if kI p = -9 then 99 else (kI p).toNatClampNeg) = p := by
  rcases h with h | rfl
  · rw [kI_lt h, if_neg (nI_m9 (by omega)), nI_clamp (by omega)]
  · rw [kI_99, if_pos rfl]
/-- the numbers tell a jail -/
def DR (d : VA48) (a : AJ) : Prop := d 0 = nI (aN a) ∧ ∀ x, x < aN a → d (1 + 4 * x) = nI (aK a x) ∧ d (2 + 4 * x) = kI (aP a x) ∧ d (3 + 4 * x) = kI (aO a x) ∧ d (4 + 4 * x) = nI (aL a x) ∧ d (33 + x) = nI (aF a x)
def QS (n : Nat) (q : Nat → Nat) : Prop := ∀ z, z < n → q z < 2 ^ n ∧ (q z).testBit z = false ∧ ∀ y, y < n → (q z).testBit y = (q y).testBit z
theorem aD_R {d : VA48} {n : Nat} {q : Nat → Nat} (h2 : 2 ≤ n) (h6 : n ≤ 6) (h0 : d 0 = nI n) (hd : ∀ x, x < n → DRow d n x) (hq : QS n q) (hf : ∀ x, x < n → d (33 + x) = nI (q x)) : AV (aD d) ∧ DR d (aD d) ∧ aN (aD d) = n ∧ ∀ x, x < n → aL (aD d) x ≤ 3 ∧ (¬ (aK (aD d) x = 3 ∨ aK (aD d) x = 4) → aL (aD d) x = 0) := by
  have eN : aN (aD d) = n := by show (d 0).toNatClampNeg = n; rw [h0, nI_clamp (by omega)]
  have hN : 2 ^ n ≤ 64 := Nat.le_trans (Nat.pow_le_pow_right (by decide) h6) (by decide)
  have row : ∀ x, x < n → ∃ k p o l, DV n x k p o l ∧ aK (aD d) x = k ∧ aP (aD d) x = p ∧ aO (aD d) x = o ∧ aL (aD d) x = l ∧ aF (aD d) x = q x ∧ d (1 + 4 * x) = nI k ∧ d (2 + 4 * x) = kI p ∧ d (3 + 4 * x) = kI o ∧ d (4 + 4 * x) = nI l := fun x hx => by
    obtain ⟨k, p, o, l, hv, e1, e2, e3, e4⟩ := hd x hx
    obtain ⟨v1, v2, v3, v4, v5, v6, v7⟩ := id hv
    have hp : p < 8 ∨ p = 99 := by
      by_cases c : k = 2
      · exact Or.inr (v2 c)
      · exact Or.inl (by have := (v3 c).1; omega)
    have ho : o < 8 ∨ o = 99 := by
      by_cases c : k = 1 ∨ k = 5
      · exact Or.inl (by have := (v4 c).1; omega)
      · exact Or.inr (v5 c)
    have hqx := (hq x hx).1
    refine ⟨k, p, o, l, hv, ?_, ?_, ?_, ?_, ?_, e1, e2, e3, e4⟩
    · show (d (1 + 4 * x)).toNatClampNeg = k; rw [e1, nI_clamp (by omega)]
    · show (if d (2 + 4 * x) = -9 then 99 else (d (2 + 4 * x)).toNatClampNeg) = p; rw [e2]; exact kI_back hp
    · show (if d (3 + 4 * x) = -9 then 99 else (d (3 + 4 * x)).toNatClampNeg) = o; rw [e3]; exact kI_back ho
    · show (d (4 + 4 * x)).toNatClampNeg = l; rw [e4, nI_clamp (by omega)]
    · show (d (33 + x)).toNatClampNeg = q x; rw [hf x hx, nI_clamp (by omega)]
  refine ⟨⟨Or.inr (by rw [eN]; exact h2), by rw [eN]; omega, fun x hx => ?_⟩, ⟨by rw [eN]; exact h0, fun x hx => ?_⟩, eN, fun x hx => ?_⟩
  · rw [eN] at hx
    obtain ⟨k, p, o, l, ⟨v1, v2, v3, v4, v5, v6, v7⟩, e1, e2, e3, e4, e5, -⟩ := row x hx
    obtain ⟨q1, q2, q3⟩ := hq x hx
    unfold AVd
    rw [e1, e2, e3, e4, e5, eN]
    refine ⟨v1, v2, v3, v4, v5, by omega, q1, fun y hy => ?_, q2⟩
    obtain ⟨-, -, -, -, -, -, -, -, -, f5, -⟩ := row y hy
    rw [f5]; exact q3 y hy
  · rw [eN] at hx
    obtain ⟨k, p, o, l, -, e1, e2, e3, e4, e5, f1, f2, f3, f4⟩ := row x hx
    rw [e1, e2, e3, e4, e5]
    exact ⟨f1, f2, f3, f4, hf x hx⟩
  · obtain ⟨k, p, o, l, ⟨v1, v2, v3, v4, v5, v6, v7⟩, e1, e2, e3, e4, -⟩ := row x hx
    rw [e1, e4]; exact ⟨v6, v7⟩
/-! one door of them -/
theorem dup_at (d : VA48) (x : Nat) (k p o l f : Int32) : ∀ i, upd (upd (upd (upd (upd d (1 + 4 * x) k) (2 + 4 * x) p) (3 + 4 * x) o) (4 + 4 * x) l) (33 + x) f i = if i = 33 + x then f else if i = 4 + 4 * x then l else if i = 3 + 4 * x then o else if i = 2 + 4 * x then p else if i = 1 + 4 * x then k else d i := fun i => by
  rw [upd_at, upd_at, upd_at, upd_at, upd_at]
theorem ix48 {i : Nat} (h : i < 48) : zIn (nI i) 48 = true := zIn_t h (by decide)
theorem ixk (j x : Nat) : nI j + ((4 : Int32) * nI x) = nI (j + 4 * x) := by
  rw [show (4 : Int32) * nI x = nI (4 * x) from pk_mul 4 x, nI_add]
theorem num_280 {SX : VSX} {r : VA48 → Int32 → Int32 → Int32 → Option VA48} {d : VA48} {v1 v4 : Int32} {x c k : Nat} (hx : x < 6) (hc : c < 2 ^ 28) (hk : k ≤ 5) (o : Int32) :
    f_L_numbers_280 SX r d v1 v4 (nI x) (nI c) (nI k) o (nI (3 + 4 * x)) = r (upd (upd (upd d (3 + 4 * x) o) (4 + 4 * x) (nI (if k = 3 ∨ k = 4 then c / 4096 % 4 else 0))) (33 + x) 0) v1 v4 (nI (x + 1)) := by
  unfold f_L_numbers_280
  have e4 : (4 : Int32) + ((4 : Int32) * nI x) = nI (4 + 4 * x) := ixk 4 x
  have e33 : (33 : Int32) + nI x = nI (33 + x) := nI_add 33 x
  have ed : nI c / 4096 = nI (c / 4096) := pk_div (by omega) (by decide) (by decide)
  have er : nI (c / 4096) - nI (c / 4096) / 4 * 4 = nI (c / 4096 % 4) := pk_rem (show c / 4096 < 2 ^ 31 by omega) (show 0 < 4 by decide) (by decide)
  rw [ix48 (show 3 + 4 * x < 48 by omega), e4, e33, ix48 (show 4 + 4 * x < 48 by omega), ix48 (show 33 + x < 48 by omega), nI_clamp (show 3 + 4 * x < 2 ^ 31 by omega), nI_clamp (show 4 + 4 * x < 2 ^ 31 by omega), nI_clamp (show 33 + x < 2 ^ 31 by omega), ed, er, nI_1]
  simp only [if_T]
  have q3 : (nI k = 3) = (k = 3) := propext (nI_eq (show k < 2 ^ 31 by omega) (show 3 < 2 ^ 31 by decide))
  have q4 : (nI k = 4) = (k = 4) := propext (nI_eq (show k < 2 ^ 31 by omega) (show 4 < 2 ^ 31 by decide))
  simp only [q3, q4]
  by_cases c3 : k = 3
  · rw [if_pos c3, if_pos (Or.inl c3)]
  · rw [if_neg c3]
    by_cases c4 : k = 4
    · rw [if_pos c4, if_pos (Or.inr c4)]
    · rw [if_neg c4, if_neg (fun q => q.elim c3 c4)]; rfl
theorem num_221 {SX : VSX} {r : VA48 → Int32 → Int32 → Int32 → Option VA48} {d : VA48} {v1 v4 : Int32} {x c k y z : Nat} (hx : x < 6) (hc : c < 2 ^ 28) (hk : k ≤ 5) :
    f_L_numbers_221 SX r d v1 v4 (nI x) (nI c) (nI k) (nI y) (nI z) = r (upd (upd (upd (upd (upd d (1 + 4 * x) (nI k)) (2 + 4 * x) (if k = 2 then -9 else nI y)) (3 + 4 * x) (if k = 1 ∨ k = 5 then nI z else -9)) (4 + 4 * x) (nI (if k = 3 ∨ k = 4 then c / 4096 % 4 else 0))) (33 + x) 0) v1 v4 (nI (x + 1)) := by
  have q1 : (nI k = 1) = (k = 1) := propext (nI_eq (show k < 2 ^ 31 by omega) (show 1 < 2 ^ 31 by decide))
  have q2 : (nI k = 2) = (k = 2) := propext (nI_eq (show k < 2 ^ 31 by omega) (show 2 < 2 ^ 31 by decide))
  have q5 : (nI k = 5) = (k = 5) := propext (nI_eq (show k < 2 ^ 31 by omega) (show 5 < 2 ^ 31 by decide))
  have e1 : (1 : Int32) + ((4 : Int32) * nI x) = nI (1 + 4 * x) := ixk 1 x
  have e2 : (2 : Int32) + ((4 : Int32) * nI x) = nI (2 + 4 * x) := ixk 2 x
  have e3 : (3 : Int32) + ((4 : Int32) * nI x) = nI (3 + 4 * x) := ixk 3 x
  have h253 : ∀ (d : VA48) (p : Int32), f_L_numbers_253 SX r d v1 v4 (nI x) (nI c) (nI k) (nI z) p (nI (2 + 4 * x)) = r (upd (upd (upd (upd d (2 + 4 * x) p) (3 + 4 * x) (if k = 1 ∨ k = 5 then nI z else -9)) (4 + 4 * x) (nI (if k = 3 ∨ k = 4 then c / 4096 % 4 else 0))) (33 + x) 0) v1 v4 (nI (x + 1)) := fun d p => by
    unfold f_L_numbers_253
    rw [ix48 (show 2 + 4 * x < 48 by omega), if_pos rfl, e3, nI_clamp (show 2 + 4 * x < 2 ^ 31 by omega), num_280 hx hc hk, num_280 hx hc hk]
    simp only [q1, q5]
    by_cases c1 : k = 1
    · rw [if_pos c1, if_pos (show k = 1 ∨ k = 5 from Or.inl c1)]
    · rw [if_neg c1]
      by_cases c5 : k = 5
      · rw [if_pos c5, if_pos (show k = 1 ∨ k = 5 from Or.inr c5)]
      · rw [if_neg c5, if_neg (show ¬ (k = 1 ∨ k = 5) from fun q => q.elim c1 c5)]
  unfold f_L_numbers_221
  rw [e1, ix48 (show 1 + 4 * x < 48 by omega), if_pos rfl, e2, nI_clamp (show 1 + 4 * x < 2 ^ 31 by omega)]
  have sw : ∀ p, f_L_numbers_253 SX r (upd d (1 + 4 * x) (nI k)) v1 v4 (nI x) (nI c) (nI k) (nI z) p (nI (2 + 4 * x)) = _ := fun p => h253 (upd d (1 + 4 * x) (nI k)) p
  rw [sw, sw]
  simp only [q2]
  by_cases c2 : k = 2
  · rw [if_pos c2, if_pos c2]
  · rw [if_neg c2, if_neg c2]
/-- who keeps the first key, the second -/
def yN (n x c : Nat) : Nat := (x + 1 + c / 16 % (n - 1)) % n
def zN0 (n x c : Nat) : Nat := (yN n x c + 1 + c / 256 % (n - 1)) % n
def zN1 (n x c : Nat) : Nat := if zN0 n x c = x then (if (zN0 n x c + 1) % n = yN n x c then (zN0 n x c + 2) % n else (zN0 n x c + 1) % n) else zN0 n x c
theorem yz_ok {n x c : Nat} (h2 : 2 ≤ n) (h6 : n ≤ 6) (hx : x < n) : yN n x c < n ∧ yN n x c ≠ x ∧ (3 ≤ n → zN1 n x c < n ∧ zN1 n x c ≠ x ∧ zN1 n x c ≠ yN n x c) := by
  have hu : c / 16 % (n - 1) < n - 1 := Nat.mod_lt _ (by omega)
  have hw : c / 256 % (n - 1) < n - 1 := Nat.mod_lt _ (by omega)
  unfold zN1 zN0 yN
  generalize c / 16 % (n - 1) = u at hu ⊢
  generalize c / 256 % (n - 1) = w at hw ⊢
  exact (by decide +kernel : ∀ n : Fin 7, ∀ x u w : Fin 6, 2 ≤ n.val → x.val < n.val → u.val < n.val - 1 → w.val < n.val - 1 → ((x.val + 1 + u.val) % n.val < n.val ∧ (x.val + 1 + u.val) % n.val ≠ x.val ∧ (3 ≤ n.val → (if ((x.val + 1 + u.val) % n.val + 1 + w.val) % n.val = x.val then (if (((x.val + 1 + u.val) % n.val + 1 + w.val) % n.val + 1) % n.val = (x.val + 1 + u.val) % n.val then (((x.val + 1 + u.val) % n.val + 1 + w.val) % n.val + 2) % n.val else (((x.val + 1 + u.val) % n.val + 1 + w.val) % n.val + 1) % n.val) else ((x.val + 1 + u.val) % n.val + 1 + w.val) % n.val) < n.val ∧ (if ((x.val + 1 + u.val) % n.val + 1 + w.val) % n.val = x.val then (if (((x.val + 1 + u.val) % n.val + 1 + w.val) % n.val + 1) % n.val = (x.val + 1 + u.val) % n.val then (((x.val + 1 + u.val) % n.val + 1 + w.val) % n.val + 2) % n.val else (((x.val + 1 + u.val) % n.val + 1 + w.val) % n.val + 1) % n.val) else ((x.val + 1 + u.val) % n.val + 1 + w.val) % n.val) ≠ x.val ∧ (if ((x.val + 1 + u.val) % n.val + 1 + w.val) % n.val = x.val then (if (((x.val + 1 + u.val) % n.val + 1 + w.val) % n.val + 1) % n.val = (x.val + 1 + u.val) % n.val then (((x.val + 1 + u.val) % n.val + 1 + w.val) % n.val + 2) % n.val else (((x.val + 1 + u.val) % n.val + 1 + w.val) % n.val + 1) % n.val) else ((x.val + 1 + u.val) % n.val + 1 + w.val) % n.val) ≠ (x.val + 1 + u.val) % n.val))) ⟨n, by omega⟩ ⟨x, by omega⟩ ⟨u, by omega⟩ ⟨w, by omega⟩ h2 hx hu hw
theorem num_137 {SX : VSX} {r : VA48 → Int32 → Int32 → Int32 → Option VA48} {d : VA48} {v1 : Int32} {n x c k : Nat} (h2 : 2 ≤ n) (h6 : n ≤ 6) (hx : x < n) (hc : c < 2 ^ 28) (hk : k ≤ 5) :
    f_L_numbers_137 SX r d v1 (nI n) (nI x) (nI c) (nI k) = f_L_numbers_221 SX r d v1 (nI n) (nI x) (nI c) (nI k) (nI (yN n x c)) (nI (zN1 n x c)) := by
  have hm : nI n - 1 = nI (n - 1) := pk_sub (a := n) (b := 1) (by omega)
  have d16 : nI c / 16 = nI (c / 16) := pk_div (by omega) (by decide) (by decide)
  have d256 : nI c / 256 = nI (c / 256) := pk_div (by omega) (by decide) (by decide)
  have r16 : nI (c / 16) - nI (c / 16) / nI (n - 1) * nI (n - 1) = nI (c / 16 % (n - 1)) := pk_rem (by omega) (by omega) (by omega)
  have r256 : nI (c / 256) - nI (c / 256) / nI (n - 1) * nI (n - 1) = nI (c / 256 % (n - 1)) := pk_rem (by omega) (by omega) (by omega)
  have hu : c / 16 % (n - 1) < n - 1 := Nat.mod_lt _ (by omega)
  have hw : c / 256 % (n - 1) < n - 1 := Nat.mod_lt _ (by omega)
  have hy := (yz_ok (c := c) h2 h6 hx).1
  have hz : zN0 n x c < n := Nat.mod_lt _ (by omega)
  have ey : nI x + 1 + nI (c / 16 % (n - 1)) - (nI x + 1 + nI (c / 16 % (n - 1))) / nI n * nI n = nI (yN n x c) := by
    rw [nI_1, nI_add]; exact pk_rem (by omega) (by omega) (by omega)
  have ez : nI (yN n x c) + 1 + nI (c / 256 % (n - 1)) - (nI (yN n x c) + 1 + nI (c / 256 % (n - 1))) / nI n * nI n = nI (zN0 n x c) := by
    rw [nI_1, nI_add]; exact pk_rem (by omega) (by omega) (by omega)
  have e1 : nI (zN0 n x c) + 1 - (nI (zN0 n x c) + 1) / nI n * nI n = nI ((zN0 n x c + 1) % n) := by
    rw [nI_1]; exact pk_rem (by omega) (by omega) (by omega)
  have e2 : nI (zN0 n x c) + 2 - (nI (zN0 n x c) + 2) / nI n * nI n = nI ((zN0 n x c + 2) % n) := by
    rw [show nI (zN0 n x c) + 2 = nI (zN0 n x c + 2) from nI_add _ 2]; exact pk_rem (by omega) (by omega) (by omega)
  have hz1 : (zN0 n x c + 1) % n < n := Nat.mod_lt _ (by omega)
  unfold f_L_numbers_137
  rw [hm, if_neg (nI_ne0 (show 0 < n - 1 by omega) (by omega)), if_neg (nI_ne0 (show 0 < n by omega) (by omega)), if_neg (nI_ne0 (show 0 < n - 1 by omega) (by omega)), if_neg (nI_ne0 (show 0 < n by omega) (by omega)), d16, d256, r16, r256, ey, ez, e1, e2]
  unfold zN1
  by_cases c1 : zN0 n x c = x
  · rw [if_pos (congrArg nI c1), if_neg (nI_ne0 (show 0 < n by omega) (by omega)), if_pos c1]
    by_cases c2 : (zN0 n x c + 1) % n = yN n x c
    · rw [if_pos (congrArg nI c2), if_neg (nI_ne0 (show 0 < n by omega) (by omega)), if_pos c2]
    · rw [if_neg (fun e => c2 ((nI_eq (by omega) (by omega)).1 e)), if_neg (nI_ne0 (show 0 < n by omega) (by omega)), if_neg c2]
  · rw [if_neg (fun e => c1 ((nI_eq (by omega) (by omega)).1 e)), if_neg c1]
theorem num_111 {SX : VSX} {r : VA48 → Int32 → Int32 → Int32 → Option VA48} {d : VA48} {v1 : Int32} {n x c k0 : Nat} (h2 : 2 ≤ n) (h6 : n ≤ 6) (hx : x < n) (hc : c < 2 ^ 28) (hk0 : k0 ≤ 5) :
    ∃ k p o l, DV n x k p o l ∧ f_L_numbers_111 SX r d v1 (nI n) (nI x) (nI c) (nI k0) = r (upd (upd (upd (upd (upd d (1 + 4 * x) (nI k)) (2 + 4 * x) (kI p)) (3 + 4 * x) (kI o)) (4 + 4 * x) (nI l)) (33 + x) 0) v1 (nI n) (nI (x + 1)) := by
  obtain ⟨y1, y2, y3⟩ := yz_ok (c := c) h2 h6 hx
  have key : ∀ kk, kk ≤ 5 → (n = 2 → ¬ (kk = 1 ∨ kk = 5)) → ∃ k p o l, DV n x k p o l ∧ f_L_numbers_137 SX r d v1 (nI n) (nI x) (nI c) (nI kk) = r (upd (upd (upd (upd (upd d (1 + 4 * x) (nI k)) (2 + 4 * x) (kI p)) (3 + 4 * x) (kI o)) (4 + 4 * x) (nI l)) (33 + x) 0) v1 (nI n) (nI (x + 1)) := fun k hk hk2 => by
    have hl : (if k = 3 ∨ k = 4 then c / 4096 % 4 else 0) ≤ 3 ∧ (¬ (k = 3 ∨ k = 4) → (if k = 3 ∨ k = 4 then c / 4096 % 4 else 0) = 0) := ⟨by split <;> omega, fun q => if_neg q⟩
    have e := (num_137 (SX := SX) (r := r) (d := d) (v1 := v1) h2 h6 hx hc hk).trans (num_221 (by omega) hc hk)
    by_cases c2 : k = 2
    · refine ⟨k, 99, 99, _, ⟨hk, fun _ => rfl, fun q => absurd c2 q, fun q => by omega, fun _ => rfl, hl⟩, ?_⟩
      rw [e, if_pos c2, if_neg (fun q => by omega), kI_99]
    · by_cases c1 : k = 1 ∨ k = 5
      · have hn3 : 3 ≤ n := by
          rcases Nat.lt_or_ge n 3 with q | q
          · exact absurd c1 (hk2 (by omega))
          · exact q
        obtain ⟨z1, z2, z3⟩ := y3 hn3
        refine ⟨k, yN n x c, zN1 n x c, _, ⟨hk, fun q => absurd q c2, fun _ => ⟨y1, y2, z3⟩, fun _ => ⟨z1, z2⟩, fun q => absurd c1 q, hl⟩, ?_⟩
        rw [e, if_neg c2, if_pos c1, kI_lt (show yN n x c < 8 by omega), kI_lt (show zN1 n x c < 8 by omega)]
      · refine ⟨k, yN n x c, 99, _, ⟨hk, fun q => absurd q c2, fun _ => ⟨y1, y2, by omega⟩, fun q => absurd q c1, fun _ => rfl, hl⟩, ?_⟩
        rw [e, if_neg c2, if_neg c1, kI_lt (show yN n x c < 8 by omega), kI_99]
  unfold f_L_numbers_111
  have q2 : (nI n = 2) = (n = 2) := propext (nI_eq (show n < 2 ^ 31 by omega) (show 2 < 2 ^ 31 by decide))
  have q1 : (nI k0 = 1) = (k0 = 1) := propext (nI_eq (show k0 < 2 ^ 31 by omega) (show 1 < 2 ^ 31 by decide))
  have q5 : (nI k0 = 5) = (k0 = 5) := propext (nI_eq (show k0 < 2 ^ 31 by omega) (show 5 < 2 ^ 31 by decide))
  simp only [q2, q1, q5]
  by_cases c : n = 2
  · rw [if_pos c]
    by_cases c1 : k0 = 1
    · rw [if_pos c1]; exact key 0 (by omega) (fun _ q => by omega)
    · rw [if_neg c1]
      by_cases c5 : k0 = 5
      · rw [if_pos c5]; exact key 0 (by omega) (fun _ q => by omega)
      · rw [if_neg c5]; exact key k0 hk0 (fun _ q => q.elim c1 c5)
  · rw [if_neg c]; exact key k0 hk0 (fun q => absurd q c)
/-! all of them -/
theorem num_quarrels {SX : VSX} (hL : SX.1 ≤ 260) {n : Nat} (h2 : 2 ≤ n) (h6 : n ≤ 6) {d : VA48} (h0 : d 0 = nI n) (hd : ∀ x, x < n → DRow d n x) (hf : ∀ x, x < n → d (33 + x) = 0) :
    ∃ d', f_L_numbers_330 SX 4096 d 10 (nI n) 0 = some d' ∧ d' 0 = nI n ∧ (∀ x, x < n → DRow d' n x) ∧ ∃ q, QS n q ∧ ∀ x, x < n → d' (33 + x) = nI (q x) := by
  have hN : 2 ^ n ≤ 64 := Nat.le_trans (Nat.pow_le_pow_right (by decide) h6) (by decide)
  have I0 : ∀ (d d' : VA48), (∀ i, i < 33 → d' i = d i) → d 0 = nI n → (∀ x, x < n → DRow d n x) → d' 0 = nI n ∧ ∀ x, x < n → DRow d' n x := fun d d' h q0 qd => by
    refine ⟨(h 0 (by decide)).trans q0, fun x hx => ?_⟩
    obtain ⟨k, p, o, l, hv, e1, e2, e3, e4⟩ := qd x hx
    exact ⟨k, p, o, l, hv, (h _ (by omega)).trans e1, (h _ (by omega)).trans e2, (h _ (by omega)).trans e3, (h _ (by omega)).trans e4⟩
  refine loop_up (fun f (d : VA48) v5 => f_L_numbers_330 SX f d 10 (nI n) v5) n (fun _ d => d 0 = nI n ∧ (∀ x, x < n → DRow d n x) ∧ ∃ q, QS n q ∧ ∀ x, x < n → d (33 + x) = nI (q x)) (fun p => ∃ d', p = some d' ∧ d' 0 = nI n ∧ (∀ x, x < n → DRow d' n x) ∧ ∃ q, QS n q ∧ ∀ x, x < n → d' (33 + x) = nI (q x)) ?_ ?_ 4096 0 d (Nat.zero_le _) ⟨h0, hd, fun _ => 0, fun z hz => ⟨Nat.two_pow_pos n, Nat.zero_testBit z, fun y hy => by rw [Nat.zero_testBit, Nat.zero_testBit]⟩, hf⟩ (by omega)
  · rintro m d h
    refine ⟨d, ?_, h⟩
    show f_L_numbers_330 SX (m + 1) d 10 (nI n) (nI n) = _
    rw [f_L_numbers_330, if_pos (nI_le (Nat.le_refl _) (by omega))]
  · rintro m d x hx ⟨g0, gd, q, hq, gf⟩
    right
    have main : ∃ d', f_L_numbers_343 SX (f_L_numbers_330 SX m) 4096 d 10 (nI n) (nI x) (nI (x + 1)) = f_L_numbers_330 SX m d' 10 (nI n) (nI (x + 1)) ∧ d' 0 = nI n ∧ (∀ x, x < n → DRow d' n x) ∧ ∃ q, QS n q ∧ ∀ x, x < n → d' (33 + x) = nI (q x) := by
      refine loop_up (fun f (d : VA48) v6 => f_L_numbers_343 SX (f_L_numbers_330 SX m) f d 10 (nI n) (nI x) v6) n (fun y d => x < y ∧ d 0 = nI n ∧ (∀ x, x < n → DRow d n x) ∧ ∃ q, QS n q ∧ ∀ x, x < n → d (33 + x) = nI (q x)) (fun p => ∃ d', p = f_L_numbers_330 SX m d' 10 (nI n) (nI (x + 1)) ∧ d' 0 = nI n ∧ (∀ x, x < n → DRow d' n x) ∧ ∃ q, QS n q ∧ ∀ x, x < n → d' (33 + x) = nI (q x)) ?_ ?_ 4096 (x + 1) d (by omega) ⟨Nat.lt_succ_self _, g0, gd, q, hq, gf⟩ (by omega)
      · rintro f d ⟨-, h⟩
        refine ⟨d, ?_, h⟩
        show f_L_numbers_343 SX (f_L_numbers_330 SX m) (f + 1) d 10 (nI n) (nI x) (nI n) = _
        rw [f_L_numbers_343, if_pos (nI_le (Nat.le_refl _) (by omega)), nI_1]
      · rintro f d y hy ⟨hxy, g0, gd, q, hq, gf⟩
        right
        obtain ⟨c, c1, c2⟩ := cell_ok hL (k := 20 + 6 * x + y) (by omega)
        show ∃ d' : VA48, (x < y + 1 ∧ d' 0 = nI n ∧ (∀ x, x < n → DRow d' n x) ∧ ∃ q, QS n q ∧ ∀ x, x < n → d' (33 + x) = nI (q x)) ∧ f_L_numbers_343 SX (f_L_numbers_330 SX m) (f + 1) d 10 (nI n) (nI x) (nI y) = f_L_numbers_343 SX (f_L_numbers_330 SX m) f d' 10 (nI n) (nI x) (nI (y + 1))
        have ec : (10 : Int32) + 10 + (6 : Int32) * nI x + nI y = nI (20 + 6 * x + y) := by
          rw [show (6 : Int32) * nI x = nI (6 * x) from pk_mul 6 x, show (10 : Int32) + 10 = nI 20 by decide, nI_add, nI_add]
        have e33 : (33 : Int32) + nI x = nI (33 + x) := nI_add 33 x
        have e34 : (33 : Int32) + nI y = nI (33 + y) := nI_add 33 y
        rw [f_L_numbers_343, if_neg (nI_ge hy (by omega)), ec, c2, Option.bind_some, show nI c - nI c / 5 * 5 = nI (c % 5) from pk_rem (d := 5) (by omega) (by decide) (by decide), nI_1]
        by_cases c5 : nI (c % 5) = 0
        · rw [if_pos c5, e33, e34, ix48 (show 33 + x < 48 by omega), ix48 (show 33 + y < 48 by omega)]
          simp only [if_T]
          rw [nI_clamp (show 33 + x < 2 ^ 31 by omega), nI_clamp (show 33 + y < 2 ^ 31 by omega), gf x hx, upd_at, if_neg (show ¬ 33 + y = 33 + x by omega), gf y hy, n_one (by omega), n_one (by omega), n_or, n_or]
          refine ⟨_, ⟨by omega, (I0 d _ (fun i hi => ?_) g0 gd).1, (I0 d _ (fun i hi => ?_) g0 gd).2, fun z => if z = x then q x ||| 2 ^ y else if z = y then q y ||| 2 ^ x else q z, fun z hz => ?_, fun z hz => ?_⟩, rfl⟩
          · rw [upd_at, if_neg (by omega), upd_at, if_neg (by omega)]
          · rw [upd_at, if_neg (by omega), upd_at, if_neg (by omega)]
          · have bit : ∀ z u, (if z = x then q x ||| 2 ^ y else if z = y then q y ||| 2 ^ x else q z).testBit u = (decide ((z = x ∧ u = y) ∨ (z = y ∧ u = x)) || (q z).testBit u) := fun z u => by
              by_cases a1 : z = x
              · subst a1
                rw [if_pos rfl, Nat.testBit_or, Nat.testBit_two_pow, Bool.or_comm]
                refine congrArg (fun b => b || (q z).testBit u) (decide_eq_decide.mpr ⟨fun e => Or.inl ⟨rfl, e.symm⟩, fun e => ?_⟩)
                rcases e with e | e
                · exact e.2.symm
                · omega
              · rw [if_neg a1]
                by_cases a2 : z = y
                · subst a2
                  rw [if_pos rfl, Nat.testBit_or, Nat.testBit_two_pow, Bool.or_comm]
                  refine congrArg (fun b => b || (q z).testBit u) (decide_eq_decide.mpr ⟨fun e => Or.inr ⟨rfl, e.symm⟩, fun e => ?_⟩)
                  rcases e with e | e
                  · exact absurd e.1 a1
                  · exact e.2.symm
                · rw [if_neg a2, decide_eq_false (fun e => by rcases e with e | e; exact a1 e.1; exact a2 e.1)]; rfl
            obtain ⟨k1, k2, k3⟩ := hq z hz
            refine ⟨?_, ?_, fun u hu => ?_⟩
            · show (if z = x then q x ||| 2 ^ y else if z = y then q y ||| 2 ^ x else q z) < 2 ^ n
              split
              · exact or_lt (hq x hx).1 hy
              · split
                · exact or_lt (hq y hy).1 hx
                · exact k1
            · rw [bit, k2, Bool.or_false]
              exact decide_eq_false (fun e => by rcases e with e | e <;> omega)
            · rw [bit, bit, k3 u hu]
              refine congrArg (fun b => b || (q u).testBit z) (decide_eq_decide.mpr ⟨fun e => ?_, fun e => ?_⟩)
              · rcases e with e | e
                · exact Or.inr ⟨e.2, e.1⟩
                · exact Or.inl ⟨e.2, e.1⟩
              · rcases e with e | e
                · exact Or.inr ⟨e.2, e.1⟩
                · exact Or.inl ⟨e.2, e.1⟩
          · show upd (upd d (33 + x) (nI (q x ||| 2 ^ y))) (33 + y) (nI (q y ||| 2 ^ x)) (33 + z) = nI (if z = x then q x ||| 2 ^ y else if z = y then q y ||| 2 ^ x else q z)
            rw [upd_at, upd_at]
            by_cases a1 : z = x
            · rw [if_neg (by omega), if_pos (by omega), if_pos a1]
            · by_cases a2 : z = y
              · rw [if_pos (by omega), if_neg a1, if_pos a2]
              · rw [if_neg (by omega), if_neg (by omega), if_neg a1, if_neg a2, gf z hz]
        · rw [if_neg c5]
          exact ⟨d, ⟨by omega, g0, gd, q, hq, gf⟩, rfl⟩
    obtain ⟨d', e, h⟩ := main
    refine ⟨d', h, ?_⟩
    show f_L_numbers_330 SX (m + 1) d 10 (nI n) (nI x) = _
    rw [f_L_numbers_330, if_neg (nI_ge hx (by omega)), nI_1]
    exact e
theorem numbers_ok {SX : VSX} (hL : SX.1 ≤ 260) : ∃ d, f_L_numbers SX (fun _ => 0) 10 6 = some d ∧ AV (aD d) ∧ DR d (aD d) ∧ 2 ≤ aN (aD d) ∧ aN (aD d) ≤ 6 ∧ ∀ x, x < aN (aD d) → aL (aD d) x ≤ 3 ∧ (¬ (aK (aD d) x = 3 ∨ aK (aD d) x = 4) → aL (aD d) x = 0) := by
  obtain ⟨c0, b0, e0⟩ := cell_ok hL (k := 10) (by decide)
  have hn2 : 2 ≤ 2 + c0 % 5 := by omega
  have hn6 : 2 + c0 % 5 ≤ 6 := by omega
  unfold f_L_numbers
  rw [show f_L_cell SX 10 = some (nI c0) from e0, Option.bind_some, if_neg (show ¬ (6 : Int32) - 1 = 0 by decide), if_pos (show zIn 0 48 = true by decide), show (6 : Int32) - 1 = nI 5 by decide, show nI c0 - nI c0 / nI 5 * nI 5 = nI (c0 % 5) from pk_rem (by omega) (by decide) (by decide), show (2 : Int32) + nI (c0 % 5) = nI (2 + c0 % 5) from nI_add 2 _, show (0 : Int32).toNatClampNeg = 0 from rfl]
  generalize 2 + c0 % 5 = n at hn2 hn6
  refine loop_up (fun f (d : VA48) v5 => f_L_numbers_21 SX f d 10 (nI n) v5) n (fun x d => d 0 = nI n ∧ (∀ z, z < x → DRow d n z) ∧ ∀ z, z < x → d (33 + z) = 0) (fun p => ∃ d, p = some d ∧ AV (aD d) ∧ DR d (aD d) ∧ 2 ≤ aN (aD d) ∧ aN (aD d) ≤ 6 ∧ ∀ x, x < aN (aD d) → aL (aD d) x ≤ 3 ∧ (¬ (aK (aD d) x = 3 ∨ aK (aD d) x = 4) → aL (aD d) x = 0)) ?_ ?_ 4096 0 (upd (fun _ => 0) 0 (nI n)) (Nat.zero_le _) ⟨by rw [upd_at, if_pos rfl], fun z h => by omega, fun z h => by omega⟩ (by omega)
  · rintro m d ⟨g0, gd, gf⟩
    obtain ⟨d', k1, k2, k3, q, k4, k5⟩ := num_quarrels hL hn2 hn6 g0 gd gf
    obtain ⟨r1, r2, r3, r4⟩ := aD_R hn2 hn6 k2 k3 k4 k5
    refine ⟨d', ?_, r1, r2, by rw [r3]; exact hn2, by rw [r3]; exact hn6, by rw [r3]; exact r4⟩
    show f_L_numbers_21 SX (m + 1) d 10 (nI n) (nI n) = _
    rw [f_L_numbers_21, if_pos (nI_le (Nat.le_refl _) (by omega)), k1]
  · rintro m d x hx ⟨g0, gd, gf⟩
    right
    obtain ⟨c, b1, e1⟩ := cell_ok hL (k := 11 + x) (by omega)
    show ∃ d' : VA48, (d' 0 = nI n ∧ (∀ z, z < x + 1 → DRow d' n z) ∧ ∀ z, z < x + 1 → d' (33 + z) = 0) ∧ f_L_numbers_21 SX (m + 1) d 10 (nI n) (nI x) = f_L_numbers_21 SX m d' 10 (nI n) (nI (x + 1))
    have key : ∀ k0, k0 ≤ 5 → ∃ d' : VA48, (d' 0 = nI n ∧ (∀ z, z < x + 1 → DRow d' n z) ∧ ∀ z, z < x + 1 → d' (33 + z) = 0) ∧ f_L_numbers_111 SX (f_L_numbers_21 SX m) d 10 (nI n) (nI x) (nI c) (nI k0) = f_L_numbers_21 SX m d' 10 (nI n) (nI (x + 1)) := fun k0 hk0 => by
      obtain ⟨k, p, o, l, hv, e⟩ := num_111 (SX := SX) (r := f_L_numbers_21 SX m) (d := d) (v1 := 10) hn2 hn6 hx b1 hk0
      refine ⟨_, ⟨?_, fun z hz => ?_, fun z hz => ?_⟩, e⟩
      · rw [dup_at, if_neg (by omega), if_neg (by omega), if_neg (by omega), if_neg (by omega), if_neg (by omega), g0]
      · by_cases q : z = x
        · subst q
          refine ⟨k, p, o, l, hv, ?_, ?_, ?_, ?_⟩
          · rw [dup_at, if_neg (by omega), if_neg (by omega), if_neg (by omega), if_neg (by omega), if_pos rfl]
          · rw [dup_at, if_neg (by omega), if_neg (by omega), if_neg (by omega), if_pos rfl]
          · rw [dup_at, if_neg (by omega), if_neg (by omega), if_pos rfl]
          · rw [dup_at, if_neg (by omega), if_pos rfl]
        · obtain ⟨k', p', o', l', hv', f1, f2, f3, f4⟩ := gd z (by omega)
          refine ⟨k', p', o', l', hv', ?_, ?_, ?_, ?_⟩
          · rw [dup_at, if_neg (by omega), if_neg (by omega), if_neg (by omega), if_neg (by omega), if_neg (by omega), f1]
          · rw [dup_at, if_neg (by omega), if_neg (by omega), if_neg (by omega), if_neg (by omega), if_neg (by omega), f2]
          · rw [dup_at, if_neg (by omega), if_neg (by omega), if_neg (by omega), if_neg (by omega), if_neg (by omega), f3]
          · rw [dup_at, if_neg (by omega), if_neg (by omega), if_neg (by omega), if_neg (by omega), if_neg (by omega), f4]
      · rw [dup_at]
        by_cases q : z = x
        · rw [if_pos (by omega)]
        · rw [if_neg (by omega), if_neg (by omega), if_neg (by omega), if_neg (by omega), if_neg (by omega), gf z (by omega)]
    rw [f_L_numbers_21, if_neg (nI_ge hx (by omega)), show (10 : Int32) + 1 + nI x = nI (11 + x) from nI_add 11 x, e1, Option.bind_some, show nI c - nI c / 16 * 16 = nI (c % 16) from pk_rem (d := 16) (by omega) (by decide) (by decide)]
    split
    · split
      · split
        · split
          · split
            · exact key 5 (by omega)
            · exact key 4 (by omega)
          · exact key 3 (by omega)
        · exact key 2 (by omega)
      · exact key 1 (by omega)
    · exact key 0 (by omega)
