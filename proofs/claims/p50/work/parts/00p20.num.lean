/-! numbers and sets of cells: an Int32 by its natural number, a set by its bits -/
theorem n_and (a b : Nat) : nI a &&& nI b = nI (a &&& b) := by
  apply Int32.toBitVec_inj.1
  show BitVec.ofNat 32 a &&& BitVec.ofNat 32 b = BitVec.ofNat 32 (a &&& b)
  apply BitVec.eq_of_getLsbD_eq
  intro i hi
  simp [hi]
theorem n_or (a b : Nat) : nI a ||| nI b = nI (a ||| b) := by
  apply Int32.toBitVec_inj.1
  show BitVec.ofNat 32 a ||| BitVec.ofNat 32 b = BitVec.ofNat 32 (a ||| b)
  apply BitVec.eq_of_getLsbD_eq
  intro i hi
  simp [hi]
theorem n_xor (a b : Nat) : nI a ^^^ nI b = nI (a ^^^ b) := by
  apply Int32.toBitVec_inj.1
  show BitVec.ofNat 32 a ^^^ BitVec.ofNat 32 b = BitVec.ofNat 32 (a ^^^ b)
  apply BitVec.eq_of_getLsbD_eq
  intro i hi
  simp [hi]
/-- s without t -/
def sd (s t : Nat) : Nat := s ^^^ (s &&& t)
theorem sd_bit (s t i : Nat) : (sd s t).testBit i = (s.testBit i && !t.testBit i) := by
  unfold sd
  rw [Nat.testBit_xor, Nat.testBit_and]
  cases s.testBit i <;> cases t.testBit i <;> rfl
theorem n_sd (s t : Nat) : nI s &&& (nI t ^^^ (-1)) = nI (sd s t) := by
  unfold sd
  rw [← n_xor, ← n_and]
  apply Int32.toBitVec_inj.1
  rw [Int32.toBitVec_and, Int32.toBitVec_xor, Int32.toBitVec_xor, Int32.toBitVec_and]
  apply BitVec.eq_of_getLsbD_eq
  intro i hi
  have h1 : (-1 : Int32).toBitVec = BitVec.allOnes 32 := by decide
  rw [h1]
  simp only [BitVec.getLsbD_and, BitVec.getLsbD_xor, BitVec.getLsbD_allOnes, hi, decide_true]
  cases (nI s).toBitVec.getLsbD i <;> cases (nI t).toBitVec.getLsbD i <;> rfl
theorem n_one {k : Nat} (hk : k < 31) : (1 : Int32) <<< (nI k &&& 31) = nI (2 ^ k) := (by decide +kernel : ∀ k : Fin 31, (1 : Int32) <<< (nI k.val &&& 31) = nI (2 ^ k.val)) ⟨k, hk⟩
theorem n_sm {k : Nat} (hk : k < 31) : ((nI k &&& 31).toBitVec.smod 32).toNat = k := (by decide +kernel : ∀ k : Fin 31, ((nI k.val &&& 31).toBitVec.smod 32).toNat = k.val) ⟨k, hk⟩
theorem n_tst {s k : Nat} (hs : s < 2 ^ 31) (hk : k < 31) : (nI s >>> (nI k &&& 31)) &&& 1 = if s.testBit k then 1 else 0 := by
  rw [pk_shrN hs _ k (n_sm hk), show (1 : Int32) = nI 1 from rfl, n_and, Nat.and_one_is_mod]
  have h : s.testBit k = decide (s / 2 ^ k % 2 = 1) := Nat.testBit_eq_decide_div_mod_eq
  rw [h]
  rcases Nat.mod_two_eq_zero_or_one (s / 2 ^ k) with q | q <;> rw [q] <;> rfl
theorem zIn_nI {k n : Nat} (hk : k < 2 ^ 31) : zIn (nI k) n = decide (k < n) := by
  unfold zIn
  rw [nI_toInt hk]
  have : decide (0 ≤ (k : Int)) = true := decide_eq_true (Int.natCast_nonneg k)
  rw [this, Bool.true_and]
  exact decide_eq_decide.mpr Int.ofNat_lt
theorem zIn_t {k n : Nat} (h : k < n) (hn : n < 2 ^ 31) : zIn (nI k) n = true := by rw [zIn_nI (by omega)]; exact decide_eq_true h
/-- how many of the first n -/
def ct (p : Nat → Bool) : Nat → Nat
  | 0 => 0
  | n + 1 => ct p n + (p n).toNat
/-- the set of those of the first n -/
def bset (p : Nat → Bool) : Nat → Nat
  | 0 => 0
  | n + 1 => bset p n ||| (if p n then 2 ^ n else 0)
theorem bset_bit (p : Nat → Bool) (i : Nat) : ∀ n, (bset p n).testBit i = (decide (i < n) && p i)
  | 0 => by simp [bset]
  | n + 1 => by
    rw [bset, Nat.testBit_or, bset_bit p i n]
    by_cases h : p n = true
    · rw [if_pos h, Nat.testBit_two_pow]
      by_cases e : n = i
      · subst e; simp [h]
      · have : (i < n + 1) = (i < n) := by simp; omega
        simp [e, this]
    · rw [if_neg h]
      by_cases e : n = i
      · subst e; simp [h]
      · have : (i < n + 1) = (i < n) := by simp; omega
        simp [this]
theorem bset_lt (p : Nat → Bool) : ∀ n, bset p n < 2 ^ n
  | 0 => by simp [bset]
  | n + 1 => by
    rw [bset]
    refine Nat.or_lt_two_pow (Nat.lt_of_lt_of_le (bset_lt p n) (Nat.pow_le_pow_right (by decide) (Nat.le_succ n))) ?_
    split
    · exact Nat.pow_lt_pow_right (by decide) (Nat.lt_succ_self n)
    · exact Nat.two_pow_pos _
/-- how many bits, of the first eight -/
def pc (s : Nat) : Nat := ct s.testBit 8
theorem n_cnt {s : Nat} (h : s < 256) : f_J6_bitCount_0f7a4 (nI s) = some (nI (pc s)) := (by decide +kernel : ∀ s : Fin 256, f_J6_bitCount_0f7a4 (nI s.val) = some (nI (pc s.val))) ⟨s, h⟩
theorem ct_le (p : Nat → Bool) : ∀ n, ct p n ≤ n
  | 0 => Nat.le_refl 0
  | n + 1 => by
    rw [ct]
    have := ct_le p n
    have h2 : (p n).toNat ≤ 1 := Bool.toNat_le (p n)
    omega
theorem pc_le (s : Nat) : pc s ≤ 8 := ct_le _ 8
theorem s_ext {s t n : Nat} (hs : s < 2 ^ n) (ht : t < 2 ^ n) (h : ∀ i, i < n → s.testBit i = t.testBit i) : s = t := by
  apply Nat.eq_of_testBit_eq
  intro i
  by_cases hi : i < n
  · exact h i hi
  · rw [Nat.testBit_lt_two_pow (Nat.lt_of_lt_of_le hs (Nat.pow_le_pow_right (by decide) (by omega))), Nat.testBit_lt_two_pow (Nat.lt_of_lt_of_le ht (Nat.pow_le_pow_right (by decide) (by omega)))]
theorem s_ne {s : Nat} : s ≠ 0 ↔ ∃ i, s.testBit i = true := ⟨Nat.exists_testBit_of_ne_zero, fun ⟨i, h⟩ e => by rw [e, Nat.zero_testBit] at h; cases h⟩
theorem nI0_eq {s : Nat} (h : s < 2 ^ 31) : nI s = 0 ↔ s = 0 := by rw [show (0 : Int32) = nI 0 from rfl, nI_eq h (by decide)]

/-- a yes or a no -/
def bI (b : Bool) : Int32 := if b then 1 else 0
theorem bI0 {b : Bool} : bI b = 0 ↔ b = false := by cases b <;> decide
theorem bI1 {b : Bool} : bI b = 1 ↔ b = true := by cases b <;> decide
theorem n_tstb {s k : Nat} (hs : s < 2 ^ 31) (hk : k < 31) : (nI s >>> (nI k &&& 31)) &&& 1 = bI (s.testBit k) := n_tst hs hk
theorem s_out {s n i : Nat} (hs : s < 2 ^ n) (hi : n ≤ i) : s.testBit i = false := Nat.testBit_lt_two_pow (Nat.lt_of_lt_of_le hs (Nat.pow_le_pow_right (by decide) hi))
theorem s_zero {s n : Nat} (hs : s < 2 ^ n) : s = 0 ↔ ∀ i, i < n → s.testBit i = false := by
  constructor
  · rintro rfl i _; exact Nat.zero_testBit i
  · intro h; exact s_ext hs (Nat.two_pow_pos n) (fun i hi => by rw [h i hi, Nat.zero_testBit])
theorem and_lt {s t n : Nat} (hs : s < 2 ^ n) : s &&& t < 2 ^ n := Nat.lt_of_le_of_lt Nat.and_le_left hs
theorem sd_lt {s t n : Nat} (hs : s < 2 ^ n) : sd s t < 2 ^ n := Nat.xor_lt_two_pow hs (and_lt hs)
theorem pow_lt8 {x : Nat} (h : x < 8) : 2 ^ x < 256 := Nat.pow_lt_pow_right (by decide) h
theorem n_path {lo hi : Nat} (h : lo ≤ hi) (hh : hi < 8) : ((1 : Int32) <<< ((nI hi + 1) &&& 31)) - ((1 : Int32) <<< (nI lo &&& 31)) = nI (2 ^ (hi + 1) - 2 ^ lo) := by
  rw [nI_1, n_one (by omega), n_one (by omega), pk_sub (Nat.pow_le_pow_right (by decide) (by omega))]
theorem path_bit {lo hi z : Nat} (h : lo ≤ hi) (hh : hi < 8) (hz : z < 9) : (2 ^ (hi + 1) - 2 ^ lo).testBit z = (decide (lo ≤ z) && decide (z ≤ hi)) :=
  (by decide +kernel : ∀ lo hi : Fin 8, ∀ z : Fin 9, lo.val ≤ hi.val → (2 ^ (hi.val + 1) - 2 ^ lo.val).testBit z.val = (decide (lo.val ≤ z.val) && decide (z.val ≤ hi.val))) ⟨lo, by omega⟩ ⟨hi, hh⟩ ⟨z, hz⟩ h
theorem path_lt {lo hi : Nat} (hh : hi < 8) : 2 ^ (hi + 1) - 2 ^ lo < 2 ^ 9 := Nat.lt_of_le_of_lt (Nat.sub_le _ _) (Nat.pow_lt_pow_right (by decide) (by omega))
theorem ite_cg {α : Type} {p q : Prop} [Decidable p] [Decidable q] {x y : α} (h : p ↔ q) : (if p then x else y) = if q then x else y := by
  by_cases hp : p
  · rw [if_pos hp, if_pos (h.1 hp)]
  · rw [if_neg hp, if_neg (fun hq => hp (h.2 hq))]
theorem if_tt {α : Type} {x y : α} : (if (true = true) then x else y) = x := if_pos rfl
theorem if_T {α : Type} {x y : α} {h : Decidable True} : (@ite α True h x y) = x := if_pos trivial
/-! loops -/
/-- up from i to N, with an invariant, or out before -/
theorem loop_up {σ α : Type} (F : Nat → σ → Int32 → Option α) (N : Nat) (I : Nat → σ → Prop) (Q : Option α → Prop)
    (hend : ∀ n s, I N s → Q (F (n + 1) s (nI N)))
    (hstep : ∀ n s i, i < N → I i s → Q (F (n + 1) s (nI i)) ∨ ∃ s', I (i + 1) s' ∧ F (n + 1) s (nI i) = F n s' (nI (i + 1))) :
    ∀ fuel i s, i ≤ N → I i s → N - i < fuel → Q (F fuel s (nI i)) := by
  intro fuel
  induction fuel with
  | zero => intro i s _ _ h; omega
  | succ n ih =>
    intro i s hi hI hf
    by_cases e : i = N
    · subst e; exact hend n s hI
    · rcases hstep n s i (by omega) hI with h | ⟨s', h1, h2⟩
      · exact h
      · rw [h2]; exact ih (i + 1) s' (by omega) h1 (by omega)
/-- two loops side by side -/
theorem loop_two {σ τ α β : Type} (F : Nat → σ → Int32 → Option α) (G : Nat → τ → Int32 → Option β) (N : Nat) (I : Nat → σ → τ → Prop) (Q : Option α → Option β → Prop)
    (hend : ∀ n n' s t, I N s t → Q (F (n + 1) s (nI N)) (G (n' + 1) t (nI N)))
    (hstep : ∀ n n' s t i, i < N → I i s t → Q (F (n + 1) s (nI i)) (G (n' + 1) t (nI i)) ∨ ∃ s' t', I (i + 1) s' t' ∧ F (n + 1) s (nI i) = F n s' (nI (i + 1)) ∧ G (n' + 1) t (nI i) = G n' t' (nI (i + 1))) :
    ∀ fuel fuel' i s t, i ≤ N → I i s t → N - i < fuel → N - i < fuel' → Q (F fuel s (nI i)) (G fuel' t (nI i)) := by
  intro fuel
  induction fuel with
  | zero => intro fuel' i s t _ _ h; omega
  | succ n ih =>
    intro fuel' i s t hi hI hf hf'
    obtain ⟨n', rfl⟩ : ∃ n', fuel' = n' + 1 := ⟨fuel' - 1, by omega⟩
    by_cases e : i = N
    · subst e; exact hend n n' s t hI
    · rcases hstep n n' s t i (by omega) hI with h | ⟨s', t', h1, h2, h3⟩
      · exact h
      · rw [h2, h3]; exact ih n' (i + 1) s' t' (by omega) h1 (by omega) (by omega)
/-- the model counts alike -/
theorem n_bits {s : Nat} (h : s < 256) : f_X11_bits (nI s) = some (nI (pc s)) := (by decide +kernel : ∀ s : Fin 256, f_X11_bits (nI s.val) = some (nI (pc s.val))) ⟨s, h⟩
theorem n_has {s k : Nat} (hs : s < 2 ^ 31) (hk : k < 31) : f_X11_has (nI s) (nI k) = some (bI (s.testBit k)) := by
  unfold f_X11_has
  rw [n_tstb hs hk]
  cases s.testBit k <;> rfl
theorem n_lesser (a b : Nat) (ha : a < 2 ^ 31) (hb : b < 2 ^ 31) : f_X11_lesser (nI a) (nI b) = some (nI (min a b)) := by
  unfold f_X11_lesser
  by_cases h : b ≤ a
  · rw [if_pos (nI_le h ha), Nat.min_eq_right h]
  · rw [if_neg (nI_ge (by omega) hb), Nat.min_eq_left (by omega)]
theorem n_greater (a b : Nat) (ha : a < 2 ^ 31) (hb : b < 2 ^ 31) : f_X11_greater (nI a) (nI b) = some (nI (max a b)) := by
  unfold f_X11_greater
  by_cases h : a ≤ b
  · rw [if_pos (nI_le h hb), Nat.max_eq_right h]
  · rw [if_neg (nI_ge (by omega) ha), Nat.max_eq_left (by omega)]
theorem n_far (a b : Nat) (ha : a < 2 ^ 31) (hb : b < 2 ^ 31) : f_X11_far (nI a) (nI b) = some (nI (max a b - min a b)) := by
  unfold f_X11_far
  by_cases h : b ≤ a
  · rw [if_pos (nI_le h ha), pk_sub h, Nat.max_eq_left h, Nat.min_eq_right h]
  · rw [if_neg (nI_ge (by omega) hb), pk_sub (by omega), Nat.max_eq_right (by omega), Nat.min_eq_left (by omega)]
