/-! THE STEPS: order -/
/-- what it costs to go on from t by x to all of a set -/
def ordC (a : AJ) (set : Nat) (G : Nat → Option Nat) (t x : Nat) : Option Nat := if set.testBit x = true ∧ t.testBit x = false then (match costC a x t (2 ^ aN a - 1) with
  | none => none
  | some c => match G (t ||| 2 ^ x) with
    | none => none
    | some g => some (c + g)) else none
theorem ordC_cg {a : AJ} {set t : Nat} {G G' : Nat → Option Nat} (h : ∀ u, t < u → G u = G' u) : ordC a set G t = ordC a set G' t := by
  funext x
  unfold ordC
  by_cases c : set.testBit x = true ∧ t.testBit x = false
  · rw [if_pos c, if_pos c, h _ (or_more c.2)]
  · rw [if_neg c, if_neg c]
/-- the least of the first, and the first that has it -/
def bB (f : Nat → Option Nat) : Nat → Option Nat
  | 0 => none
  | x + 1 => omin (bB f x) (f x)
def bbL : Option Nat → Option Nat → Bool
  | none, _ => false
  | some _, none => true
  | some v, some b => decide (v < b)
def bA (f : Nat → Option Nat) : Nat → Nat
  | 0 => 0
  | x + 1 => if bbL (f x) (bB f x) = true then x else bA f x
theorem omin_none (o : Option Nat) : omin o none = o := by cases o <;> rfl
theorem bB_off {f : Nat → Option Nat} {n : Nat} : ∀ k, n ≤ k → (∀ x, n ≤ x → f x = none) → bB f k = bB f n ∧ bA f k = bA f n
  | 0, h, _ => by rw [show n = 0 by omega]; exact ⟨rfl, rfl⟩
  | k + 1, h, hf => by
    by_cases e : n = k + 1
    · rw [e]; exact ⟨rfl, rfl⟩
    · obtain ⟨h1, h2⟩ := bB_off k (by omega) hf
      rw [bB, bA, hf k (by omega), omin_none, if_neg (show ¬ bbL none (bB f k) = true by intro q; cases q)]
      exact ⟨h1, h2⟩
theorem bB_none {f : Nat → Option Nat} : ∀ {k : Nat}, bB f k = none → ∀ y, y < k → f y = none
  | 0, _, y, hy => by omega
  | k + 1, h, y, hy => by
    rw [bB] at h
    cases hb : bB f k with
    | none =>
      rw [hb] at h
      have h : f k = none := h
      by_cases e : y = k
      · rw [e]; exact h
      · exact bB_none hb y (by omega)
    | some b =>
      rw [hb] at h
      cases hf : f k with
      | none => rw [hf] at h; cases h
      | some w => rw [hf] at h; cases h
theorem bA_first {f : Nat → Option Nat} : ∀ {k v : Nat}, bB f k = some v → bA f k < k ∧ f (bA f k) = some v ∧ (∀ y, y < bA f k → f y ≠ some v) ∧ ∀ y w, y < k → f y = some w → v ≤ w
  | 0, v, h => by cases h
  | k + 1, v, h => by
    rw [bB] at h
    rw [bA]
    cases hf : f k with
    | none =>
      rw [hf, omin_none] at h
      obtain ⟨h1, h2, h3, h4⟩ := bA_first h
      rw [if_neg (show ¬ bbL none (bB f k) = true by intro q; cases q)]
      refine ⟨by omega, h2, h3, fun y w hy e => ?_⟩
      by_cases c : y = k
      · rw [c, hf] at e; cases e
      · exact h4 y w (by omega) e
    | some w =>
      rw [hf] at h
      cases hb : bB f k with
      | none =>
        rw [hb] at h
        have h : some w = some v := h
        cases h
        have hn := bB_none hb
        rw [if_pos (show bbL (some v) none = true from rfl)]
        refine ⟨by omega, hf, fun y hy e => ?_, fun y u hy e => ?_⟩
        · rw [hn y hy] at e; cases e
        · by_cases c : y = k
          · rw [c, hf] at e; cases e; exact Nat.le_refl _
          · rw [hn y (by omega)] at e; cases e
      | some b =>
        rw [hb] at h
        obtain ⟨h1, h2, h3, h4⟩ := bA_first hb
        have h : some (min b w) = some v := h
        have h := Option.some.inj h
        by_cases c : w < b
        · rw [if_pos (show bbL (some w) (some b) = true from decide_eq_true c)]
          have e : v = w := by omega
          refine ⟨by omega, by rw [hf, e], fun y hy q => ?_, fun y u hy q => ?_⟩
          · have := h4 y v hy q; omega
          · by_cases d : y = k
            · rw [d, hf] at q; cases q; omega
            · have := h4 y u (by omega) q; omega
        · rw [if_neg (show ¬ bbL (some w) (some b) = true from fun q => c (of_decide_eq_true q))]
          have e : v = b := by omega
          refine ⟨by omega, by rw [h2, e], by rw [e]; exact h3, fun y u hy q => ?_⟩
          by_cases d : y = k
          · rw [d, hf] at q; cases q; omega
          · have := h4 y u (by omega) q; omega
/-! counts -/
theorem ct_mono {p q : Nat → Bool} (h : ∀ i, p i = true → q i = true) : ∀ n, ct p n ≤ ct q n
  | 0 => Nat.le_refl _
  | n + 1 => by
    rw [ct, ct]
    have := ct_mono h n
    cases hp : p n with
    | false =>
      show ct p n + 0 ≤ _
      omega
    | true =>
      rw [h n hp]
      omega
theorem pc_or {t x : Nat} (ht : t < 256) (hx : x < 8) (hb : t.testBit x = false) : pc (t ||| 2 ^ x) = pc t + 1 := by
  have h := pc_sd (t := t ||| 2 ^ x) (x := x) (or_lt (n := 8) ht hx) hx or_bit
  rw [or_sd hb] at h
  exact h.symm
theorem sub_or {t x set : Nat} (h : sd t set = 0) (hx : set.testBit x = true) : sd (t ||| 2 ^ x) set = 0 := sd0.2 fun i hi => by
  rw [Nat.testBit_or, Nat.testBit_two_pow, Bool.or_eq_true] at hi
  rcases hi with hi | hi
  · exact sd0.1 h i hi
  · rw [← of_decide_eq_true hi]; exact hx
theorem sub_full {t set : Nat} (hs : set < 256) (h : sd t set = 0) (e : pc set ≤ pc t) : t = set := Classical.byContradiction fun c => by
  have ht : t < 256 := Nat.lt_of_le_of_lt (sd0_le h) hs
  have : ∃ x, set.testBit x = true ∧ t.testBit x = false := Classical.byContradiction fun q => c (Nat.eq_of_testBit_eq fun i => by
    cases h1 : set.testBit i with
    | true =>
      cases h2 : t.testBit i with
      | true => rfl
      | false => exact absurd ⟨i, h1, h2⟩ q
    | false =>
      cases h2 : t.testBit i with
      | true => rw [sd0.1 h i h2] at h1; cases h1
      | false => rfl)
  obtain ⟨x, hx1, hx2⟩ := this
  have h8 : x < 8 := bit_lt (n := 8) hs hx1
  have h1 := pc_or ht h8 hx2
  have h2 : pc (t ||| 2 ^ x) ≤ pc set := ct_mono (fun i hi => sd0.1 (sub_or h hx1) i hi) 8
  omega
/-! the class -/
section
variable {J : VX2} {a : AJ} {set t : Nat} {G : Nat → Option Nat}
theorem ordC_le (hV : AV a) (hs : set < 2 ^ aN a) (ht : t < 256) (hG : ∀ u v, t < u → u ≤ set → G u = some v → v ≤ 14 * (8 - pc u)) (hts : sd t set = 0) {x v : Nat} (h : ordC a set G t x = some v) : v ≤ 14 * (8 - pc t) := by
  have hn := hV.2.1
  unfold ordC at h
  split at h
  · rename_i c
    split at h
    · cases h
    · rename_i c1 hc
      split at h
      · cases h
      · rename_i g hg
        cases h
        have hx := bit_lt hs c.1
        have := costC_le hV hx hc
        have := hG _ _ (or_more c.2) (sd0_le (sub_or hts c.1)) hg
        have e := pc_or ht (show x < 8 by omega) c.2
        have := pc_le (t ||| 2 ^ x)
        omega
  · cases h
theorem x3_by (hJ : JR J a) (hV : AV a) {S : VX3} (hs : set < 2 ^ aN a) (hts : sd t set = 0) (hS : ∀ u, t < u → u ≤ set → S.2.1 u = oI (G u)) (hG : ∀ u v, t < u → u ≤ set → G u = some v → v ≤ 14 * (8 - pc u)) {x : Nat} (hx : x < 8) :
    f_X3_favoursBy S J (nI t) (nI x) (nI set) = some (oI (ordC a set G t x)) := by
  have hn := hV.2.1
  have hN := hV.N
  have ht := sd0_le hts
  have h9 : t ||| 2 ^ x < 2 ^ 8 := or_lt (n := 8) (by omega) hx
  unfold f_X3_favoursBy ordC
  rw [n_one (by omega), n_or]
  by_cases c1 : t.testBit x = true
  · rw [if_pos (by rw [or_same.2 c1]), if_neg (fun q => by rw [c1] at q; cases q.2)]; rfl
  have c1' : t.testBit x = false := by simpa using c1
  rw [if_neg (fun e => c1 (or_same.1 ((nI_eq (by omega) (by omega)).1 e))), n_sd]
  by_cases c2 : set.testBit x = true
  · have hsub := sub_or hts c2
    have hxn := bit_lt hs c2
    rw [if_pos (by rw [hsub]; rfl), zIn_t (show t ||| 2 ^ x < 256 from h9) (by decide), if_pos rfl, nI_clamp (by omega), hS _ (or_more c1') (sd0_le hsub), x2_all hJ.1 hn, Option.bind_some, x2_costA hJ hV hxn (show t < 2 ^ aN a by omega), Option.bind_some, if_pos (show set.testBit x = true ∧ t.testBit x = false from ⟨c2, c1'⟩)]
    cases hg : G (t ||| 2 ^ x) with
    | none =>
      rw [oI_none, if_pos rfl]
      cases costC a x t (2 ^ aN a - 1) <;> rfl
    | some g =>
      have := hG _ _ (or_more c1') (sd0_le hsub) hg
      rw [oI_some, if_neg (nI_m9 (by omega))]
      cases hc : costC a x t (2 ^ aN a - 1) with
      | none => rw [oI_none, if_pos rfl]
      | some c =>
        have := costC_le hV hxn hc
        rw [oI_some, if_neg (nI_m9 (by omega)), if_pos rfl]
        exact congrArg some (nI_add c g)
  · rw [if_neg (fun e => c2 (sd0.1 ((nI0_eq (Nat.lt_of_lt_of_le (sd_lt h9) (by decide))).1 e) x or_bit)), if_neg (fun q => c2 q.1)]; rfl
theorem x3_from (hJ : JR J a) (hV : AV a) {S : VX3} (hs : set < 2 ^ aN a) (hts : sd t set = 0) (hS : ∀ u, t < u → u ≤ set → S.2.1 u = oI (G u)) (hG : ∀ u v, t < u → u ≤ set → G u = some v → v ≤ 14 * (8 - pc u)) :
    ∃ N, f_X3_fewestFrom S J (nI t) (nI set) = some (oI (bB (ordC a set G t) (aN a)), (S.1, S.2.1, N, S.2.2.2)) ∧ (∀ u, u ≠ t → N u = S.2.2.1 u) ∧ (bB (ordC a set G t) (aN a) ≠ none → N t = nI (bA (ordC a set G t) (aN a))) := by
  have hn := hV.2.1
  have hN := hV.N
  have ht := sd0_le hts
  have hoff : ∀ x, aN a ≤ x → ordC a set G t x = none := fun x hx => if_neg (fun q => by rw [s_out hs hx] at q; cases q.1)
  obtain ⟨b1, b2⟩ := bB_off 8 hn hoff
  have hle : ∀ x v, ordC a set G t x = some v → v ≤ 112 := fun x v h => by
    have := ordC_le hV hs (by omega) hG hts h
    omega
  rw [← b1, ← b2]
  unfold f_X3_fewestFrom
  rw [show f_X3_fewestFrom_7 4096 S J (nI t) (nI set) (-9) 0 = f_X3_fewestFrom_7 4096 ((S.1, S.2.1, S.2.2.1, S.2.2.2)) J (nI t) (nI set) (-9) 0 from congrArg (fun Z : VX3 => f_X3_fewestFrom_7 4096 Z J (nI t) (nI set) (-9) 0) (show S = (S.1, S.2.1, S.2.2.1, S.2.2.2) from rfl)]
  refine loop_up (fun f (σ : (Nat → Int32) × Option Nat) v5 => f_X3_fewestFrom_7 f ((S.1, S.2.1, σ.1, S.2.2.2)) J (nI t) (nI set) (oI σ.2) v5) 8 (fun x σ => σ.2 = bB (ordC a set G t) x ∧ (∀ u, u ≠ t → σ.1 u = S.2.2.1 u) ∧ (bB (ordC a set G t) x ≠ none → σ.1 t = nI (bA (ordC a set G t) x))) (fun o => ∃ N, o = some (oI (bB (ordC a set G t) 8), (S.1, S.2.1, N, S.2.2.2)) ∧ (∀ u, u ≠ t → N u = S.2.2.1 u) ∧ (bB (ordC a set G t) 8 ≠ none → N t = nI (bA (ordC a set G t) 8))) ?_ ?_ 4096 0 (S.2.2.1, none) (Nat.zero_le _) ⟨rfl, fun _ _ => rfl, fun q => absurd rfl q⟩ (by omega)
  · rintro n ⟨N, b⟩ ⟨h1, h2, h3⟩
    have h1 : b = bB (ordC a set G t) 8 := h1
    refine ⟨N, ?_, h2, h3⟩
    show f_X3_fewestFrom_7 (n + 1) ((S.1, S.2.1, N, S.2.2.2)) J (nI t) (nI set) (oI b) (nI 8) = _
    rw [f_X3_fewestFrom_7, if_pos (by decide), h1]
  · rintro n ⟨N, b⟩ x hx ⟨h1, h2, h3⟩
    have h1 : b = bB (ordC a set G t) x := h1
    have h3 : bB (ordC a set G t) x ≠ none → N t = nI (bA (ordC a set G t) x) := h3
    right
    show ∃ σ : (Nat → Int32) × Option Nat, (σ.2 = bB (ordC a set G t) (x + 1) ∧ (∀ u, u ≠ t → σ.1 u = S.2.2.1 u) ∧ (bB (ordC a set G t) (x + 1) ≠ none → σ.1 t = nI (bA (ordC a set G t) (x + 1)))) ∧ f_X3_fewestFrom_7 (n + 1) ((S.1, S.2.1, N, S.2.2.2)) J (nI t) (nI set) (oI b) (nI x) = f_X3_fewestFrom_7 n ((S.1, S.2.1, σ.1, S.2.2.2)) J (nI t) (nI set) (oI σ.2) (nI (x + 1))
    rw [f_X3_fewestFrom_7, if_neg (show ¬ (8 : Int32) ≤ nI x from nI_ge hx (by decide)), x3_by hJ hV (S := (S.1, S.2.1, N, S.2.2.2)) hs hts hS hG hx, Option.bind_some, zIn_t (show t < 256 by omega) (by decide), nI_clamp (by omega), nI_1]
    have eB : bB (ordC a set G t) (x + 1) = omin b (ordC a set G t x) := by rw [bB, h1]
    have eA : bA (ordC a set G t) (x + 1) = if bbL (ordC a set G t x) b = true then x else bA (ordC a set G t) x := by rw [bA, h1]
    rw [eB, eA]
    have new : ∀ v : Nat, (∀ u, u ≠ t → upd N t (nI x) u = S.2.2.1 u) ∧ (some v ≠ none → upd N t (nI x) t = nI x) := fun v => ⟨fun u hu => by rw [upd_at, if_neg hu]; exact h2 u hu, fun _ => by rw [upd_at, if_pos rfl]⟩
    cases hf : ordC a set G t x with
    | none =>
      refine ⟨(N, b), ⟨(omin_none b).symm, h2, fun q => ?_⟩, by rw [oI_none, if_pos rfl]⟩
      rw [omin_none] at q
      rw [if_neg (show ¬ bbL none b = true by intro q; cases q)]
      exact h3 (by rw [← h1]; exact q)
    | some v =>
      have hv := hle x v hf
      rw [oI_some, if_neg (nI_m9 (by omega))]
      cases b with
      | none =>
        refine ⟨(upd N t (nI x), some v), ⟨rfl, (new v).1, fun _ => ?_⟩, ?_⟩
        · rw [if_pos (show bbL (some v) none = true from rfl)]; exact (new v).2 (by simp)
        · rw [oI_none, if_pos rfl, if_pos rfl]; rfl
      | some w =>
        have hw : w ≤ 112 := by
          obtain ⟨k1, k2, -⟩ := bA_first h1.symm
          exact hle _ _ k2
        rw [oI_some, if_neg (nI_m9 (by omega))]
        by_cases c : v < w
        · refine ⟨(upd N t (nI x), some v), ⟨?_, (new v).1, fun _ => ?_⟩, ?_⟩
          · show some v = some (min w v)
            rw [Nat.min_eq_right (by omega)]
          · rw [if_pos (show bbL (some v) (some w) = true from decide_eq_true c)]; exact (new v).2 (by simp)
          · rw [if_neg (nI_ge c (by omega)), if_pos rfl]; rfl
        · refine ⟨(N, some w), ⟨?_, h2, fun _ => ?_⟩, ?_⟩
          · show some w = some (min w v)
            rw [Nat.min_eq_left (by omega)]
          · rw [if_neg (show ¬ bbL (some v) (some w) = true from fun q => c (of_decide_eq_true q))]
            exact h3 (by rw [← h1]; simp)
          · rw [if_pos (nI_le (by omega) (by omega))]; rfl
/-! the model -/
def mO (M : VX11) (O : Nat → Int32) : VX11 := (M.1, M.2.1, M.2.2.1, M.2.2.2.1, M.2.2.2.2.1, M.2.2.2.2.2.1, M.2.2.2.2.2.2.1, M.2.2.2.2.2.2.2.1, M.2.2.2.2.2.2.2.2.1, M.2.2.2.2.2.2.2.2.2.1, M.2.2.2.2.2.2.2.2.2.2.1, M.2.2.2.2.2.2.2.2.2.2.2.1, M.2.2.2.2.2.2.2.2.2.2.2.2.1, M.2.2.2.2.2.2.2.2.2.2.2.2.2.1, M.2.2.2.2.2.2.2.2.2.2.2.2.2.2.1, M.2.2.2.2.2.2.2.2.2.2.2.2.2.2.2.1, M.2.2.2.2.2.2.2.2.2.2.2.2.2.2.2.2.1, M.2.2.2.2.2.2.2.2.2.2.2.2.2.2.2.2.2.1, M.2.2.2.2.2.2.2.2.2.2.2.2.2.2.2.2.2.2.1, M.2.2.2.2.2.2.2.2.2.2.2.2.2.2.2.2.2.2.2.1, M.2.2.2.2.2.2.2.2.2.2.2.2.2.2.2.2.2.2.2.2.1, M.2.2.2.2.2.2.2.2.2.2.2.2.2.2.2.2.2.2.2.2.2.1, M.2.2.2.2.2.2.2.2.2.2.2.2.2.2.2.2.2.2.2.2.2.2.1, M.2.2.2.2.2.2.2.2.2.2.2.2.2.2.2.2.2.2.2.2.2.2.2.1, O, M.2.2.2.2.2.2.2.2.2.2.2.2.2.2.2.2.2.2.2.2.2.2.2.2.2.1, M.2.2.2.2.2.2.2.2.2.2.2.2.2.2.2.2.2.2.2.2.2.2.2.2.2.2.1, M.2.2.2.2.2.2.2.2.2.2.2.2.2.2.2.2.2.2.2.2.2.2.2.2.2.2.2.1, M.2.2.2.2.2.2.2.2.2.2.2.2.2.2.2.2.2.2.2.2.2.2.2.2.2.2.2.2.1, M.2.2.2.2.2.2.2.2.2.2.2.2.2.2.2.2.2.2.2.2.2.2.2.2.2.2.2.2.2.1, M.2.2.2.2.2.2.2.2.2.2.2.2.2.2.2.2.2.2.2.2.2.2.2.2.2.2.2.2.2.2)
theorem mO_id (M : VX11) : M = mO M M.2.2.2.2.2.2.2.2.2.2.2.2.2.2.2.2.2.2.2.2.2.2.2.2.1 := rfl
theorem m_from {M : VX11} (hM : MR M a) (hV : AV a) (hs : set < 2 ^ aN a) (hts : sd t set = 0) (hne : t ≠ set) {O : Nat → Int32} (hO : ∀ u, t < u → u ≤ set → O u = nI (nv (G u))) (hOt : O t = 1000) (hG : ∀ u v, t < u → u ≤ set → G u = some v → v ≤ 14 * (8 - pc u)) (q : Nat) (r : VX11 → Int32 → Int32 → Int32 → Option (Int32 × VX11)) :
    ∃ O', f_X11_order_44 r 4096 (mO M O) (nI set) (nI q) (nI t) 0 = r (mO M O') (nI set) (nI q) (nI t + -1) ∧ (∀ u, u ≠ t → O' u = O u) ∧ O' t = nI (nv (bB (ordC a set G t) (aN a))) := by
  have hn := hV.2.1
  have hN := hV.N
  have ht := sd0_le hts
  have hle : ∀ x v, ordC a set G t x = some v → v ≤ 112 := fun x v h => by
    have := ordC_le hV hs (by omega) hG hts h
    omega
  have hb : ∀ x, nv (bB (ordC a set G t) x) ≤ 1000 := fun x => by
    cases h : bB (ordC a set G t) x with
    | none => exact Nat.le_refl _
    | some v =>
      have := hle _ _ (bA_first h).2.1
      show v ≤ 1000; omega
  refine loop_up (fun f (O : Nat → Int32) v4 => f_X11_order_44 r f (mO M O) (nI set) (nI q) (nI t) v4) (aN a) (fun x O' => (∀ u, u ≠ t → O' u = O u) ∧ O' t = nI (nv (bB (ordC a set G t) x))) (fun o => ∃ O', o = r (mO M O') (nI set) (nI q) (nI t + -1) ∧ (∀ u, u ≠ t → O' u = O u) ∧ O' t = nI (nv (bB (ordC a set G t) (aN a)))) ?_ ?_ 4096 0 O (Nat.zero_le _) ⟨fun _ _ => rfl, hOt⟩ (by omega)
  · rintro n O' ⟨h1, h2⟩
    refine ⟨O', ?_, h1, h2⟩
    show f_X11_order_44 r (n + 1) (mO M O') (nI set) (nI q) (nI t) (nI (aN a)) = _
    rw [f_X11_order_44, if_pos (show (mO M O').2.2.2.2.2.2.2.2.2.2.1 ≤ nI (aN a) from by show M.2.2.2.2.2.2.2.2.2.2.1 ≤ _; rw [hM.1]; exact nI_le (Nat.le_refl _) (by omega))]
  · rintro n O' x hx ⟨h1, h2⟩
    right
    have hMO : MR (mO M O') a := hM
    show ∃ O'' : Nat → Int32, ((∀ u, u ≠ t → O'' u = O u) ∧ O'' t = nI (nv (bB (ordC a set G t) (x + 1)))) ∧ f_X11_order_44 r (n + 1) (mO M O') (nI set) (nI q) (nI t) (nI x) = f_X11_order_44 r n (mO M O'') (nI set) (nI q) (nI t) (nI (x + 1))
    have same : ordC a set G t x = none → (∀ u, u ≠ t → O' u = O u) ∧ O' t = nI (nv (bB (ordC a set G t) (x + 1))) := fun e => ⟨h1, by rw [bB, e, omin_none]; exact h2⟩
    rw [f_X11_order_44, if_neg (show ¬ (mO M O').2.2.2.2.2.2.2.2.2.2.1 ≤ nI x from by show ¬ M.2.2.2.2.2.2.2.2.2.2.1 ≤ _; rw [hM.1]; exact nI_ge hx (by omega)), n_sd, if_pos (by rw [hts]; rfl), if_neg (fun e => hne ((nI_eq (by omega) (by omega)).1 e)), n_has (show set < 2 ^ 31 by omega) (by omega), Option.bind_some, n_has (show t < 2 ^ 31 by omega) (by omega), Option.bind_some, m_all hMO.1 hn, Option.bind_some, m_costA hMO hV hx (show t < 2 ^ aN a by omega), Option.bind_some, n_one (by omega), n_or, nI_1]
    have h9 : t ||| 2 ^ x < 2 ^ 8 := or_lt (n := 8) (by omega) (by omega)
    cases c2 : set.testBit x with
    | false => exact ⟨O', same (if_neg (fun q => by rw [c2] at q; cases q.1)), by rw [if_pos (show bI false = 0 from rfl)]⟩
    | true =>
      rw [if_neg (show ¬ bI true = 0 from i10)]
      cases c1 : t.testBit x with
      | true => exact ⟨O', same (if_neg (fun q => by rw [c1] at q; cases q.2)), by rw [if_neg (show ¬ bI true = 0 from i10)]⟩
      | false =>
        have hsub := sub_or hts c2
        have hu := or_more c1
        have eo : ordC a set G t x = match costC a x t (2 ^ aN a - 1) with
          | none => none
          | some c => match G (t ||| 2 ^ x) with
            | none => none
            | some g => some (c + g) := if_pos ⟨c2, c1⟩
        have hOu : (mO M O').2.2.2.2.2.2.2.2.2.2.2.2.2.2.2.2.2.2.2.2.2.2.2.2.1 (t ||| 2 ^ x) = nI (nv (G (t ||| 2 ^ x))) := (h1 _ (by omega)).trans (hO _ hu (sd0_le hsub))
        have hOt' : (mO M O').2.2.2.2.2.2.2.2.2.2.2.2.2.2.2.2.2.2.2.2.2.2.2.2.1 t = nI (nv (bB (ordC a set G t) x)) := h2
        rw [if_pos (show bI false = 0 from rfl), zIn_t (show t ||| 2 ^ x < 256 from h9) (by decide), zIn_t (show t < 256 by omega) (by decide), nI_clamp (show t < 2 ^ 31 by omega), nI_clamp (show t ||| 2 ^ x < 2 ^ 31 by omega), hOu, hOt']
        simp only [if_T]
        have keep : ordC a set G t x = none → ((∀ u, u ≠ t → upd (mO M O').2.2.2.2.2.2.2.2.2.2.2.2.2.2.2.2.2.2.2.2.2.2.2.2.1 t (nI (nv (bB (ordC a set G t) x))) u = O u) ∧ upd (mO M O').2.2.2.2.2.2.2.2.2.2.2.2.2.2.2.2.2.2.2.2.2.2.2.2.1 t (nI (nv (bB (ordC a set G t) x))) t = nI (nv (bB (ordC a set G t) (x + 1)))) := fun e => ⟨fun u hu => by rw [upd_at, if_neg hu]; exact h1 u hu, by rw [upd_at, if_pos rfl, bB, e, omin_none]⟩
        cases hc : costC a x t (2 ^ aN a - 1) with
        | none =>
          rw [hc] at eo
          exact ⟨_, keep eo, by rw [if_pos (show (1000 : Int32) ≤ nI (nv none) by decide)]; rfl⟩
        | some c =>
          have hcc := costC_le hV hx hc
          rw [if_neg (show ¬ (1000 : Int32) ≤ nI (nv (some c)) from nI_ge (show c < 1000 by omega) (by decide))]
          cases hg : G (t ||| 2 ^ x) with
          | none =>
            rw [hc, hg] at eo
            exact ⟨_, keep eo, by rw [if_neg (show ¬ nI (nv none) < (1000 : Int32) by decide)]; rfl⟩
          | some g =>
            have hgg := hG _ _ hu (sd0_le hsub) hg
            rw [hc, hg] at eo
            have eo : ordC a set G t x = some (c + g) := eo
            have hbx := hb x
            rw [if_pos (show nI (nv (some g)) < (1000 : Int32) from nI_lt (show g < 1000 by omega) (by decide)), show nI (nv (some c)) + nI (nv (some g)) = nI (c + g) from nI_add c g, n_lesser _ _ (by omega) (by omega), Option.bind_some]
            refine ⟨upd (mO M O').2.2.2.2.2.2.2.2.2.2.2.2.2.2.2.2.2.2.2.2.2.2.2.2.1 t (nI (min (nv (bB (ordC a set G t) x)) (c + g))), ⟨fun u hu => by rw [upd_at, if_neg hu]; exact h1 u hu, ?_⟩, rfl⟩
            rw [upd_at, if_pos rfl, bB, eo]
            cases bB (ordC a set G t) x with
            | none => show nI (min 1000 (c + g)) = nI (c + g); rw [Nat.min_eq_right (by omega)]
            | some b => rfl
end
