/-! BOTH TABLES: R the fewest favours, W in how many orders, some alone acting -/
theorem loop_is {σ α : Type} (F : Nat → σ → Int32 → Option α) (X : Nat → σ) (i0 N : Nat) (r : Option α) (hend : ∀ n, F (n + 1) (X N) (nI N) = r) (hstep : ∀ n i, i0 ≤ i → i < N → F (n + 1) (X i) (nI i) = F n (X (i + 1)) (nI (i + 1))) : ∀ fuel i, i0 ≤ i → i ≤ N → N - i < fuel → F fuel (X i) (nI i) = r := by
  intro fuel
  induction fuel with
  | zero => intro i _ _ h; omega
  | succ n ih =>
    intro i h0 hi hf
    by_cases e : i = N
    · subst e; exact hend n
    · rw [hstep n i h0 (by omega)]; exact ih (i + 1) (by omega) (by omega) (by omega)
def TB (S : VX4) (M : VX11) (a : AJ) (act : Nat) (R : Nat → Option Nat) (W : Nat → Nat) : Prop := FT S act R ∧ (∀ t, t < 2 ^ aN a → M.2.2.2.2.2.2.2.2.2.2.2.2.2.2.2.2.2.2.2.2.2.2.1 t = nI (nv (R t)) ∧ M.2.2.2.2.2.2.2.2.2.2.2.2.2.2.2.2.2.2.2.2.2.2.2.1 t = nI (W t)) ∧ IsR a act (2 ^ aN a) R ∧ IsW a act (2 ^ aN a) W ∧ AV a ∧ act < 2 ^ aN a ∧ M.2.2.2.2.2.2.2.2.2.2.1 = nI (aN a)
theorem IsR.less {a : AJ} {act N N' : Nat} {R : Nat → Option Nat} (h : IsR a act N R) (hN : N' ≤ N) : IsR a act N' R := ⟨h.1, fun t h0 ht => h.2 t h0 (by omega)⟩
theorem IsR.off {a : AJ} {act N : Nat} {R : Nat → Option Nat} (h : IsR a act N R) {t : Nat} (ht : t < N) (hta : act < t) : R t = none := (h.2 t (by omega) ht).2 (fun e => by have := sd0_le e; omega)
theorem both {J : VX2} {M : VX11} {a : AJ} (hJ : JR J a) (hM : MR M a) (hV : AV a) {act : Nat} (hact : act < 2 ^ aN a) (S : VX4) :
    ∃ S' l o R W, f_X4_fill S J (nI act) = some S' ∧ f_X11_layLeasts M (nI act) = some (mLO M l o) ∧ TB S' (mLO M l o) a act R W := by
  have hN : 2 ^ aN a ≤ 256 := Nat.pow_le_pow_right (show 2 > 0 by decide) hV.2.1
  obtain ⟨S', R', e1, hT, hR'⟩ := x4_fill hJ hV hact S
  obtain ⟨l, o, R, W, e2, hR, hW, hT2⟩ := m_lay hM hV (show act < 256 by omega)
  have e := hR'.uniq (hR.less (show act + 1 ≤ 2 ^ aN a by omega))
  exact ⟨S', l, o, R, W, e1, e2, ⟨hT.1, fun t ht => by rw [hT.2 t ht, e t (by omega)]⟩, hT2, hR, hW, hV, hact, hM.1⟩
section
variable {S : VX4} {M : VX11} {a : AJ} {act : Nat} {R : Nat → Option Nat} {W : Nat → Nat}
theorem TB.n8 (h : TB S M a act R W) : aN a ≤ 8 := h.2.2.2.2.1.2.1
theorem TB.N (h : TB S M a act R W) : 2 ^ aN a ≤ 256 := Nat.pow_le_pow_right (show 2 > 0 by decide) h.n8
theorem TB.actN (h : TB S M a act R W) : act < 2 ^ aN a := h.2.2.2.2.2.1
theorem TB.small (h : TB S M a act R W) {t v : Nat} (ht : t < 2 ^ aN a) (hv : R t = some v) : v ≤ 112 := h.2.2.1.small h.2.2.2.2.1 h.N ht hv
theorem TB.nvle (h : TB S M a act R W) {t : Nat} (ht : t < 2 ^ aN a) : nv (R t) ≤ 1000 := by
  cases hr : R t with
  | none => exact Nat.le_refl _
  | some v => have := h.small ht hr; show v ≤ 1000; omega
theorem TB.ways (h : TB S M a act R W) {t : Nat} (ht : t < 2 ^ aN a) : R t ≠ none ↔ 0 < W t := h.2.2.1.ways h.2.2.2.1 t ht
theorem TB.off (h : TB S M a act R W) {t : Nat} (ht : t < 2 ^ aN a) (hta : act < t) : R t = none := h.2.2.1.off ht hta
theorem TB.r0 (h : TB S M a act R W) : R 0 = some 0 := h.2.2.1.1
/-- the model's test whether a set is reached -/
theorem TB.ord (h : TB S M a act R W) {t : Nat} (ht : t < 2 ^ aN a) : M.2.2.2.2.2.2.2.2.2.2.2.2.2.2.2.2.2.2.2.2.2.2.2.1 t ≤ 0 ↔ (R t).isSome = false := by
  rw [(h.2.1 t ht).2]
  have hw := h.2.2.2.1.small h.n8 h.N ht
  have hr := h.ways ht
  by_cases c : 0 < W t
  · have : R t ≠ none := hr.2 c
    refine ⟨fun q => absurd q (nI_nle c (by omega)), fun q => ?_⟩
    cases hrt : R t with
    | none => exact absurd hrt this
    | some v => rw [hrt] at q; cases q
  · have e : W t = 0 := by omega
    refine ⟨fun _ => ?_, fun _ => by rw [e]; decide⟩
    cases hrt : R t with
    | none => rfl
    | some v => exact absurd (hr.1 (by rw [hrt]; simp)) c
theorem x4_fav (h : TB S M a act R W) {t : Nat} (ht : t < 2 ^ aN a) : f_X4_favoursOf S (nI t) = some (oI (R t)) := by
  have hN := h.N
  have hA := h.actN
  unfold f_X4_favoursOf
  rw [if_neg (nI_pos (by omega)), h.1.1]
  by_cases c : act < t
  · rw [if_pos (nI_lt c (by omega)), h.off ht c]; rfl
  · rw [if_neg (nI_nlt (by omega) (by omega)), zIn_t (show t < 256 by omega) (by decide), if_pos rfl, nI_clamp (by omega), h.1.2 t (by omega)]
theorem x4_fav0 : f_X4_favoursOf S (-9) = some (-9) := by
  unfold f_X4_favoursOf
  rw [if_pos (by decide)]
theorem x4_has (h : TB S M a act R W) {t : Nat} (ht : t < 2 ^ aN a) : f_X4_has S (nI t) = some (bI (R t).isSome) := by
  unfold f_X4_has
  rw [x4_fav h ht, Option.bind_some]
  cases hr : R t with
  | none => rw [oI_none, if_pos rfl]; rfl
  | some v => rw [oI_some, if_neg (nI_m9 (by have := h.small ht hr; omega))]; rfl
theorem nI_a0 (c : Nat) : nI c + 0 = nI (c + 0) := nI_add c 0
theorem nI_o0 (c : Nat) : nI c ||| 0 = nI (c ||| 0) := n_or c 0
theorem ct_off {p : Nat → Bool} {N : Nat} : ∀ N', N ≤ N' → (∀ t, N ≤ t → t < N' → p t = false) → ct p N' = ct p N
  | 0, h, _ => by rw [show N = 0 by omega]
  | N' + 1, h, hp => by
    by_cases e : N = N' + 1
    · rw [e]
    · rw [ct, ct_off N' (by omega) (fun t h1 h2 => hp t h1 (by omega)), hp N' (by omega) (by omega)]; rfl
/-- all that lie in some -/
def un (p : Nat → Bool) : Nat → Nat
  | 0 => 0
  | n + 1 => un p n ||| (if p n = true then n else 0)
theorem un_off {p : Nat → Bool} {N : Nat} : ∀ N', N ≤ N' → (∀ t, N ≤ t → t < N' → p t = false) → un p N' = un p N
  | 0, h, _ => by rw [show N = 0 by omega]
  | N' + 1, h, hp => by
    by_cases e : N = N' + 1
    · rw [e]
    · rw [un, un_off N' (by omega) (fun t h1 h2 => hp t h1 (by omega)), hp N' (by omega) (by omega)]
      exact Nat.or_zero _
theorem un_lt {p : Nat → Bool} {m : Nat} : ∀ N, N ≤ 2 ^ m → un p N < 2 ^ m
  | 0, _ => Nat.two_pow_pos _
  | N + 1, h => by
    rw [un]
    refine Nat.or_lt_two_pow (un_lt N (by omega)) ?_
    split
    · omega
    · exact Nat.two_pow_pos _
abbrev rP (R : Nat → Option Nat) : Nat → Bool := fun t => (R t).isSome
theorem x4_many (h : TB S M a act R W) : f_X4_howMany S = some (nI (ct (rP R) (2 ^ aN a))) := by
  have hN := h.N
  have hA := h.actN
  rw [ct_off (p := rP R) (N := act + 1) (2 ^ aN a) (by omega) (fun t h1 h2 => by show (R t).isSome = false; rw [h.off h2 (by omega)]; rfl)]
  unfold f_X4_howMany
  refine loop_is (fun f v1 v2 => f_X4_howMany_4 f S v1 v2) (fun k => nI (ct (rP R) k)) 0 (act + 1) _ (fun n => ?_) (fun n k _ hk => ?_) 4096 0 (Nat.le_refl _) (by omega) (by omega)
  · show f_X4_howMany_4 (n + 1) S _ (nI (act + 1)) = _
    rw [f_X4_howMany_4, h.1.1, if_pos (nI_lt (by omega) (by omega))]
  · show f_X4_howMany_4 (n + 1) S _ (nI k) = f_X4_howMany_4 n S (nI (ct (rP R) k + ((R k).isSome).toNat)) (nI (k + 1))
    rw [f_X4_howMany_4, h.1.1, if_neg (nI_nlt (by omega) (by omega)), x4_has h (by omega), Option.bind_some, nI_1]
    cases (R k).isSome with
    | true => rw [if_neg (by decide), nI_1]; rfl
    | false => rw [if_pos (by decide), nI_a0]; rfl
theorem x4_some (h : TB S M a act R W) : f_X4_inSome S = some (nI (un (rP R) (2 ^ aN a))) := by
  have hN := h.N
  have hA := h.actN
  rw [un_off (p := rP R) (N := act + 1) (2 ^ aN a) (by omega) (fun t h1 h2 => by show (R t).isSome = false; rw [h.off h2 (by omega)]; rfl)]
  unfold f_X4_inSome
  refine loop_is (fun f v1 v2 => f_X4_inSome_4 f S v1 v2) (fun k => nI (un (rP R) k)) 0 (act + 1) _ (fun n => ?_) (fun n k _ hk => ?_) 4096 0 (Nat.le_refl _) (by omega) (by omega)
  · show f_X4_inSome_4 (n + 1) S _ (nI (act + 1)) = _
    rw [f_X4_inSome_4, h.1.1, if_pos (nI_lt (by omega) (by omega))]
  · show f_X4_inSome_4 (n + 1) S _ (nI k) = f_X4_inSome_4 n S (nI (un (rP R) k ||| (if (R k).isSome = true then k else 0))) (nI (k + 1))
    rw [f_X4_inSome_4, h.1.1, if_neg (nI_nlt (by omega) (by omega)), x4_has h (by omega), Option.bind_some, nI_1]
    cases (R k).isSome with
    | true => rw [if_neg (by decide), n_or, if_pos rfl]
    | false => rw [if_pos (by decide), nI_o0, if_neg (by decide)]
theorem m_many (h : TB S M a act R W) : f_X11_reachedMany M = some (nI (ct (rP R) (2 ^ aN a))) := by
  have hN := h.N
  have h1 : 0 < 2 ^ aN a := Nat.two_pow_pos _
  unfold f_X11_reachedMany
  refine loop_is (fun f v1 v2 => f_X11_reachedMany_4 f M v1 v2) (fun k => nI (ct (rP R) k)) 0 (2 ^ aN a) _ (fun n => ?_) (fun n k _ hk => ?_) 4096 0 (Nat.le_refl _) (by omega) (by omega)
  · show f_X11_reachedMany_4 (n + 1) M _ (nI (2 ^ aN a)) = _
    rw [f_X11_reachedMany_4, m_all h.2.2.2.2.2.2 h.n8, Option.bind_some, if_pos (nI_lt (by omega) (by omega))]
  · show f_X11_reachedMany_4 (n + 1) M _ (nI k) = f_X11_reachedMany_4 n M (nI (ct (rP R) k + ((R k).isSome).toNat)) (nI (k + 1))
    rw [f_X11_reachedMany_4, m_all h.2.2.2.2.2.2 h.n8, Option.bind_some, if_neg (nI_nlt (by omega) (by omega)), zIn_t (show k < 256 by omega) (by decide), if_pos rfl, nI_clamp (by omega), nI_1]
    have ho := h.ord hk
    cases hr : (R k).isSome with
    | true => rw [if_neg (fun q => by rw [ho.1 q] at hr; cases hr), nI_1]; rfl
    | false => rw [if_pos (ho.2 hr), nI_a0]; rfl
theorem m_some (h : TB S M a act R W) : f_X11_everOut M = some (nI (un (rP R) (2 ^ aN a))) := by
  have hN := h.N
  have h1 : 0 < 2 ^ aN a := Nat.two_pow_pos _
  unfold f_X11_everOut
  refine loop_is (fun f v1 v2 => f_X11_everOut_4 f M v1 v2) (fun k => nI (un (rP R) k)) 0 (2 ^ aN a) _ (fun n => ?_) (fun n k _ hk => ?_) 4096 0 (Nat.le_refl _) (by omega) (by omega)
  · show f_X11_everOut_4 (n + 1) M _ (nI (2 ^ aN a)) = _
    rw [f_X11_everOut_4, m_all h.2.2.2.2.2.2 h.n8, Option.bind_some, if_pos (nI_lt (by omega) (by omega))]
  · show f_X11_everOut_4 (n + 1) M _ (nI k) = f_X11_everOut_4 n M (nI (un (rP R) k ||| (if (R k).isSome = true then k else 0))) (nI (k + 1))
    rw [f_X11_everOut_4, m_all h.2.2.2.2.2.2 h.n8, Option.bind_some, if_neg (nI_nlt (by omega) (by omega)), zIn_t (show k < 256 by omega) (by decide), if_pos rfl, nI_clamp (by omega), nI_1]
    have ho := h.ord hk
    cases hr : (R k).isSome with
    | true => rw [if_neg (fun q => by rw [ho.1 q] at hr; cases hr), n_or, if_pos rfl]
    | false => rw [if_pos (ho.2 hr), nI_o0, if_neg (by decide)]
/-! the first set of the fewest favours that has all of a set -/
def bwC (R : Nat → Option Nat) (set k : Nat) : Option Nat → Bool
  | none => true
  | some b => decide (nv (R k) < nv (R b))
def bw (R : Nat → Option Nat) (set : Nat) : Nat → Option Nat
  | 0 => none
  | k + 1 => if ((R k).isSome && decide (sd set k = 0) && bwC R set k (bw R set k)) = true then some k else bw R set k
theorem bw_some {R : Nat → Option Nat} {set b : Nat} : ∀ {N : Nat}, bw R set N = some b → b < N ∧ (R b).isSome = true
  | 0, h => by cases h
  | N + 1, h => by
    rw [bw] at h
    split at h
    · rename_i c
      cases h
      simp only [Bool.and_eq_true] at c
      exact ⟨Nat.lt_succ_self _, c.1.1⟩
    · have := bw_some h
      exact ⟨by omega, this.2⟩
theorem bw_off {R : Nat → Option Nat} {set N : Nat} : ∀ N', N ≤ N' → (∀ t, N ≤ t → t < N' → R t = none) → bw R set N' = bw R set N
  | 0, h, _ => by rw [show N = 0 by omega]
  | N' + 1, h, hp => by
    by_cases e : N = N' + 1
    · rw [e]
    · rw [bw, hp N' (by omega) (by omega), if_neg (by simp), bw_off N' (by omega) (fun t h1 h2 => hp t h1 (by omega))]
theorem x4_cheap (h : TB S M a act R W) {set : Nat} (hs : set < 2 ^ aN a) : f_X4_cheapestWith S (nI set) = some (oI (bw R set (2 ^ aN a))) := by
  have hN := h.N
  have hA := h.actN
  rw [bw_off (N := act + 1) (2 ^ aN a) (by omega) (fun t h1 h2 => h.off h2 (by omega))]
  unfold f_X4_cheapestWith
  refine loop_is (fun f v2 v3 => f_X4_cheapestWith_5 f S (nI set) v2 v3) (fun k => oI (bw R set k)) 0 (act + 1) _ (fun n => ?_) (fun n k _ hk => ?_) 4096 0 (Nat.le_refl _) (by omega) (by omega)
  · show f_X4_cheapestWith_5 (n + 1) S (nI set) _ (nI (act + 1)) = _
    rw [f_X4_cheapestWith_5, h.1.1, if_pos (nI_lt (by omega) (by omega))]
  · show f_X4_cheapestWith_5 (n + 1) S (nI set) (oI (bw R set k)) (nI k) = f_X4_cheapestWith_5 n S (nI set) (oI (bw R set (k + 1))) (nI (k + 1))
    have g0 : f_X4_cheapestWith_37 (f_X4_cheapestWith_5 n) S (nI set) (oI (bw R set k)) (nI k) 0 = f_X4_cheapestWith_5 n S (nI set) (oI (bw R set k)) (nI (k + 1)) := by
      unfold f_X4_cheapestWith_37
      rw [if_pos rfl, nI_1]
    rw [f_X4_cheapestWith_5, h.1.1, if_neg (nI_nlt (by omega) (by omega)), zIn_t (show k < 256 by omega) (by decide), if_pos rfl, nI_clamp (by omega), h.1.2 k (by omega), g0, n_sd, bw]
    cases hr : R k with
    | none => rw [oI_none, if_pos rfl, if_neg (by simp)]
    | some v =>
      have hv := h.small (show k < 2 ^ aN a by omega) hr
      rw [oI_some, if_neg (nI_m9 (by omega))]
      by_cases c : sd set k = 0
      · rw [if_pos (by rw [c]; rfl), decide_eq_true c]
        unfold f_X4_cheapestWith_37
        rw [if_neg (by decide), nI_1]
        cases hb : bw R set k with
        | none => rw [oI_none, if_pos rfl, if_pos (by simp [bwC])]; rfl
        | some b =>
          obtain ⟨b1, b2⟩ := bw_some hb
          cases hrb : R b with
          | none => rw [hrb] at b2; cases b2
          | some w =>
            have hw := h.small (show b < 2 ^ aN a by omega) hrb
            rw [oI_some, if_neg (nI_m9 (by omega)), zIn_t (show k < 256 by omega) (by decide), zIn_t (show b < 256 by omega) (by decide), nI_clamp (by omega), nI_clamp (by omega), h.1.2 k (by omega), h.1.2 b (by omega), hr, hrb, oI_some, oI_some]
            simp only [if_T]
            by_cases d : w ≤ v
            · rw [if_pos (nI_le d (by omega)), if_neg (by simp [bwC, hr, hrb, nv]; omega)]; rfl
            · rw [if_neg (nI_ge (by omega) (by omega)), if_pos (by simp [bwC, hr, hrb, nv]; omega)]; rfl
      · rw [if_neg (fun e => c ((nI0_eq (Nat.lt_of_lt_of_le (sd_lt hs) (by omega))).1 e)), decide_eq_false c, if_neg (by simp)]
theorem sd_and {set k : Nat} : k &&& set = set ↔ sd set k = 0 := by
  rw [sd0]
  constructor
  · intro h i hi
    rw [← h, Nat.testBit_and] at hi
    exact (Bool.and_eq_true_iff.1 hi).1
  · intro h
    refine Nat.eq_of_testBit_eq fun i => ?_
    rw [Nat.testBit_and]
    cases hi : set.testBit i with
    | false => rw [Bool.and_false]
    | true => rw [h i hi]; rfl
theorem m_first (h : TB S M a act R W) {set : Nat} (hs : set < 2 ^ aN a) : f_X11_firstWith M (nI set) = some (oI (bw R set (2 ^ aN a))) := by
  have hN := h.N
  have h1 : 0 < 2 ^ aN a := Nat.two_pow_pos _
  unfold f_X11_firstWith
  refine loop_is (fun f v2 v3 => f_X11_firstWith_5 f M (nI set) v2 v3) (fun k => oI (bw R set k)) 0 (2 ^ aN a) _ (fun n => ?_) (fun n k _ hk => ?_) 4096 0 (Nat.le_refl _) (by omega) (by omega)
  · show f_X11_firstWith_5 (n + 1) M (nI set) _ (nI (2 ^ aN a)) = _
    rw [f_X11_firstWith_5, m_all h.2.2.2.2.2.2 h.n8, Option.bind_some, if_pos (nI_lt (by omega) (by omega))]
  · show f_X11_firstWith_5 (n + 1) M (nI set) (oI (bw R set k)) (nI k) = f_X11_firstWith_5 n M (nI set) (oI (bw R set (k + 1))) (nI (k + 1))
    have g0 : f_X11_firstWith_34 (f_X11_firstWith_5 n) M (nI set) (oI (bw R set k)) (nI k) 0 = f_X11_firstWith_5 n M (nI set) (oI (bw R set k)) (nI (k + 1)) := by
      unfold f_X11_firstWith_34
      rw [if_pos rfl, nI_1]
    rw [f_X11_firstWith_5, m_all h.2.2.2.2.2.2 h.n8, Option.bind_some, if_neg (nI_nlt (by omega) (by omega)), g0, n_and, zIn_t (show k < 256 by omega) (by decide), if_pos rfl, nI_clamp (by omega), bw]
    have ho := h.ord hk
    by_cases c : sd set k = 0
    · rw [if_pos (by rw [sd_and.2 c]), decide_eq_true c]
      cases hr : R k with
      | none => rw [if_pos (ho.2 (by rw [hr]; rfl)), if_neg (by simp)]
      | some v =>
        have hv := h.small hk hr
        rw [if_neg (fun q => by have := ho.1 q; rw [hr] at this; cases this)]
        unfold f_X11_firstWith_34
        rw [if_neg (by decide), nI_1]
        cases hb : bw R set k with
        | none => rw [oI_none, if_pos rfl, if_pos (by simp [bwC])]; rfl
        | some b =>
          obtain ⟨b1, b2⟩ := bw_some hb
          cases hrb : R b with
          | none => rw [hrb] at b2; cases b2
          | some w =>
            have hw := h.small (show b < 2 ^ aN a by omega) hrb
            rw [oI_some, if_neg (nI_m9 (by omega)), zIn_t (show k < 256 by omega) (by decide), zIn_t (show b < 256 by omega) (by decide), nI_clamp (by omega), nI_clamp (by omega), (h.2.1 k hk).1, (h.2.1 b (by omega)).1, hr, hrb]
            simp only [if_T]
            by_cases d : w ≤ v
            · rw [if_pos (show nI (nv (some w)) ≤ nI (nv (some v)) from nI_le d (show v < 2 ^ 31 by omega)), if_neg (by simp [bwC, hr, hrb, nv]; omega)]; rfl
            · rw [if_neg (show ¬ nI (nv (some w)) ≤ nI (nv (some v)) from nI_ge (show v < w by omega) (show w < 2 ^ 31 by omega)), if_pos (by simp [bwC, hr, hrb, nv]; omega)]; rfl
    · rw [if_neg (fun e => c (sd_and.1 ((nI_eq (Nat.lt_of_le_of_lt Nat.and_le_right (by omega)) (by omega)).1 e))), decide_eq_false c, if_neg (by simp)]
end
