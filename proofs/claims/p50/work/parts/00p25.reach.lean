theorem Fill.le {a : AJ} {act s x : Nat} {F : Nat → Option Nat} (hV : AV a) (hact : act < 256) (h : Fill a act s x F) : ∀ t, t ≤ act → ∀ v, F t = some v → v ≤ 14 * pc t := by
  intro t
  induction t using Nat.strongRecOn with
  | ind t ih =>
    intro ht v hv
    by_cases h0 : t = 0
    · subst h0; rw [h.1] at hv; cases hv; exact Nat.zero_le _
    obtain ⟨g1, g2⟩ := h.2 t (by omega) ht
    by_cases hs : sd t act = 0
    · have := g1 hs
      rw [hv] at this
      obtain ⟨⟨y, hy, -, hb, r, c, e1, e2, e3⟩, -⟩ := this
      have := ih _ (sd_less hb) (Nat.le_trans (Nat.le_of_lt (sd_less hb)) ht) r e1
      have := costC_le hV hy e2
      have := pc_sd (show t < 256 by omega) (show y < 8 by have := hV.2.1; omega) hb
      omega
    · rw [g2 hs] at hv; cases hv
theorem Fill.small {a : AJ} {act s x : Nat} {F : Nat → Option Nat} (hV : AV a) (hact : act < 256) (h : Fill a act s x F) {t v : Nat} (ht : t ≤ act) (hv : F t = some v) : v ≤ 112 := by
  have := h.le hV hact t ht v hv
  have := pc_le t
  omega
/-- the table holds F, up to act -/
def FT (S : VX4) (act : Nat) (F : Nat → Option Nat) : Prop := S.2 = nI act ∧ ∀ t, t ≤ act → S.1 t = oI (F t)
theorem x4_inner {J : VX2} {a : AJ} (hJ : JR J a) (hV : AV a) {act s : Nat} (hact : act < 2 ^ aN a) (hs : s < act) (r : VX4 → VX2 → Int32 → Option VX4) {S : VX4} {F : Nat → Option Nat} (hT : FT S act F) (hF : Fill a act s 0 F) :
    ∃ S' F', FT S' act F' ∧ Fill a act (s + 1) 0 F' ∧ f_X4_fill_64 r 4096 S J (nI s) 0 = r S' J (nI (s + 1)) := by
  have hn := hV.2.1
  have ha : act < 256 := Nat.lt_of_lt_of_le hact (Nat.pow_le_pow_right (show 2 > 0 by decide) hn)
  refine loop_up (fun f (S : VX4) v4 => f_X4_fill_64 r f S J (nI s) v4) 8 (fun x S => ∃ F, FT S act F ∧ Fill a act s x F) (fun o => ∃ S' F', FT S' act F' ∧ Fill a act (s + 1) 0 F' ∧ o = r S' J (nI (s + 1))) ?_ ?_ 4096 0 S (by omega) ⟨F, hT, hF⟩ (by omega)
  · rintro n S ⟨F, hT, hF⟩
    refine ⟨S, F, hT, hF.next (Or.inr hn), ?_⟩
    show f_X4_fill_64 r (n + 1) S J (nI s) (nI 8) = _
    rw [f_X4_fill_64, if_pos (by decide), nI_1]
  · rintro n S x hx ⟨F, hT, hF⟩
    show _ ∨ ∃ s', _ ∧ f_X4_fill_64 r (n + 1) S J (nI s) (nI x) = f_X4_fill_64 r n s' J (nI s) (nI (x + 1))
    rw [f_X4_fill_64, if_neg (show ¬ (8 : Int32) ≤ nI x from nI_ge hx (by decide)), zIn_t (show s < 256 by omega) (by decide), if_pos rfl, nI_clamp (by omega), hT.2 s (by omega)]
    cases hr : F s with
    | none =>
      left
      exact ⟨S, F, hT, hF.next (Or.inl hr), by rw [oI_none, if_pos rfl, nI_1]⟩
    | some rr =>
      have hrr := hF.small hV ha (show s ≤ act by omega) hr
      right
      rw [oI_some, if_neg (nI_m9 (by omega)), n_one (by omega), n_or]
      have h9 : s ||| 2 ^ x < 2 ^ 9 := Nat.or_lt_two_pow (show s < 2 ^ 9 by omega) (Nat.pow_lt_pow_right (by decide) (by omega))
      have h9' : s ||| 2 ^ x < 512 := h9
      by_cases c1 : s.testBit x = true
      · rw [if_pos (by rw [or_same.2 c1])]
        exact ⟨S, ⟨F, hT, hF.skip (fun _ _ _ hb => by rw [c1] at hb; cases hb)⟩, by rw [nI_1]⟩
      have c1' : s.testBit x = false := by simpa using c1
      rw [if_neg (fun e => c1 (or_same.1 ((nI_eq (by omega) (by omega)).1 e))), hT.1, n_sd]
      by_cases c2 : sd (s ||| 2 ^ x) act = 0
      · have hle := sd0_le c2
        have hax : act.testBit x = true := sd0.1 c2 x or_bit
        have hxn : x < aN a := Classical.byContradiction fun h => by rw [s_out hact (show aN a ≤ x by omega)] at hax; cases hax
        have hsa : ∀ z, s.testBit z = true → act.testBit z = true := fun z hz => sd0.1 c2 z (by rw [Nat.testBit_or, hz, Bool.true_or])
        rw [if_pos (by rw [c2]; rfl), x2_cost hJ hV hxn (by omega) ha hsa hax, Option.bind_some, if_pos rfl]
        cases hc : costC a x s act with
        | none =>
          exact ⟨S, ⟨F, hT, hF.skip (fun _ _ _ _ r c _ e => by rw [hc] at e; cases e)⟩, by rw [oI_none, if_pos rfl, nI_1]⟩
        | some c =>
          have hcc := costC_le hV hxn hc
          rw [oI_some, if_neg (nI_m9 (by omega)), zIn_t (show s ||| 2 ^ x < 256 by omega) (by decide), if_pos rfl, nI_clamp (show s ||| 2 ^ x < 2 ^ 31 by omega), hT.2 _ hle, nI_add]
          simp only [if_T]
          cases hq : F (s ||| 2 ^ x) with
          | none =>
            rw [oI_none, if_pos rfl]
            refine ⟨(upd S.1 (s ||| 2 ^ x) (nI (rr + c)), nI act), ⟨fun t => if t = s ||| 2 ^ x then omin (F t) (some (rr + c)) else F t, ⟨rfl, fun t ht => ?_⟩, hF.push hxn hle c2 c1' hr hc (if_pos rfl) (fun t ht => if_neg ht)⟩, by rw [nI_1]⟩
            show upd S.1 (s ||| 2 ^ x) (nI (rr + c)) t = oI (if _ then _ else _)
            rw [upd_at]
            by_cases e : t = s ||| 2 ^ x
            · rw [if_pos e, if_pos e, e, hq]; rfl
            · rw [if_neg e, if_neg e]; exact hT.2 t ht
          | some m =>
            have hm := hF.small hV ha hle hq
            rw [oI_some, if_neg (nI_m9 (by omega))]
            by_cases c3 : m ≤ rr + c
            · rw [if_pos (nI_le c3 (by omega))]
              refine ⟨S, ⟨fun t => if t = s ||| 2 ^ x then omin (F t) (some (rr + c)) else F t, ⟨hT.1, fun t ht => ?_⟩, hF.push hxn hle c2 c1' hr hc (if_pos rfl) (fun t ht => if_neg ht)⟩, by rw [nI_1]⟩
              rw [hT.2 t ht]
              by_cases e : t = s ||| 2 ^ x
              · show _ = oI (if _ then _ else _)
                rw [if_pos e, e, hq]
                show nI m = nI (min m (rr + c))
                rw [Nat.min_eq_left c3]
              · show _ = oI (if _ then _ else _)
                rw [if_neg e]
            · rw [if_neg (nI_ge (by omega) (by omega))]
              refine ⟨(upd S.1 (s ||| 2 ^ x) (nI (rr + c)), nI act), ⟨fun t => if t = s ||| 2 ^ x then omin (F t) (some (rr + c)) else F t, ⟨rfl, fun t ht => ?_⟩, hF.push hxn hle c2 c1' hr hc (if_pos rfl) (fun t ht => if_neg ht)⟩, by rw [nI_1]⟩
              show upd S.1 (s ||| 2 ^ x) (nI (rr + c)) t = oI (if _ then _ else _)
              rw [upd_at]
              by_cases e : t = s ||| 2 ^ x
              · rw [if_pos e, if_pos e, e, hq]
                show nI (rr + c) = nI (min m (rr + c))
                rw [Nat.min_eq_right (by omega)]
              · rw [if_neg e, if_neg e]; exact hT.2 t ht
      · rw [if_neg (fun e => c2 ((nI0_eq (Nat.lt_of_lt_of_le (sd_lt h9) (by decide))).1 e))]
        exact ⟨S, ⟨F, hT, hF.skip (fun _ _ q _ => absurd q c2)⟩, by rw [nI_1]⟩
/-- the class' fill: the fewest favours of every set up to act -/
theorem x4_fill {J : VX2} {a : AJ} (hJ : JR J a) (hV : AV a) {act : Nat} (hact : act < 2 ^ aN a) (S : VX4) :
    ∃ S' R, f_X4_fill S J (nI act) = some S' ∧ FT S' act R ∧ IsR a act (act + 1) R := by
  have hn := hV.2.1
  have ha : act < 256 := Nat.lt_of_lt_of_le hact (Nat.pow_le_pow_right (show 2 > 0 by decide) hn)
  have outer : ∀ (S : VX4) (F : Nat → Option Nat), FT S act F → Fill a act 0 0 F → ∃ S' R, f_X4_fill_53 4096 S J 0 = some S' ∧ FT S' act R ∧ IsR a act (act + 1) R := by
    intro S F hT hF
    refine loop_up (fun f (S : VX4) v3 => f_X4_fill_53 f S J v3) act (fun s S => ∃ F, FT S act F ∧ Fill a act s 0 F) (fun o => ∃ S' R, o = some S' ∧ FT S' act R ∧ IsR a act (act + 1) R) ?_ ?_ 4096 0 S (Nat.zero_le _) ⟨F, hT, hF⟩ (by omega)
    · rintro n S ⟨F, hT, hF⟩
      refine ⟨S, F, ?_, hT, hF.done⟩
      show f_X4_fill_53 (n + 1) S J (nI act) = _
      rw [f_X4_fill_53, hT.1, if_pos (nI_le (Nat.le_refl _) (by omega))]
    · rintro n S s hs ⟨F, hT, hF⟩
      right
      obtain ⟨S', F', hT', hF', e⟩ := x4_inner hJ hV hact hs (f_X4_fill_53 n) hT hF
      refine ⟨S', ⟨F', hT', hF'⟩, ?_⟩
      show f_X4_fill_53 (n + 1) S J (nI s) = _
      rw [f_X4_fill_53, hT.1, if_neg (nI_ge hs (by omega)), e]
  have init : ∀ S : VX4, S.2 = nI act → S.1 0 = 0 → ∃ S' R, f_X4_fill_29 4096 S J 1 = some S' ∧ FT S' act R ∧ IsR a act (act + 1) R := by
    intro S hA h0
    refine loop_up (fun f (S : VX4) v3 => f_X4_fill_29 f S J v3) (act + 1) (fun s S => 0 < s ∧ S.2 = nI act ∧ S.1 0 = 0 ∧ ∀ t, 0 < t → t < s → S.1 t = -9) (fun o => ∃ S' R, o = some S' ∧ FT S' act R ∧ IsR a act (act + 1) R) ?_ ?_ 4096 1 S (by omega) ⟨by decide, hA, h0, fun t _ _ => by omega⟩ (by omega)
    · rintro n S ⟨-, hA, h0, hx⟩
      show ∃ S' R, f_X4_fill_29 (n + 1) S J (nI (act + 1)) = some S' ∧ _
      rw [f_X4_fill_29, hA, if_pos (nI_lt (by omega) (by omega))]
      refine outer S (fun t => if t = 0 then some 0 else none) ⟨hA, fun t ht => ?_⟩ (Fill.start (if_pos rfl) fun t h1 h2 => if_neg (by omega))
      show _ = oI (if _ then _ else _)
      by_cases e : t = 0
      · rw [if_pos e, e, h0]; rfl
      · rw [if_neg e, hx t (by omega) (by omega)]; rfl
    · rintro n S s hs ⟨hs0, hA, h0, hx⟩
      right
      refine ⟨((upd S.1 s (-9)), S.2), ⟨by omega, hA, ?_, fun t h1 h2 => ?_⟩, ?_⟩
      · show upd S.1 s (-9) 0 = 0
        rw [upd_at, if_neg (by omega)]; exact h0
      · show upd S.1 s (-9) t = -9
        rw [upd_at]
        by_cases e : t = s
        · rw [if_pos e]
        · rw [if_neg e]; exact hx t h1 (by omega)
      · show f_X4_fill_29 (n + 1) S J (nI s) = f_X4_fill_29 n _ J (nI (s + 1))
        rw [f_X4_fill_29, hA, if_neg (nI_nlt (by omega) (by omega)), zIn_t (show s < 256 by omega) (by decide), if_pos rfl, nI_clamp (by omega), nI_1]
  unfold f_X4_fill
  rw [if_neg (nI_pos (by omega)), if_neg (show ¬ (256 : Int32) ≤ nI act from nI_ge ha (by decide)), if_pos (by decide)]
  exact init _ rfl (by show upd S.1 0 0 0 = 0; exact if_pos rfl)
