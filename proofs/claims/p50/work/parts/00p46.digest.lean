/-! THE STEPS: digest -/
def mH (M : VX11) (h : Int64) : VX11 := (M.1, M.2.1, M.2.2.1, M.2.2.2.1, M.2.2.2.2.1, M.2.2.2.2.2.1, M.2.2.2.2.2.2.1, M.2.2.2.2.2.2.2.1, M.2.2.2.2.2.2.2.2.1, M.2.2.2.2.2.2.2.2.2.1, M.2.2.2.2.2.2.2.2.2.2.1, M.2.2.2.2.2.2.2.2.2.2.2.1, M.2.2.2.2.2.2.2.2.2.2.2.2.1, M.2.2.2.2.2.2.2.2.2.2.2.2.2.1, M.2.2.2.2.2.2.2.2.2.2.2.2.2.2.1, M.2.2.2.2.2.2.2.2.2.2.2.2.2.2.2.1, M.2.2.2.2.2.2.2.2.2.2.2.2.2.2.2.2.1, M.2.2.2.2.2.2.2.2.2.2.2.2.2.2.2.2.2.1, M.2.2.2.2.2.2.2.2.2.2.2.2.2.2.2.2.2.2.1, M.2.2.2.2.2.2.2.2.2.2.2.2.2.2.2.2.2.2.2.1, M.2.2.2.2.2.2.2.2.2.2.2.2.2.2.2.2.2.2.2.2.1, M.2.2.2.2.2.2.2.2.2.2.2.2.2.2.2.2.2.2.2.2.2.1, M.2.2.2.2.2.2.2.2.2.2.2.2.2.2.2.2.2.2.2.2.2.2.1, M.2.2.2.2.2.2.2.2.2.2.2.2.2.2.2.2.2.2.2.2.2.2.2.1, M.2.2.2.2.2.2.2.2.2.2.2.2.2.2.2.2.2.2.2.2.2.2.2.2.1, M.2.2.2.2.2.2.2.2.2.2.2.2.2.2.2.2.2.2.2.2.2.2.2.2.2.1, M.2.2.2.2.2.2.2.2.2.2.2.2.2.2.2.2.2.2.2.2.2.2.2.2.2.2.1, M.2.2.2.2.2.2.2.2.2.2.2.2.2.2.2.2.2.2.2.2.2.2.2.2.2.2.2.1, M.2.2.2.2.2.2.2.2.2.2.2.2.2.2.2.2.2.2.2.2.2.2.2.2.2.2.2.2.1, M.2.2.2.2.2.2.2.2.2.2.2.2.2.2.2.2.2.2.2.2.2.2.2.2.2.2.2.2.2.1, h)
theorem mH_mix (M : VX11) (h v : Int64) : f_X11_mix (mH M h) v = some (mH M (31 * h + v)) := rfl
theorem mH_R {M : VX11} {a : AJ} (h : MR M a) (z : Int64) : MR (mH M z) a := h
/-- a door's words, and who quarrels -/
def hd (a : AJ) (x : Nat) (h : Int64) : Nat → Int64
  | 0 => h
  | k + 1 => 31 * hd a x h k + (dI a x k).toInt64
def hj (a : AJ) (h : Int64) : Nat → Int64
  | 0 => h
  | x + 1 => 31 * hd a x (hj a h x) 4 + (nI (aF a x)).toInt64
theorem x2_mix {J : VX2} {a : AJ} (hJ : JR J a) (hV : AV a) (h : Int64) : f_X2_mix J h = some (hj a h (aN a)) := by
  have hn := hV.2.1
  unfold f_X2_mix
  refine loop_is (fun f h v3 => f_X2_mix_2 f J h v3) (hj a h) 0 (aN a) _ (fun n => ?_) (fun n x _ hx => ?_) 4096 0 (Nat.le_refl _) (by omega) (by omega)
  · show f_X2_mix_2 (n + 1) J _ (nI (aN a)) = _
    rw [f_X2_mix_2, hJ.1, if_pos (nI_le (Nat.le_refl _) (by omega))]
  · show f_X2_mix_2 (n + 1) J (hj a h x) (nI x) = f_X2_mix_2 n J (31 * hd a x (hj a h x) 4 + (nI (aF a x)).toInt64) (nI (x + 1))
    generalize hj a h x = h
    rw [f_X2_mix_2, hJ.1, if_neg (nI_ge hx (by omega))]
    refine loop_is (fun f h v4 => f_X2_mix_13 (f_X2_mix_2 n) f J h (nI x) v4) (hd a x h) 0 4 _ (fun m => ?_) (fun m k _ hk => ?_) 4096 0 (Nat.le_refl _) (by omega) (by omega)
    · show f_X2_mix_13 (f_X2_mix_2 n) (m + 1) J (hd a x h 4) (nI x) (nI 4) = _
      rw [f_X2_mix_13, if_pos (by decide), zIn_t (show x < 8 by omega) (by decide), if_pos rfl, nI_clamp (by omega), (hJ.2.2.2 x hx).2.2.2.2, nI_1]
    · show f_X2_mix_13 (f_X2_mix_2 n) (m + 1) J (hd a x h k) (nI x) (nI k) = f_X2_mix_13 (f_X2_mix_2 n) m J (31 * hd a x h k + (dI a x k).toInt64) (nI x) (nI (k + 1))
      rw [f_X2_mix_13, if_neg (show ¬ (4 : Int32) ≤ nI k from nI_ge hk (by decide)), x2_door hJ hn hx hk, Option.bind_some, nI_1]
theorem m_mix20 {M : VX11} {a : AJ} (hM : MR M a) (hV : AV a) (h : Int64) : f_X11_mixJail_20 4096 (mH M h) 0 = f_X11_mixJail_75 4096 (mH M (hj a h (aN a))) 0 := by
  have hn := hV.2.1
  refine loop_is (fun f h v1 => f_X11_mixJail_20 f (mH M h) v1) (hj a h) 0 (aN a) _ (fun n => ?_) (fun n x _ hx => ?_) 4096 0 (Nat.le_refl _) (by omega) (by omega)
  · show f_X11_mixJail_20 (n + 1) (mH M (hj a h (aN a))) (nI (aN a)) = _
    rw [f_X11_mixJail_20, if_pos (show (mH M (hj a h (aN a))).2.2.2.2.2.2.2.2.2.2.1 ≤ nI (aN a) from by show M.2.2.2.2.2.2.2.2.2.2.1 ≤ _; rw [hM.1]; exact nI_le (Nat.le_refl _) (by omega))]
  · show f_X11_mixJail_20 (n + 1) (mH M (hj a h x)) (nI x) = f_X11_mixJail_20 n (mH M (31 * hd a x (hj a h x) 4 + (nI (aF a x)).toInt64)) (nI (x + 1))
    generalize hj a h x = h
    rw [f_X11_mixJail_20, if_neg (show ¬ (mH M h).2.2.2.2.2.2.2.2.2.2.1 ≤ nI x from by show ¬ M.2.2.2.2.2.2.2.2.2.2.1 ≤ _; rw [hM.1]; exact nI_ge hx (by omega))]
    refine loop_is (fun f h v2 => f_X11_mixJail_30 (f_X11_mixJail_20 n) f (mH M h) (nI x) v2) (hd a x h) 0 4 _ (fun m => ?_) (fun m k _ hk => ?_) 4096 0 (Nat.le_refl _) (by omega) (by omega)
    · show f_X11_mixJail_30 (f_X11_mixJail_20 n) (m + 1) (mH M (hd a x h 4)) (nI x) (nI 4) = _
      have e : (mH M (hd a x h 4)).2.2.2.2.2.2.2.2.2.2.2.2.1 x = nI (aF a x) := (hM.2 x hx).2.2.2.2
      rw [f_X11_mixJail_30, if_pos (by decide), zIn_t (show x < 8 by omega) (by decide), if_pos rfl, nI_clamp (by omega), e, mH_mix, Option.bind_some, nI_1]
    · show f_X11_mixJail_30 (f_X11_mixJail_20 n) (m + 1) (mH M (hd a x h k)) (nI x) (nI k) = f_X11_mixJail_30 (f_X11_mixJail_20 n) m (mH M (31 * hd a x h k + (dI a x k).toInt64)) (nI x) (nI (k + 1))
      have e : (mH M (hd a x h k)).2.2.2.2.2.2.2.2.2.2.2.1 (4 * x + k) = dI a x k := m_door hM hx hk
      rw [f_X11_mixJail_30, if_neg (show ¬ (4 : Int32) ≤ nI k from nI_ge hk (by decide)), show (4 : Int32) * nI x = nI (4 * x) from pk_mul 4 x, nI_add, zIn_t (show 4 * x + k < 32 by omega) (by decide), if_pos rfl, nI_clamp (by omega), e, mH_mix, Option.bind_some, nI_1]
/-! what was seen -/
def hs7 (cw : Nat → Nat) (cb : Nat → Bool) (h : Int64) : Nat → Int64
  | 0 => h
  | i + 1 => 31 * (31 * hs7 cw cb h i + (nI (cw i)).toInt64) + (bI (cb i)).toInt64
section
variable {Z : VX7} {M : VX11} {n m : Nat} {cw : Nat → Nat} {cb : Nat → Bool}
theorem x7_mix (hm : m ≤ 8) (s1 : Z.2.2 = nI m) (hs : ∀ i, i < m → cw i < n ∧ Z.1 i = nI (cw i) ∧ M.2.2.2.2.2.2.2.2.2.2.2.2.2.2.2.2.2.2.2.2.2.2.2.2.2.2.2.2.1 i = nI (cw i) ∧ Z.2.1 i = bI (cb i) ∧ M.2.2.2.2.2.2.2.2.2.2.2.2.2.2.2.2.2.2.2.2.2.2.2.2.2.2.2.2.2.1 i = bI (cb i)) (h : Int64) : f_X7_mix Z h = some (hs7 cw cb h m) := by
  unfold f_X7_mix
  refine loop_is (fun f h v3 => f_X7_mix_2 f Z h v3) (hs7 cw cb h) 0 m _ (fun f => ?_) (fun f i _ hi => ?_) 4096 0 (Nat.le_refl _) (by omega) (by omega)
  · show f_X7_mix_2 (f + 1) Z _ (nI m) = _
    rw [f_X7_mix_2, s1, if_pos (nI_le (Nat.le_refl _) (by omega))]
  · obtain ⟨g1, g2, g3, g4, g5⟩ := hs i hi
    show f_X7_mix_2 (f + 1) Z (hs7 cw cb h i) (nI i) = f_X7_mix_2 f Z (31 * (31 * hs7 cw cb h i + (nI (cw i)).toInt64) + (bI (cb i)).toInt64) (nI (i + 1))
    rw [f_X7_mix_2, s1, if_neg (nI_ge hi (by omega)), if_neg (show ¬ (8 : Int32) ≤ nI i from nI_ge (show i < 8 by omega) (by decide)), zIn_t (show i < 8 by omega) (by decide), if_pos rfl, if_pos rfl, nI_clamp (by omega), g2, g4, nI_1]
theorem m_mix75 (hm : m ≤ 8) (s2 : M.2.2.2.2.2.2.2.2.2.2.2.2.2.2.2.2.2.2.2.2.2.2.2.2.2.2.2.1 = nI m) (hs : ∀ i, i < m → cw i < n ∧ Z.1 i = nI (cw i) ∧ M.2.2.2.2.2.2.2.2.2.2.2.2.2.2.2.2.2.2.2.2.2.2.2.2.2.2.2.2.1 i = nI (cw i) ∧ Z.2.1 i = bI (cb i) ∧ M.2.2.2.2.2.2.2.2.2.2.2.2.2.2.2.2.2.2.2.2.2.2.2.2.2.2.2.2.2.1 i = bI (cb i)) (h : Int64) : f_X11_mixJail_75 4096 (mH M h) 0 = f_X11_mixJail_113 4096 (mH M (hs7 cw cb h m)) 0 := by
  refine loop_is (fun f h v1 => f_X11_mixJail_75 f (mH M h) v1) (hs7 cw cb h) 0 m _ (fun f => ?_) (fun f i _ hi => ?_) 4096 0 (Nat.le_refl _) (by omega) (by omega)
  · show f_X11_mixJail_75 (f + 1) (mH M (hs7 cw cb h m)) (nI m) = _
    rw [f_X11_mixJail_75, if_pos (show (mH M (hs7 cw cb h m)).2.2.2.2.2.2.2.2.2.2.2.2.2.2.2.2.2.2.2.2.2.2.2.2.2.2.2.1 ≤ nI m from by show M.2.2.2.2.2.2.2.2.2.2.2.2.2.2.2.2.2.2.2.2.2.2.2.2.2.2.2.1 ≤ _; rw [s2]; exact nI_le (Nat.le_refl _) (by omega))]
  · obtain ⟨g1, g2, g3, g4, g5⟩ := hs i hi
    show f_X11_mixJail_75 (f + 1) (mH M (hs7 cw cb h i)) (nI i) = f_X11_mixJail_75 f (mH M (31 * (31 * hs7 cw cb h i + (nI (cw i)).toInt64) + (bI (cb i)).toInt64)) (nI (i + 1))
    generalize hs7 cw cb h i = h
    have e1 : (mH M h).2.2.2.2.2.2.2.2.2.2.2.2.2.2.2.2.2.2.2.2.2.2.2.2.2.2.2.2.1 i = nI (cw i) := g3
    have e2 : (mH M (31 * h + (nI (cw i)).toInt64)).2.2.2.2.2.2.2.2.2.2.2.2.2.2.2.2.2.2.2.2.2.2.2.2.2.2.2.2.2.1 i = bI (cb i) := g5
    rw [f_X11_mixJail_75, if_neg (show ¬ (mH M h).2.2.2.2.2.2.2.2.2.2.2.2.2.2.2.2.2.2.2.2.2.2.2.2.2.2.2.1 ≤ nI i from by show ¬ M.2.2.2.2.2.2.2.2.2.2.2.2.2.2.2.2.2.2.2.2.2.2.2.2.2.2.2.1 ≤ _; rw [s2]; exact nI_ge hi (by omega)), zIn_t (show i < 8 by omega) (by decide), if_pos rfl, nI_clamp (by omega), e1, mH_mix, Option.bind_some, if_pos rfl, e2, mH_mix, Option.bind_some, nI_1]
end
/-! kept evenings -/
def hk3 (M : VX11) (h : Int64) : Nat → Int64
  | 0 => h
  | k + 1 => if M.2.2.2.2.2.2.2.2.2.2.2.2.2.2.2.2.2.2.2.2.1 k < 0 then 31 * hk3 M h k + (M.2.2.2.2.2.2.2.2.2.2.2.2.2.2.2.2.2.2.2.2.1 k).toInt64 else 31 * (31 * hk3 M h k + (M.2.2.2.2.2.2.2.2.2.2.2.2.2.2.2.2.2.2.2.2.1 k).toInt64) + (M.2.2.2.2.2.2.2.2.2.2.2.2.2.2.2.2.2.2.2.2.2.1 k).toInt64
section
variable {E : VX1} {M : VX11} {n : Nat}
theorem x1_mix (hn : n ≤ 8) (hk : ∀ k, k < 3 → E.1 k = M.2.2.2.2.2.2.2.2.2.2.2.2.2.2.2.2.2.2.2.2.1 k ∧ (M.2.2.2.2.2.2.2.2.2.2.2.2.2.2.2.2.2.2.2.2.1 k = -1 ∨ ((∃ g, g < 2 ^ n ∧ M.2.2.2.2.2.2.2.2.2.2.2.2.2.2.2.2.2.2.2.2.1 k = nI g) ∧ E.2.1 k = M.2.2.2.2.2.2.2.2.2.2.2.2.2.2.2.2.2.2.2.2.2.1 k))) (h : Int64) : f_X1_mixKept E h = some (hk3 M h 3) := by
  have hN : 2 ^ n ≤ 256 := Nat.pow_le_pow_right (show 2 > 0 by decide) hn
  unfold f_X1_mixKept
  refine loop_is (fun f h v3 => f_X1_mixKept_2 f E h v3) (hk3 M h) 0 3 _ (fun f => ?_) (fun f k _ hk3' => ?_) 4096 0 (Nat.le_refl _) (by omega) (by omega)
  · show f_X1_mixKept_2 (f + 1) E _ (nI 3) = _
    rw [f_X1_mixKept_2, if_pos (by decide)]
  · show f_X1_mixKept_2 (f + 1) E (hk3 M h k) (nI k) = f_X1_mixKept_2 f E (if M.2.2.2.2.2.2.2.2.2.2.2.2.2.2.2.2.2.2.2.2.1 k < 0 then 31 * hk3 M h k + (M.2.2.2.2.2.2.2.2.2.2.2.2.2.2.2.2.2.2.2.2.1 k).toInt64 else 31 * (31 * hk3 M h k + (M.2.2.2.2.2.2.2.2.2.2.2.2.2.2.2.2.2.2.2.2.1 k).toInt64) + (M.2.2.2.2.2.2.2.2.2.2.2.2.2.2.2.2.2.2.2.2.2.1 k).toInt64) (nI (k + 1))
    obtain ⟨q1, q2⟩ := hk k hk3'
    have kept : f_X1_isKept E (nI k) = if M.2.2.2.2.2.2.2.2.2.2.2.2.2.2.2.2.2.2.2.2.1 k = -1 then some 0 else some 1 := by
      unfold f_X1_isKept
      rw [x1_numT hk3', Option.bind_some, if_neg i10, zIn_t hk3' (by decide), if_pos rfl, nI_clamp (by omega), q1]
    rw [f_X1_mixKept_2, if_neg (show ¬ (3 : Int32) ≤ nI k from nI_ge hk3' (by decide)), zIn_t hk3' (by decide), if_pos rfl, if_pos rfl, nI_clamp (by omega), kept, q1, nI_1]
    rcases q2 with q2 | ⟨⟨g, hg, q2⟩, q3⟩
    · rw [if_pos q2, Option.bind_some, if_pos rfl, if_pos (by rw [q2]; decide)]
    · rw [if_neg (by rw [q2]; exact nI_m1 (by omega)), Option.bind_some, if_neg i10, if_neg (by rw [q2]; exact nI_pos (by omega)), q3]
theorem m_mix113 (hn : n ≤ 8) (hk : ∀ k, k < 3 → M.2.2.2.2.2.2.2.2.2.2.2.2.2.2.2.2.2.2.2.2.1 k = -1 ∨ ∃ g, g < 2 ^ n ∧ M.2.2.2.2.2.2.2.2.2.2.2.2.2.2.2.2.2.2.2.2.1 k = nI g) (h : Int64) : f_X11_mixJail_113 4096 (mH M h) 0 = some (mH M (hk3 M h 3)) := by
  have hN : 2 ^ n ≤ 256 := Nat.pow_le_pow_right (show 2 > 0 by decide) hn
  refine loop_is (fun f h v1 => f_X11_mixJail_113 f (mH M h) v1) (hk3 M h) 0 3 _ (fun f => ?_) (fun f k _ hk3' => ?_) 4096 0 (Nat.le_refl _) (by omega) (by omega)
  · show f_X11_mixJail_113 (f + 1) (mH M (hk3 M h 3)) (nI 3) = _
    rw [f_X11_mixJail_113, if_pos (by decide)]
  · show f_X11_mixJail_113 (f + 1) (mH M (hk3 M h k)) (nI k) = f_X11_mixJail_113 f (mH M (if M.2.2.2.2.2.2.2.2.2.2.2.2.2.2.2.2.2.2.2.2.1 k < 0 then 31 * hk3 M h k + (M.2.2.2.2.2.2.2.2.2.2.2.2.2.2.2.2.2.2.2.2.1 k).toInt64 else 31 * (31 * hk3 M h k + (M.2.2.2.2.2.2.2.2.2.2.2.2.2.2.2.2.2.2.2.2.1 k).toInt64) + (M.2.2.2.2.2.2.2.2.2.2.2.2.2.2.2.2.2.2.2.2.2.1 k).toInt64)) (nI (k + 1))
    generalize hk3 M h k = h
    have e141 : ∀ t : Int64, f_X11_mixJail_141 (f_X11_mixJail_113 f) (mH M h) (nI k) t = if M.2.2.2.2.2.2.2.2.2.2.2.2.2.2.2.2.2.2.2.2.1 k < 0 then f_X11_mixJail_113 f (mH M (31 * h + t)) (nI (k + 1)) else f_X11_mixJail_113 f (mH M (31 * (31 * h + t) + (M.2.2.2.2.2.2.2.2.2.2.2.2.2.2.2.2.2.2.2.2.2.1 k).toInt64)) (nI (k + 1)) := fun t => by
      unfold f_X11_mixJail_141
      rw [mH_mix, Option.bind_some, zIn_t hk3' (by decide), if_pos rfl, if_pos rfl, nI_clamp (by omega), mH_mix, Option.bind_some, nI_1]
      rfl
    have eK : (mH M h).2.2.2.2.2.2.2.2.2.2.2.2.2.2.2.2.2.2.2.2.1 k = M.2.2.2.2.2.2.2.2.2.2.2.2.2.2.2.2.2.2.2.2.1 k := rfl
    rw [f_X11_mixJail_113, if_neg (show ¬ (3 : Int32) ≤ nI k from nI_ge hk3' (by decide)), zIn_t hk3' (by decide), if_pos rfl, if_pos rfl, nI_clamp (by omega), eK, e141, e141]
    rcases hk k hk3' with q2 | ⟨g, hg, q2⟩
    · rw [if_neg (show ¬ 0 ≤ M.2.2.2.2.2.2.2.2.2.2.2.2.2.2.2.2.2.2.2.2.1 k by rw [q2]; decide), if_pos (show M.2.2.2.2.2.2.2.2.2.2.2.2.2.2.2.2.2.2.2.2.1 k < 0 by rw [q2]; decide), if_pos (show M.2.2.2.2.2.2.2.2.2.2.2.2.2.2.2.2.2.2.2.2.1 k < 0 by rw [q2]; decide), q2]
      rfl
    · rw [if_pos (show 0 ≤ M.2.2.2.2.2.2.2.2.2.2.2.2.2.2.2.2.2.2.2.2.1 k by rw [q2]; exact nI_pos' (by omega)), if_neg (show ¬ M.2.2.2.2.2.2.2.2.2.2.2.2.2.2.2.2.2.2.2.2.1 k < 0 by rw [q2]; exact nI_pos (by omega)), if_neg (show ¬ M.2.2.2.2.2.2.2.2.2.2.2.2.2.2.2.2.2.2.2.2.1 k < 0 by rw [q2]; exact nI_pos (by omega))]
end
/-! rows, texts -/
def hr1 (f : Nat → Int32) (h : Int64) : Nat → Int64
  | 0 => h
  | i + 1 => 31 * hr1 f h i + (f i).toInt64
theorem hr1_cg {f g : Nat → Int32} (h : Int64) : ∀ n, (∀ i, i < n → f i = g i) → hr1 f h n = hr1 g h n
  | 0, _ => rfl
  | n + 1, e => by rw [hr1, hr1, hr1_cg h n (fun i hi => e i (by omega)), e n (by omega)]
/-- places of a size: -1 has none -/
def pl (s : Int32) : Nat := if s < 0 then 0 else s.toNatClampNeg
theorem pl_m1 : pl (-1) = 0 := by decide
theorem pl_nI {k : Nat} (hk : k < 2 ^ 31) : pl (nI k) = k := by
  unfold pl
  rw [if_neg (nI_pos hk), nI_clamp hk]
def hr6 (M : VX11) (h : Int64) : Nat → Int64
  | 0 => h
  | r + 1 => hr1 (fun i => M.2.2.2.2.2.2.1 (60 * r + i)) (31 * hr6 M h r + (M.2.2.2.2.2.1 r).toInt64) (pl (M.2.2.2.2.2.1 r))
def ht4 (M : VX11) (h : Int64) : Nat → Int64
  | 0 => h
  | r + 1 => hr1 (fun i => M.2.2.2.2.2.2.2.2.2.1 (100 * r + i)) (31 * ht4 M h r + (M.2.2.2.2.2.2.2.2.1 r).toInt64) (pl (M.2.2.2.2.2.2.2.2.1 r))
theorem x6_mix {Z : VX6} {M : VX11} (hZ : rr_rows Z M) (h : Int64) : f_X6_mix Z h = some (hr6 M h 6) := by
  unfold f_X6_mix
  refine loop_is (fun f h v3 => f_X6_mix_2 f Z h v3) (hr6 M h) 0 6 _ (fun f => ?_) (fun f r _ hr => ?_) 4096 0 (Nat.le_refl _) (by omega) (by omega)
  · show f_X6_mix_2 (f + 1) Z _ (nI 6) = _
    rw [f_X6_mix_2, if_pos (by decide)]
  · show f_X6_mix_2 (f + 1) Z (hr6 M h r) (nI r) = f_X6_mix_2 f Z (hr1 (fun i => M.2.2.2.2.2.2.1 (60 * r + i)) (31 * hr6 M h r + (M.2.2.2.2.2.1 r).toInt64) (pl (M.2.2.2.2.2.1 r))) (nI (r + 1))
    generalize hr6 M h r = h
    obtain ⟨e, h1 | ⟨k, hk, e1, e2⟩⟩ := hZ r hr
    · rw [f_X6_mix_2, if_neg (show ¬ (6 : Int32) ≤ nI r from nI_ge hr (by decide)), x6_size hr, Option.bind_some, e, h1, pl_m1]
      show f_X6_mix_24 (f_X6_mix_2 f) (4095 + 1) Z _ (nI r) 0 = _
      rw [f_X6_mix_24, x6_size hr, Option.bind_some, e, h1, if_pos (by decide), nI_1]; rfl
    · rw [f_X6_mix_2, if_neg (show ¬ (6 : Int32) ≤ nI r from nI_ge hr (by decide)), x6_size hr, Option.bind_some, e, e1, pl_nI (by omega)]
      generalize 31 * h + (nI k).toInt64 = h
      refine loop_is (fun g h v4 => f_X6_mix_24 (f_X6_mix_2 f) g Z h (nI r) v4) (hr1 (fun i => M.2.2.2.2.2.2.1 (60 * r + i)) h) 0 k _ (fun m => ?_) (fun m i _ hi => ?_) 4096 0 (Nat.le_refl _) (by omega) (by omega)
      · show f_X6_mix_24 (f_X6_mix_2 f) (m + 1) Z _ (nI r) (nI k) = _
        rw [f_X6_mix_24, x6_size hr, Option.bind_some, e, e1, if_pos (nI_le (Nat.le_refl _) (by omega)), nI_1]
      · show f_X6_mix_24 (f_X6_mix_2 f) (m + 1) Z (hr1 (fun i => M.2.2.2.2.2.2.1 (60 * r + i)) h i) (nI r) (nI i) = f_X6_mix_24 (f_X6_mix_2 f) m Z (31 * hr1 (fun i => M.2.2.2.2.2.2.1 (60 * r + i)) h i + (M.2.2.2.2.2.2.1 (60 * r + i)).toInt64) (nI r) (nI (i + 1))
        rw [f_X6_mix_24, x6_size hr, Option.bind_some, e, e1, if_neg (nI_ge hi (by omega)), x6_get hr hk (e.trans e1) hi, Option.bind_some, e2 i hi, nI_1]
theorem x8_mix {Z : VX8} {M : VX11} (hZ : rr_texts Z M) (h : Int64) : f_X8_mix Z h = some (ht4 M h 4) := by
  unfold f_X8_mix
  refine loop_is (fun f h v3 => f_X8_mix_2 f Z h v3) (ht4 M h) 0 4 _ (fun f => ?_) (fun f r _ hr => ?_) 4096 0 (Nat.le_refl _) (by omega) (by omega)
  · show f_X8_mix_2 (f + 1) Z _ (nI 4) = _
    rw [f_X8_mix_2, if_pos (by decide)]
  · show f_X8_mix_2 (f + 1) Z (ht4 M h r) (nI r) = f_X8_mix_2 f Z (hr1 (fun i => M.2.2.2.2.2.2.2.2.2.1 (100 * r + i)) (31 * ht4 M h r + (M.2.2.2.2.2.2.2.2.1 r).toInt64) (pl (M.2.2.2.2.2.2.2.2.1 r))) (nI (r + 1))
    generalize ht4 M h r = h
    obtain ⟨e, h1 | ⟨k, hk, e1, e2⟩⟩ := hZ r hr
    · rw [f_X8_mix_2, if_neg (show ¬ (4 : Int32) ≤ nI r from nI_ge hr (by decide)), x8_size hr, Option.bind_some, e, h1, pl_m1]
      show f_X8_mix_23 (f_X8_mix_2 f) (4095 + 1) Z _ (nI r) 0 = _
      rw [f_X8_mix_23, x8_size hr, Option.bind_some, e, h1, if_pos (by decide), nI_1]; rfl
    · rw [f_X8_mix_2, if_neg (show ¬ (4 : Int32) ≤ nI r from nI_ge hr (by decide)), x8_size hr, Option.bind_some, e, e1, pl_nI (by omega)]
      generalize 31 * h + (nI k).toInt64 = h
      refine loop_is (fun g h v4 => f_X8_mix_23 (f_X8_mix_2 f) g Z h (nI r) v4) (hr1 (fun i => M.2.2.2.2.2.2.2.2.2.1 (100 * r + i)) h) 0 k _ (fun m => ?_) (fun m i _ hi => ?_) 4096 0 (Nat.le_refl _) (by omega) (by omega)
      · show f_X8_mix_23 (f_X8_mix_2 f) (m + 1) Z _ (nI r) (nI k) = _
        rw [f_X8_mix_23, x8_size hr, Option.bind_some, e, e1, if_pos (nI_le (Nat.le_refl _) (by omega)), nI_1]
      · show f_X8_mix_23 (f_X8_mix_2 f) (m + 1) Z (hr1 (fun i => M.2.2.2.2.2.2.2.2.2.1 (100 * r + i)) h i) (nI r) (nI i) = f_X8_mix_23 (f_X8_mix_2 f) m Z (31 * hr1 (fun i => M.2.2.2.2.2.2.2.2.2.1 (100 * r + i)) h i + (M.2.2.2.2.2.2.2.2.2.1 (100 * r + i)).toInt64) (nI r) (nI (i + 1))
        rw [f_X8_mix_23, x8_size hr, Option.bind_some, e, e1, if_neg (nI_ge hi (by omega)), x8_get hr hk (e.trans e1) hi, Option.bind_some, e2 i hi, nI_1]
theorem m_dig37 {Z : VX6} {M : VX11} (hZ : rr_rows Z M) (h : Int64) : f_X11_digest_37 4096 (mH M h) 0 = f_X11_digest_91 4096 (mH M (hr6 M h 6)) 0 := by
  refine loop_is (fun f h v1 => f_X11_digest_37 f (mH M h) v1) (hr6 M h) 0 6 _ (fun f => ?_) (fun f r _ hr => ?_) 4096 0 (Nat.le_refl _) (by omega) (by omega)
  · show f_X11_digest_37 (f + 1) (mH M (hr6 M h 6)) (nI 6) = _
    rw [f_X11_digest_37, if_pos (by decide)]
  · show f_X11_digest_37 (f + 1) (mH M (hr6 M h r)) (nI r) = f_X11_digest_37 f (mH M (hr1 (fun i => M.2.2.2.2.2.2.1 (60 * r + i)) (31 * hr6 M h r + (M.2.2.2.2.2.1 r).toInt64) (pl (M.2.2.2.2.2.1 r)))) (nI (r + 1))
    generalize hr6 M h r = h
    have eS : ∀ h : Int64, (mH M h).2.2.2.2.2.1 r = M.2.2.2.2.2.1 r := fun _ => rfl
    rw [f_X11_digest_37, if_neg (show ¬ (6 : Int32) ≤ nI r from nI_ge hr (by decide)), zIn_t hr (by decide), if_pos rfl, nI_clamp (by omega), eS, mH_mix, Option.bind_some]
    obtain ⟨e, h1 | ⟨k, hk, e1, e2⟩⟩ := hZ r hr
    · rw [h1, pl_m1]
      show f_X11_digest_56 (f_X11_digest_37 f) (4095 + 1) (mH M _) (nI r) 0 = _
      rw [f_X11_digest_56, zIn_t hr (by decide), if_pos rfl, nI_clamp (by omega), eS, h1, if_pos (by decide), nI_1]; rfl
    · rw [e1, pl_nI (by omega)]
      generalize 31 * h + (nI k).toInt64 = h
      refine loop_is (fun g h v2 => f_X11_digest_56 (f_X11_digest_37 f) g (mH M h) (nI r) v2) (hr1 (fun i => M.2.2.2.2.2.2.1 (60 * r + i)) h) 0 k _ (fun m => ?_) (fun m i _ hi => ?_) 4096 0 (Nat.le_refl _) (by omega) (by omega)
      · show f_X11_digest_56 (f_X11_digest_37 f) (m + 1) (mH M _) (nI r) (nI k) = _
        rw [f_X11_digest_56, zIn_t hr (by decide), if_pos rfl, nI_clamp (by omega), eS, e1, if_pos (nI_le (Nat.le_refl _) (by omega)), nI_1]
      · show f_X11_digest_56 (f_X11_digest_37 f) (m + 1) (mH M (hr1 (fun i => M.2.2.2.2.2.2.1 (60 * r + i)) h i)) (nI r) (nI i) = f_X11_digest_56 (f_X11_digest_37 f) m (mH M (31 * hr1 (fun i => M.2.2.2.2.2.2.1 (60 * r + i)) h i + (M.2.2.2.2.2.2.1 (60 * r + i)).toInt64)) (nI r) (nI (i + 1))
        rw [f_X11_digest_56, zIn_t hr (by decide), if_pos rfl, nI_clamp (by omega), eS, e1, if_neg (nI_ge hi (by omega)), show f_X11_rowAt (mH M (hr1 (fun i => M.2.2.2.2.2.2.1 (60 * r + i)) h i)) (nI r) (nI i) = some (M.2.2.2.2.2.2.1 (60 * r + i)) from m_at hr (show i < 60 by omega), Option.bind_some, mH_mix, Option.bind_some, nI_1]
theorem m_byte {M : VX11} {r k i : Nat} (hr : r < 4) (hk : k ≤ 100) (e : M.2.2.2.2.2.2.2.2.1 r = nI k) (hi : i < k) : f_X11_byteAt M (nI r) (nI i) = some (M.2.2.2.2.2.2.2.2.2.1 (100 * r + i)) := by
  unfold f_X11_byteAt
  rw [zIn_t hr (by decide), if_pos rfl, nI_clamp (by omega), e, if_neg (nI_ge hi (by omega)), show (100 : Int32) * nI r = nI (100 * r) from pk_mul 100 r, nI_add, zIn_t (show 100 * r + i < 400 by omega) (by decide), if_pos rfl, nI_clamp (by omega)]
theorem m_dig91 {Z : VX8} {M : VX11} (hZ : rr_texts Z M) (h : Int64) : f_X11_digest_91 4096 (mH M h) 0 = some (ht4 M h 4, mH M (ht4 M h 4)) := by
  refine loop_is (fun f h v1 => f_X11_digest_91 f (mH M h) v1) (ht4 M h) 0 4 _ (fun f => ?_) (fun f r _ hr => ?_) 4096 0 (Nat.le_refl _) (by omega) (by omega)
  · show f_X11_digest_91 (f + 1) (mH M (ht4 M h 4)) (nI 4) = _
    rw [f_X11_digest_91, if_pos (by decide)]; rfl
  · show f_X11_digest_91 (f + 1) (mH M (ht4 M h r)) (nI r) = f_X11_digest_91 f (mH M (hr1 (fun i => M.2.2.2.2.2.2.2.2.2.1 (100 * r + i)) (31 * ht4 M h r + (M.2.2.2.2.2.2.2.2.1 r).toInt64) (pl (M.2.2.2.2.2.2.2.2.1 r)))) (nI (r + 1))
    generalize ht4 M h r = h
    have eS : ∀ h : Int64, (mH M h).2.2.2.2.2.2.2.2.1 r = M.2.2.2.2.2.2.2.2.1 r := fun _ => rfl
    rw [f_X11_digest_91, if_neg (show ¬ (4 : Int32) ≤ nI r from nI_ge hr (by decide)), zIn_t hr (by decide), if_pos rfl, nI_clamp (by omega), eS, mH_mix, Option.bind_some]
    obtain ⟨e, h1 | ⟨k, hk, e1, e2⟩⟩ := hZ r hr
    · rw [h1, pl_m1]
      show f_X11_digest_109 (f_X11_digest_91 f) (4095 + 1) (mH M _) (nI r) 0 = _
      rw [f_X11_digest_109, zIn_t hr (by decide), if_pos rfl, nI_clamp (by omega), eS, h1, if_pos (by decide), nI_1]; rfl
    · rw [e1, pl_nI (by omega)]
      generalize 31 * h + (nI k).toInt64 = h
      refine loop_is (fun g h v2 => f_X11_digest_109 (f_X11_digest_91 f) g (mH M h) (nI r) v2) (hr1 (fun i => M.2.2.2.2.2.2.2.2.2.1 (100 * r + i)) h) 0 k _ (fun m => ?_) (fun m i _ hi => ?_) 4096 0 (Nat.le_refl _) (by omega) (by omega)
      · show f_X11_digest_109 (f_X11_digest_91 f) (m + 1) (mH M _) (nI r) (nI k) = _
        rw [f_X11_digest_109, zIn_t hr (by decide), if_pos rfl, nI_clamp (by omega), eS, e1, if_pos (nI_le (Nat.le_refl _) (by omega)), nI_1]
      · show f_X11_digest_109 (f_X11_digest_91 f) (m + 1) (mH M (hr1 (fun i => M.2.2.2.2.2.2.2.2.2.1 (100 * r + i)) h i)) (nI r) (nI i) = f_X11_digest_109 (f_X11_digest_91 f) m (mH M (31 * hr1 (fun i => M.2.2.2.2.2.2.2.2.2.1 (100 * r + i)) h i + (M.2.2.2.2.2.2.2.2.2.1 (100 * r + i)).toInt64)) (nI r) (nI (i + 1))
        rw [f_X11_digest_109, zIn_t hr (by decide), if_pos rfl, nI_clamp (by omega), eS, e1, if_neg (nI_ge hi (by omega)), show f_X11_byteAt (mH M (hr1 (fun i => M.2.2.2.2.2.2.2.2.2.1 (100 * r + i)) h i)) (nI r) (nI i) = some (M.2.2.2.2.2.2.2.2.2.1 (100 * r + i)) from m_byte hr hk e1 hi, Option.bind_some, mH_mix, Option.bind_some, nI_1]
section
variable {S : VX10} {M : VX11}
theorem st_digest (hR : RR S M) : ∃ r : Int64, ∃ M2 : VX11, f_X10_digest S = some r ∧ f_X11_digest M = some (r, M2) ∧ RR S M2 := by
  obtain ⟨hT, hr6', ht, a, ⟨hV, hJ, hM⟩, ⟨⟨g, hg, eg1, eg2⟩, hf, hk⟩, ⟨m, cw, cb, hm, s1, s2, hs⟩⟩ := id hR
  have hn := hV.2.1
  have hRH : ∀ h : Int64, RR S (mH M h) := fun h => by
    obtain ⟨hT, hr, ht, a, hA, hE, hZ⟩ := id hR
    exact ⟨hT, hr, ht, a, hA, hE, hZ⟩
  unfold f_X10_digest f_X11_digest
  refine loop_two (fun f (h : Int64) v3 => f_X10_digest_6 f S h v3) (fun f (h : Int64) v1 => f_X11_digest_9 f (mH M h) v1) 8 (fun _ h h' => h = h') (fun p q => ∃ r : Int64, ∃ M2 : VX11, p = some r ∧ q = some (r, M2) ∧ RR S M2) ?_ ?_ 4096 4096 0 17 17 (by omega) rfl (by omega) (by omega)
  · rintro n n' h _ rfl
    refine ⟨ht4 M (hr6 M (hk3 M (hs7 cw cb (hj a (31 * (31 * h + (M.2.2.2.2.2.2.2.2.2.2.2.2.2.2.2.2.2.2.1).toInt64) + (M.2.2.2.2.2.2.2.2.2.2.2.2.2.2.2.2.2.2.2.1).toInt64) (aN a)) m) 3) 6) 4, mH M (ht4 M (hr6 M (hk3 M (hs7 cw cb (hj a (31 * (31 * h + (M.2.2.2.2.2.2.2.2.2.2.2.2.2.2.2.2.2.2.1).toInt64) + (M.2.2.2.2.2.2.2.2.2.2.2.2.2.2.2.2.2.2.2.1).toInt64) (aN a)) m) 3) 6) 4), ?_, ?_, hRH (ht4 M (hr6 M (hk3 M (hs7 cw cb (hj a (31 * (31 * h + (M.2.2.2.2.2.2.2.2.2.2.2.2.2.2.2.2.2.2.1).toInt64) + (M.2.2.2.2.2.2.2.2.2.2.2.2.2.2.2.2.2.2.2.1).toInt64) (aN a)) m) 3) 6) 4)⟩
    · show f_X10_digest_6 (n + 1) S h (nI 8) = _
      rw [f_X10_digest_6, if_pos (by decide)]
      unfold f_X1_whoIsOut f_X1_favours
      rw [Option.bind_some, Option.bind_some, show S.2.2.2.2.2.1.2.2.1 = M.2.2.2.2.2.2.2.2.2.2.2.2.2.2.2.2.2.2.1 from eg1.trans eg2.symm, hf, x2_mix hJ hV, Option.bind_some, x7_mix (M := M) hm s1 hs, Option.bind_some, x1_mix hn hk, Option.bind_some, x6_mix hr6', Option.bind_some, x8_mix ht]; rfl
    · show f_X11_digest_9 (n' + 1) (mH M h) (nI 8) = _
      rw [f_X11_digest_9, if_pos (by decide)]
      unfold f_X11_mixJail
      rw [mH_mix, Option.bind_some, mH_mix, Option.bind_some, show ∀ z : Int64, (mH M z).2.2.2.2.2.2.2.2.2.2.2.2.2.2.2.2.2.2.2.1 = M.2.2.2.2.2.2.2.2.2.2.2.2.2.2.2.2.2.2.2.1 from fun _ => rfl, show (mH M h).2.2.2.2.2.2.2.2.2.2.2.2.2.2.2.2.2.2.1 = M.2.2.2.2.2.2.2.2.2.2.2.2.2.2.2.2.2.2.1 from rfl, m_mix20 hM hV, m_mix75 (Z := S.2.2.2.2.2.2.2.2.2) hm s2 hs, m_mix113 hn (fun k h3 => (hk k h3).2.imp id (fun q => q.1)), Option.bind_some, m_dig37 hr6', m_dig91 ht]
  · rintro n n' h _ w hw rfl
    right
    obtain ⟨c, e1, e2⟩ := cnt_both (hRH h) hw
    refine ⟨31 * h + c.toInt64, 31 * h + c.toInt64, rfl, ?_, ?_⟩
    · show f_X10_digest_6 (n + 1) S h (nI w) = _
      rw [f_X10_digest_6, if_neg (show ¬ (8 : Int32) ≤ nI w from nI_ge hw (by decide)), e1, Option.bind_some, nI_1]
    · show f_X11_digest_9 (n' + 1) (mH M h) (nI w) = _
      rw [f_X11_digest_9, if_neg (show ¬ (8 : Int32) ≤ nI w from nI_ge hw (by decide)), e2, Option.bind_some, mH_mix, Option.bind_some, nI_1]
end
