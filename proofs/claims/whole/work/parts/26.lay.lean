/-! THE MODEL'S TABLES -/
def mLO (M : VX11) (l o : Nat → Int32) : VX11 := (M.1, M.2.1, M.2.2.1, M.2.2.2.1, M.2.2.2.2.1, M.2.2.2.2.2.1, M.2.2.2.2.2.2.1, M.2.2.2.2.2.2.2.1, M.2.2.2.2.2.2.2.2.1, M.2.2.2.2.2.2.2.2.2.1, M.2.2.2.2.2.2.2.2.2.2.1, M.2.2.2.2.2.2.2.2.2.2.2.1, M.2.2.2.2.2.2.2.2.2.2.2.2.1, M.2.2.2.2.2.2.2.2.2.2.2.2.2.1, M.2.2.2.2.2.2.2.2.2.2.2.2.2.2.1, M.2.2.2.2.2.2.2.2.2.2.2.2.2.2.2.1, M.2.2.2.2.2.2.2.2.2.2.2.2.2.2.2.2.1, M.2.2.2.2.2.2.2.2.2.2.2.2.2.2.2.2.2.1, M.2.2.2.2.2.2.2.2.2.2.2.2.2.2.2.2.2.2.1, M.2.2.2.2.2.2.2.2.2.2.2.2.2.2.2.2.2.2.2.1, M.2.2.2.2.2.2.2.2.2.2.2.2.2.2.2.2.2.2.2.2.1, M.2.2.2.2.2.2.2.2.2.2.2.2.2.2.2.2.2.2.2.2.2.1, l, o, M.2.2.2.2.2.2.2.2.2.2.2.2.2.2.2.2.2.2.2.2.2.2.2.2.1, M.2.2.2.2.2.2.2.2.2.2.2.2.2.2.2.2.2.2.2.2.2.2.2.2.2.1, M.2.2.2.2.2.2.2.2.2.2.2.2.2.2.2.2.2.2.2.2.2.2.2.2.2.2.1, M.2.2.2.2.2.2.2.2.2.2.2.2.2.2.2.2.2.2.2.2.2.2.2.2.2.2.2.1, M.2.2.2.2.2.2.2.2.2.2.2.2.2.2.2.2.2.2.2.2.2.2.2.2.2.2.2.2.1, M.2.2.2.2.2.2.2.2.2.2.2.2.2.2.2.2.2.2.2.2.2.2.2.2.2.2.2.2.2.1, M.2.2.2.2.2.2.2.2.2.2.2.2.2.2.2.2.2.2.2.2.2.2.2.2.2.2.2.2.2.2)
theorem mLO_R {M : VX11} {a : AJ} {l o : Nat → Int32} (h : MR M a) : MR (mLO M l o) a := h
theorem mLO_id (M : VX11) : mLO M M.2.2.2.2.2.2.2.2.2.2.2.2.2.2.2.2.2.2.2.2.2.2.1 M.2.2.2.2.2.2.2.2.2.2.2.2.2.2.2.2.2.2.2.2.2.2.2.1 = M := rfl
theorem mLO_mLO (M : VX11) (l o l' o' : Nat → Int32) : mLO (mLO M l o) l' o' = mLO M l' o' := rfl
theorem IsR.ext {a : AJ} {act k : Nat} {R : Nat → Option Nat} {m : Option Nat} (h : IsR a act k R) (hk : 0 < k) (hm : sd k act = 0 → IsMin m (fun v => ∃ x, x < aN a ∧ cand a act R k x v)) (hm' : sd k act ≠ 0 → m = none) : IsR a act (k + 1) (fun t => if t = k then m else R t) := by
  have eC : ∀ t x v, t ≤ k → (cand a act (fun t => if t = k then m else R t) t x v ↔ cand a act R t x v) := fun t x v ht => by
    unfold cand
    constructor
    · rintro ⟨hb, r, c, e1, e2⟩
      have := sd_less hb
      have e1 : (if sd t (2 ^ x) = k then m else R (sd t (2 ^ x))) = some r := e1
      rw [if_neg (by omega)] at e1
      exact ⟨hb, r, c, e1, e2⟩
    · rintro ⟨hb, r, c, e1, e2⟩
      have := sd_less hb
      refine ⟨hb, r, c, ?_, e2⟩
      show (if _ then _ else _) = _
      rw [if_neg (by omega)]; exact e1
  refine ⟨(if_neg (by omega)).trans h.1, fun t h0 ht => ?_⟩
  by_cases e : t = k
  · subst e
    show (_ → IsMin (if t = t then m else R t) _) ∧ (_ → (if t = t then m else R t) = none)
    rw [if_pos rfl]
    exact ⟨fun hs => (hm hs).congr fun v => ⟨fun ⟨x, h1, h2⟩ => ⟨x, h1, (eC _ _ _ (Nat.le_refl _)).2 h2⟩, fun ⟨x, h1, h2⟩ => ⟨x, h1, (eC _ _ _ (Nat.le_refl _)).1 h2⟩⟩, hm'⟩
  · show (_ → IsMin (if t = k then m else R t) _) ∧ (_ → (if t = k then m else R t) = none)
    rw [if_neg e]
    obtain ⟨g1, g2⟩ := h.2 t h0 (by omega)
    exact ⟨fun hs => (g1 hs).congr fun v => ⟨fun ⟨x, h1, h2⟩ => ⟨x, h1, (eC _ _ _ (by omega)).2 h2⟩, fun ⟨x, h1, h2⟩ => ⟨x, h1, (eC _ _ _ (by omega)).1 h2⟩⟩, g2⟩
theorem IsW.ext {a : AJ} {act k : Nat} {W G : Nat → Nat} (h : IsW a act k W) (hk : 0 < k) (hG : G k = if sd k act = 0 then sumB (wayC a act W k) (aN a) else 0) (hG' : ∀ t, t ≠ k → G t = W t) : IsW a act (k + 1) G := by
  have eC : ∀ t x, t ≤ k → wayC a act G t x = wayC a act W t x := fun t x ht => by
    unfold wayC
    by_cases hb : t.testBit x = true
    · have := sd_less hb
      rw [hG' _ (show sd t (2 ^ x) ≠ k by omega)]
    · rw [if_neg (fun q => hb q.1), if_neg (fun q => hb q.1)]
  refine ⟨(hG' 0 (by omega)).trans h.1, fun t h0 ht => ?_⟩
  rw [sumB_congr _ (fun i _ => eC t i (by omega))]
  by_cases e : t = k
  · subst e; exact hG
  · exact (hG' t e).trans (h.2 t h0 (by omega))
