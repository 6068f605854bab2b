/-! THE MODEL'S TABLES -/
def mLO (M : VX11) (l o : Nat → Int32) : VX11 := (M.1, M.2.1, M.2.2.1, M.2.2.2.1, M.2.2.2.2.1, M.2.2.2.2.2.1, M.2.2.2.2.2.2.1, M.2.2.2.2.2.2.2.1, M.2.2.2.2.2.2.2.2.1, M.2.2.2.2.2.2.2.2.2.1, M.2.2.2.2.2.2.2.2.2.2.1, M.2.2.2.2.2.2.2.2.2.2.2.1, M.2.2.2.2.2.2.2.2.2.2.2.2.1, M.2.2.2.2.2.2.2.2.2.2.2.2.2.1, M.2.2.2.2.2.2.2.2.2.2.2.2.2.2.1, M.2.2.2.2.2.2.2.2.2.2.2.2.2.2.2.1, M.2.2.2.2.2.2.2.2.2.2.2.2.2.2.2.2.1, M.2.2.2.2.2.2.2.2.2.2.2.2.2.2.2.2.2.1, M.2.2.2.2.2.2.2.2.2.2.2.2.2.2.2.2.2.2.1, M.2.2.2.2.2.2.2.2.2.2.2.2.2.2.2.2.2.2.2.1, M.2.2.2.2.2.2.2.2.2.2.2.2.2.2.2.2.2.2.2.2.1, M.2.2.2.2.2.2.2.2.2.2.2.2.2.2.2.2.2.2.2.2.2.1, l, o, M.2.2.2.2.2.2.2.2.2.2.2.2.2.2.2.2.2.2.2.2.2.2.2.2.1, M.2.2.2.2.2.2.2.2.2.2.2.2.2.2.2.2.2.2.2.2.2.2.2.2.2.1, M.2.2.2.2.2.2.2.2.2.2.2.2.2.2.2.2.2.2.2.2.2.2.2.2.2.2.1, M.2.2.2.2.2.2.2.2.2.2.2.2.2.2.2.2.2.2.2.2.2.2.2.2.2.2.2.1, M.2.2.2.2.2.2.2.2.2.2.2.2.2.2.2.2.2.2.2.2.2.2.2.2.2.2.2.2.1, M.2.2.2.2.2.2.2.2.2.2.2.2.2.2.2.2.2.2.2.2.2.2.2.2.2.2.2.2.2.1, M.2.2.2.2.2.2.2.2.2.2.2.2.2.2.2.2.2.2.2.2.2.2.2.2.2.2.2.2.2.2)
theorem mLO_R {M : VX11} {a : AJ} {l o : Nat → Int32} (h : MR M a) : MR (mLO M l o) a := h
theorem mLO_id (M : VX11) : mLO M M.2.2.2.2.2.2.2.2.2.2.2.2.2.2.2.2.2.2.2.2.2.2.1 M.2.2.2.2.2.2.2.2.2.2.2.2.2.2.2.2.2.2.2.2.2.2.2.1 = M := rfl
theorem mLO_mLO (M : VX11) (l o l' o' : Nat → Int32) : mLO (mLO M l o) l' o' = mLO M l' o' := rfl
theorem IsR.ext {a : AJ} {act k : Nat} {R : Nat → Option Nat} {m : Option Nat} (h : IsR a act k R) (hk : 0 < k) (hm : sd k act = 0 → IsMin m (fun v => ∃ x, x < aN a ∧ cand a act R k x v)) (hm' : sd k act ≠ 0 → m = none) : IsR a act (k + 1) (fun t => if t = k then m else R t) := by
  have eC : ∀ t x v, t ≤ k → (cand a act (fun t => if t = k then m else R t) t x v ↔ cand a act R t x v) := fun t x v ht => by
    unfold cand
    constructor
    · rintro ⟨hb, r, c, e1, e2⟩
      have := sd_less hb
      have e1 : (if sd t (2 ^ x) = k then m else R (sd t (2 ^ x))) = some r := e1
      rw [if_neg (by omega)] at e1
      exact ⟨hb, r, c, e1, e2⟩
    · rintro ⟨hb, r, c, e1, e2⟩
      have := sd_less hb
      refine ⟨hb, r, c, ?_, e2⟩
      show (if _ then _ else _) = _
      rw [if_neg (by omega)]; exact e1
  refine ⟨(if_neg (by omega)).trans h.1, fun t h0 ht => ?_⟩
  by_cases e : t = k
  · subst e
    show (_ → IsMin (if t = t then m else R t) _) ∧ (_ → (if t = t then m else R t) = none)
    rw [if_pos rfl]
    exact ⟨fun hs => (hm hs).congr fun v => ⟨fun ⟨x, h1, h2⟩ => ⟨x, h1, (eC _ _ _ (Nat.le_refl _)).2 h2⟩, fun ⟨x, h1, h2⟩ => ⟨x, h1, (eC _ _ _ (Nat.le_refl _)).1 h2⟩⟩, hm'⟩
  · show (_ → IsMin (if t = k then m else R t) _) ∧ (_ → (if t = k then m else R t) = none)
    rw [if_neg e]
    obtain ⟨g1, g2⟩ := h.2 t h0 (by omega)
    exact ⟨fun hs => (g1 hs).congr fun v => ⟨fun ⟨x, h1, h2⟩ => ⟨x, h1, (eC _ _ _ (by omega)).2 h2⟩, fun ⟨x, h1, h2⟩ => ⟨x, h1, (eC _ _ _ (by omega)).1 h2⟩⟩, g2⟩
theorem IsW.ext {a : AJ} {act k : Nat} {W G : Nat → Nat} (h : IsW a act k W) (hk : 0 < k) (hG : G k = if sd k act = 0 then sumB (wayC a act W k) (aN a) else 0) (hG' : ∀ t, t ≠ k → G t = W t) : IsW a act (k + 1) G := by
  have eC : ∀ t x, t ≤ k → wayC a act G t x = wayC a act W t x := fun t x ht => by
    unfold wayC
    by_cases hb : t.testBit x = true
    · have := sd_less hb
      rw [hG' _ (show sd t (2 ^ x) ≠ k by omega)]
    · rw [if_neg (fun q => hb q.1), if_neg (fun q => hb q.1)]
  refine ⟨(hG' 0 (by omega)).trans h.1, fun t h0 ht => ?_⟩
  rw [sumB_congr _ (fun i _ => eC t i (by omega))]
  by_cases e : t = k
  · subst e; exact hG
  · exact (hG' t e).trans (h.2 t h0 (by omega))
theorem m_layInner {M : VX11} {a : AJ} (hM : MR M a) (hV : AV a) {act k : Nat} (hact : act < 256) (hk0 : 0 < k) (hk : k < 2 ^ aN a) {R : Nat → Option Nat} {W : Nat → Nat} (hR : IsR a act k R) (hW : IsW a act k W) (r : VX11 → Int32 → Int32 → Option VX11)
    {l o : Nat → Int32} (hT : ∀ t, t < k → l t = nI (nv (R t)) ∧ o t = nI (W t)) (hl : l k = 1000) (ho : o k = 0) :
    ∃ l' o', f_X11_layLeasts_44 r 4096 (mLO M l o) (nI act) (nI k) 0 = r (mLO M l' o') (nI act) (nI (k + 1)) ∧ (∀ t, t < k → l' t = nI (nv (R t)) ∧ o' t = nI (W t)) ∧ ∃ m, l' k = nI (nv m) ∧ o' k = nI (if sd k act = 0 then sumB (wayC a act W k) (aN a) else 0) ∧ (sd k act = 0 → IsMin m (fun v => ∃ x, x < aN a ∧ cand a act R k x v)) ∧ (sd k act ≠ 0 → m = none) := by
  have hn := hV.2.1
  have hk8 : k < 256 := Nat.lt_of_lt_of_le hk (Nat.pow_le_pow_right (show 2 > 0 by decide) hn)
  have hn0 : 0 < aN a := Nat.pos_of_ne_zero fun e => by rw [e] at hk; have : (2 : Nat) ^ 0 = 1 := rfl; omega
  by_cases hs : sd k act = 0
  · refine loop_up (fun f (σ : (Nat → Int32) × (Nat → Int32)) v3 => f_X11_layLeasts_44 r f (mLO M σ.1 σ.2) (nI act) (nI k) v3) (aN a)
      (fun x σ => (∀ t, t < k → σ.1 t = nI (nv (R t)) ∧ σ.2 t = nI (W t)) ∧ ∃ m, σ.1 k = nI (nv m) ∧ IsMin m (fun v => ∃ y, y < x ∧ cand a act R k y v) ∧ σ.2 k = nI (sumB (wayC a act W k) x))
      (fun q => ∃ l' o', q = r (mLO M l' o') (nI act) (nI (k + 1)) ∧ (∀ t, t < k → l' t = nI (nv (R t)) ∧ o' t = nI (W t)) ∧ ∃ m, l' k = nI (nv m) ∧ o' k = nI (if sd k act = 0 then sumB (wayC a act W k) (aN a) else 0) ∧ (sd k act = 0 → IsMin m (fun v => ∃ x, x < aN a ∧ cand a act R k x v)) ∧ (sd k act ≠ 0 → m = none)) ?_ ?_ 4096 0 (l, o) (Nat.zero_le _) ⟨hT, none, hl, (fun v ⟨y, h, _⟩ => by omega), ho⟩ (by omega)
    · rintro n ⟨l, o⟩ ⟨hT, m, hm, hmin, hw⟩
      refine ⟨l, o, ?_, hT, m, hm, by rw [if_pos hs]; exact hw, fun _ => hmin, fun q => absurd hs q⟩
      show f_X11_layLeasts_44 r (n + 1) (mLO M l o) (nI act) (nI k) (nI (aN a)) = _
      rw [f_X11_layLeasts_44, show (mLO M l o).2.2.2.2.2.2.2.2.2.2.1 = nI (aN a) from hM.1, if_pos (nI_le (Nat.le_refl _) (by omega)), nI_1]
    · rintro n ⟨l, o⟩ x hx ⟨hT, m, hm, hmin, hw⟩
      right
      have hk31 : k < 2 ^ 31 := by omega
      have hsum : sumB (wayC a act W k) (x + 1) = sumB (wayC a act W k) x + wayC a act W k x := rfl
      show ∃ s' : (Nat → Int32) × (Nat → Int32), _ ∧ f_X11_layLeasts_44 r (n + 1) (mLO M l o) (nI act) (nI k) (nI x) = f_X11_layLeasts_44 r n (mLO M s'.1 s'.2) (nI act) (nI k) (nI (x + 1))
      have skip : wayC a act W k x = 0 → (∀ v, ¬ cand a act R k x v) → (∀ t, t < k → l t = nI (nv (R t)) ∧ o t = nI (W t)) ∧ ∃ m, l k = nI (nv m) ∧ IsMin m (fun v => ∃ y, y < x + 1 ∧ cand a act R k y v) ∧ o k = nI (sumB (wayC a act W k) (x + 1)) := fun hz hc => by
        refine ⟨hT, m, hm, hmin.congr fun v => ⟨fun ⟨y, h1, h2⟩ => ⟨y, by omega, h2⟩, fun ⟨y, h1, h2⟩ => ⟨y, ?_, h2⟩⟩, by rw [hsum, hz]; exact hw⟩
        by_cases e : y = x
        · subst e; exact absurd h2 (hc v)
        · omega
      rw [f_X11_layLeasts_44, if_neg (show ¬ (mLO M l o).2.2.2.2.2.2.2.2.2.2.1 ≤ nI x from by rw [show (mLO M l o).2.2.2.2.2.2.2.2.2.2.1 = nI (aN a) from hM.1]; exact nI_ge hx (by omega)), n_sd, hs, if_pos (show nI 0 = 0 from rfl), n_has hk31 (by omega), Option.bind_some, n_one (by omega), n_sd]
      by_cases hb : k.testBit x = true
      · have hless := sd_less hb
        have hb' : sd k (2 ^ x) < 2 ^ aN a := Nat.lt_trans hless hk
        rw [hb, if_neg (show ¬ bI true = 0 by decide), zIn_t (show sd k (2 ^ x) < 256 by omega) (by decide), if_pos rfl, nI_clamp (by omega),
          show (mLO M l o).2.2.2.2.2.2.2.2.2.2.2.2.2.2.2.2.2.2.2.2.2.2.2.1 (sd k (2 ^ x)) = nI (W (sd k (2 ^ x))) from (hT _ hless).2,
          show (mLO M l o).2.2.2.2.2.2.2.2.2.2.2.2.2.2.2.2.2.2.2.2.2.2.1 (sd k (2 ^ x)) = nI (nv (R (sd k (2 ^ x)))) from (hT _ hless).1,
          zIn_t (show k < 256 by omega) (by decide), nI_clamp (by omega)]
        simp only [if_tt]
        have hWs := hW.small hn (show k ≤ 256 by omega) hless
        have hRW := hR.ways hW _ hless
        cases hr : R (sd k (2 ^ x)) with
        | none =>
          have hw0 : W (sd k (2 ^ x)) = 0 := by
            rw [hr] at hRW
            by_cases c : 0 < W (sd k (2 ^ x))
            · exact absurd rfl (hRW.2 c)
            · omega
          rw [hw0, if_pos (by decide)]
          exact ⟨(l, o), skip (by unfold wayC; rw [hw0]; exact ite_self _) (fun v ⟨_, r', c', e1, _⟩ => by rw [hr] at e1; cases e1), by rw [nI_1]⟩
        | some rr =>
          have hw0 : 0 < W (sd k (2 ^ x)) := hRW.1 (by rw [hr]; simp)
          have hrr := hR.small hV (show k ≤ 256 by omega) hless hr
          rw [if_neg (nI_nle hw0 (by omega)), m_cost (mLO_R hM) hV hx hb' hact, Option.bind_some]
          cases hc : costC a x (sd k (2 ^ x)) act with
          | none =>
            rw [if_pos (by decide)]
            exact ⟨(l, o), skip (by unfold wayC; rw [if_neg (fun q => q.2 hc)]) (fun v ⟨_, r', c', _, e2, _⟩ => by rw [hc] at e2; cases e2), by rw [nI_1]⟩
          | some c =>
            have hcc := costC_le hV hx hc
            have hmb : nv m ≤ 1000 := by
              cases hmm : m with
              | none => exact Nat.le_refl _
              | some v =>
                rw [hmm] at hmin
                obtain ⟨⟨y, hy, hyb, r', c', e1, e2, e3⟩, -⟩ := hmin
                have := hR.small hV (show k ≤ 256 by omega) (sd_less hyb) e1
                have := costC_le hV (show y < aN a by omega) e2
                show v ≤ 1000; omega
            rw [if_neg (show ¬ (1000 : Int32) ≤ nI (nv (some c)) from nI_ge (show c < 1000 by omega) (by decide)), show (mLO M l o).2.2.2.2.2.2.2.2.2.2.2.2.2.2.2.2.2.2.2.2.2.2.1 k = nI (nv m) from hm, show (mLO M l o).2.2.2.2.2.2.2.2.2.2.2.2.2.2.2.2.2.2.2.2.2.2.2.1 k = nI (sumB (wayC a act W k) x) from hw,
              show nI (nv (some rr)) + nI (nv (some c)) = nI (rr + c) from nI_add _ _, n_lesser _ _ (by omega) (by omega), Option.bind_some, nI_add]
            simp only [if_T]
            refine ⟨(upd l k (nI (min (nv m) (rr + c))), upd o k (nI (sumB (wayC a act W k) x + W (sd k (2 ^ x))))), ⟨fun t ht => ?_, omin m (some (rr + c)), ?_, ?_, ?_⟩, by rw [nI_1]; exact congrArg (fun Z : VX11 => f_X11_layLeasts_44 r n Z (nI act) (nI k) (nI (x + 1))) (show _ = mLO M (upd l k (nI (min (nv m) (rr + c)))) (upd o k (nI (sumB (wayC a act W k) x + W (sd k (2 ^ x))))) from rfl)⟩
            · show upd l k _ t = _ ∧ upd o k _ t = _
              rw [upd_at, upd_at, if_neg (by omega), if_neg (by omega)]; exact hT t ht
            · show upd l k _ k = _
              rw [upd_at, if_pos rfl]
              cases m with
              | none => show nI (min 1000 (rr + c)) = nI (rr + c); rw [Nat.min_eq_right (by omega)]
              | some v => rfl
            · refine (hmin.add (rr + c)).congr fun v => ⟨?_, ?_⟩
              · rintro (⟨y, h1, h2⟩ | rfl)
                · exact ⟨y, by omega, h2⟩
                · exact ⟨x, by omega, hb, rr, c, hr, hc, rfl⟩
              · rintro ⟨y, h1, h2⟩
                by_cases e : y = x
                · subst e
                  obtain ⟨-, r', c', e1, e2, e3⟩ := h2
                  rw [hr] at e1; rw [hc] at e2; cases e1; cases e2
                  exact Or.inr e3
                · exact Or.inl ⟨y, by omega, h2⟩
            · show upd o k _ k = _
              rw [upd_at, if_pos rfl, hsum]
              unfold wayC
              rw [if_pos ⟨hb, by rw [hc]; simp⟩]
      · have hb0 : k.testBit x = false := by simpa using hb
        rw [hb0, if_pos (by decide)]
        exact ⟨(l, o), skip (by unfold wayC; rw [if_neg (fun q => hb q.1)]) (fun v h => hb h.1), by rw [nI_1]⟩
  · refine ⟨l, o, ?_, hT, none, hl, by rw [if_neg hs]; exact ho, fun q => absurd q hs, fun _ => rfl⟩
    show f_X11_layLeasts_44 r (4095 + 1) (mLO M l o) (nI act) (nI k) (nI 0) = _
    rw [f_X11_layLeasts_44, show (mLO M l o).2.2.2.2.2.2.2.2.2.2.1 = nI (aN a) from hM.1, if_neg (nI_ge hn0 (by omega)), n_sd, if_neg (fun e => hs ((nI0_eq (Nat.lt_of_lt_of_le (sd_lt (n := 8) hk8) (by decide))).1 e)), nI_1]
theorem m_layZero {M : VX11} {a : AJ} (hM : MR M a) (hn : aN a ≤ 8) {act : Nat} (r : VX11 → Int32 → Int32 → Option VX11) (l o : Nat → Int32) :
    f_X11_layLeasts_44 r 4096 (mLO M l o) (nI act) (nI 0) 0 = r (mLO M l o) (nI act) (nI 1) := by
  refine loop_up (fun f (_ : Unit) v3 => f_X11_layLeasts_44 r f (mLO M l o) (nI act) (nI 0) v3) (aN a) (fun _ _ => True) (fun q => q = r (mLO M l o) (nI act) (nI 1)) ?_ ?_ 4096 0 () (Nat.zero_le _) trivial (by omega)
  · intro n _ _
    show f_X11_layLeasts_44 r (n + 1) (mLO M l o) (nI act) (nI 0) (nI (aN a)) = _
    rw [f_X11_layLeasts_44, show (mLO M l o).2.2.2.2.2.2.2.2.2.2.1 = nI (aN a) from hM.1, if_pos (nI_le (Nat.le_refl _) (by omega)), nI_1]
  · intro n _ x hx _
    right
    refine ⟨(), trivial, ?_⟩
    show f_X11_layLeasts_44 r (n + 1) (mLO M l o) (nI act) (nI 0) (nI x) = f_X11_layLeasts_44 r n (mLO M l o) (nI act) (nI 0) (nI (x + 1))
    rw [f_X11_layLeasts_44, show (mLO M l o).2.2.2.2.2.2.2.2.2.2.1 = nI (aN a) from hM.1, if_neg (nI_ge hx (by omega)), n_sd, show sd 0 act = 0 from (by unfold sd; rw [Nat.zero_and, Nat.xor_zero]), if_pos (show nI 0 = 0 from rfl), n_has (by decide) (by omega), Option.bind_some, Nat.zero_testBit, if_pos (show bI false = 0 from rfl), nI_1]
theorem m_lay26a (M : VX11) (l o : Nat → Int32) (r : VX11 → Int32 → Int32 → Option VX11) (act k : Nat) (t : Int32) (hk : k < 256) (h0 : 0 < k) :
    f_X11_layLeasts_26 r (mLO M l o) (nI act) (nI k) t (nI k) = f_X11_layLeasts_44 r 4096 (mLO M (upd l k t) (upd o k 0)) (nI act) (nI k) 0 := by
  unfold f_X11_layLeasts_26
  rw [zIn_t hk (by decide), if_pos rfl, if_neg (nI_ne0 h0 (by omega)), if_pos rfl, nI_clamp (show k < 2 ^ 31 by omega)]
  exact congrArg (fun Z : VX11 => f_X11_layLeasts_44 r 4096 Z (nI act) (nI k) 0) (show _ = mLO M (upd l k t) (upd o k 0) from rfl)
theorem m_lay26b (M : VX11) (l o : Nat → Int32) (r : VX11 → Int32 → Int32 → Option VX11) (act : Nat) (t : Int32) :
    f_X11_layLeasts_26 r (mLO M l o) (nI act) (nI 0) t (nI 0) = f_X11_layLeasts_44 r 4096 (mLO M (upd l 0 t) (upd o 0 1)) (nI act) (nI 0) 0 := by
  unfold f_X11_layLeasts_26
  rw [zIn_t (show 0 < 256 by decide) (by decide), if_pos rfl, if_pos (show nI 0 = 0 from rfl), if_pos rfl, nI_clamp (show 0 < 2 ^ 31 by decide)]
  exact congrArg (fun Z : VX11 => f_X11_layLeasts_44 r 4096 Z (nI act) (nI 0) 0) (show _ = mLO M (upd l 0 t) (upd o 0 1) from rfl)
theorem m_lay0 {M : VX11} {a : AJ} (hM : MR M a) (hV : AV a) {act : Nat} (l o : Nat → Int32) (n : Nat) :
    f_X11_layLeasts_2 (n + 1) (mLO M l o) (nI act) (nI 0) = f_X11_layLeasts_2 n (mLO M (upd l 0 0) (upd o 0 1)) (nI act) (nI 1) := by
  have hn := hV.2.1
  have h1N : 0 < 2 ^ aN a := Nat.two_pow_pos _
  have hN : 2 ^ aN a ≤ 256 := Nat.pow_le_pow_right (show 2 > 0 by decide) hn
  rw [f_X11_layLeasts_2, m_all (show (mLO M l o).2.2.2.2.2.2.2.2.2.2.1 = nI (aN a) from hM.1) hn, Option.bind_some, if_neg (nI_nlt (Nat.zero_le _) (by omega)), if_pos (show nI 0 = 0 from rfl), m_lay26b]
  exact m_layZero hM hn _ _ _
theorem m_layS {M : VX11} {a : AJ} (hM : MR M a) (hV : AV a) {act : Nat} (hact : act < 256) {l o : Nat → Int32} (n : Nat) {k : Nat} (h0 : 0 < k) (hk : k < 2 ^ aN a) {R : Nat → Option Nat} {W : Nat → Nat} (hR : IsR a act k R) (hW : IsW a act k W) (hT : ∀ t, t < k → l t = nI (nv (R t)) ∧ o t = nI (W t)) :
    ∃ l' o', f_X11_layLeasts_2 (n + 1) (mLO M l o) (nI act) (nI k) = f_X11_layLeasts_2 n (mLO M l' o') (nI act) (nI (k + 1)) ∧ ∃ R W, IsR a act (k + 1) R ∧ IsW a act (k + 1) W ∧ ∀ t, t < k + 1 → l' t = nI (nv (R t)) ∧ o' t = nI (W t) := by
  have hn := hV.2.1
  have hN : 2 ^ aN a ≤ 256 := Nat.pow_le_pow_right (show 2 > 0 by decide) hn
  rw [f_X11_layLeasts_2, m_all (show (mLO M l o).2.2.2.2.2.2.2.2.2.2.1 = nI (aN a) from hM.1) hn, Option.bind_some, if_neg (nI_nlt (by omega) (by omega)), if_neg (nI_ne0 (by omega) (by omega)), m_lay26a M l o _ act k 1000 (by omega) h0]
  have hl : upd l k 1000 k = 1000 := if_pos rfl
  have ho : upd o k 0 k = 0 := if_pos rfl
  obtain ⟨l', o', e, hT', m, h1, h2, h3, h4⟩ := m_layInner hM hV hact h0 hk hR hW (f_X11_layLeasts_2 n) (l := upd l k 1000) (o := upd o k 0) (fun t ht => by rw [upd_at, upd_at, if_neg (by omega), if_neg (by omega)]; exact hT t ht) hl ho
  refine ⟨l', o', e, fun t => if t = k then m else R t, fun t => if t = k then (if sd k act = 0 then sumB (wayC a act W k) (aN a) else 0) else W t, hR.ext h0 h3 h4, hW.ext h0 (if_pos rfl) (fun t ht => if_neg ht), fun t ht => ?_⟩
  show l' t = nI (nv (if t = k then m else R t)) ∧ o' t = nI (if t = k then (if sd k act = 0 then sumB (wayC a act W k) (aN a) else 0) else W t)
  by_cases e : t = k
  · subst e; rw [if_pos rfl, if_pos rfl]; exact ⟨h1, h2⟩
  · rw [if_neg e, if_neg e]; exact hT' t (by omega)
theorem m_lay {M : VX11} {a : AJ} (hM : MR M a) (hV : AV a) {act : Nat} (hact : act < 256) :
    ∃ l o R W, f_X11_layLeasts M (nI act) = some (mLO M l o) ∧ IsR a act (2 ^ aN a) R ∧ IsW a act (2 ^ aN a) W ∧ ∀ t, t < 2 ^ aN a → l t = nI (nv (R t)) ∧ o t = nI (W t) := by
  have hn := hV.2.1
  have hN : 2 ^ aN a ≤ 256 := Nat.pow_le_pow_right (show 2 > 0 by decide) hn
  have h1N : 0 < 2 ^ aN a := Nat.two_pow_pos _
  unfold f_X11_layLeasts
  rw [show f_X11_layLeasts_2 4096 M (nI act) 0 = f_X11_layLeasts_2 4096 (mLO M M.2.2.2.2.2.2.2.2.2.2.2.2.2.2.2.2.2.2.2.2.2.2.1 M.2.2.2.2.2.2.2.2.2.2.2.2.2.2.2.2.2.2.2.2.2.2.2.1) (nI act) (nI 0) from congrArg (fun Z : VX11 => f_X11_layLeasts_2 4096 Z (nI act) (nI 0)) (mLO_id M).symm]
  refine loop_up (fun f (σ : (Nat → Int32) × (Nat → Int32)) v2 => f_X11_layLeasts_2 f (mLO M σ.1 σ.2) (nI act) v2) (2 ^ aN a)
    (fun k σ => ∃ R W, IsR a act k R ∧ IsW a act k W ∧ ∀ t, t < k → σ.1 t = nI (nv (R t)) ∧ σ.2 t = nI (W t))
    (fun q => ∃ l o R W, q = some (mLO M l o) ∧ IsR a act (2 ^ aN a) R ∧ IsW a act (2 ^ aN a) W ∧ ∀ t, t < 2 ^ aN a → l t = nI (nv (R t)) ∧ o t = nI (W t)) ?_ ?_ 4096 0 (M.2.2.2.2.2.2.2.2.2.2.2.2.2.2.2.2.2.2.2.2.2.2.1, M.2.2.2.2.2.2.2.2.2.2.2.2.2.2.2.2.2.2.2.2.2.2.2.1) (Nat.zero_le _) ⟨fun _ => some 0, fun _ => 1, ⟨rfl, fun t _ h => by omega⟩, ⟨rfl, fun t _ h => by omega⟩, fun t h => by omega⟩ (by omega)
  · rintro n ⟨l, o⟩ ⟨R, W, hR, hW, hT⟩
    refine ⟨l, o, R, W, ?_, hR, hW, hT⟩
    show f_X11_layLeasts_2 (n + 1) (mLO M l o) (nI act) (nI (2 ^ aN a)) = _
    rw [f_X11_layLeasts_2, m_all (show (mLO M l o).2.2.2.2.2.2.2.2.2.2.1 = nI (aN a) from hM.1) hn, Option.bind_some, if_pos (nI_lt (by omega) (by omega))]
  · rintro n ⟨l, o⟩ k hk ⟨R, W, hR, hW, hT⟩
    right
    by_cases h0 : k = 0
    · subst h0
      refine ⟨(upd l 0 0, upd o 0 1), ⟨fun _ => some 0, fun _ => 1, ⟨rfl, fun t h1 h2 => by omega⟩, ⟨rfl, fun t h1 h2 => by omega⟩, fun t ht => ?_⟩, m_lay0 hM hV l o n⟩
      have : t = 0 := by omega
      subst this
      exact ⟨rfl, rfl⟩
    · obtain ⟨l', o', e, R', W', g⟩ := m_layS hM hV hact n (show 0 < k by omega) hk hR hW hT
      exact ⟨(l', o'), ⟨R', W', g⟩, e⟩
