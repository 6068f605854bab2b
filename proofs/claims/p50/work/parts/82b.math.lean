/-! WHAT THE TABLES TELL OF EACH OTHER -/
/-- the same doors, no more foes -/
def sub2 (a a' : AJ) : Prop := aN a' = aN a ∧ aK a' = aK a ∧ aP a' = aP a ∧ aO a' = aO a ∧ aL a' = aL a ∧ ∀ x z, (aF a' x).testBit z = true → (aF a x).testBit z = true
theorem sub2.rf (a : AJ) : sub2 a a := ⟨rfl, rfl, rfl, rfl, rfl, fun _ _ h => h⟩
def kle (o o' : Option Nat) : Prop := ∀ c, o = some c → ∃ c', o' = some c' ∧ c' ≤ c
theorem keyC_mono {a a' : AJ} (h : sub2 a a') {act act' : Nat} (hact : ∀ z, act.testBit z = true → act'.testBit z = true) (x y s : Nat) : kle (keyC a x y s act) (keyC a' x y s act') := by
  obtain ⟨h1, h2, h3, h4, h5, h6⟩ := h
  intro c e
  have nf : ∀ z, (aF a x).testBit z = false → (aF a' x).testBit z = false := fun z q => by
    cases r : (aF a' x).testBit z with
    | false => rfl
    | true => rw [h6 x z r] at q; cases q
  have wl : ∀ w, wallC a x y s act = some w → wallC a' x y s act' = some w := fun w q => by
    unfold wallC at q ⊢
    split at q
    · rename_i p
      rw [if_pos]
      · exact q
      · intro z z0 z1 z2
        have := p z z0 z1 z2
        unfold wOk at this ⊢
        rw [h2]
        rw [Bool.and_eq_true, Bool.or_eq_true, Bool.and_eq_true, Bool.and_eq_true] at this ⊢
        refine ⟨this.1, this.2.imp id fun g => ⟨⟨hact z g.1.1, ?_⟩, g.2⟩⟩
        have g2 := g.1.2
        rw [Bool.not_eq_true'] at g2 ⊢
        exact nf z g2
    · cases q
  have hd : hndC a x s → hndC a' x s := fun ⟨z, z0, z1, z2, z3, z4⟩ => ⟨z, z0, z1, z2, by rw [h2]; exact z3, nf z z4⟩
  unfold keyC at e ⊢
  split at e
  · cases e
  rename_i c1
  rw [if_neg (fun q => by
    rcases q with q | q
    · cases r : act.testBit y with
      | false => exact c1 (Or.inl r)
      | true => rw [hact y r] at q; cases q
    · exact c1 (Or.inr (h6 x y q)))]
  split at e
  · rename_i c2
    rw [if_pos (show s.testBit y = true ∧ aK a' y ≠ 4 by rw [h2]; exact c2)]
    exact ⟨c, e, Nat.le_refl _⟩
  rename_i c2
  rw [if_neg (show ¬ (s.testBit y = true ∧ aK a' y ≠ 4) by rw [h2]; exact c2)]
  by_cases d : hndC a x s
  · rw [if_pos d] at e
    rw [if_pos (hd d)]
    cases hw : wallC a x y s act with
    | none =>
      rw [hw] at e
      cases e
      cases wallC a' x y s act' with
      | none => exact ⟨2, rfl, Nat.le_refl _⟩
      | some w => exact ⟨min 2 w, rfl, Nat.min_le_left _ _⟩
    | some w =>
      rw [hw] at e
      rw [wl w hw]
      exact ⟨c, e, Nat.le_refl _⟩
  · rw [if_neg d] at e
    cases hw : wallC a x y s act with
    | none => rw [hw] at e; cases e
    | some w =>
      rw [hw] at e
      have e : some w = some c := e
      have e : w = c := Option.some.inj e
      subst e
      rw [wl w hw]
      by_cases d' : hndC a' x s
      · rw [if_pos d']; exact ⟨min 2 w, rfl, Nat.min_le_right _ _⟩
      · rw [if_neg d']; exact ⟨w, rfl, Nat.le_refl _⟩
theorem costC_mono {a a' : AJ} (h : sub2 a a') {act act' : Nat} (hact : ∀ z, act.testBit z = true → act'.testBit z = true) (x s : Nat) : kle (costC a x s act) (costC a' x s act') := by
  have k1 := keyC_mono h hact x (aP a x) s
  have k2 := keyC_mono h hact x (aO a x) s
  obtain ⟨h1, h2, h3, h4, h5, h6⟩ := h
  intro c e
  unfold costC at e ⊢
  rw [h2, h3, h4, h5]
  split at e
  · rename_i q; rw [if_pos q]; exact ⟨c, e, Nat.le_refl _⟩
  rename_i q1
  rw [if_neg q1]
  split at e
  · cases e
  rename_i q2
  rw [if_neg q2]
  cases e1 : keyC a x (aP a x) s act with
  | none => rw [e1] at e; cases e
  | some v =>
    rw [e1] at e
    obtain ⟨v', f1, g1⟩ := k1 v e1
    rw [f1]
    have e : (if aK a x = 1 ∨ aK a x = 5 then (match keyC a x (aO a x) s act with | none => none | some d => some (v + d)) else some v) = some c := e
    show ∃ c', (if aK a x = 1 ∨ aK a x = 5 then (match keyC a' x (aO a x) s act' with | none => none | some d => some (v' + d)) else some v') = some c' ∧ c' ≤ c
    by_cases q3 : aK a x = 1 ∨ aK a x = 5
    · rw [if_pos q3] at e ⊢
      cases e2 : keyC a x (aO a x) s act with
      | none => rw [e2] at e; cases e
      | some w =>
        rw [e2] at e
        obtain ⟨w', f2, g2⟩ := k2 w e2
        rw [f2]
        cases e
        exact ⟨v' + w', rfl, by omega⟩
    · rw [if_neg q3] at e ⊢
      cases e
      exact ⟨v', rfl, g1⟩
/-- some alone acting, or more foes: no less dear, no more reached -/
theorem tab_mono {a a' : AJ} (h : sub2 a a') {act : Nat} (hact : act < (2 ^ aN a)) {R R' : Nat → Option Nat} {W' : Nat → Nat} (hR : IsR a act ((2 ^ aN a)) R) (hT : TA a' R' W') : ∀ t, t < (2 ^ aN a) → kle (R t) (R' t) := by
  have hN : (2 ^ aN a') = (2 ^ aN a) := by show 2 ^ aN a' = 2 ^ aN a; rw [h.1]
  have hfu : ∀ z, act.testBit z = true → ((2 ^ aN a' - 1)).testBit z = true := fun z hz => by
    show (2 ^ aN a' - 1).testBit z = true
    rw [h.1]; exact in_all hact hz
  intro t
  induction t using Nat.strongRecOn with
  | ind t ih =>
    intro ht v hv
    by_cases h0 : t = 0
    · subst h0
      rw [hR.1] at hv
      cases hv
      exact ⟨0, hT.r0, Nat.le_refl _⟩
    obtain ⟨g1, g2⟩ := hR.2 t (by omega) ht
    by_cases hs : sd t act = 0
    · have hm := g1 hs
      rw [hv] at hm
      obtain ⟨⟨x, hx, hb, r, c, e1, e2, e3⟩, -⟩ := hm
      have hl := sd_less hb
      obtain ⟨r', f1, f2⟩ := ih _ hl (Nat.lt_trans hl ht) r e1
      obtain ⟨c', f3, f4⟩ := costC_mono h hfu x (sd t (2 ^ x)) c e2
      obtain ⟨v', f5, f6⟩ := hT.up (t := sd t (2 ^ x)) (by rw [hN]; exact Nat.lt_trans hl ht) (by rw [h.1]; exact hx) (by rw [sd_bit, Nat.testBit_two_pow_self, Bool.not_true, Bool.and_false]) f1 f3
      rw [sd_or hb] at f5
      exact ⟨v', f5, by omega⟩
    · rw [g2 hs] at hv; cases hv
/-! an order's table, from its end: the same fewest favours -/
def GT (a : AJ) (set : Nat) (G : Nat → Option Nat) : Prop := G set = some 0 ∧ ∀ u, u < set → (sd u set = 0 → G u = bB (ordC a set G u) (aN a)) ∧ (sd u set ≠ 0 → G u = none)
theorem bB_le {f : Nat → Option Nat} {n x w : Nat} (hx : x < n) (h : f x = some w) : ∃ b, bB f n = some b ∧ b ≤ w := by
  cases e : bB f n with
  | none => rw [bB_none e x hx] at h; cases h
  | some b => exact ⟨b, rfl, (bA_first e).2.2.2 x w hx h⟩
theorem ordC_some {a : AJ} {set t x v : Nat} {G : Nat → Option Nat} (h : ordC a set G t x = some v) : set.testBit x = true ∧ t.testBit x = false ∧ ∃ c g, costC a x t ((2 ^ aN a - 1)) = some c ∧ G (t ||| 2 ^ x) = some g ∧ v = c + g := by
  unfold ordC at h
  split at h
  · rename_i q
    split at h
    · cases h
    · rename_i c hc
      split at h
      · cases h
      · rename_i g hg
        cases h
        exact ⟨q.1, q.2, c, g, hc, hg, rfl⟩
  · cases h
theorem ordC_of {a : AJ} {set t x c g : Nat} {G : Nat → Option Nat} (h1 : set.testBit x = true) (h2 : t.testBit x = false) (h3 : costC a x t ((2 ^ aN a - 1)) = some c) (h4 : G (t ||| 2 ^ x) = some g) : ordC a set G t x = some (c + g) := by
  unfold ordC
  rw [if_pos ⟨h1, h2⟩]
  have h3 : costC a x t (2 ^ aN a - 1) = some c := h3
  rw [h3, h4]
section
variable {a : AJ} {R : Nat → Option Nat} {W : Nat → Nat} {set : Nat} {G : Nat → Option Nat}
theorem GT.up (hG : GT a set G) (hT : TA a R W) (hs : set < (2 ^ aN a)) {g : Nat} (h0 : G 0 = some g) : ∀ k, k ≤ pc set → ∃ t r g', sd t set = 0 ∧ pc t = k ∧ R t = some r ∧ G t = some g' ∧ r + g' ≤ g
  | 0, _ => ⟨0, 0, g, by unfold sd; rw [Nat.zero_and, Nat.xor_zero], by decide, hT.r0, h0, by omega⟩
  | k + 1, hk => by
    have hN := hT.1.N
    have hn := hT.1.2.1
    obtain ⟨t, r, g', e1, e2, e3, e4, e5⟩ := GT.up hG hT hs h0 k (by omega)
    have hle := sd0_le e1
    have hne : t ≠ set := fun q => by rw [q] at e2; omega
    have hb := (hG.2 t (by omega)).1 e1
    obtain ⟨b1, b2, -⟩ := bA_first (hb.symm.trans e4)
    obtain ⟨c1, c2, c, g2, c3, c4, c5⟩ := ordC_some b2
    have ht : t < 2 ^ aN a := Nat.lt_of_le_of_lt hle hs
    obtain ⟨v, f1, f2⟩ := hT.up ht b1 c2 e3 c3
    refine ⟨_, v, g2, sub_or e1 c1, ?_, f1, c4, by omega⟩
    rw [pc_or (by omega) (by omega) c2, e2]
theorem GT.down (hG : GT a set G) (hT : TA a R W) (hs : set < (2 ^ aN a)) {v : Nat} (hv : R set = some v) : ∀ k, k ≤ pc set → ∃ t r g, sd t set = 0 ∧ pc t + k = pc set ∧ R t = some r ∧ G t = some g ∧ r + g ≤ v
  | 0, _ => ⟨set, v, 0, sd0.2 fun _ h => h, rfl, hv, hG.1, by omega⟩
  | k + 1, hk => by
    have hN := hT.1.N
    have hn := hT.1.2.1
    obtain ⟨t, r, g, e1, e2, e3, e4, e5⟩ := GT.down hG hT hs hv k (by omega)
    have hle := sd0_le e1
    have ht : t < 2 ^ aN a := Nat.lt_of_le_of_lt hle hs
    have h0 : t ≠ 0 := fun q => by
      rw [q, show pc 0 = 0 by decide] at e2
      omega
    obtain ⟨x, r', c, hx, hb, f1, f2, f3⟩ := hT.down h0 ht e3
    have hl := sd_less hb
    have hsub : sd (sd t (2 ^ x)) set = 0 := sd0.2 fun i hi => sd0.1 e1 i (by rw [sd_bit] at hi; exact (Bool.and_eq_true_iff.1 hi).1)
    have hbx : (sd t (2 ^ x)).testBit x = false := by rw [sd_bit, Nat.testBit_two_pow_self, Bool.not_true, Bool.and_false]
    have ho : ordC a set G (sd t (2 ^ x)) x = some (c + g) := ordC_of (sd0.1 e1 x hb) hbx f2 (by rw [sd_or hb]; exact e4)
    obtain ⟨b, b1, b2⟩ := bB_le hx ho
    have hG' := (hG.2 (sd t (2 ^ x)) (by omega)).1 hsub
    refine ⟨_, r', b, hsub, ?_, f1, hG'.trans b1, by omega⟩
    have := pc_sd (show t < 256 by omega) (show x < 8 by omega) hb
    omega
theorem GT.eq (hG : GT a set G) (hT : TA a R W) (hs : set < (2 ^ aN a)) : G 0 = R set := by
  have hN := hT.1.N
  have A : ∀ g, G 0 = some g → ∃ r, R set = some r ∧ r ≤ g := fun g h0 => by
    obtain ⟨t, r, g', e1, e2, e3, e4, e5⟩ := hG.up hT hs h0 (pc set) (Nat.le_refl _)
    have : t = set := sub_full (by omega) e1 (by omega)
    subst this
    exact ⟨r, e3, by omega⟩
  have B : ∀ v, R set = some v → ∃ g, G 0 = some g ∧ g ≤ v := fun v hv => by
    obtain ⟨t, r, g, e1, e2, e3, e4, e5⟩ := hG.down hT hs hv (pc set) (Nat.le_refl _)
    have : t = 0 := by
      have ht := sd0_le e1
      have hp : pc t = 0 := by omega
      have h256 : t < 256 := by omega
      exact (by decide +kernel : ∀ t : Fin 256, pc t.val = 0 → t.val = 0) ⟨t, h256⟩ hp
    subst this
    exact ⟨g, e4, by omega⟩
  cases hg : G 0 with
  | none =>
    cases hr : R set with
    | none => rfl
    | some v =>
      obtain ⟨g, q, -⟩ := B v hr
      rw [hg] at q; cases q
  | some g =>
    obtain ⟨r, q1, q2⟩ := A g hg
    obtain ⟨g2, q3, q4⟩ := B r q1
    rw [hg] at q3
    cases q3
    rw [q1]
    exact congrArg some (by omega)
end
/-- a set is let out hand by hand -/
def WK (a : AJ) (set v : Nat) (t : Nat → Nat) : Prop := ∃ (p c : Nat → Nat), p 0 = 0 ∧ p (pc set) = set ∧ sumB c (pc set) = v ∧ ∀ i, i < pc set → p (i + 1) = p i ||| 2 ^ t i ∧ p i < (2 ^ aN a) ∧ t i < aN a ∧ (p i).testBit (t i) = false ∧ costC a (t i) (p i) ((2 ^ aN a - 1)) = some (c i)
theorem OT.walk {a : AJ} {set : Nat} {S : VX3} {O : Nat → Int32} {G : Nat → Option Nat} (h : OT a set 0 S O G) (hV : AV a) (hs : set < 2 ^ aN a) {v : Nat} (h0 : G 0 = some v) : WK a set v (nx a set G) := by
  have hg0 : G 0 ≠ none := by rw [h0]; simp
  have step : ∀ i, i < pc set → ∃ c g, G (pth a set G i) = some (c + g) ∧ costC a (nx a set G i) (pth a set G i) ((2 ^ aN a - 1)) = some c ∧ G (pth a set G (i + 1)) = some g := fun i hi => by
    obtain ⟨q1, q2, q3, q4⟩ := OT.path h hV hs hg0 i (by omega)
    obtain ⟨r1, r2, r3, r4⟩ := q4 hi
    have hG := (h.2.2.2.1 _ (Nat.zero_le _) r1).1 q1
    cases hg : G (pth a set G i) with
    | none => exact absurd hg q3
    | some w =>
      obtain ⟨-, b2, -⟩ := bA_first (hG.symm.trans hg)
      obtain ⟨-, -, c, g, c3, c4, c5⟩ := ordC_some b2
      exact ⟨c, g, by rw [c5], c3, c4⟩
  have hsum : ∀ i, i ≤ pc set → sumB (fun i => (costC a (nx a set G i) (pth a set G i) ((2 ^ aN a - 1))).getD 0) i + (G (pth a set G i)).getD 0 = v := by
    intro i
    induction i with
    | zero =>
      intro _
      show 0 + (G 0).getD 0 = v
      rw [h0]; show 0 + v = v; omega
    | succ i ih =>
      intro hi
      have := ih (by omega)
      obtain ⟨c, g, e1, e2, e3⟩ := step i (by omega)
      rw [e1] at this
      rw [sumB, e2, e3]
      have : sumB (fun i => (costC a (nx a set G i) (pth a set G i) ((2 ^ aN a - 1))).getD 0) i + (c + g) = v := this
      show sumB _ i + c + g = v
      omega
  refine ⟨pth a set G, fun i => (costC a (nx a set G i) (pth a set G i) ((2 ^ aN a - 1))).getD 0, rfl, OT.full h hV hs hg0, ?_, fun i hi => ?_⟩
  · have := hsum (pc set) (Nat.le_refl _)
    rw [OT.full h hV hs hg0, h.1] at this
    exact this
  · obtain ⟨q1, q2, q3, q4⟩ := OT.path h hV hs hg0 i (by omega)
    obtain ⟨r1, r2, r3, r4⟩ := q4 hi
    obtain ⟨c, g, e1, e2, e3⟩ := step i hi
    refine ⟨rfl, Nat.lt_trans r1 hs, r4, r3, ?_⟩
    show _ = some ((costC a (nx a set G i) (pth a set G i) ((2 ^ aN a - 1))).getD 0)
    rw [e2]; rfl
