/-! order: both tables down to the empty set, then the row -/
def ixd : Nat → Int32
  | 0 => -1
  | i + 1 => nI i
theorem ixd_m1 (i : Nat) : nI i + -1 = ixd i := by
  cases i with
  | zero => decide
  | succ i => exact pk_m1 i
theorem loop_dn {σ τ α β : Type} (F : Nat → σ → Int32 → Option α) (G : Nat → τ → Int32 → Option β) (I : Nat → σ → τ → Prop) (Q : Option α → Option β → Prop)
    (hend : ∀ n n' s t, I 0 s t → Q (F (n + 1) s (-1)) (G (n' + 1) t (-1))) (N : Nat)
    (hstep : ∀ n n' s t i, i < N → I (i + 1) s t → ∃ s' t', I i s' t' ∧ F (n + 1) s (nI i) = F n s' (nI i + -1) ∧ G (n' + 1) t (nI i) = G n' t' (nI i + -1)) :
    ∀ i fuel fuel' s t, i ≤ N → I i s t → i < fuel → i < fuel' → Q (F fuel s (ixd i)) (G fuel' t (ixd i)) := by
  intro i
  induction i with
  | zero =>
    intro fuel fuel' s t _ h h1 h2
    obtain ⟨n, rfl⟩ : ∃ n, fuel = n + 1 := ⟨fuel - 1, by omega⟩
    obtain ⟨n', rfl⟩ : ∃ n', fuel' = n' + 1 := ⟨fuel' - 1, by omega⟩
    exact hend n n' s t h
  | succ i ih =>
    intro fuel fuel' s t hi h h1 h2
    obtain ⟨n, rfl⟩ : ∃ n, fuel = n + 1 := ⟨fuel - 1, by omega⟩
    obtain ⟨n', rfl⟩ : ∃ n', fuel' = n' + 1 := ⟨fuel' - 1, by omega⟩
    obtain ⟨s', t', g1, g2, g3⟩ := hstep n n' s t i (by omega) h
    show Q (F (n + 1) s (nI i)) (G (n' + 1) t (nI i))
    rw [g2, g3, ixd_m1]
    exact ih n n' s' t' (by omega) g1 (by omega) (by omega)
/-- the tables from k on -/
def OT (a : AJ) (set k : Nat) (S : VX3) (O : Nat → Int32) (G : Nat → Option Nat) : Prop := G set = some 0 ∧ (∀ u, k ≤ u → u ≤ set → S.2.1 u = oI (G u) ∧ O u = nI (nv (G u))) ∧ (∀ u v, k ≤ u → u ≤ set → G u = some v → v ≤ 14 * (8 - pc u)) ∧ (∀ u, k ≤ u → u < set → (sd u set = 0 → G u = bB (ordC a set G u) (aN a)) ∧ (sd u set ≠ 0 → G u = none)) ∧ ∀ u, k ≤ u → u < set → G u ≠ none → S.2.2.1 u = nI (bA (ordC a set G u) (aN a))
theorem OT.step {a : AJ} {set k : Nat} {S S' : VX3} {O O' : Nat → Int32} {G : Nat → Option Nat} {m : Option Nat} (h : OT a set (k + 1) S O G) (hk : k < set) (h1 : S'.2.1 k = oI m) (h2 : O' k = nI (nv m)) (h3 : ∀ u, u ≠ k → S'.2.1 u = S.2.1 u ∧ S'.2.2.1 u = S.2.2.1 u ∧ O' u = O u) (h4 : ∀ v, m = some v → v ≤ 14 * (8 - pc k)) (h5 : (sd k set = 0 → m = bB (ordC a set G k) (aN a)) ∧ (sd k set ≠ 0 → m = none)) (h6 : m ≠ none → S'.2.2.1 k = nI (bA (ordC a set G k) (aN a))) : OT a set k S' O' (fun u => if u = k then m else G u) := by
  obtain ⟨g1, g2, g3, g4, g5⟩ := h
  have eC : ∀ u, k ≤ u → ordC a set (fun u => if u = k then m else G u) u = ordC a set G u := fun u hu => ordC_cg fun w hw => if_neg (by omega)
  refine ⟨(if_neg (by omega)).trans g1, fun u hu hus => ?_, fun u v hu hus e => ?_, fun u hu hus => ?_, fun u hu hus e => ?_⟩
  · show S'.2.1 u = oI (if u = k then m else G u) ∧ O' u = nI (nv (if u = k then m else G u))
    by_cases c : u = k
    · subst c; rw [if_pos rfl]; exact ⟨h1, h2⟩
    · obtain ⟨q1, q2, q3⟩ := h3 u c
      rw [if_neg c, q1, q3]; exact g2 u (by omega) hus
  · have e : (if u = k then m else G u) = some v := e
    by_cases c : u = k
    · subst c; rw [if_pos rfl] at e; exact h4 v e
    · rw [if_neg c] at e; exact g3 u v (by omega) hus e
  · rw [eC u hu]
    show (sd u set = 0 → (if u = k then m else G u) = _) ∧ (sd u set ≠ 0 → (if u = k then m else G u) = none)
    by_cases c : u = k
    · subst c; rw [if_pos rfl]; exact h5
    · rw [if_neg c]; exact g4 u (by omega) hus
  · rw [eC u hu]
    have e : (if u = k then m else G u) ≠ none := e
    by_cases c : u = k
    · subst c; rw [if_pos rfl] at e; exact h6 e
    · rw [if_neg c] at e
      rw [(h3 u c).2.1]; exact g5 u (by omega) hus e
/-! the path -/
def pth (a : AJ) (set : Nat) (G : Nat → Option Nat) : Nat → Nat
  | 0 => 0
  | i + 1 => pth a set G i ||| 2 ^ bA (ordC a set G (pth a set G i)) (aN a)
abbrev nx (a : AJ) (set : Nat) (G : Nat → Option Nat) (i : Nat) : Nat := bA (ordC a set G (pth a set G i)) (aN a)
section
variable {J : VX2} {a : AJ} {set : Nat} {S : VX3} {O : Nat → Int32} {G : Nat → Option Nat}
theorem OT.more (h : OT a set 0 S O G) (hV : AV a) (hs : set < 2 ^ aN a) {t : Nat} (hts : sd t set = 0) (hg : G t ≠ none) (hlt : pc t < pc set) : t < set ∧ set.testBit (bA (ordC a set G t) (aN a)) = true ∧ t.testBit (bA (ordC a set G t) (aN a)) = false ∧ bA (ordC a set G t) (aN a) < aN a := by
  have hle := sd0_le hts
  have hne : t ≠ set := fun e => by rw [e] at hlt; omega
  have hl : t < set := by omega
  have hG := (h.2.2.2.1 t (Nat.zero_le _) hl).1 hts
  cases e : G t with
  | none => exact absurd e hg
  | some v =>
    obtain ⟨b1, b2, -⟩ := bA_first (hG.symm.trans e)
    unfold ordC at b2
    split at b2
    · rename_i c
      exact ⟨hl, c.1, c.2, b1⟩
    · cases b2
theorem OT.path (h : OT a set 0 S O G) (hV : AV a) (hs : set < 2 ^ aN a) (h0 : G 0 ≠ none) : ∀ i, i ≤ pc set → sd (pth a set G i) set = 0 ∧ pc (pth a set G i) = i ∧ G (pth a set G i) ≠ none ∧ (i < pc set → pth a set G i < set ∧ set.testBit (nx a set G i) = true ∧ (pth a set G i).testBit (nx a set G i) = false ∧ nx a set G i < aN a)
  | 0, _ => by
    have hN := hV.N
    have hz : sd 0 set = 0 := by unfold sd; rw [Nat.zero_and, Nat.xor_zero]
    have p0 : pc 0 = 0 := by decide
    refine ⟨hz, p0, h0, fun hi => ?_⟩
    exact OT.more h hV hs hz h0 (by show pc 0 < pc set; omega)
  | i + 1, hi => by
    have hN := hV.N
    have hn := hV.2.1
    obtain ⟨q1, q2, q3, q4⟩ := OT.path h hV hs h0 i (by omega)
    obtain ⟨r1, r2, r3, r4⟩ := q4 (by omega)
    have e1 : sd (pth a set G (i + 1)) set = 0 := sub_or q1 r2
    have e2 : pc (pth a set G (i + 1)) = i + 1 := by
      rw [pth, pc_or (by omega) (by omega) r3, q2]
    have hG := (h.2.2.2.1 _ (Nat.zero_le _) r1).1 q1
    have e3 : G (pth a set G (i + 1)) ≠ none := by
      cases hg : G (pth a set G i) with
      | none => exact absurd hg q3
      | some v =>
        have hb := (bA_first (hG.symm.trans hg)).2.1
        unfold ordC at hb
        rw [if_pos ⟨r2, r3⟩] at hb
        intro e
        have e : G (pth a set G i ||| 2 ^ bA (ordC a set G (pth a set G i)) (aN a)) = none := e
        have hb : (match costC a (bA (ordC a set G (pth a set G i)) (aN a)) (pth a set G i) (2 ^ aN a - 1) with
          | none => none
          | some c => match G (pth a set G i ||| 2 ^ bA (ordC a set G (pth a set G i)) (aN a)) with
            | none => none
            | some g => some (c + g)) = some v := hb
        rw [e] at hb
        split at hb <;> cases hb
    exact ⟨e1, e2, e3, fun hlt => OT.more h hV hs e1 e3 (by omega)⟩
end
section
variable {J : VX2} {a : AJ} {set : Nat} {S : VX3} {O : Nat → Int32} {G : Nat → Option Nat}
theorem OT.full (h : OT a set 0 S O G) (hV : AV a) (hs : set < 2 ^ aN a) (h0 : G 0 ≠ none) : pth a set G (pc set) = set := by
  have hN := hV.N
  obtain ⟨q1, q2, -⟩ := OT.path h hV hs h0 (pc set) (Nat.le_refl _)
  exact sub_full (by omega) q1 (by omega)
/-- the class' steps -/
theorem x3_follow (h : OT a set 0 S O G) (hV : AV a) (hs : set < 2 ^ aN a) (h0 : G 0 ≠ none) : ∃ T, f_X3_follow S (nI set) = some ((S.1, S.2.1, S.2.2.1, T)) ∧ ∀ i, i < pc set → T i = nI (nx a set G i) := by
  have hn := hV.2.1
  have hN := hV.N
  have hp := pc_le set
  unfold f_X3_follow
  rw [show f_X3_follow_4 4096 S (nI set) 0 0 = f_X3_follow_4 4096 ((S.1, S.2.1, S.2.2.1, S.2.2.2)) (nI set) 0 0 from congrArg (fun Z : VX3 => f_X3_follow_4 4096 Z (nI set) 0 0) (show S = (S.1, S.2.1, S.2.2.1, S.2.2.2) from rfl)]
  refine loop_up (fun f (σ : (Nat → Int32) × Nat) v3 => f_X3_follow_4 f ((S.1, S.2.1, S.2.2.1, σ.1)) (nI set) (nI σ.2) v3) (pc set) (fun i σ => σ.2 = pth a set G i ∧ ∀ j, j < i → σ.1 j = nI (nx a set G j)) (fun o => ∃ T, o = some ((S.1, S.2.1, S.2.2.1, T)) ∧ ∀ i, i < pc set → T i = nI (nx a set G i)) ?_ ?_ 4096 0 (S.2.2.2, 0) (Nat.zero_le _) ⟨rfl, fun j hj => by omega⟩ (by omega)
  · rintro n ⟨T, p⟩ ⟨h1, h2⟩
    have h1 : p = pth a set G (pc set) := h1
    rw [OT.full h hV hs h0] at h1
    refine ⟨T, ?_, h2⟩
    show f_X3_follow_4 (n + 1) ((S.1, S.2.1, S.2.2.1, T)) (nI set) (nI p) (nI (pc set)) = _
    rw [f_X3_follow_4, h1, if_pos rfl, ite_self]
  · rintro n ⟨T, p⟩ i hi ⟨h1, h2⟩
    have h1 : p = pth a set G i := h1
    obtain ⟨q1, q2, q3, q4⟩ := OT.path h hV hs h0 i (by omega)
    obtain ⟨r1, r2, r3, r4⟩ := q4 hi
    right
    refine ⟨(upd T i (nI (nx a set G i)), pth a set G (i + 1)), ⟨rfl, fun j hj => ?_⟩, ?_⟩
    · show upd T i (nI (nx a set G i)) j = _
      rw [upd_at]
      by_cases e : j = i
      · rw [if_pos e, e]
      · rw [if_neg e]; exact h2 j (by omega)
    · show f_X3_follow_4 (n + 1) ((S.1, S.2.1, S.2.2.1, T)) (nI set) (nI p) (nI i) = f_X3_follow_4 n ((S.1, S.2.1, S.2.2.1, upd T i (nI (nx a set G i)))) (nI set) (nI (pth a set G (i + 1))) (nI (i + 1))
      have eN := h.2.2.2.2 _ (Nat.zero_le _) r1 q3
      have eN : S.2.2.1 (pth a set G i) = nI (nx a set G i) := eN
      rw [f_X3_follow_4, if_neg (show ¬ (8 : Int32) ≤ nI i from nI_ge (show i < 8 by omega) (by decide)), h1, if_neg (fun e => by have := (nI_eq (show pth a set G i < 2 ^ 31 by omega) (show set < 2 ^ 31 by omega)).1 e; omega), zIn_t (show pth a set G i < 256 by omega) (by decide), if_pos rfl, zIn_t (show i < 8 by omega) (by decide), if_pos rfl, if_pos rfl, nI_clamp (show i < 2 ^ 31 by omega), nI_clamp (show pth a set G i < 2 ^ 31 by omega), eN, upd_at, if_pos rfl, n_one (by omega), n_or, nI_1]
      rfl
/-- the model's search for the next one -/
theorem m_search {M : VX11} (hM : MR M a) (h : OT a set 0 S M.2.2.2.2.2.2.2.2.2.2.2.2.2.2.2.2.2.2.2.2.2.2.2.2.1 G) (hV : AV a) (hs : set < 2 ^ aN a) (h0 : G 0 ≠ none) {i q : Nat} (hi : i < pc set) (hq : q < 6) (r : VX11 → Int32 → Int32 → Int32 → Int32 → Option (Int32 × VX11)) :
    f_X11_order_237 r 4096 M (nI set) (nI q) (nI (pth a set G i)) (nI i) 0 = r ((M.1, M.2.1, M.2.2.1, M.2.2.2.1, M.2.2.2.2.1, M.2.2.2.2.2.1, upd M.2.2.2.2.2.2.1 (60 * q + i) (nI (nx a set G i)), M.2.2.2.2.2.2.2.1, M.2.2.2.2.2.2.2.2.1, M.2.2.2.2.2.2.2.2.2.1, M.2.2.2.2.2.2.2.2.2.2.1, M.2.2.2.2.2.2.2.2.2.2.2.1, M.2.2.2.2.2.2.2.2.2.2.2.2.1, M.2.2.2.2.2.2.2.2.2.2.2.2.2.1, M.2.2.2.2.2.2.2.2.2.2.2.2.2.2.1, M.2.2.2.2.2.2.2.2.2.2.2.2.2.2.2.1, M.2.2.2.2.2.2.2.2.2.2.2.2.2.2.2.2.1, M.2.2.2.2.2.2.2.2.2.2.2.2.2.2.2.2.2.1, M.2.2.2.2.2.2.2.2.2.2.2.2.2.2.2.2.2.2.1, M.2.2.2.2.2.2.2.2.2.2.2.2.2.2.2.2.2.2.2.1, M.2.2.2.2.2.2.2.2.2.2.2.2.2.2.2.2.2.2.2.2.1, M.2.2.2.2.2.2.2.2.2.2.2.2.2.2.2.2.2.2.2.2.2.1, M.2.2.2.2.2.2.2.2.2.2.2.2.2.2.2.2.2.2.2.2.2.2.1, M.2.2.2.2.2.2.2.2.2.2.2.2.2.2.2.2.2.2.2.2.2.2.2.1, M.2.2.2.2.2.2.2.2.2.2.2.2.2.2.2.2.2.2.2.2.2.2.2.2.1, M.2.2.2.2.2.2.2.2.2.2.2.2.2.2.2.2.2.2.2.2.2.2.2.2.2.1, M.2.2.2.2.2.2.2.2.2.2.2.2.2.2.2.2.2.2.2.2.2.2.2.2.2.2.1, M.2.2.2.2.2.2.2.2.2.2.2.2.2.2.2.2.2.2.2.2.2.2.2.2.2.2.2.1, M.2.2.2.2.2.2.2.2.2.2.2.2.2.2.2.2.2.2.2.2.2.2.2.2.2.2.2.2.1, M.2.2.2.2.2.2.2.2.2.2.2.2.2.2.2.2.2.2.2.2.2.2.2.2.2.2.2.2.2.1, M.2.2.2.2.2.2.2.2.2.2.2.2.2.2.2.2.2.2.2.2.2.2.2.2.2.2.2.2.2.2)) (nI set) (nI q) (nI (pth a set G (i + 1))) (nI (i + 1)) := by
  have hn := hV.2.1
  have hN := hV.N
  have hp := pc_le set
  obtain ⟨q1, q2, q3, q4⟩ := OT.path h hV hs h0 i (by omega)
  obtain ⟨r1, r2, r3, r4⟩ := q4 hi
  have hG := (h.2.2.2.1 _ (Nat.zero_le _) r1).1 q1
  cases hv : G (pth a set G i) with
  | none => exact absurd hv q3
  | some v =>
    have hvle := h.2.2.1 _ v (Nat.zero_le _) (by omega) hv
    obtain ⟨b1, b2, b3, -⟩ := bA_first (hG.symm.trans hv)
    have hOt := (h.2.1 _ (Nat.zero_le _) (show pth a set G i ≤ set by omega)).2
    rw [hv] at hOt
    have hOt : M.2.2.2.2.2.2.2.2.2.2.2.2.2.2.2.2.2.2.2.2.2.2.2.2.1 (pth a set G i) = nI v := hOt
    /- what the loop asks at y -/
    have ask : ∀ y, y < aN a → set.testBit y = true → (pth a set G i).testBit y = false → (nI (nv (costC a y (pth a set G i) (2 ^ aN a - 1))) + M.2.2.2.2.2.2.2.2.2.2.2.2.2.2.2.2.2.2.2.2.2.2.2.2.1 (pth a set G i ||| 2 ^ y) = nI v ↔ ordC a set G (pth a set G i) y = some v) := fun y hy y1 y2 => by
      have hsub := sub_or q1 y1
      have hOu := (h.2.1 _ (Nat.zero_le _) (sd0_le hsub)).2
      rw [hOu]
      unfold ordC
      rw [if_pos ⟨y1, y2⟩, nI_add]
      cases hc : costC a y (pth a set G i) (2 ^ aN a - 1) with
      | none =>
        refine ⟨fun e => ?_, fun e => by cases e⟩
        have hg : nv (G (pth a set G i ||| 2 ^ y)) ≤ 1000 := by
          cases hg : G (pth a set G i ||| 2 ^ y) with
          | none => exact Nat.le_refl _
          | some g => have := h.2.2.1 _ g (Nat.zero_le _) (sd0_le hsub) hg; show g ≤ 1000; omega
        have e := (nI_eq (show nv none + nv (G (pth a set G i ||| 2 ^ y)) < 2 ^ 31 by show 1000 + _ < _; omega) (show v < 2 ^ 31 by omega)).1 e
        have e : 1000 + nv (G (pth a set G i ||| 2 ^ y)) = v := e
        omega
      | some c =>
        have hcc := costC_le hV hy hc
        cases hg : G (pth a set G i ||| 2 ^ y) with
        | none =>
          refine ⟨fun e => ?_, fun e => by cases e⟩
          have e := (nI_eq (show nv (some c) + nv none < 2 ^ 31 by show c + 1000 < _; omega) (show v < 2 ^ 31 by omega)).1 e
          have e : c + 1000 = v := e
          omega
        | some g =>
          have := h.2.2.1 _ g (Nat.zero_le _) (sd0_le hsub) hg
          constructor
          · intro e
            have e := (nI_eq (show nv (some c) + nv (some g) < 2 ^ 31 by show c + g < _; omega) (show v < 2 ^ 31 by omega)).1 e
            exact congrArg some e
          · intro e
            have e : some (c + g) = some v := e
            exact congrArg nI (Option.some.inj e)
    have body : ∀ n y, y < aN a → f_X11_order_237 r (n + 1) M (nI set) (nI q) (nI (pth a set G i)) (nI i) (nI y) = if set.testBit y = true ∧ (pth a set G i).testBit y = false ∧ ordC a set G (pth a set G i) y = some v then r ((M.1, M.2.1, M.2.2.1, M.2.2.2.1, M.2.2.2.2.1, M.2.2.2.2.2.1, upd M.2.2.2.2.2.2.1 (60 * q + i) (nI y), M.2.2.2.2.2.2.2.1, M.2.2.2.2.2.2.2.2.1, M.2.2.2.2.2.2.2.2.2.1, M.2.2.2.2.2.2.2.2.2.2.1, M.2.2.2.2.2.2.2.2.2.2.2.1, M.2.2.2.2.2.2.2.2.2.2.2.2.1, M.2.2.2.2.2.2.2.2.2.2.2.2.2.1, M.2.2.2.2.2.2.2.2.2.2.2.2.2.2.1, M.2.2.2.2.2.2.2.2.2.2.2.2.2.2.2.1, M.2.2.2.2.2.2.2.2.2.2.2.2.2.2.2.2.1, M.2.2.2.2.2.2.2.2.2.2.2.2.2.2.2.2.2.1, M.2.2.2.2.2.2.2.2.2.2.2.2.2.2.2.2.2.2.1, M.2.2.2.2.2.2.2.2.2.2.2.2.2.2.2.2.2.2.2.1, M.2.2.2.2.2.2.2.2.2.2.2.2.2.2.2.2.2.2.2.2.1, M.2.2.2.2.2.2.2.2.2.2.2.2.2.2.2.2.2.2.2.2.2.1, M.2.2.2.2.2.2.2.2.2.2.2.2.2.2.2.2.2.2.2.2.2.2.1, M.2.2.2.2.2.2.2.2.2.2.2.2.2.2.2.2.2.2.2.2.2.2.2.1, M.2.2.2.2.2.2.2.2.2.2.2.2.2.2.2.2.2.2.2.2.2.2.2.2.1, M.2.2.2.2.2.2.2.2.2.2.2.2.2.2.2.2.2.2.2.2.2.2.2.2.2.1, M.2.2.2.2.2.2.2.2.2.2.2.2.2.2.2.2.2.2.2.2.2.2.2.2.2.2.1, M.2.2.2.2.2.2.2.2.2.2.2.2.2.2.2.2.2.2.2.2.2.2.2.2.2.2.2.1, M.2.2.2.2.2.2.2.2.2.2.2.2.2.2.2.2.2.2.2.2.2.2.2.2.2.2.2.2.1, M.2.2.2.2.2.2.2.2.2.2.2.2.2.2.2.2.2.2.2.2.2.2.2.2.2.2.2.2.2.1, M.2.2.2.2.2.2.2.2.2.2.2.2.2.2.2.2.2.2.2.2.2.2.2.2.2.2.2.2.2.2)) (nI set) (nI q) (nI (pth a set G i ||| 2 ^ y)) (nI (i + 1)) else f_X11_order_237 r n M (nI set) (nI q) (nI (pth a set G i)) (nI i) (nI (y + 1)) := fun n y hy => by
      rw [f_X11_order_237, n_has (show set < 2 ^ 31 by omega) (by omega), Option.bind_some, n_has (show pth a set G i < 2 ^ 31 by omega) (by omega), Option.bind_some, m_all hM.1 hn, Option.bind_some, m_costA hM hV hy (show pth a set G i < 2 ^ aN a by omega), Option.bind_some, n_one (by omega), n_or, nI_1, nI_1]
      have h9 : pth a set G i ||| 2 ^ y < 2 ^ 8 := or_lt (n := 8) (by omega) (by omega)
      cases y1 : set.testBit y with
      | false => rw [if_pos (show bI false = 0 from rfl), if_neg (fun e => by cases e.1)]
      | true =>
        rw [if_neg (show ¬ bI true = 0 from i10)]
        cases y2 : (pth a set G i).testBit y with
        | true => rw [if_neg (show ¬ bI true = 0 from i10), if_neg (fun e => by cases e.2.1)]
        | false =>
          have ha := ask y hy y1 y2
          rw [if_pos (show bI false = 0 from rfl), zIn_t (show pth a set G i ||| 2 ^ y < 256 from h9) (by decide), if_pos rfl, zIn_t (show pth a set G i < 256 by omega) (by decide), if_pos rfl, nI_clamp (show pth a set G i ||| 2 ^ y < 2 ^ 31 by omega), nI_clamp (show pth a set G i < 2 ^ 31 by omega), hOt, show (60 : Int32) * nI q = nI (60 * q) from pk_mul 60 q, nI_add (60 * q) i, zIn_t (show 60 * q + i < 360 by omega) (by decide), if_pos rfl, nI_clamp (show 60 * q + i < 2 ^ 31 by omega)]
          by_cases c : ordC a set G (pth a set G i) y = some v
          · rw [if_pos (ha.2 c), if_pos ⟨rfl, rfl, c⟩]
          · rw [if_neg (fun e => c (ha.1 e)), if_neg (fun e => c e.2.2)]
    refine loop_is (fun f (_ : Unit) v5 => f_X11_order_237 r f M (nI set) (nI q) (nI (pth a set G i)) (nI i) v5) (fun _ => ()) 0 (nx a set G i) _ (fun n => ?_) (fun n y _ hy => ?_) 4096 0 (Nat.le_refl _) (by omega) (by omega)
    · show f_X11_order_237 r (n + 1) M (nI set) (nI q) (nI (pth a set G i)) (nI i) (nI (nx a set G i)) = _
      rw [body n _ r4, if_pos ⟨r2, r3, b2⟩]
      rfl
    · show f_X11_order_237 r (n + 1) M (nI set) (nI q) (nI (pth a set G i)) (nI i) (nI y) = f_X11_order_237 r n M (nI set) (nI q) (nI (pth a set G i)) (nI i) (nI (y + 1))
      rw [body n y (by omega), if_neg (fun e => b3 y hy e.2.2)]
end
