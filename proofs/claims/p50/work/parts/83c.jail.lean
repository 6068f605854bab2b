/-! THE LAW'S JAIL: put down sign by sign, read, taken -/
/-- as the jail stands after it -/
def LS0 (S : VX10) (a : AJ) : Prop := RRS S ∧ JR S.2.2.2.2.1 a ∧ S.2.2.2.2.2.1.2.2.1 = 0 ∧ S.2.2.2.2.2.1.2.2.2 = 0 ∧ (∀ k, k < 3 → S.2.2.2.2.2.1.1 k = -1) ∧ S.2.2.2.2.2.2.2.2.2.2.2 = 0
/-- the first i doors told -/
def DI (a b : AJ) (i : Nat) : Prop := aN b = aN a ∧ (∀ x, x < i → aK b x = aK a x ∧ aP b x = aP a x ∧ aO b x = aO a x ∧ aL b x = aL a x) ∧ ∀ z, z < aN a → aF b z = 0
theorem DI.set {a b : AJ} {x k p o l : Nat} (h : DI a b x) (e1 : k = aK a x) (e2 : p = aP a x) (e3 : o = aO a x) (e4 : l = aL a x) : DI a (aSt b x k p o l) (x + 1) := by
  refine ⟨h.1, fun z hz => ?_, h.2.2⟩
  show (if z = x then k else aK b z) = _ ∧ (if z = x then p else aP b z) = _ ∧ (if z = x then o else aO b z) = _ ∧ (if z = x then l else aL b z) = _
  by_cases c : z = x
  · rw [if_pos c, if_pos c, if_pos c, if_pos c, c]; exact ⟨e1, e2, e3, e4⟩
  · rw [if_neg c, if_neg c, if_neg c, if_neg c]; exact h.2.1 z (by omega)
section
variable {S : VX10} {d : VA48} {a b : AJ}
theorem jl_head {q x B : Nat} (hx : x < 6) (hW : WS S q q b) (hq : q + 4 ≤ 100) (hB : B < 128) (k : Int32) (r : VX10 → VA48 → Int32 → Int32 → Option (Int32 × VX10)) :
    ∃ S2, WS S2 q (q + 2) b ∧ S2.2.2.1.1 3 q = nI B ∧ S2.2.2.1.1 3 (q + 1) = nI (65 + x) ∧ f_L_jail_108 r S d (nI x) k (nI B) (nI q) = if k = 2 then f_L_jail_147 r S2 d (nI x) k (nI (q + 2)) else if zIn ((2 : Int32) + ((4 : Int32) * nI x)) 48 = true then (f_L_put S2 (nI (q + 2)) ((65 : Int32) + (d ((2 : Int32) + ((4 : Int32) * nI x)).toNatClampNeg))).bind fun r12 => f_L_jail_147 r r12.2 d (nI x) k r12.1 else none := by
  obtain ⟨S1, k1, k2, k3⟩ := ws_put hW (by omega) hB
  obtain ⟨S2, l1, l2, l3⟩ := ws_put (c := 65 + x) k2 (by omega) (by omega)
  refine ⟨S2, l2, ?_, ?_, ?_⟩
  · rw [l3, upd_at, if_neg (by omega), k3, upd_at, if_pos rfl]
  · rw [l3, upd_at, if_pos rfl]
  · unfold f_L_jail_108
    rw [k1, Option.bind_some, show (65 : Int32) + nI x = nI (65 + x) from nI_add 65 x, show f_L_put ((nI (q + 1), S1) : Int32 × VX10).2 ((nI (q + 1), S1) : Int32 × VX10).1 (nI (65 + x)) = _ from l1, Option.bind_some]
theorem jl_key {q x B y : Nat} (hx : x < 6) (hW : WS S q q b) (hq : q + 4 ≤ 100) (hB : B < 128) {k : Int32} (hk : k ≠ 2) (hy : y < 8) (ed : d (2 + 4 * x) = nI y) (r : VX10 → VA48 → Int32 → Int32 → Option (Int32 × VX10)) :
    ∃ S2, WS S2 q (q + 3) b ∧ S2.2.2.1.1 3 q = nI B ∧ S2.2.2.1.1 3 (q + 1) = nI (65 + x) ∧ S2.2.2.1.1 3 (q + 2) = nI (65 + y) ∧ f_L_jail_108 r S d (nI x) k (nI B) (nI q) = f_L_jail_147 r S2 d (nI x) k (nI (q + 3)) := by
  obtain ⟨S2, m1, m2, m3, m4⟩ := jl_head (d := d) hx hW hq hB k r
  obtain ⟨S3, l1, l2, l3⟩ := ws_put (c := 65 + y) m1 (by omega) (by omega)
  refine ⟨S3, l2, ?_, ?_, ?_, ?_⟩
  · rw [l3, upd_at, if_neg (by omega), m2]
  · rw [l3, upd_at, if_neg (by omega), m3]
  · rw [l3, upd_at, if_pos rfl]
  · rw [m4, if_neg hk, show (2 : Int32) + ((4 : Int32) * nI x) = nI (2 + 4 * x) from ixk 2 x, ix48 (show 2 + 4 * x < 48 by omega), if_pos rfl, nI_clamp (by omega), ed, show (65 : Int32) + nI y = nI (65 + y) from nI_add 65 y, l1, Option.bind_some]
theorem jl_160 {q x z : Nat} (hx : x < 6) (hW : WS S q (q + 3) b) (hq : q + 4 ≤ 100) (hz : z < 8) (ed : d (3 + 4 * x) = nI z) (r : VX10 → VA48 → Int32 → Int32 → Option (Int32 × VX10)) :
    ∃ S2, WS S2 q (q + 4) b ∧ (∀ i, i < q + 3 → S2.2.2.1.1 3 i = S.2.2.1.1 3 i) ∧ S2.2.2.1.1 3 (q + 3) = nI (65 + z) ∧ f_L_jail_160 r S d (nI (q + 3)) (nI x) = r S2 d (nI (q + 4)) (nI (x + 1)) := by
  obtain ⟨S3, l1, l2, l3⟩ := ws_put (c := 65 + z) hW (by omega) (by omega)
  refine ⟨S3, l2, fun i hi => ?_, ?_, ?_⟩
  · rw [l3, upd_at, if_neg (by omega)]
  · rw [l3, upd_at, if_pos rfl]
  · unfold f_L_jail_160
    rw [show (3 : Int32) + ((4 : Int32) * nI x) = nI (3 + 4 * x) from ixk 3 x, ix48 (show 3 + 4 * x < 48 by omega), if_pos rfl, nI_clamp (by omega), ed, show (65 : Int32) + nI z = nI (65 + z) from nI_add 65 z, l1, Option.bind_some, nI_1]
theorem jl_190 {q x z : Nat} (hx : x < 6) (hW : WS S q (q + 3) b) (hq : q + 4 ≤ 100) (hz : z < 10) (ed : d (4 + 4 * x) = nI z) (r : VX10 → VA48 → Int32 → Int32 → Option (Int32 × VX10)) :
    ∃ S2, WS S2 q (q + 4) b ∧ (∀ i, i < q + 3 → S2.2.2.1.1 3 i = S.2.2.1.1 3 i) ∧ S2.2.2.1.1 3 (q + 3) = nI (48 + z) ∧ f_L_jail_190 r S d (nI (q + 3)) (nI x) = r S2 d (nI (q + 4)) (nI (x + 1)) := by
  obtain ⟨S3, l1, l2, l3⟩ := ws_put (c := 48 + z) hW (by omega) (by omega)
  refine ⟨S3, l2, fun i hi => ?_, ?_, ?_⟩
  · rw [l3, upd_at, if_neg (by omega)]
  · rw [l3, upd_at, if_pos rfl]
  · unfold f_L_jail_190
    rw [show (4 : Int32) + ((4 : Int32) * nI x) = nI (4 + 4 * x) from ixk 4 x, ix48 (show 4 + 4 * x < 48 by omega), if_pos rfl, nI_clamp (by omega), ed, show (48 : Int32) + nI z = nI (48 + z) from nI_add 48 z, l1, Option.bind_some, nI_1]
theorem jl_door (hV : AV a) (h6 : aN a ≤ 6) (hD : DR d a) (hL : ∀ x, x < aN a → ¬ (aK a x = 3 ∨ aK a x = 4) → aL a x = 0) {x q : Nat} (hx : x < aN a) (hW : WS S q q b) (hq : q ≤ 3 + 4 * x) (hI : DI a b x) (m : Nat) :
    ∃ S' q' b', f_L_jail_34 (m + 1) S d (nI q) (nI x) = f_L_jail_34 m S' d (nI q') (nI (x + 1)) ∧ WS S' q' q' b' ∧ q ≤ q' ∧ q' ≤ 3 + 4 * (x + 1) ∧ DI a b' (x + 1) := by
  obtain ⟨d1, d2, d3, d4, -⟩ := hD.2 x hx
  obtain ⟨v1, v2, v3, v4, v5, v6, -⟩ := hV.2.2 x hx
  have hl := hL x hx
  have c0 : (0 : Int32).toNatClampNeg = 0 := rfl
  have hn : aN b ≤ 8 := by rw [hI.1]; omega
  have hxb : x < aN b := by rw [hI.1]; exact hx
  have eC : f_L_jail_34 (m + 1) S d (nI q) (nI x) = if d (1 + 4 * x) = 0 then f_L_jail_108 (f_L_jail_34 m) S d (nI x) (d (1 + 4 * x)) 107 (nI q) else if d (1 + 4 * x) = 1 then f_L_jail_108 (f_L_jail_34 m) S d (nI x) (d (1 + 4 * x)) 116 (nI q) else if d (1 + 4 * x) = 2 then f_L_jail_108 (f_L_jail_34 m) S d (nI x) (d (1 + 4 * x)) 105 (nI q) else if d (1 + 4 * x) = 3 then f_L_jail_108 (f_L_jail_34 m) S d (nI x) (d (1 + 4 * x)) 108 (nI q) else if d (1 + 4 * x) = 4 then f_L_jail_108 (f_L_jail_34 m) S d (nI x) (d (1 + 4 * x)) 115 (nI q) else f_L_jail_108 (f_L_jail_34 m) S d (nI x) (d (1 + 4 * x)) 98 (nI q) := by
    rw [f_L_jail_34, if_pos (show zIn 0 48 = true by decide), c0, hD.1, if_neg (nI_ge hx (by omega)), show (1 : Int32) + ((4 : Int32) * nI x) = nI (1 + 4 * x) from ixk 1 x, ix48 (show 1 + 4 * x < 48 by omega), if_pos rfl, nI_clamp (by omega)]
  have hk : aK a x = 0 ∨ aK a x = 1 ∨ aK a x = 2 ∨ aK a x = 3 ∨ aK a x = 4 ∨ aK a x = 5 := by omega
  have two : ∀ (k B : Nat), (k = 5 ∧ B = 98) ∨ (k = 1 ∧ B = 116) → aK a x = k → f_L_jail_34 (m + 1) S d (nI q) (nI x) = f_L_jail_108 (f_L_jail_34 m) S d (nI x) (nI k) (nI B) (nI q) → ∃ S' q' b', f_L_jail_34 (m + 1) S d (nI q) (nI x) = f_L_jail_34 m S' d (nI q') (nI (x + 1)) ∧ WS S' q' q' b' ∧ q ≤ q' ∧ q' ≤ 3 + 4 * (x + 1) ∧ DI a b' (x + 1) := fun k B hkB ek e => by
    have k2 : aK a x ≠ 2 := by omega
    obtain ⟨w1, w2, w3⟩ := v3 k2
    obtain ⟨u1, u2⟩ := v4 (by omega)
    rw [kI_lt (by omega)] at d2 d3
    obtain ⟨S2, m1, m2, m3, m4, m5⟩ := jl_key (d := d) (B := B) (by omega) hW (by omega) (by omega) (k := nI k) (fun q => by have := (nI_eq (show k < 2 ^ 31 by omega) (show 2 < 2 ^ 31 by decide)).1 q; omega) (by omega) d2 (f_L_jail_34 m)
    obtain ⟨S3, p1, p2, p3, p4⟩ := jl_160 (d := d) (by omega) m1 (by omega) (by omega) d3 (f_L_jail_34 m)
    refine ⟨S3, q + 4, aSt b x k (aP a x) (aO a x) 0, ?_, p1.item fun P S' e8 hg hT => rd_t e8 hn hT (B := nI B) (kd := k) ?_ (by omega) hxb (by rw [hI.1]; exact w1) (by rw [hI.1]; exact u1) (fun q => w2 q.symm) (fun q => u2 q.symm) (fun q => w3 q.symm) ((hg q (by omega)).trans ((p2 q (by omega)).trans m2)) ((hg (q + 1) (by omega)).trans ((p2 (q + 1) (by omega)).trans m3)) ((hg (q + 2) (by omega)).trans ((p2 (q + 2) (by omega)).trans m4)) ((hg (q + 3) (by omega)).trans p3), by omega, by omega, hI.set ek.symm rfl rfl (hl (by omega)).symm⟩
    · rw [e, m5, ← p4]
      unfold f_L_jail_147
      rcases hkB with ⟨rfl, -⟩ | ⟨rfl, -⟩
      · rw [if_neg (by decide), if_pos (by decide)]
      · rw [if_pos (by decide)]
    · rcases hkB with ⟨rfl, rfl⟩ | ⟨rfl, rfl⟩
      · exact Or.inl ⟨rfl, rfl⟩
      · exact Or.inr ⟨rfl, rfl⟩
  have fig : ∀ (k B : Nat), (k = 3 ∧ B = 108) ∨ (k = 4 ∧ B = 115) → aK a x = k → f_L_jail_34 (m + 1) S d (nI q) (nI x) = f_L_jail_108 (f_L_jail_34 m) S d (nI x) (nI k) (nI B) (nI q) → ∃ S' q' b', f_L_jail_34 (m + 1) S d (nI q) (nI x) = f_L_jail_34 m S' d (nI q') (nI (x + 1)) ∧ WS S' q' q' b' ∧ q ≤ q' ∧ q' ≤ 3 + 4 * (x + 1) ∧ DI a b' (x + 1) := fun k B hkB ek e => by
    have k2 : aK a x ≠ 2 := by omega
    obtain ⟨w1, w2, w3⟩ := v3 k2
    have u1 := v5 (by omega)
    rw [kI_lt (by omega)] at d2
    obtain ⟨S2, m1, m2, m3, m4, m5⟩ := jl_key (d := d) (B := B) (by omega) hW (by omega) (by omega) (k := nI k) (fun q => by have := (nI_eq (show k < 2 ^ 31 by omega) (show 2 < 2 ^ 31 by decide)).1 q; omega) (by omega) d2 (f_L_jail_34 m)
    obtain ⟨S3, p1, p2, p3, p4⟩ := jl_190 (d := d) (by omega) m1 (by omega) (by omega) d4 (f_L_jail_34 m)
    refine ⟨S3, q + 4, aSt b x k (aP a x) 99 (aL a x), ?_, p1.item fun P S' e8 hg hT => rd_f e8 hn hT (B := nI B) (kd := k) ?_ (by omega) hxb (by rw [hI.1]; exact w1) (fun q => w2 q.symm) v6 ((hg q (by omega)).trans ((p2 q (by omega)).trans m2)) ((hg (q + 1) (by omega)).trans ((p2 (q + 1) (by omega)).trans m3)) ((hg (q + 2) (by omega)).trans ((p2 (q + 2) (by omega)).trans m4)) ((hg (q + 3) (by omega)).trans p3), by omega, by omega, hI.set ek.symm rfl u1.symm rfl⟩
    · rw [e, m5, ← p4]
      unfold f_L_jail_147
      rcases hkB with ⟨rfl, -⟩ | ⟨rfl, -⟩
      · rw [if_neg (by decide), if_neg (by decide), if_pos (by decide)]
      · rw [if_neg (by decide), if_neg (by decide), if_neg (by decide), if_pos (by decide)]
    · rcases hkB with ⟨rfl, rfl⟩ | ⟨rfl, rfl⟩
      · exact Or.inl ⟨rfl, rfl⟩
      · exact Or.inr ⟨rfl, rfl⟩
  rcases hk with e | e | e | e | e | e
  · rw [d1, e, if_pos (by decide)] at eC
    obtain ⟨w1, w2, w3⟩ := v3 (by omega)
    have u1 := v5 (by omega)
    rw [kI_lt (by omega)] at d2
    obtain ⟨S2, m1, m2, m3, m4, m5⟩ := jl_key (d := d) (B := 107) (by omega) hW (by omega) (by omega) (k := nI 0) (by decide) (by omega) d2 (f_L_jail_34 m)
    refine ⟨S2, q + 3, aSt b x 0 (aP a x) 99 0, ?_, m1.item fun P S' e8 hg hT => rd_k e8 hn hT (by omega) hxb (by rw [hI.1]; exact w1) (fun q => w2 q.symm) ((hg q (by omega)).trans m2) ((hg (q + 1) (by omega)).trans m3) ((hg (q + 2) (by omega)).trans m4), by omega, by omega, hI.set e.symm rfl u1.symm (hl (by omega)).symm⟩
    rw [eC, show (107 : Int32) = nI 107 from rfl, m5]
    unfold f_L_jail_147
    rw [if_neg (by decide), if_neg (by decide), if_neg (by decide), if_neg (by decide), nI_1]
  · rw [d1, e, if_neg (by decide), if_pos (by decide)] at eC
    exact two 1 116 (Or.inr ⟨rfl, rfl⟩) e eC
  · rw [d1, e, if_neg (by decide), if_neg (by decide), if_pos (by decide)] at eC
    have u1 := v5 (by omega)
    have w1 := v2 e
    obtain ⟨S2, m1, m2, m3, m4⟩ := jl_head (d := d) (x := x) (B := 105) (by omega) hW (by omega) (by omega) (nI 2) (f_L_jail_34 m)
    refine ⟨S2, q + 2, aSt b x 2 99 99 0, ?_, m1.item fun P S' e8 hg hT => rd_i e8 hn hT (by omega) hxb ((hg q (by omega)).trans m2) ((hg (q + 1) (by omega)).trans m3), by omega, by omega, hI.set e.symm w1.symm u1.symm (hl (by omega)).symm⟩
    rw [eC, show (105 : Int32) = nI 105 from rfl, m4, if_pos (by decide)]
    unfold f_L_jail_147
    rw [if_neg (by decide), if_neg (by decide), if_neg (by decide), if_neg (by decide), nI_1]
  · rw [d1, e, if_neg (by decide), if_neg (by decide), if_neg (by decide), if_pos (by decide)] at eC
    exact fig 3 108 (Or.inl ⟨rfl, rfl⟩) e eC
  · rw [d1, e, if_neg (by decide), if_neg (by decide), if_neg (by decide), if_neg (by decide), if_pos (by decide)] at eC
    exact fig 4 115 (Or.inr ⟨rfl, rfl⟩) e eC
  · rw [d1, e, if_neg (by decide), if_neg (by decide), if_neg (by decide), if_neg (by decide), if_neg (by decide)] at eC
    exact two 5 98 (Or.inl ⟨rfl, rfl⟩) e eC
end
/-! who quarrels -/
def tq : Nat → Nat
  | 0 => 0
  | x + 1 => tq x + (5 - x)
theorem tq_le {x : Nat} (h : x ≤ 6) : tq x ≤ 15 := (by decide +kernel : ∀ x : Fin 7, tq x.val ≤ 15) ⟨x, by omega⟩
/-- the pairs told -/
abbrev dn2 (x y z u : Nat) : Prop := (z < x ∨ u < x) ∨ (z = x ∧ u < y) ∨ (u = x ∧ z < y)
def QI (a b : AJ) (x y : Nat) : Prop := aN b = aN a ∧ (∀ z, z < aN a → aK b z = aK a z ∧ aP b z = aP a z ∧ aO b z = aO a z ∧ aL b z = aL a z ∧ aF b z < 2 ^ aN a) ∧ ∀ z u, z < aN a → u < aN a → (aF b z).testBit u = ((aF a z).testBit u && decide (dn2 x y z u))
section
variable {a b : AJ} {x y : Nat}
theorem QI.no (hV : AV a) (h : QI a b x y) (hx : x < aN a) (hb : (aF a x).testBit y = false) : QI a b x (y + 1) := by
  refine ⟨h.1, h.2.1, fun z u hz hu => ?_⟩
  rw [h.2.2 z u hz hu]
  by_cases c : (z = x ∧ u = y) ∨ (z = y ∧ u = x)
  · have : (aF a z).testBit u = false := by
      rcases c with ⟨rfl, rfl⟩ | ⟨rfl, rfl⟩
      · exact hb
      · rw [(hV.2.2 z hz).2.2.2.2.2.2.2.1 u hu]; exact hb
    rw [this, Bool.false_and, Bool.false_and]
  · refine congrArg (fun t => (aF a z).testBit u && t) (decide_eq_decide.mpr ?_)
    show ((z < x ∨ u < x) ∨ (z = x ∧ u < y) ∨ (u = x ∧ z < y)) ↔ ((z < x ∨ u < x) ∨ (z = x ∧ u < y + 1) ∨ (u = x ∧ z < y + 1))
    omega
theorem QI.yes (hV : AV a) (h : QI a b x y) (hx : x < aN a) (hy : y < aN a) (hxy : x < y) (hb : (aF a x).testBit y = true) : QI a (aQu b y x true) x (y + 1) := by
  have hbn := h.1
  refine ⟨h.1, fun z hz => ?_, fun z u hz hu => ?_⟩
  · obtain ⟨g1, g2, g3, g4, g5⟩ := h.2.1 z hz
    refine ⟨g1, g2, g3, g4, ?_⟩
    show (if z = y then stb (aF b y) x true else if z = x then stb (aF b x) y true else aF b z) < 2 ^ aN a
    split
    · exact stb_lt (h.2.1 y hy).2.2.2.2 hx
    · split
      · exact stb_lt (h.2.1 x hx).2.2.2.2 hy
      · exact g5
  · rw [aQu_bit (show x ≠ y by omega)]
    by_cases c : (z = y ∧ u = x) ∨ (z = x ∧ u = y)
    · rw [if_pos c]
      have : (aF a z).testBit u = true := by
        rcases c with ⟨rfl, rfl⟩ | ⟨rfl, rfl⟩
        · rw [(hV.2.2 z hz).2.2.2.2.2.2.2.1 u hu]; exact hb
        · exact hb
      rw [this, Bool.true_and, decide_eq_true (show (z < x ∨ u < x) ∨ (z = x ∧ u < y + 1) ∨ (u = x ∧ z < y + 1) by omega)]
    · rw [if_neg c, h.2.2 z u hz hu]
      refine congrArg (fun t => (aF a z).testBit u && t) (decide_eq_decide.mpr ?_)
      show ((z < x ∨ u < x) ∨ (z = x ∧ u < y) ∨ (u = x ∧ z < y)) ↔ ((z < x ∨ u < x) ∨ (z = x ∧ u < y + 1) ∨ (u = x ∧ z < y + 1))
      omega
theorem QI.next (hV : AV a) (h : QI a b x (aN a)) : QI a b (x + 1) (x + 2) := by
  refine ⟨h.1, h.2.1, fun z u hz hu => ?_⟩
  rw [h.2.2 z u hz hu]
  by_cases c : z = u
  · rw [c, (hV.2.2 u hu).2.2.2.2.2.2.2.2, Bool.false_and, Bool.false_and]
  · refine congrArg (fun t => (aF a z).testBit u && t) (decide_eq_decide.mpr ?_)
    show ((z < x ∨ u < x) ∨ (z = x ∧ u < aN a) ∨ (u = x ∧ z < aN a)) ↔ ((z < x + 1 ∨ u < x + 1) ∨ (z = x + 1 ∧ u < x + 2) ∨ (u = x + 1 ∧ z < x + 2))
    omega
theorem QI.start (hV : AV a) (h : DI a b (aN a)) : QI a b 0 1 := by
  refine ⟨h.1, fun z hz => ?_, fun z u hz hu => ?_⟩
  · obtain ⟨g1, g2, g3, g4⟩ := h.2.1 z hz
    exact ⟨g1, g2, g3, g4, by rw [h.2.2 z hz]; exact Nat.two_pow_pos _⟩
  · rw [h.2.2 z hz, Nat.zero_testBit]
    by_cases c : z = u
    · rw [c, (hV.2.2 u hu).2.2.2.2.2.2.2.2, Bool.false_and]
    · rw [decide_eq_false (show ¬ ((z < 0 ∨ u < 0) ∨ (z = 0 ∧ u < 1) ∨ (u = 0 ∧ z < 1)) by omega), Bool.and_false]
theorem QI.full (hV : AV a) (h : QI a b (aN a) y) {z : Nat} (hz : z < aN a) : aF b z = aF a z := by
  refine s_ext (h.2.1 z hz).2.2.2.2 (hV.2.2 z hz).2.2.2.2.2.2.1 fun u hu => ?_
  rw [h.2.2 z u hz hu, decide_eq_true (show (z < aN a ∨ u < aN a) ∨ (z = aN a ∧ u < y) ∨ (u = aN a ∧ z < y) from Or.inl (Or.inl hz)), Bool.and_true]
end
section
variable {S : VX10} {d : VA48} {a b : AJ}
theorem jl_inner (hV : AV a) (h6 : aN a ≤ 6) (hD : DR d a) {x q : Nat} (hx : x < aN a) (hW : WS S q q b) (h2 : 2 ≤ q) (hq : q ≤ 27 + 3 * tq x) (hI : QI a b x (x + 1)) (r : VX10 → VA48 → Int32 → Int32 → Option (Int32 × VX10)) :
    ∃ S' q' b', f_L_jail_230 r 4096 S d (nI q) (nI x) (nI (x + 1)) = r S' d (nI q') (nI (x + 1)) ∧ WS S' q' q' b' ∧ 2 ≤ q' ∧ q' ≤ 27 + 3 * tq (x + 1) ∧ QI a b' (x + 1) (x + 2) := by
  have c0 : (0 : Int32).toNatClampNeg = 0 := rfl
  have t1 : tq (x + 1) = tq x + (5 - x) := rfl
  have t2 := tq_le (show x + 1 ≤ 6 by omega)
  have dx := (hD.2 x hx).2.2.2.2
  have fx := (hV.2.2 x hx).2.2.2.2.2.2.1
  have hN : 2 ^ aN a ≤ 256 := hV.N
  refine loop_up (fun f (σ : VX10 × Int32) v4 => f_L_jail_230 r f σ.1 d σ.2 (nI x) v4) (aN a) (fun y σ => x < y ∧ ∃ q b, σ.2 = nI q ∧ WS σ.1 q q b ∧ 2 ≤ q ∧ q ≤ 27 + 3 * tq x + 3 * (y - x - 1) ∧ QI a b x y) (fun o => ∃ S' q' b', o = r S' d (nI q') (nI (x + 1)) ∧ WS S' q' q' b' ∧ 2 ≤ q' ∧ q' ≤ 27 + 3 * tq (x + 1) ∧ QI a b' (x + 1) (x + 2)) ?_ ?_ 4096 (x + 1) (S, nI q) (by omega) ⟨Nat.lt_succ_self _, q, b, rfl, hW, h2, by omega, hI⟩ (by omega)
  · rintro f ⟨S, v⟩ ⟨-, q, b, rfl, g1, g2, g3, g4⟩
    refine ⟨S, q, b, ?_, g1, g2, by omega, g4.next hV⟩
    show f_L_jail_230 r (f + 1) S d (nI q) (nI x) (nI (aN a)) = _
    rw [f_L_jail_230, if_pos (show zIn 0 48 = true by decide), c0, hD.1, if_pos (nI_le (Nat.le_refl _) (by omega)), nI_1]
  · rintro f ⟨S, v⟩ y hy ⟨hxy, q, b, rfl, g1, g2, g3, g4⟩
    right
    have g1 : WS S q q b := g1
    have hn : aN b ≤ 8 := by rw [g4.1]; omega
    show ∃ σ : VX10 × Int32, (x < y + 1 ∧ ∃ q b, σ.2 = nI q ∧ WS σ.1 q q b ∧ 2 ≤ q ∧ q ≤ 27 + 3 * tq x + 3 * (y + 1 - x - 1) ∧ QI a b x (y + 1)) ∧ f_L_jail_230 r (f + 1) S d (nI q) (nI x) (nI y) = f_L_jail_230 r f σ.1 d σ.2 (nI x) (nI (y + 1))
    rw [f_L_jail_230, if_pos (show zIn 0 48 = true by decide), c0, hD.1, if_neg (nI_ge hy (by omega)), show (33 : Int32) + nI x = nI (33 + x) from nI_add 33 x, ix48 (show 33 + x < 48 by omega), if_pos rfl, nI_clamp (by omega), dx, n_tstb (show aF a x < 2 ^ 31 by omega) (by omega), nI_1]
    cases hb : (aF a x).testBit y with
    | false =>
      exact ⟨(S, nI q), ⟨by omega, q, b, rfl, g1, g2, by omega, g4.no hV hx hb⟩, if_pos rfl⟩
    | true =>
      obtain ⟨S1, k1, k2, k3⟩ := ws_put (c := 113) g1 (by omega) (by omega)
      obtain ⟨S2, l1, l2, l3⟩ := ws_put (c := 65 + y) k2 (by omega) (by omega)
      obtain ⟨S3, m1, m2, m3⟩ := ws_put (c := 65 + x) l2 (by omega) (by omega)
      have s0 : S3.2.2.1.1 3 q = 113 := by rw [m3, upd_at, if_neg (by omega), l3, upd_at, if_neg (by omega), k3, upd_at, if_pos rfl]; rfl
      have s1 : S3.2.2.1.1 3 (q + 1) = nI (65 + y) := by rw [m3, upd_at, if_neg (by omega), l3, upd_at, if_pos rfl]
      have s2 : S3.2.2.1.1 3 (q + 2) = nI (65 + x) := by rw [m3, upd_at, if_pos rfl]
      refine ⟨(S3, nI (q + 3)), ⟨by omega, q + 3, aQu b y x true, rfl, m2.item fun P S' e8 hg hT => rd_q e8 hn hT (by omega) (by rw [g4.1]; exact hy) (by rw [g4.1]; exact hx) (by omega) ((hg q (by omega)).trans s0) ((hg (q + 1) (by omega)).trans s1) ((hg (q + 2) (by omega)).trans s2), by omega, by omega, g4.yes hV hx hy hxy hb⟩, ?_⟩
      rw [if_neg (show ¬ bI true = 0 from i10), show (113 : Int32) = nI 113 from rfl, k1, Option.bind_some, show (65 : Int32) + nI y = nI (65 + y) from nI_add 65 y, show f_L_put ((nI (q + 1), S1) : Int32 × VX10).2 ((nI (q + 1), S1) : Int32 × VX10).1 (nI (65 + y)) = _ from l1, Option.bind_some, show (65 : Int32) + nI x = nI (65 + x) from nI_add 65 x, show f_L_put ((nI (q + 1 + 1), S2) : Int32 × VX10).2 ((nI (q + 1 + 1), S2) : Int32 × VX10).1 (nI (65 + x)) = _ from m1, Option.bind_some]
theorem jl_end (hV : AV a) (h2 : 2 ≤ aN a) (hD : d 0 = nI (aN a)) {q y : Nat} (hW : WS S q q b) (hq2 : 2 ≤ q) (hq : q ≤ 100) (hI : QI a b (aN a) y) (m : Nat) : ∃ S1, f_L_jail_218 (m + 1) S d (nI q) (nI (aN a)) = some (1, S1) ∧ LS0 S1 a := by
  have hn := hV.2.1
  have c0 : (0 : Int32).toNatClampNeg = 0 := rfl
  obtain ⟨⟨M, hR⟩, e8, hbl, -, hP⟩ := hW
  obtain ⟨R1, r1, -⟩ := hP.read hq e8 (fun _ _ => rfl) hbl S.2.2.2.1
  obtain ⟨R2, r2, j2⟩ := hP.read hq e8 (fun _ _ => rfl) hbl R1
  have hJ : JR R2.1 a := j2.cgb hI.1.symm fun z hz => by
    rw [hI.1] at hz
    obtain ⟨g1, g2, g3, g4, -⟩ := hI.2.1 z hz
    exact ⟨g1.symm, g2.symm, g3.symm, g4.symm, (hI.full hV hz).symm⟩
  have e1 : f_X10_fault S 3 = some (-9, (S.1, S.2.1, S.2.2.1, R1, S.2.2.2.2.1, S.2.2.2.2.2.1, S.2.2.2.2.2.2.1, S.2.2.2.2.2.2.2.1, S.2.2.2.2.2.2.2.2.1, S.2.2.2.2.2.2.2.2.2)) := by
    unfold f_X10_fault
    rw [show f_X10_textRefusal S 3 = some (0, S) from x10_textT (r := 3) (by decide) (Nat.le_refl 100) e8, Option.bind_some, if_pos rfl, show f_X5_read ((0 : Int32), S).2.2.2.2.1 ((0 : Int32), S).2.2.2.1 3 = _ from r1, Option.bind_some]
  obtain ⟨x1, x2, x3, f1, -, f3⟩ := st_fault hR 3
  rw [e1] at f1
  cases f1
  obtain ⟨x4, x5, x6, f4, -, f6⟩ := st_jail f3 3
  obtain ⟨J', b1, b2⟩ := x2_become S.2.2.2.2.1 hJ hV
  obtain ⟨eo, ef, k1, k2⟩ := x1_clear S.2.2.2.2.2.1
  obtain ⟨sm, hsm⟩ : ∃ sm : Nat, sm ≤ 8 ∧ S.2.2.2.2.2.2.2.2.2.2.2 = nI sm := by
    obtain ⟨-, -, -, a0, -, -, m0, cw, cb, hm, hz, -⟩ := hR
    exact ⟨m0, hm, hz⟩
  have e7 : f_X7_dropFrom S.2.2.2.2.2.2.2.2.2 0 = some (nI sm, (S.2.2.2.2.2.2.2.2.2.1, S.2.2.2.2.2.2.2.2.2.2.1, 0)) := by
    unfold f_X7_dropFrom
    rw [if_neg (by decide), hsm.2, show nI sm - 0 = nI sm from pk_sub (a := sm) (b := 0) (Nat.zero_le sm), if_pos (nI_pos' (by omega))]
  have e2 : f_X10_jail ((S.1, S.2.1, S.2.2.1, R1, S.2.2.2.2.1, S.2.2.2.2.2.1, S.2.2.2.2.2.2.1, S.2.2.2.2.2.2.2.1, S.2.2.2.2.2.2.2.2.1, S.2.2.2.2.2.2.2.2.2)) 3 = some (nI (aN a), (S.1, S.2.1, S.2.2.1, R2, J', (eo, ef, 0, 0), S.2.2.2.2.2.2.1, S.2.2.2.2.2.2.2.1, S.2.2.2.2.2.2.2.2.1, (S.2.2.2.2.2.2.2.2.2.1, S.2.2.2.2.2.2.2.2.2.2.1, 0))) := by
    unfold f_X10_jail
    rw [show f_X10_textRefusal ((S.1, S.2.1, S.2.2.1, R1, S.2.2.2.2.1, S.2.2.2.2.2.1, S.2.2.2.2.2.2.1, S.2.2.2.2.2.2.2.1, S.2.2.2.2.2.2.2.2.1, S.2.2.2.2.2.2.2.2.2)) 3 = some (0, (S.1, S.2.1, S.2.2.1, R1, S.2.2.2.2.1, S.2.2.2.2.2.1, S.2.2.2.2.2.2.1, S.2.2.2.2.2.2.2.1, S.2.2.2.2.2.2.2.2.1, S.2.2.2.2.2.2.2.2.2)) from x10_textT (S := (S.1, S.2.1, S.2.2.1, R1, S.2.2.2.2.1, S.2.2.2.2.2.1, S.2.2.2.2.2.2.1, S.2.2.2.2.2.2.2.1, S.2.2.2.2.2.2.2.2.1, S.2.2.2.2.2.2.2.2.2)) (r := 3) (by decide) (Nat.le_refl 100) e8, Option.bind_some, if_pos rfl, show f_X5_read ((0 : Int32), (S.1, S.2.1, S.2.2.1, R1, S.2.2.2.2.1, S.2.2.2.2.2.1, S.2.2.2.2.2.2.1, S.2.2.2.2.2.2.2.1, S.2.2.2.2.2.2.2.2.1, S.2.2.2.2.2.2.2.2.2)).2.2.2.2.1 ((0 : Int32), (S.1, S.2.1, S.2.2.1, R1, S.2.2.2.2.1, S.2.2.2.2.2.1, S.2.2.2.2.2.2.1, S.2.2.2.2.2.2.2.1, S.2.2.2.2.2.2.2.2.1, S.2.2.2.2.2.2.2.2.2)).2.2.2.1 3 = _ from r2, Option.bind_some, if_pos rfl, show f_X5_draft ((-9 : Int32), R2).2 = some () from rfl, Option.bind_some, show f_X2_become ((0 : Int32), (S.1, S.2.1, S.2.2.1, R1, S.2.2.2.2.1, S.2.2.2.2.2.1, S.2.2.2.2.2.2.1, S.2.2.2.2.2.2.2.1, S.2.2.2.2.2.2.2.2.1, S.2.2.2.2.2.2.2.2.2)).2.2.2.2.2.1 ((-9 : Int32), R2).2.1 = _ from b1, Option.bind_some, show f_X1_clear ((0 : Int32), (S.1, S.2.1, S.2.2.1, R1, S.2.2.2.2.1, S.2.2.2.2.2.1, S.2.2.2.2.2.2.1, S.2.2.2.2.2.2.2.1, S.2.2.2.2.2.2.2.2.1, S.2.2.2.2.2.2.2.2.2)).2.2.2.2.2.2.1 = _ from k1, Option.bind_some, show f_X7_dropFrom ((0 : Int32), (S.1, S.2.1, S.2.2.1, R1, S.2.2.2.2.1, S.2.2.2.2.2.1, S.2.2.2.2.2.2.1, S.2.2.2.2.2.2.2.1, S.2.2.2.2.2.2.2.2.1, S.2.2.2.2.2.2.2.2.2)).2.2.2.2.2.2.2.2.2.2 0 = _ from e7, Option.bind_some, show f_X2_cells J' = some (nI (aN a)) from congrArg some b2.1, Option.bind_some]
  rw [e2] at f4
  cases f4
  refine ⟨_, ?_, ⟨x6, f6⟩, b2, rfl, rfl, k2, rfl⟩
  rw [f_L_jail_218, if_pos (show zIn 0 48 = true by decide), c0, hD, if_pos (nI_le (Nat.le_refl _) (by omega)), if_neg (show ¬ nI q ≤ 0 from nI_ge (show 0 < q by omega) (by omega)), e1, Option.bind_some, if_pos rfl, show f_X10_jail ((-9 : Int32), (S.1, S.2.1, S.2.2.1, R1, S.2.2.2.2.1, S.2.2.2.2.2.1, S.2.2.2.2.2.2.1, S.2.2.2.2.2.2.2.1, S.2.2.2.2.2.2.2.2.1, S.2.2.2.2.2.2.2.2.2)).2 3 = _ from e2, Option.bind_some, if_pos (show zIn 0 48 = true by decide), if_pos rfl]
theorem jl_218 (hV : AV a) (h2 : 2 ≤ aN a) (h6 : aN a ≤ 6) (hD : DR d a) {q : Nat} (hW : WS S q q b) (hq2 : 2 ≤ q) (hq : q ≤ 27) (hI : DI a b (aN a)) : ∃ S1, f_L_jail_218 4096 S d (nI q) 0 = some (1, S1) ∧ LS0 S1 a := by
  have c0 : (0 : Int32).toNatClampNeg = 0 := rfl
  refine loop_up (fun f (σ : VX10 × Int32) v3 => f_L_jail_218 f σ.1 d σ.2 v3) (aN a) (fun x σ => ∃ q b, σ.2 = nI q ∧ WS σ.1 q q b ∧ 2 ≤ q ∧ q ≤ 27 + 3 * tq x ∧ QI a b x (x + 1)) (fun o => ∃ S1, o = some (1, S1) ∧ LS0 S1 a) ?_ ?_ 4096 0 (S, nI q) (Nat.zero_le _) ⟨q, b, rfl, hW, hq2, by show q ≤ 27 + 3 * 0; omega, QI.start hV hI⟩ (by omega)
  · rintro f ⟨S, v⟩ ⟨q, b, rfl, g1, g2, g3, g4⟩
    have := tq_le h6
    exact jl_end hV h2 hD.1 g1 g2 (by omega) g4 f
  · rintro f ⟨S, v⟩ x hx ⟨q, b, rfl, g1, g2, g3, g4⟩
    right
    have g1 : WS S q q b := g1
    obtain ⟨S', q', b', k1, k2, k3, k4, k5⟩ := jl_inner hV h6 hD hx g1 g2 g3 g4 (f_L_jail_218 f)
    refine ⟨(S', nI q'), ⟨q', b', rfl, k2, k3, k4, k5⟩, ?_⟩
    show f_L_jail_218 (f + 1) S d (nI q) (nI x) = f_L_jail_218 f S' d (nI q') (nI (x + 1))
    rw [f_L_jail_218, if_pos (show zIn 0 48 = true by decide), c0, hD.1, if_neg (nI_ge hx (by omega)), nI_1]
    exact k1
theorem jl_34 (hV : AV a) (h2 : 2 ≤ aN a) (h6 : aN a ≤ 6) (hD : DR d a) (hL : ∀ x, x < aN a → ¬ (aK a x = 3 ∨ aK a x = 4) → aL a x = 0) (hW : WS S 3 3 b) (hI : DI a b 0) : ∃ S1, f_L_jail_34 4096 S d 3 0 = some (1, S1) ∧ LS0 S1 a := by
  have c0 : (0 : Int32).toNatClampNeg = 0 := rfl
  refine loop_up (fun f (σ : VX10 × Int32) v3 => f_L_jail_34 f σ.1 d σ.2 v3) (aN a) (fun x σ => ∃ q b, σ.2 = nI q ∧ WS σ.1 q q b ∧ 2 ≤ q ∧ q ≤ 3 + 4 * x ∧ DI a b x) (fun o => ∃ S1, o = some (1, S1) ∧ LS0 S1 a) ?_ ?_ 4096 0 (S, 3) (Nat.zero_le _) ⟨3, b, rfl, hW, by decide, Nat.le_refl _, hI⟩ (by omega)
  · rintro f ⟨S, v⟩ ⟨q, b, rfl, g1, g2, g3, g4⟩
    have g1 : WS S q q b := g1
    obtain ⟨S1, k1, k2⟩ := jl_218 hV h2 h6 hD g1 g2 (by omega) g4
    refine ⟨S1, ?_, k2⟩
    show f_L_jail_34 (f + 1) S d (nI q) (nI (aN a)) = _
    rw [f_L_jail_34, if_pos (show zIn 0 48 = true by decide), c0, hD.1, if_pos (nI_le (Nat.le_refl _) (by omega)), k1]
  · rintro f ⟨S, v⟩ x hx ⟨q, b, rfl, g1, g2, g3, g4⟩
    right
    have g1 : WS S q q b := g1
    obtain ⟨S', q', b', k1, k2, k3, k4, k5⟩ := jl_door hV h6 hD hL hx g1 g3 g4 f
    exact ⟨(S', nI q'), ⟨q', b', rfl, k2, by omega, k4, k5⟩, k1⟩
theorem jl_all (hV : AV a) (h2 : 2 ≤ aN a) (h6 : aN a ≤ 6) (hD : DR d a) (hL : ∀ x, x < aN a → ¬ (aK a x = 3 ∨ aK a x = 4) → aL a x = 0) (hR : RRS S) : ∃ S1, f_L_jail S d = some (1, S1) ∧ LS0 S1 a := by
  have c0 : (0 : Int32).toNatClampNeg = 0 := rfl
  obtain ⟨M, hR⟩ := hR
  obtain ⟨P, p1, p2, -⟩ := x8_make (Z := S.2.2.1) (r := 3) (k := 100) (by decide) (Nat.le_refl _)
  have e1 : f_X10_text S 3 100 = some (100, (S.1, S.2.1, (P, upd S.2.2.1.2 3 (nI 100)), S.2.2.2.1, S.2.2.2.2.1, S.2.2.2.2.2.1, S.2.2.2.2.2.2.1, S.2.2.2.2.2.2.2.1, S.2.2.2.2.2.2.2.2.1, S.2.2.2.2.2.2.2.2.2)) := by
    unfold f_X10_text
    rw [show f_X8_isNumber S.2.2.1 3 = some 1 from x8_numT (r := 3) (by decide), Option.bind_some, if_neg i10, if_pos (by decide), if_pos (by decide), show f_X8_make S.2.2.1 3 100 = _ from p1, Option.bind_some]
  obtain ⟨x1, x2, x3, f1, -, f3⟩ := st_text hR 3 100
  rw [e1] at f1
  cases f1
  have b32 : (32 : Int32).toInt8.toInt32 = 32 := by decide
  have e8 : upd S.2.2.1.2 3 (nI 100) 3 = nI 100 := by rw [upd_at, if_pos rfl]
  obtain ⟨S2, k1, k2, k3, k4⟩ := core_put (S := (S.1, S.2.1, (P, upd S.2.2.1.2 3 (nI 100)), S.2.2.2.1, S.2.2.2.2.1, S.2.2.2.2.2.1, S.2.2.2.2.2.2.1, S.2.2.2.2.2.2.2.1, S.2.2.2.2.2.2.2.2.1, S.2.2.2.2.2.2.2.2.2)) (q := 1) ⟨x3, f3⟩ e8 (by decide) ((p2 1 (by decide)).trans b32) (c := 110) (by decide)
  obtain ⟨S3, l1, l2, l3, l4⟩ := core_put (q := 2) k2 k3 (by decide) (by rw [k4, upd_at, if_neg (by decide)]; exact (p2 2 (by decide)).trans b32) (c := 48 + aN a) (by omega)
  have hW : WS S3 3 3 (aB (aN a)) := by
    refine ⟨l2, l3, fun i h1 h2 => ?_, Nat.le_refl _, fun P' S' e8 hg i1 i2 => rd_n e8 h2 (by omega) i1 i2 ((hg 0 (by decide)).trans ?_) ((hg 1 (by decide)).trans ?_) ((hg 2 (by decide)).trans ?_)⟩
    · rw [l4, upd_at, if_neg (by omega), k4, upd_at, if_neg (by omega)]
      exact (p2 i h2).trans b32
    · rw [l4, upd_at, if_neg (by decide), k4, upd_at, if_neg (by decide)]
      exact (p2 0 (by decide)).trans b32
    · rw [l4, upd_at, if_neg (by decide), k4, upd_at, if_pos rfl]; rfl
    · rw [l4, upd_at, if_pos rfl]
  obtain ⟨S1, m1, m2⟩ := jl_34 hV h2 h6 hD hL hW ⟨rfl, fun x hx => absurd hx (Nat.not_lt_zero x), fun _ _ => rfl⟩
  refine ⟨S1, ?_, m2⟩
  unfold f_L_jail
  rw [e1, Option.bind_some, if_pos rfl, show f_L_put ((100 : Int32), (S.1, S.2.1, (P, upd S.2.2.1.2 3 (nI 100)), S.2.2.2.1, S.2.2.2.2.1, S.2.2.2.2.2.1, S.2.2.2.2.2.2.1, S.2.2.2.2.2.2.2.1, S.2.2.2.2.2.2.2.2.1, S.2.2.2.2.2.2.2.2.2)).2 1 110 = _ from k1, Option.bind_some, if_pos (show zIn 0 48 = true by decide), c0, hD.1, show (48 : Int32) + nI (aN a) = nI (48 + aN a) from nI_add 48 _, show f_L_put ((nI (1 + 1), S2) : Int32 × VX10).2 ((nI (1 + 1), S2) : Int32 × VX10).1 (nI (48 + aN a)) = _ from l1, Option.bind_some]
  exact m1
end
